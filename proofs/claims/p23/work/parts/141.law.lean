/-! the class of the arrays of arrays, out of the words of the start -/
def va_AOA (ty : FieldType) (U : State) : Prop := (Cond.arrayOver (.array ty)).before #[] U = true
theorem va_AOA.of {ty : FieldType} {A : Array Value} {U : State} (h : (Cond.arrayOver (.array ty)).before A U = true) : va_AOA ty U := h
theorem va_AOA.use {ty : FieldType} {A : Array Value} {U : State} (h : va_AOA ty U) : (Cond.arrayOver (.array ty)).before A U = true := h
theorem AE.of {s : State} {c1 : ClassId} (h : va_AOA .int s) (h1 : s.vm.findClass "[I" = some c1) : ∃ c2 : ClassId, s.vm.findClass "[[I" = some c2 ∧ AE c2 c1 s := by
  unfold va_AOA Cond.before Cond.holds at h
  simp only [Cond.value] at h
  rw [show (FieldType.array FieldType.int).toString = "[I" from by decide, h1, Option.bind_some] at h
  generalize hg : Array.findIdx? _ s.vm.classes = o at h
  cases o with
  | none => rw [Option.bind_none] at h; exact absurd h (by decide)
  | some c2 =>
    obtain ⟨hlt, hp, -⟩ := Array.findIdx?_eq_some_iff_getElem.mp hg
    have hk : s.vm.classes[c2]? = some s.vm.classes[c2] := Array.getElem?_eq_getElem hlt
    rw [Option.bind_some, hk, Option.map_some] at h
    generalize s.vm.classes[c2] = k at hk hp h
    cases hkk : k.kind with
    | array comp ty =>
      rw [hkk] at h hp
      simp at h hp
      exact ⟨c2, h.2, k, hk, by rw [hkk, hp, h.1]⟩
    | _ => rw [hkk] at h; exact absurd h (by simp)
