/-! ScopeRow(): names, words, the walk; its world is the block, the Program, the trial's block, the object -/
theorem dX8_init_0 : decode cX8_init 0 = .ok (.aload_n 0, 1) := by decide +kernel
theorem dX8_init_1 : decode cX8_init 1 = .ok (.invokespecial 3, 3) := by decide +kernel
theorem dX8_init_4 : decode cX8_init 4 = .ok (.aload_n 0, 1) := by decide +kernel
theorem dX8_init_5 : decode cX8_init 5 = .ok (.new 9, 3) := by decide +kernel
theorem dX8_init_8 : decode cX8_init 8 = .ok (.dup, 1) := by decide +kernel
theorem dX8_init_9 : decode cX8_init 9 = .ok (.invokespecial 11, 3) := by decide +kernel
theorem dX8_init_12 : decode cX8_init 12 = .ok (.putfield 12, 3) := by decide +kernel
theorem dX8_init_15 : decode cX8_init 15 = .ok (.aload_n 0, 1) := by decide +kernel
theorem dX8_init_16 : decode cX8_init 16 = .ok (.new 16, 3) := by decide +kernel
theorem dX8_init_19 : decode cX8_init 19 = .ok (.dup, 1) := by decide +kernel
theorem dX8_init_20 : decode cX8_init 20 = .ok (.invokespecial 18, 3) := by decide +kernel
theorem dX8_init_23 : decode cX8_init 23 = .ok (.putfield 19, 3) := by decide +kernel
theorem dX8_init_26 : decode cX8_init 26 = .ok (.aload_n 0, 1) := by decide +kernel
theorem dX8_init_27 : decode cX8_init 27 = .ok (.new 23, 3) := by decide +kernel
theorem dX8_init_30 : decode cX8_init 30 = .ok (.dup, 1) := by decide +kernel
theorem dX8_init_31 : decode cX8_init 31 = .ok (.aload_n 0, 1) := by decide +kernel
theorem dX8_init_32 : decode cX8_init 32 = .ok (.getfield 12, 3) := by decide +kernel
theorem dX8_init_35 : decode cX8_init 35 = .ok (.aload_n 0, 1) := by decide +kernel
theorem dX8_init_36 : decode cX8_init 36 = .ok (.getfield 19, 3) := by decide +kernel
theorem dX8_init_39 : decode cX8_init 39 = .ok (.invokespecial 25, 3) := by decide +kernel
theorem dX8_init_42 : decode cX8_init 42 = .ok (.putfield 28, 3) := by decide +kernel
theorem dX8_init_45 : decode cX8_init 45 = .ok (.aload_n 0, 1) := by decide +kernel
theorem dX8_init_46 : decode cX8_init 46 = .ok (.new 32, 3) := by decide +kernel
theorem dX8_init_49 : decode cX8_init 49 = .ok (.dup, 1) := by decide +kernel
theorem dX8_init_50 : decode cX8_init 50 = .ok (.aload_n 0, 1) := by decide +kernel
theorem dX8_init_51 : decode cX8_init 51 = .ok (.getfield 12, 3) := by decide +kernel
theorem dX8_init_54 : decode cX8_init 54 = .ok (.aload_n 0, 1) := by decide +kernel
theorem dX8_init_55 : decode cX8_init 55 = .ok (.getfield 19, 3) := by decide +kernel
theorem dX8_init_58 : decode cX8_init 58 = .ok (.invokespecial 34, 3) := by decide +kernel
theorem dX8_init_61 : decode cX8_init 61 = .ok (.putfield 35, 3) := by decide +kernel
theorem dX8_init_64 : decode cX8_init 64 = .ok (.aload_n 0, 1) := by decide +kernel
theorem dX8_init_65 : decode cX8_init 65 = .ok (.new 16, 3) := by decide +kernel
theorem dX8_init_68 : decode cX8_init 68 = .ok (.dup, 1) := by decide +kernel
theorem dX8_init_69 : decode cX8_init 69 = .ok (.invokespecial 18, 3) := by decide +kernel
theorem dX8_init_72 : decode cX8_init 72 = .ok (.putfield 39, 3) := by decide +kernel
theorem dX8_init_75 : decode cX8_init 75 = .ok (.aload_n 0, 1) := by decide +kernel
theorem dX8_init_76 : decode cX8_init 76 = .ok (.new 23, 3) := by decide +kernel
theorem dX8_init_79 : decode cX8_init 79 = .ok (.dup, 1) := by decide +kernel
theorem dX8_init_80 : decode cX8_init 80 = .ok (.aload_n 0, 1) := by decide +kernel
theorem dX8_init_81 : decode cX8_init 81 = .ok (.getfield 12, 3) := by decide +kernel
theorem dX8_init_84 : decode cX8_init 84 = .ok (.aload_n 0, 1) := by decide +kernel
theorem dX8_init_85 : decode cX8_init 85 = .ok (.getfield 39, 3) := by decide +kernel
theorem dX8_init_88 : decode cX8_init 88 = .ok (.invokespecial 25, 3) := by decide +kernel
theorem dX8_init_91 : decode cX8_init 91 = .ok (.putfield 42, 3) := by decide +kernel
theorem dX8_init_94 : decode cX8_init 94 = .ok (.aload_n 0, 1) := by decide +kernel
theorem dX8_init_95 : decode cX8_init 95 = .ok (.new 32, 3) := by decide +kernel
theorem dX8_init_98 : decode cX8_init 98 = .ok (.dup, 1) := by decide +kernel
theorem dX8_init_99 : decode cX8_init 99 = .ok (.aload_n 0, 1) := by decide +kernel
theorem dX8_init_100 : decode cX8_init 100 = .ok (.getfield 12, 3) := by decide +kernel
theorem dX8_init_103 : decode cX8_init 103 = .ok (.aload_n 0, 1) := by decide +kernel
theorem dX8_init_104 : decode cX8_init 104 = .ok (.getfield 39, 3) := by decide +kernel
theorem dX8_init_107 : decode cX8_init 107 = .ok (.invokespecial 34, 3) := by decide +kernel
theorem dX8_init_110 : decode cX8_init 110 = .ok (.putfield 45, 3) := by decide +kernel
theorem dX8_init_113 : decode cX8_init 113 = .ok (.return_, 1) := by decide +kernel
noncomputable def wl_init8 : List Cond := .code yX8_init cX8_init 1 none :: ([.methodLink RX8 3 objectInit, .instanceMethod objectInit, .code objectInit ⟨#[0xb1]⟩ 1 none, .classLink RX8 9 RX3, .instantiable RX3 5, .initialized RX3, .fieldLink RX8 12 "ScopeRow" "program" "LScopeRow$Program;", .classLink RX8 16 RX6, .instantiable RX6 12, .initialized RX6, .fieldLink RX8 19 "ScopeRow" "state" "LScopeRow$State;", .classLink RX8 23 RX4, .instantiable RX4 3, .initialized RX4, .fieldLink RX8 28 "ScopeRow" "runner" "LScopeRow$Runner;", .classLink RX8 32 RX0, .instantiable RX0 2, .initialized RX0, .fieldLink RX8 35 "ScopeRow" "answers" "LScopeRow$Answers;", .fieldLink RX8 39 "ScopeRow" "trial" "LScopeRow$State;", .fieldLink RX8 42 "ScopeRow" "trialRunner" "LScopeRow$Runner;", .fieldLink RX8 45 "ScopeRow" "trialAnswers" "LScopeRow$Answers;", .instanceMethod yX3_init, .methodLink RX8 18 yX6_init, .instanceMethod yX6_init, .methodLink RX8 25 yX4_init, .instanceMethod yX4_init, .methodLink RX8 34 yX0_init, .instanceMethod yX0_init] ++ (wsX80 ++ (wsX30 ++ (wsX60 ++ (wsX40 ++ (wsX00 ++ (wsX3_init ++ (wsX6_init ++ (wsX4_init ++ (wsX0_init ++ []))))))))))
theorem nl_init8_X8 : ∀ w ∈ u_ws RX8 TX8 7, w ∈ wl_init8 := mw_c (mw_r (mw_l (fun _ h => h)))
theorem nl_init8_X3 : ∀ w ∈ u_ws RX3 TX3 5, w ∈ wl_init8 := mw_c (mw_r (mw_r (mw_l (fun _ h => h))))
theorem nl_init8_X6 : ∀ w ∈ u_ws RX6 TX6 12, w ∈ wl_init8 := mw_c (mw_r (mw_r (mw_r (mw_l (fun _ h => h)))))
theorem nl_init8_X4 : ∀ w ∈ u_ws RX4 TX4 3, w ∈ wl_init8 := mw_c (mw_r (mw_r (mw_r (mw_r (mw_l (fun _ h => h))))))
theorem nl_init8_X0 : ∀ w ∈ u_ws RX0 TX0 2, w ∈ wl_init8 := mw_c (mw_r (mw_r (mw_r (mw_r (mw_r (mw_l (fun _ h => h)))))))
theorem gl_init8_X3 : GoodIn wl_init8 wsX3_init := gw_c (gw_r (gw_r (gw_r (gw_r (gw_r (gw_r (gw_l (gw_self (by decide +kernel)))))))))
theorem gl_init8_X6 : GoodIn wl_init8 wsX6_init := gw_c (gw_r (gw_r (gw_r (gw_r (gw_r (gw_r (gw_r (gw_l (gw_self (by decide +kernel))))))))))
theorem gl_init8_X4 : GoodIn wl_init8 wsX4_init := gw_c (gw_r (gw_r (gw_r (gw_r (gw_r (gw_r (gw_r (gw_r (gw_l (gw_self (by decide +kernel)))))))))))
theorem gl_init8_X0 : GoodIn wl_init8 wsX0_init := gw_c (gw_r (gw_r (gw_r (gw_r (gw_r (gw_r (gw_r (gw_r (gw_r (gw_l (gw_self (by decide +kernel))))))))))))
/-- a whole block, as it comes: the State, what it makes, its Runner, its Answers -/
def wN (cA : Nat → ClassId) (u : Nat → Nat) (p r a : Nat) : va_W := (u 0, ob cA u s0 0) :: (wS cA u ++ [(r, .inr (4, [.ref p, .ref (u 0), .int 0])), (a, .inr (0, [.ref p, .ref (u 0)]))])
def adN (u : Nat → Nat) (p r a : Nat) : Nat → Nat := fun k => if k < 100 then u k else if k = 100 then r else if k = 101 then a else p
theorem wN_lt {cA : Nat → ClassId} {u : Nat → Nat} {p r a k : Nat} (hk : k < 100) : (wN cA u p r a)[k]? = some (u k, ob cA u s0 k) := by
  cases k with
  | zero => rfl
  | succ k =>
    show (wS cA u ++ _)[k]? = _
    rw [List.getElem?_append_left (by rw [wS_len]; omega), wS_at (by omega)]
theorem wN_r {cA : Nat → ClassId} {u : Nat → Nat} {p r a : Nat} : (wN cA u p r a)[100]? = some (r, .inr (4, [.ref p, .ref (u 0), .int 0])) := by
  show (wS cA u ++ _)[99]? = _
  rw [List.getElem?_append_right (by rw [wS_len]; omega), wS_len]; rfl
theorem wN_a {cA : Nat → ClassId} {u : Nat → Nat} {p r a : Nat} : (wN cA u p r a)[101]? = some (a, .inr (0, [.ref p, .ref (u 0)])) := by
  show (wS cA u ++ _)[100]? = _
  rw [List.getElem?_append_right (by rw [wS_len]; omega), wS_len]; rfl
theorem wN_len {cA : Nat → ClassId} {u : Nat → Nat} {p r a : Nat} : (wN cA u p r a).length = 102 := by simp [wN, wS_len]
theorem adN_lt {u : Nat → Nat} {p r a k : Nat} (hk : k < 100) : adN u p r a k = u k := if_pos hk
theorem wN_key {cA : Nat → ClassId} {u : Nat → Nat} {p r a k : Nat} (hk : k < 102) : ∃ x, (wN cA u p r a)[k]? = some x ∧ x.1 = adN u p r a k ∧ va_same x.2 (ob cA (adN u p r a) s0 k) := by
  by_cases h : k < 100
  · exact ⟨_, wN_lt h, (adN_lt h).symm, obr_same (ad := u) (bd := adN u p r a) (fun j hj => (adN_lt hj).symm) h⟩
  rcases (show k = 100 ∨ k = 101 by omega) with e | e <;> subst e
  · refine ⟨_, wN_r, rfl, Or.inl ?_⟩
    show _ = Sum.inr (4, ruF (adN u p r a) (s0 100))
    unfold ruF
    rw [s0_0 (by omega)]; rfl
  · exact ⟨_, wN_a, rfl, Or.inl rfl⟩
theorem wN_fst {cA : Nat → ClassId} {u : Nat → Nat} {p r a : Nat} : (wN cA u p r a).map Prod.fst = (wB cA (adN u p r a) s0).map Prod.fst := by
  apply List.ext_getElem?
  intro k
  rw [List.getElem?_map, List.getElem?_map]
  by_cases hk : k < 102
  · obtain ⟨x, h1, h2, _⟩ := wN_key (cA := cA) (u := u) (p := p) (r := r) (a := a) hk
    have h3 := wB_at (cA := cA) (ad := adN u p r a) (τ := s0) (rest := []) hk
    rw [List.append_nil] at h3
    rw [h1, h3]
    exact congrArg some h2
  · rw [List.getElem?_eq_none (by rw [wN_len]; omega), List.getElem?_eq_none (by rw [wB_len]; omega)]
theorem wN_P {D : va_G} {H : Heap} {cA : Nat → ClassId} {u : Nat → Nat} {p r a : Nat} (h : va_P D vwCl (wN cA u p r a) H) : va_P D vwCl (wB cA (adN u p r a) s0) H := by
  refine h.same (fun k y hk => ?_)
  have hl : k < 102 := by have := (List.getElem?_eq_some_iff.mp hk).1; rw [wB_len] at this; exact this
  have h3 := wB_at (cA := cA) (ad := adN u p r a) (τ := s0) (rest := []) hl
  rw [List.append_nil, hk] at h3
  obtain ⟨x, h1, h2, h4⟩ := wN_key (cA := cA) (u := u) (p := p) (r := r) (a := a) hl
  rw [Option.some.inj h3]
  exact ⟨x, List.mem_of_getElem? h1, h2, h4⟩
def pdN (x1 x2 x3 x4 : Nat) : Nat → Nat := fun k => match k with | 1 => x1 | 2 => x2 | 3 => x3 | _ => x4
/-- the Program's cells, as they come -/
def wP0 (cA : Nat → ClassId) (p : Nat) (x : Nat × Nat × Nat × Nat) : va_W := [(p, .inr (3, [.int 0, .ref x.1, .ref x.2.1, .ref x.2.2.1, .ref x.2.2.2])), (x.1, .inl (cA 0, 8, .inl (fun _ => 0))), (x.2.1, .inl (cA 0, 96, .inl (fun _ => 0))), (x.2.2.1, .inl (cA 0, 96, .inl (fun _ => 0))), (x.2.2.2, .inl (cA 0, 96, .inl (fun _ => 0)))]
section MDONE
variable {D : va_G} {A : Nat → Prop} {H : Heap} {cA : Nat → ClassId} {u v : Nat → Nat} {tp p r a r2 a2 : Nat} {x : Nat × Nat × Nat × Nat}
theorem adN_102 {u : Nat → Nat} {p r a : Nat} : adN u p r a 102 = p := rfl
theorem md_perm : ((tp, .inr (8, [.ref p, .ref (u 0), .ref r, .ref a, .ref (v 0), .ref r2, .ref a2])) :: (wP0 cA p x ++ (wN cA u p r a ++ wN cA v p r2 a2)) : va_W).Perm (wN cA u p r a ++ (wP0 cA p x ++ (wN cA v p r2 a2 ++ [(tp, .inr (8, [.ref p, .ref (u 0), .ref r, .ref a, .ref (v 0), .ref r2, .ref a2]))]))) := by
  generalize hz : (tp, (Sum.inr (8, [.ref p, .ref (u 0), .ref r, .ref a, .ref (v 0), .ref r2, .ref a2]) : va_E)) = z
  generalize wP0 cA p x = b1
  generalize wN cA u p r a = b2
  generalize wN cA v p r2 a2 = b3
  have h1 : (z :: (b1 ++ (b2 ++ b3))).Perm ((b1 ++ (b2 ++ b3)) ++ [z]) := (List.perm_append_singleton z _).symm
  refine h1.trans ?_
  rw [← List.append_assoc b1, List.append_assoc]
  have h2 : (b1 ++ b2).Perm (b2 ++ b1) := List.perm_append_comm
  have h3 := h2.append_right (b3 ++ [z])
  simp only [List.append_assoc] at h3 ⊢
  exact h3
theorem md_done (hP : va_P D vwCl ((tp, .inr (8, [.ref p, .ref (u 0), .ref r, .ref a, .ref (v 0), .ref r2, .ref a2])) :: (wP0 cA p x ++ (wN cA u p r a ++ wN cA v p r2 a2))) H) (hD : va_D A ((tp, .inr (8, [.ref p, .ref (u 0), .ref r, .ref a, .ref (v 0), .ref r2, .ref a2])) :: (wP0 cA p x ++ (wN cA u p r a ++ wN cA v p r2 a2)))) :
    ∃ ad pd bd : Nat → Nat, bd 102 = ad 102 ∧ va_P D vwCl (wB cA ad s0 ++ (wPg cA ad pd (fun _ _ => 0) ++ (wB cA bd s0 ++ ((tp, .inr (8, tpF ad bd)) :: [])))) H ∧ va_D A (wB cA ad s0 ++ (wPg cA ad pd (fun _ _ => 0) ++ (wB cA bd s0 ++ ((tp, .inr (8, tpF ad bd)) :: [])))) := by
  have hP := hP.perm md_perm
  have hD := hD.perm md_perm
  refine ⟨adN u p r a, pdN x.1 x.2.1 x.2.2.1 x.2.2.2, adN v p r2 a2, rfl, ?_, ?_⟩
  · refine va_P.app (wN_P (hP.mem (fun _ h => List.mem_append_left _ h))) ?_
    refine va_P.app (hP.mem (fun _ h => List.mem_append_right _ (List.mem_append_left _ h))) ?_
    refine va_P.app (wN_P (hP.mem (fun _ h => List.mem_append_right _ (List.mem_append_right _ (List.mem_append_left _ h))))) ?_
    exact hP.mem (fun _ h => List.mem_append_right _ (List.mem_append_right _ (List.mem_append_right _ h)))
  · refine hD.fst ?_
    simp only [List.map_append, wN_fst]
    rfl
end MDONE
def EX8 (U : State) : Prop := EX6 U ∧ va_Nw (.methodLinkNest RX8 11 yX3_init RX8) U
theorem EX8.call {U : State} {g : JFrame} {mk : MethodId} {a : Array Value} (h : EX8 U) : EX8 (U.calling g mk a) := ⟨h.1.call, va_Nw.same (u := U) (U := U.calling g mk a) rfl rfl h.2⟩
theorem EX8.warm {s U : State} (hW : s.WarmedH U.vm) (h : EX8 s) : EX8 U := ⟨h.1.warm hW, va_Nw.warmM hW h.2⟩
set_option maxHeartbeats 8000000 in
set_option maxRecDepth 100000 in
/-- ScopeRow() -/
theorem c_X8_init (l : Launch) (D : va_G) (cA : Nat → ClassId) (tr : List (ClassId × FieldType)) (sz : Nat) (tp : Nat) : Met l yX8_init wl_init8 ({ frames := 3, cells := 209, slots := 2787, locals := 54 }) (va_Pc [.ref tp] (fun U => inW D (tyB cA ++ tr) [(tp, .inr (8, [.null, .null, .null, .null, .null, .null, .null]))] sz U ∧ EX8 U)) (va_Qv (fun u : (Nat → Nat) × (Nat → Nat) × (Nat → Nat) => u.2.2 102 = u.1 102) (fun u : (Nat → Nat) × (Nat → Nat) × (Nat → Nat) => outW D (tyB cA ++ tr) (va_A [(tp, .inr (8, [.null, .null, .null, .null, .null, .null, .null]))] sz) (wB cA u.1 s0 ++ (wPg cA u.1 u.2.1 (fun _ _ => 0) ++ (wB cA u.2.2 s0 ++ ((tp, .inr (8, tpF u.1 u.2.2)) :: []))))) (va_A [(tp, .inr (8, [.null, .null, .null, .null, .null, .null, .null]))] sz)) 209 2787 (va_A [(tp, .inr (8, [.null, .null, .null, .null, .null, .null, .null]))] sz) := by
  refine Met.ofW (cc := cX8_init) (maxL := 1) (ret := none) (by decide) rfl ?_
  intro p9 e s m args below meth c s₁ B hml hv
  obtain ⟨rfl, ⟨hsz, hP, hK, hD0⟩, hE⟩ := hv
  have hx := B.exec
  have hb := B.bytes
  have hr := B.returns
  have hts := atoms_spec (ws := wl_init8) B.pre
  have hown : s.vm.findClass RX8 = some m.cls := findClass_of_methodNamed B.named
  have hlocks := B.notSynchronized
  have hin : meth.name = "<init>" := (name_of_methodNamed B.named B.method).1
  subst hsz
  have hD := hD0.self (sz := s.heap.size)
  clear hD0
  generalize hAe : va_A [(tp, .inr (8, [.null, .null, .null, .null, .null, .null, .null]))] s.heap.size = A at hD ⊢
  have hA : ∀ q : Nat, s.heap.size ≤ q → A q := fun q h => by rw [← hAe]; exact Or.inr h
  clear hAe
  have hS : va_S A s.heap s.heap [] := va_S.rf
  have hl := lv_entry ([.ref tp]) (n := 1) (Nat.le_of_ble_eq_true rfl)
  rw [lg_entry_eq]
  generalize (lg_sl ([.ref tp]) ++ List.replicate (1 - (lg_sl ([.ref tp])).length) Slot.unset).toArray = ls at hl ⊢
  have hl : lv_has ls 1 [(0, .ref tp)] := hl
  have k12 := hts (.fieldLink RX8 12 "ScopeRow" "program" "LScopeRow$Program;") (by decide +kernel)
  have k19 := hts (.fieldLink RX8 19 "ScopeRow" "state" "LScopeRow$State;") (by decide +kernel)
  have k28 := hts (.fieldLink RX8 28 "ScopeRow" "runner" "LScopeRow$Runner;") (by decide +kernel)
  have k35 := hts (.fieldLink RX8 35 "ScopeRow" "answers" "LScopeRow$Answers;") (by decide +kernel)
  have k39 := hts (.fieldLink RX8 39 "ScopeRow" "trial" "LScopeRow$State;") (by decide +kernel)
  have k42 := hts (.fieldLink RX8 42 "ScopeRow" "trialRunner" "LScopeRow$Runner;") (by decide +kernel)
  have k45 := hts (.fieldLink RX8 45 "ScopeRow" "trialAnswers" "LScopeRow$Answers;") (by decide +kernel)
  refine lv_aload_n hx hb dX8_init_0 rfl (lv_at hl 0 rfl) ?_
  refine W.objInit hx hb hown (hts (.methodLink RX8 3 objectInit) (by decide +kernel)) (hts (.instanceMethod objectInit) (by decide +kernel)) (hts (.code objectInit ⟨#[0xb1]⟩ 1 none) (by decide +kernel)) rfl (by rw [hml]; exact hl.1) rfl dX8_init_1 (Nat.le_of_ble_eq_true rfl) (Nat.le_of_ble_eq_true rfl) ?_
  refine W.eq (g2 := F0 m 4 ls []) rfl ?_
  obtain ⟨T0, eT0⟩ : ∃ z : va_W, z = [] := ⟨_, rfl⟩
  have hP : va_P D vwCl ((tp, .inr (8, [.null, .null, .null, .null, .null, .null, .null])) :: T0) s.heap := by rw [eT0]; exact hP
  have hD : va_D A ((tp, .inr (8, [.null, .null, .null, .null, .null, .null, .null])) :: T0) := by rw [eT0]; exact hD
  refine lv_aload_n hx hb dX8_init_4 rfl (lv_at hl 0 rfl) ?_
  refine va_new (ci := 3) (fs := [.int 0, .null, .null, .null, .null]) (C := RX3) (T := TX3) (N := 5) hx hb hts nl_init8_X3 tyX3 tyX3_ok hown (hts (.classLink RX8 9 RX3) (by decide +kernel)) (hts (.instantiable RX3 5) (by decide +kernel)) (hts (.initialized RX3) (by decide +kernel)) hK hP hD hS hA rfl (fun j hj => by rcases (show j = 0 ∨ j = 1 ∨ j = 2 ∨ j = 3 ∨ j = 4 by omega) with rfl | rfl | rfl | rfl | rfl <;> rfl) (Nat.le_of_ble_eq_true rfl) (Nat.le_of_ble_eq_true rfl) dX8_init_5 (fun p H hP hD hS => ?_)
  refine W.widen (k := 1) (n := 5) (by omega) (by omega) ?_
  refine lv_dup hx hb dX8_init_8 rfl ?_
  obtain ⟨W0, eW0⟩ : ∃ z : va_W, z = (tp, .inr (8, [.null, .null, .null, .null, .null, .null, .null])) :: T0 := ⟨_, rfl⟩
  rw [← eW0] at hP hD
  refine x_IvN (As := []) (rest0 := [.ref p, .ref tp]) (fun _ => True) (fun _ _ _ _ _ => trivial) (fun _ _ _ => trivial) ⟨hx, hb, hml, hown, hts⟩ (Met.andT (c_X3_init l D cA tr (W0 ++ [(p, .inr (3, [.int 0, .null, .null, .null, .null]))]) H.size W0.length p (xv_new (V := W0)))) ⟨va_cnB 0 hts gl_init8_X3 rfl rfl rfl hE.2 (hts (.initialized RX3) (by decide +kernel)) (by decide +kernel) ⟨Nat.le_of_ble_eq_true rfl, Nat.le_of_ble_eq_true rfl⟩, rfl, hts (.instanceMethod yX3_init) (by decide +kernel)⟩ hK hP hD hS hA hl.1 rfl rfl (Nat.le_of_ble_eq_true rfl) ⟨Nat.le_of_ble_eq_true rfl, Nat.le_of_ble_eq_true rfl⟩ dX8_init_9 (fun x H locs _ hP hD hS => ?_)
  refine W.widen (k := 5) (n := 301) (by omega) (by omega) ?_
  rw [xv_put, eW0] at hP hD
  obtain ⟨T1, eT1⟩ : ∃ z : va_W, z = T0 ++ (wP0 cA p x) := ⟨_, rfl⟩
  have hP : va_P D vwCl ((tp, .inr (8, [.null, .null, .null, .null, .null, .null, .null])) :: T1) H := by rw [eT1]; simp only [List.append_assoc, List.cons_append, List.nil_append] at hP ⊢; exact hP
  have hD : va_D A ((tp, .inr (8, [.null, .null, .null, .null, .null, .null, .null])) :: T1) := by rw [eT1]; simp only [List.append_assoc, List.cons_append, List.nil_append] at hD ⊢; exact hD
  refine va_putF (D := D) (ci := 8) (v := .ref p) (ty := .object "ScopeRow$Program") (C := RX8) (T := TX8) (N := 7) hx hb hts nl_init8_X8 tyX8 tyX8_ok nmX8 hown hK hP hD hS 0 rfl rfl 0 (by decide) k12 (fun _ h9 => h9) rfl hin rfl (tyX8_ok 0 (by decide)) rfl rfl (Nat.le_of_ble_eq_true rfl) dX8_init_12 (fun H locs hP hD hS => ?_)
  have hP : va_P D vwCl ((tp, .inr (8, [.ref p, .null, .null, .null, .null, .null, .null])) :: T1) H := hP
  have hD : va_D A ((tp, .inr (8, [.ref p, .null, .null, .null, .null, .null, .null])) :: T1) := hD
  refine lv_aload_n hx hb dX8_init_15 rfl (lv_at hl 0 rfl) ?_
  refine va_new (ci := 6) (fs := [.null, .int 0, .null, .int 0, .null, .null, .null, .int 0, .int 0, .int 0, .int 0, .int 0]) (C := RX6) (T := TX6) (N := 12) hx hb hts nl_init8_X6 tyX6 tyX6_ok hown (hts (.classLink RX8 16 RX6) (by decide +kernel)) (hts (.instantiable RX6 12) (by decide +kernel)) (hts (.initialized RX6) (by decide +kernel)) hK hP hD hS hA rfl (fun j hj => by rcases (show j = 0 ∨ j = 1 ∨ j = 2 ∨ j = 3 ∨ j = 4 ∨ j = 5 ∨ j = 6 ∨ j = 7 ∨ j = 8 ∨ j = 9 ∨ j = 10 ∨ j = 11 by omega) with rfl | rfl | rfl | rfl | rfl | rfl | rfl | rfl | rfl | rfl | rfl | rfl <;> rfl) (Nat.le_of_ble_eq_true rfl) (Nat.le_of_ble_eq_true rfl) dX8_init_16 (fun q H hP hD hS => ?_)
  refine W.widen (k := 6) (n := 313) (by omega) (by omega) ?_
  refine lv_dup hx hb dX8_init_19 rfl ?_
  obtain ⟨W1, eW1⟩ : ∃ z : va_W, z = (tp, .inr (8, [.ref p, .null, .null, .null, .null, .null, .null])) :: T1 := ⟨_, rfl⟩
  rw [← eW1] at hP hD
  refine x_Iv (As := []) (rest0 := [.ref q, .ref tp]) EX6 (fun _ _ _ _ h9 => h9.call) (fun U _ hW => hE.1.warm hW) ⟨hx, hb, hml, hown, hts⟩ (c_X6_init l D cA tr (W1 ++ [(q, .inr (6, [.null, .int 0, .null, .int 0, .null, .null, .null, .int 0, .int 0, .int 0, .int 0, .int 0]))]) H.size W1.length q (xv_new (V := W1))) (cwI 0 hts gl_init8_X6 rfl rfl rfl (hts (.initialized RX6) (by decide +kernel)) (hts (.methodLink RX8 18 yX6_init) (by decide +kernel)) (hts (.instanceMethod yX6_init) (by decide +kernel)) rfl (by decide +kernel) ⟨Nat.le_of_ble_eq_true rfl, Nat.le_of_ble_eq_true rfl⟩) hK hP hD hS hA hl.1 rfl rfl (Nat.le_of_ble_eq_true rfl) ⟨Nat.le_of_ble_eq_true rfl, Nat.le_of_ble_eq_true rfl⟩ dX8_init_20 (fun u H locs hw hP hD hS => ?_)
  subst hw
  refine W.widen (k := 105) (n := 1539) (by omega) (by omega) ?_
  rw [xv_put, eW1] at hP hD
  obtain ⟨T2, eT2⟩ : ∃ z : va_W, z = T1 ++ (((u 0), ob cA u s0 0) :: wS cA u) := ⟨_, rfl⟩
  have hP : va_P D vwCl ((tp, .inr (8, [.ref p, .null, .null, .null, .null, .null, .null])) :: T2) H := by rw [eT2]; simp only [List.append_assoc, List.cons_append, List.nil_append] at hP ⊢; exact hP
  have hD : va_D A ((tp, .inr (8, [.ref p, .null, .null, .null, .null, .null, .null])) :: T2) := by rw [eT2]; simp only [List.append_assoc, List.cons_append, List.nil_append] at hD ⊢; exact hD
  refine va_putF (D := D) (ci := 8) (v := .ref (u 0)) (ty := .object "ScopeRow$State") (C := RX8) (T := TX8) (N := 7) hx hb hts nl_init8_X8 tyX8 tyX8_ok nmX8 hown hK hP hD hS 0 rfl rfl 1 (by decide) k19 (fun _ h9 => h9) rfl hin rfl (tyX8_ok 1 (by decide)) rfl rfl (Nat.le_of_ble_eq_true rfl) dX8_init_23 (fun H locs hP hD hS => ?_)
  have hP : va_P D vwCl ((tp, .inr (8, [.ref p, .ref (u 0), .null, .null, .null, .null, .null])) :: T2) H := hP
  have hD : va_D A ((tp, .inr (8, [.ref p, .ref (u 0), .null, .null, .null, .null, .null])) :: T2) := hD
  refine lv_aload_n hx hb dX8_init_26 rfl (lv_at hl 0 rfl) ?_
  refine va_new (ci := 4) (fs := [.null, .null, .int 0]) (C := RX4) (T := TX4) (N := 3) hx hb hts nl_init8_X4 tyX4 tyX4_ok hown (hts (.classLink RX8 23 RX4) (by decide +kernel)) (hts (.instantiable RX4 3) (by decide +kernel)) (hts (.initialized RX4) (by decide +kernel)) hK hP hD hS hA rfl (fun j hj => by rcases (show j = 0 ∨ j = 1 ∨ j = 2 by omega) with rfl | rfl | rfl <;> rfl) (Nat.le_of_ble_eq_true rfl) (Nat.le_of_ble_eq_true rfl) dX8_init_27 (fun r H hP hD hS => ?_)
  refine W.widen (k := 106) (n := 1542) (by omega) (by omega) ?_
  refine lv_dup hx hb dX8_init_30 rfl ?_
  obtain ⟨W2, eW2⟩ : ∃ z : va_W, z = (tp, .inr (8, [.ref p, .ref (u 0), .null, .null, .null, .null, .null])) :: T2 := ⟨_, rfl⟩
  refine lv_aload_n hx hb dX8_init_31 rfl (lv_at hl 0 rfl) ?_
  refine va_get (D := D) (C := RX8) (T := TX8) (N := 7) (ci := 8) (v := .ref p) hx hb hts nl_init8_X8 hown hK hP 0 rfl rfl 0 (by decide) k12 (fun _ h9 => h9) rfl dX8_init_32 ?_
  refine lv_aload_n hx hb dX8_init_35 rfl (lv_at hl 0 rfl) ?_
  refine va_get (D := D) (C := RX8) (T := TX8) (N := 7) (ci := 8) (v := .ref (u 0)) hx hb hts nl_init8_X8 hown hK hP 0 rfl rfl 1 (by decide) k19 (fun _ h9 => h9) rfl dX8_init_36 ?_
  rw [← eW2] at hP hD
  refine x_Iv (As := [.ref p, .ref (u 0)]) (rest0 := [.ref r, .ref tp]) (fun _ => True) (fun _ _ _ _ _ => trivial) (fun _ _ _ => trivial) ⟨hx, hb, hml, hown, hts⟩ (Met.andT (c_X4_init l D cA tr (W2 ++ [(r, .inr (4, [.null, .null, .int 0]))]) H.size W2.length r (xv_new (V := W2)) p (u 0))) (cwI 2 hts gl_init8_X4 rfl rfl rfl (hts (.initialized RX4) (by decide +kernel)) (hts (.methodLink RX8 25 yX4_init) (by decide +kernel)) (hts (.instanceMethod yX4_init) (by decide +kernel)) rfl (by decide +kernel) ⟨Nat.le_of_ble_eq_true rfl, Nat.le_of_ble_eq_true rfl⟩) hK hP hD hS hA hl.1 rfl rfl (Nat.le_of_ble_eq_true rfl) ⟨Nat.le_of_ble_eq_true rfl, Nat.le_of_ble_eq_true rfl⟩ dX8_init_39 (fun _ H locs _ hP hD hS => ?_)
  refine W.widen (k := 106) (n := 1542) (by omega) (by omega) ?_
  rw [xv_put, List.append_nil, eW2] at hP hD
  obtain ⟨T3, eT3⟩ : ∃ z : va_W, z = T2 ++ ([(r, .inr (4, [.ref p, .ref (u 0), .int 0]))]) := ⟨_, rfl⟩
  have hP : va_P D vwCl ((tp, .inr (8, [.ref p, .ref (u 0), .null, .null, .null, .null, .null])) :: T3) H := by rw [eT3]; simp only [List.append_assoc, List.cons_append, List.nil_append] at hP ⊢; exact hP
  have hD : va_D A ((tp, .inr (8, [.ref p, .ref (u 0), .null, .null, .null, .null, .null])) :: T3) := by rw [eT3]; simp only [List.append_assoc, List.cons_append, List.nil_append] at hD ⊢; exact hD
  refine va_putF (D := D) (ci := 8) (v := .ref r) (ty := .object "ScopeRow$Runner") (C := RX8) (T := TX8) (N := 7) hx hb hts nl_init8_X8 tyX8 tyX8_ok nmX8 hown hK hP hD hS 0 rfl rfl 2 (by decide) k28 (fun _ h9 => h9) rfl hin rfl (tyX8_ok 2 (by decide)) rfl rfl (Nat.le_of_ble_eq_true rfl) dX8_init_42 (fun H locs hP hD hS => ?_)
  have hP : va_P D vwCl ((tp, .inr (8, [.ref p, .ref (u 0), .ref r, .null, .null, .null, .null])) :: T3) H := hP
  have hD : va_D A ((tp, .inr (8, [.ref p, .ref (u 0), .ref r, .null, .null, .null, .null])) :: T3) := hD
  refine lv_aload_n hx hb dX8_init_45 rfl (lv_at hl 0 rfl) ?_
  refine va_new (ci := 0) (fs := [.null, .null]) (C := RX0) (T := TX0) (N := 2) hx hb hts nl_init8_X0 tyX0 tyX0_ok hown (hts (.classLink RX8 32 RX0) (by decide +kernel)) (hts (.instantiable RX0 2) (by decide +kernel)) (hts (.initialized RX0) (by decide +kernel)) hK hP hD hS hA rfl (fun j hj => by rcases (show j = 0 ∨ j = 1 by omega) with rfl | rfl <;> rfl) (Nat.le_of_ble_eq_true rfl) (Nat.le_of_ble_eq_true rfl) dX8_init_46 (fun a H hP hD hS => ?_)
  refine W.widen (k := 107) (n := 1544) (by omega) (by omega) ?_
  refine lv_dup hx hb dX8_init_49 rfl ?_
  obtain ⟨W3, eW3⟩ : ∃ z : va_W, z = (tp, .inr (8, [.ref p, .ref (u 0), .ref r, .null, .null, .null, .null])) :: T3 := ⟨_, rfl⟩
  refine lv_aload_n hx hb dX8_init_50 rfl (lv_at hl 0 rfl) ?_
  refine va_get (D := D) (C := RX8) (T := TX8) (N := 7) (ci := 8) (v := .ref p) hx hb hts nl_init8_X8 hown hK hP 0 rfl rfl 0 (by decide) k12 (fun _ h9 => h9) rfl dX8_init_51 ?_
  refine lv_aload_n hx hb dX8_init_54 rfl (lv_at hl 0 rfl) ?_
  refine va_get (D := D) (C := RX8) (T := TX8) (N := 7) (ci := 8) (v := .ref (u 0)) hx hb hts nl_init8_X8 hown hK hP 0 rfl rfl 1 (by decide) k19 (fun _ h9 => h9) rfl dX8_init_55 ?_
  rw [← eW3] at hP hD
  refine x_Iv (As := [.ref p, .ref (u 0)]) (rest0 := [.ref a, .ref tp]) (fun _ => True) (fun _ _ _ _ _ => trivial) (fun _ _ _ => trivial) ⟨hx, hb, hml, hown, hts⟩ (Met.andT (c_X0_init l D cA tr (W3 ++ [(a, .inr (0, [.null, .null]))]) H.size W3.length a (xv_new (V := W3)) p (u 0))) (cwI 2 hts gl_init8_X0 rfl rfl rfl (hts (.initialized RX0) (by decide +kernel)) (hts (.methodLink RX8 34 yX0_init) (by decide +kernel)) (hts (.instanceMethod yX0_init) (by decide +kernel)) rfl (by decide +kernel) ⟨Nat.le_of_ble_eq_true rfl, Nat.le_of_ble_eq_true rfl⟩) hK hP hD hS hA hl.1 rfl rfl (Nat.le_of_ble_eq_true rfl) ⟨Nat.le_of_ble_eq_true rfl, Nat.le_of_ble_eq_true rfl⟩ dX8_init_58 (fun _ H locs _ hP hD hS => ?_)
  refine W.widen (k := 107) (n := 1544) (by omega) (by omega) ?_
  rw [xv_put, List.append_nil, eW3] at hP hD
  obtain ⟨T4, eT4⟩ : ∃ z : va_W, z = T3 ++ ([(a, .inr (0, [.ref p, .ref (u 0)]))]) := ⟨_, rfl⟩
  have hP : va_P D vwCl ((tp, .inr (8, [.ref p, .ref (u 0), .ref r, .null, .null, .null, .null])) :: T4) H := by rw [eT4]; simp only [List.append_assoc, List.cons_append, List.nil_append] at hP ⊢; exact hP
  have hD : va_D A ((tp, .inr (8, [.ref p, .ref (u 0), .ref r, .null, .null, .null, .null])) :: T4) := by rw [eT4]; simp only [List.append_assoc, List.cons_append, List.nil_append] at hD ⊢; exact hD
  refine va_putF (D := D) (ci := 8) (v := .ref a) (ty := .object "ScopeRow$Answers") (C := RX8) (T := TX8) (N := 7) hx hb hts nl_init8_X8 tyX8 tyX8_ok nmX8 hown hK hP hD hS 0 rfl rfl 3 (by decide) k35 (fun _ h9 => h9) rfl hin rfl (tyX8_ok 3 (by decide)) rfl rfl (Nat.le_of_ble_eq_true rfl) dX8_init_61 (fun H locs hP hD hS => ?_)
  have hP : va_P D vwCl ((tp, .inr (8, [.ref p, .ref (u 0), .ref r, .ref a, .null, .null, .null])) :: T4) H := hP
  have hD : va_D A ((tp, .inr (8, [.ref p, .ref (u 0), .ref r, .ref a, .null, .null, .null])) :: T4) := hD
  refine lv_aload_n hx hb dX8_init_64 rfl (lv_at hl 0 rfl) ?_
  refine va_new (ci := 6) (fs := [.null, .int 0, .null, .int 0, .null, .null, .null, .int 0, .int 0, .int 0, .int 0, .int 0]) (C := RX6) (T := TX6) (N := 12) hx hb hts nl_init8_X6 tyX6 tyX6_ok hown (hts (.classLink RX8 16 RX6) (by decide +kernel)) (hts (.instantiable RX6 12) (by decide +kernel)) (hts (.initialized RX6) (by decide +kernel)) hK hP hD hS hA rfl (fun j hj => by rcases (show j = 0 ∨ j = 1 ∨ j = 2 ∨ j = 3 ∨ j = 4 ∨ j = 5 ∨ j = 6 ∨ j = 7 ∨ j = 8 ∨ j = 9 ∨ j = 10 ∨ j = 11 by omega) with rfl | rfl | rfl | rfl | rfl | rfl | rfl | rfl | rfl | rfl | rfl | rfl <;> rfl) (Nat.le_of_ble_eq_true rfl) (Nat.le_of_ble_eq_true rfl) dX8_init_65 (fun q2 H hP hD hS => ?_)
  refine W.widen (k := 108) (n := 1556) (by omega) (by omega) ?_
  refine lv_dup hx hb dX8_init_68 rfl ?_
  obtain ⟨W4, eW4⟩ : ∃ z : va_W, z = (tp, .inr (8, [.ref p, .ref (u 0), .ref r, .ref a, .null, .null, .null])) :: T4 := ⟨_, rfl⟩
  rw [← eW4] at hP hD
  refine x_Iv (As := []) (rest0 := [.ref q2, .ref tp]) EX6 (fun _ _ _ _ h9 => h9.call) (fun U _ hW => hE.1.warm hW) ⟨hx, hb, hml, hown, hts⟩ (c_X6_init l D cA tr (W4 ++ [(q2, .inr (6, [.null, .int 0, .null, .int 0, .null, .null, .null, .int 0, .int 0, .int 0, .int 0, .int 0]))]) H.size W4.length q2 (xv_new (V := W4))) (cwI 0 hts gl_init8_X6 rfl rfl rfl (hts (.initialized RX6) (by decide +kernel)) (hts (.methodLink RX8 18 yX6_init) (by decide +kernel)) (hts (.instanceMethod yX6_init) (by decide +kernel)) rfl (by decide +kernel) ⟨Nat.le_of_ble_eq_true rfl, Nat.le_of_ble_eq_true rfl⟩) hK hP hD hS hA hl.1 rfl rfl (Nat.le_of_ble_eq_true rfl) ⟨Nat.le_of_ble_eq_true rfl, Nat.le_of_ble_eq_true rfl⟩ dX8_init_69 (fun v H locs hw hP hD hS => ?_)
  subst hw
  refine W.widen (k := 207) (n := 2782) (by omega) (by omega) ?_
  rw [xv_put, eW4] at hP hD
  obtain ⟨T5, eT5⟩ : ∃ z : va_W, z = T4 ++ (((v 0), ob cA v s0 0) :: wS cA v) := ⟨_, rfl⟩
  have hP : va_P D vwCl ((tp, .inr (8, [.ref p, .ref (u 0), .ref r, .ref a, .null, .null, .null])) :: T5) H := by rw [eT5]; simp only [List.append_assoc, List.cons_append, List.nil_append] at hP ⊢; exact hP
  have hD : va_D A ((tp, .inr (8, [.ref p, .ref (u 0), .ref r, .ref a, .null, .null, .null])) :: T5) := by rw [eT5]; simp only [List.append_assoc, List.cons_append, List.nil_append] at hD ⊢; exact hD
  refine va_putF (D := D) (ci := 8) (v := .ref (v 0)) (ty := .object "ScopeRow$State") (C := RX8) (T := TX8) (N := 7) hx hb hts nl_init8_X8 tyX8 tyX8_ok nmX8 hown hK hP hD hS 0 rfl rfl 4 (by decide) k39 (fun _ h9 => h9) rfl hin rfl (tyX8_ok 4 (by decide)) rfl rfl (Nat.le_of_ble_eq_true rfl) dX8_init_72 (fun H locs hP hD hS => ?_)
  have hP : va_P D vwCl ((tp, .inr (8, [.ref p, .ref (u 0), .ref r, .ref a, .ref (v 0), .null, .null])) :: T5) H := hP
  have hD : va_D A ((tp, .inr (8, [.ref p, .ref (u 0), .ref r, .ref a, .ref (v 0), .null, .null])) :: T5) := hD
  refine lv_aload_n hx hb dX8_init_75 rfl (lv_at hl 0 rfl) ?_
  refine va_new (ci := 4) (fs := [.null, .null, .int 0]) (C := RX4) (T := TX4) (N := 3) hx hb hts nl_init8_X4 tyX4 tyX4_ok hown (hts (.classLink RX8 23 RX4) (by decide +kernel)) (hts (.instantiable RX4 3) (by decide +kernel)) (hts (.initialized RX4) (by decide +kernel)) hK hP hD hS hA rfl (fun j hj => by rcases (show j = 0 ∨ j = 1 ∨ j = 2 by omega) with rfl | rfl | rfl <;> rfl) (Nat.le_of_ble_eq_true rfl) (Nat.le_of_ble_eq_true rfl) dX8_init_76 (fun r2 H hP hD hS => ?_)
  refine W.widen (k := 208) (n := 2785) (by omega) (by omega) ?_
  refine lv_dup hx hb dX8_init_79 rfl ?_
  obtain ⟨W5, eW5⟩ : ∃ z : va_W, z = (tp, .inr (8, [.ref p, .ref (u 0), .ref r, .ref a, .ref (v 0), .null, .null])) :: T5 := ⟨_, rfl⟩
  refine lv_aload_n hx hb dX8_init_80 rfl (lv_at hl 0 rfl) ?_
  refine va_get (D := D) (C := RX8) (T := TX8) (N := 7) (ci := 8) (v := .ref p) hx hb hts nl_init8_X8 hown hK hP 0 rfl rfl 0 (by decide) k12 (fun _ h9 => h9) rfl dX8_init_81 ?_
  refine lv_aload_n hx hb dX8_init_84 rfl (lv_at hl 0 rfl) ?_
  refine va_get (D := D) (C := RX8) (T := TX8) (N := 7) (ci := 8) (v := .ref (v 0)) hx hb hts nl_init8_X8 hown hK hP 0 rfl rfl 4 (by decide) k39 (fun _ h9 => h9) rfl dX8_init_85 ?_
  rw [← eW5] at hP hD
  refine x_Iv (As := [.ref p, .ref (v 0)]) (rest0 := [.ref r2, .ref tp]) (fun _ => True) (fun _ _ _ _ _ => trivial) (fun _ _ _ => trivial) ⟨hx, hb, hml, hown, hts⟩ (Met.andT (c_X4_init l D cA tr (W5 ++ [(r2, .inr (4, [.null, .null, .int 0]))]) H.size W5.length r2 (xv_new (V := W5)) p (v 0))) (cwI 2 hts gl_init8_X4 rfl rfl rfl (hts (.initialized RX4) (by decide +kernel)) (hts (.methodLink RX8 25 yX4_init) (by decide +kernel)) (hts (.instanceMethod yX4_init) (by decide +kernel)) rfl (by decide +kernel) ⟨Nat.le_of_ble_eq_true rfl, Nat.le_of_ble_eq_true rfl⟩) hK hP hD hS hA hl.1 rfl rfl (Nat.le_of_ble_eq_true rfl) ⟨Nat.le_of_ble_eq_true rfl, Nat.le_of_ble_eq_true rfl⟩ dX8_init_88 (fun _ H locs _ hP hD hS => ?_)
  refine W.widen (k := 208) (n := 2785) (by omega) (by omega) ?_
  rw [xv_put, List.append_nil, eW5] at hP hD
  obtain ⟨T6, eT6⟩ : ∃ z : va_W, z = T5 ++ ([(r2, .inr (4, [.ref p, .ref (v 0), .int 0]))]) := ⟨_, rfl⟩
  have hP : va_P D vwCl ((tp, .inr (8, [.ref p, .ref (u 0), .ref r, .ref a, .ref (v 0), .null, .null])) :: T6) H := by rw [eT6]; simp only [List.append_assoc, List.cons_append, List.nil_append] at hP ⊢; exact hP
  have hD : va_D A ((tp, .inr (8, [.ref p, .ref (u 0), .ref r, .ref a, .ref (v 0), .null, .null])) :: T6) := by rw [eT6]; simp only [List.append_assoc, List.cons_append, List.nil_append] at hD ⊢; exact hD
  refine va_putF (D := D) (ci := 8) (v := .ref r2) (ty := .object "ScopeRow$Runner") (C := RX8) (T := TX8) (N := 7) hx hb hts nl_init8_X8 tyX8 tyX8_ok nmX8 hown hK hP hD hS 0 rfl rfl 5 (by decide) k42 (fun _ h9 => h9) rfl hin rfl (tyX8_ok 5 (by decide)) rfl rfl (Nat.le_of_ble_eq_true rfl) dX8_init_91 (fun H locs hP hD hS => ?_)
  have hP : va_P D vwCl ((tp, .inr (8, [.ref p, .ref (u 0), .ref r, .ref a, .ref (v 0), .ref r2, .null])) :: T6) H := hP
  have hD : va_D A ((tp, .inr (8, [.ref p, .ref (u 0), .ref r, .ref a, .ref (v 0), .ref r2, .null])) :: T6) := hD
  refine lv_aload_n hx hb dX8_init_94 rfl (lv_at hl 0 rfl) ?_
  refine va_new (ci := 0) (fs := [.null, .null]) (C := RX0) (T := TX0) (N := 2) hx hb hts nl_init8_X0 tyX0 tyX0_ok hown (hts (.classLink RX8 32 RX0) (by decide +kernel)) (hts (.instantiable RX0 2) (by decide +kernel)) (hts (.initialized RX0) (by decide +kernel)) hK hP hD hS hA rfl (fun j hj => by rcases (show j = 0 ∨ j = 1 by omega) with rfl | rfl <;> rfl) (Nat.le_of_ble_eq_true rfl) (Nat.le_of_ble_eq_true rfl) dX8_init_95 (fun a2 H hP hD hS => ?_)
  refine W.widen (k := 209) (n := 2787) (by omega) (by omega) ?_
  refine lv_dup hx hb dX8_init_98 rfl ?_
  obtain ⟨W6, eW6⟩ : ∃ z : va_W, z = (tp, .inr (8, [.ref p, .ref (u 0), .ref r, .ref a, .ref (v 0), .ref r2, .null])) :: T6 := ⟨_, rfl⟩
  refine lv_aload_n hx hb dX8_init_99 rfl (lv_at hl 0 rfl) ?_
  refine va_get (D := D) (C := RX8) (T := TX8) (N := 7) (ci := 8) (v := .ref p) hx hb hts nl_init8_X8 hown hK hP 0 rfl rfl 0 (by decide) k12 (fun _ h9 => h9) rfl dX8_init_100 ?_
  refine lv_aload_n hx hb dX8_init_103 rfl (lv_at hl 0 rfl) ?_
  refine va_get (D := D) (C := RX8) (T := TX8) (N := 7) (ci := 8) (v := .ref (v 0)) hx hb hts nl_init8_X8 hown hK hP 0 rfl rfl 4 (by decide) k39 (fun _ h9 => h9) rfl dX8_init_104 ?_
  rw [← eW6] at hP hD
  refine x_Iv (As := [.ref p, .ref (v 0)]) (rest0 := [.ref a2, .ref tp]) (fun _ => True) (fun _ _ _ _ _ => trivial) (fun _ _ _ => trivial) ⟨hx, hb, hml, hown, hts⟩ (Met.andT (c_X0_init l D cA tr (W6 ++ [(a2, .inr (0, [.null, .null]))]) H.size W6.length a2 (xv_new (V := W6)) p (v 0))) (cwI 2 hts gl_init8_X0 rfl rfl rfl (hts (.initialized RX0) (by decide +kernel)) (hts (.methodLink RX8 34 yX0_init) (by decide +kernel)) (hts (.instanceMethod yX0_init) (by decide +kernel)) rfl (by decide +kernel) ⟨Nat.le_of_ble_eq_true rfl, Nat.le_of_ble_eq_true rfl⟩) hK hP hD hS hA hl.1 rfl rfl (Nat.le_of_ble_eq_true rfl) ⟨Nat.le_of_ble_eq_true rfl, Nat.le_of_ble_eq_true rfl⟩ dX8_init_107 (fun _ H locs _ hP hD hS => ?_)
  refine W.widen (k := 209) (n := 2787) (by omega) (by omega) ?_
  rw [xv_put, List.append_nil, eW6] at hP hD
  obtain ⟨T7, eT7⟩ : ∃ z : va_W, z = T6 ++ ([(a2, .inr (0, [.ref p, .ref (v 0)]))]) := ⟨_, rfl⟩
  have hP : va_P D vwCl ((tp, .inr (8, [.ref p, .ref (u 0), .ref r, .ref a, .ref (v 0), .ref r2, .null])) :: T7) H := by rw [eT7]; simp only [List.append_assoc, List.cons_append, List.nil_append] at hP ⊢; exact hP
  have hD : va_D A ((tp, .inr (8, [.ref p, .ref (u 0), .ref r, .ref a, .ref (v 0), .ref r2, .null])) :: T7) := by rw [eT7]; simp only [List.append_assoc, List.cons_append, List.nil_append] at hD ⊢; exact hD
  refine va_putF (D := D) (ci := 8) (v := .ref a2) (ty := .object "ScopeRow$Answers") (C := RX8) (T := TX8) (N := 7) hx hb hts nl_init8_X8 tyX8 tyX8_ok nmX8 hown hK hP hD hS 0 rfl rfl 6 (by decide) k45 (fun _ h9 => h9) rfl hin rfl (tyX8_ok 6 (by decide)) rfl rfl (Nat.le_of_ble_eq_true rfl) dX8_init_110 (fun H locs hP hD hS => ?_)
  have hP : va_P D vwCl ((tp, .inr (8, [.ref p, .ref (u 0), .ref r, .ref a, .ref (v 0), .ref r2, .ref a2])) :: T7) H := hP
  have hD : va_D A ((tp, .inr (8, [.ref p, .ref (u 0), .ref r, .ref a, .ref (v 0), .ref r2, .ref a2])) :: T7) := hD
  have eT : T7 = wP0 cA p x ++ (wN cA u p r a ++ wN cA v p r2 a2) := by
    rw [eT7, eT6, eT5, eT4, eT3, eT2, eT1, eT0]; unfold wN; simp only [List.append_assoc, List.cons_append, List.nil_append]
  rw [eT] at hP hD
  obtain ⟨ad, pd, bd, h102, hP, hD⟩ := md_done hP hD
  exact W.vret hx hb hr (fun t ht hW => ⟨⟨(ad, pd, bd), rfl, h102, by rw [ht]; exact hP, va_K.moved hW.alike hK, hD⟩, hS.F ht⟩) hS.2.2 dX8_init_113 hlocks
