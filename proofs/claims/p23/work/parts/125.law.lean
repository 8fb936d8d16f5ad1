/-! the law's Own: what lies where; rows of references to arrays -/
def oF (la sq : Nat) (b : Int32) : List Value := [.ref la, .ref sq, .int b]
def rf8 (lb : Nat → Nat) : Nat → Option Nat := fun i => if i < 8 then some (lb i) else none
/-- the Own, its array of BODIES, that of each BODY's LINES, its sizes -/
def oW (c0 c2 c3 : ClassId) (oq la sq : Nat) (b : Int32) (lb : Nat → Nat) (LA : Nat → Nat → Option Nat) (z : Nat → Int32) : va_W := (oq, .inr (9, oF la sq b)) :: (la, .inl (c3, 8, .inr (.inr (.inr (.inr (rf8 lb)))))) :: ((List.range 8).map (fun i => (lb i, .inl (c2, 12, .inr (.inr (.inr (.inr (LA i))))))) ++ [(sq, .inl (c0, 8, .inl z))])
section OWN
variable {c0 c2 c3 : ClassId} {oq la sq : Nat} {b : Int32} {lb : Nat → Nat} {LA : Nat → Nat → Option Nat} {z : Nat → Int32} {r2 rest : va_W}
theorem own0 (e : rest = oW c0 c2 c3 oq la sq b lb LA z ++ r2) : rest[0]? = some (oq, .inr (9, oF la sq b)) := by rw [e]; rfl
theorem own1 (e : rest = oW c0 c2 c3 oq la sq b lb LA z ++ r2) : rest[1]? = some (la, .inl (c3, 8, .inr (.inr (.inr (.inr (rf8 lb)))))) := by rw [e]; rfl
theorem ownI (e : rest = oW c0 c2 c3 oq la sq b lb LA z ++ r2) {i : Nat} (hi : i < 8) : rest[i + 2]? = some (lb i, .inl (c2, 12, .inr (.inr (.inr (.inr (LA i)))))) := by
  rw [e]
  rcases (show i = 0 ∨ i = 1 ∨ i = 2 ∨ i = 3 ∨ i = 4 ∨ i = 5 ∨ i = 6 ∨ i = 7 by omega) with h | h | h | h | h | h | h | h <;> subst h <;> rfl
theorem ownS (e : rest = oW c0 c2 c3 oq la sq b lb LA z ++ r2) : rest[10]? = some (sq, .inl (c0, 8, .inl z)) := by rw [e]; rfl
theorem oW_len : (oW c0 c2 c3 oq la sq b lb LA z).length = 11 := by unfold oW; simp
theorem ownR (e : rest = oW c0 c2 c3 oq la sq b lb LA z ++ r2) {k : Nat} {x : Nat × va_E} (h : r2[k]? = some x) : rest[k + 11]? = some x := by
  rw [e, List.getElem?_append_right (by rw [oW_len]; omega), oW_len, Nat.add_sub_cancel]; exact h
theorem rf8_at {i : Nat} (hi : i < 8) : rf8 lb i = some (lb i) := if_pos hi
end OWN
theorem wOldR {cA ad pd bd tp} {τ π ρ : Sg} {rest X R : va_W} {i : Nat} {x : Nat × va_E} (e : R = rest ++ X) (h : rest[i]? = some x) : (wB cA ad τ ++ (wPg cA ad pd π ++ (wB cA bd ρ ++ ((tp, .inr (8, tpF ad bd)) :: R))))[i + 210]? = some x := by rw [e]; exact wOldAt h
theorem ty_old {cA : Nat → ClassId} {tr Y : List (ClassId × FieldType)} {j : Nat} {x : ClassId × FieldType} (h : tr[j]? = some x) : (tyB cA ++ (tr ++ Y))[j + 5]? = some x := by
  rw [show j + 5 = (tyB cA).length + j from by rw [show (tyB cA).length = 5 from rfl]; omega, List.getElem?_append_right (by omega), Nat.add_sub_cancel_left, List.getElem?_append_left (List.getElem?_eq_some_iff.mp h).1]; exact h
section XOWN
variable {p : Program} {l : Launch} {e : Env} {R : Room} {s : State} {m : MethodId} {args : Array Value} {below : List Frame} {meth : Method} {c : Code} {H : Heap} {locs : List Loc} {cells slots : Nat} {Q : State → Prop}
variable {cc : ByteArray} {pc : Nat} {ls : Array Slot} {rest : List Value} {D : va_G} {cl : List vw_C} {A : Nat → Prop} {a : Nat} {tys : List (ClassId × FieldType)} {ws : va_W} {H0 : Heap}
/-- a reading of an array of arrays -/
theorem va_aldr (hexec : p.tables.exec = Jvm.exec) (hb : c.code = cc) (hK : va_K D cl tys s) (hP : va_P D cl ws H) (q0 t0 : Nat) {cA : ClassId} {ty : FieldType} {n : Nat} {f : Nat → Option Nat} (ha : ws[q0]? = some (a, .inl (cA, n, .inr (.inr (.inr (.inr f)))))) (ht : tys[t0]? = some (cA, .array ty)) {i : Int32} (hin : vp_in i n) (hdg : decode cc pc = .ok (.aaload, 1))
    (kk : W p l e R s m args below meth c H locs cells slots Q (F0 m (pc + 1) ls (va_rf (f i.toNatClampNeg) :: rest))) : W p l e R s m args below meth c H locs cells slots Q (F0 m pc ls (.int i :: .ref a :: rest)) := by
  have hlt : i.toNatClampNeg < n := Nat.not_le.mp fun q => hin (Or.inr q)
  exact W.aald (v := va_rf (f i.toNatClampNeg)) (ty := .array ty) hexec hb (hP q0 _ ha) ((hK.2 t0 _ ht).1 n (fun j => va_rf (f j))) rfl (fun q => by cases q) (by show ¬ (i < 0 ∨ (arrV _ _ _).slots.size ≤ _); rw [arrV_size]; exact hin) (by show (arrV _ _ _).slots[_]? = _; rw [arrV_read _ _ hlt]) rfl rfl hdg kk
end XOWN
