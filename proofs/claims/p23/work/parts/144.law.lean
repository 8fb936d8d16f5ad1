/-! State(): the walk -/
theorem s5_set {V S Y : va_W} {j : Nat} {v : Nat × va_E} (h : j < (5 : Nat)) {cA : Nat → ClassId} {q1 q2 q3 q4 q5 : Nat} {f1 f2 f3 f4 : Nat → Option Nat} : ((V ++ (st5 cA q1 q2 q3 q4 q5 f1 f2 f3 f4 ++ S)) ++ Y).set (V.length + j) v = (V ++ ((st5 cA q1 q2 q3 q4 q5 f1 f2 f3 f4).set j v ++ S)) ++ Y := by
  have hl : (st5 cA q1 q2 q3 q4 q5 f1 f2 f3 f4).length = 5 := rfl
  rw [List.set_append_left _ _ (by rw [List.length_append, List.length_append]; omega), xv_set, List.set_append_left _ _ (by omega)]
/-- what State() asks for beside the world -/
def EX6 (U : State) : Prop := va_AO RX7 U ∧ va_AO RX5 U ∧ va_AO RX2 U ∧ va_AO RX1 U ∧ va_Nw (.methodLinkNest RX6 44 yX1_init RX8) U
theorem EX6.call {U : State} {g : JFrame} {mk : MethodId} {a : Array Value} (h : EX6 U) : EX6 (U.calling g mk a) := by
  obtain ⟨h1, h2, h3, h4, h5⟩ := h
  exact ⟨va_AO.moved (u := U) (U := U.calling g mk a) (Vm.Alike.refl U.vm) h1, va_AO.moved (u := U) (U := U.calling g mk a) (Vm.Alike.refl U.vm) h2, va_AO.moved (u := U) (U := U.calling g mk a) (Vm.Alike.refl U.vm) h3, va_AO.moved (u := U) (U := U.calling g mk a) (Vm.Alike.refl U.vm) h4, va_Nw.same (u := U) (U := U.calling g mk a) rfl rfl h5⟩
theorem EX6.warm {s U : State} (hW : s.WarmedH U.vm) (h : EX6 s) : EX6 U := ⟨va_AO.moved hW.alike h.1, va_AO.moved hW.alike h.2.1, va_AO.moved hW.alike h.2.2.1, va_AO.moved hW.alike h.2.2.2.1, va_Nw.warmM hW h.2.2.2.2⟩
set_option maxHeartbeats 8000000 in
set_option maxRecDepth 100000 in
/-- State() -/
theorem c_X6_init (l : Launch) (D : va_G) (cA : Nat → ClassId) (tr : List (ClassId × FieldType)) (ws : va_W) (sz : Nat) (q0 h0 : Nat) (he : ws[q0]? = some (h0, .inr (6, [.null, .int 0, .null, .int 0, .null, .null, .null, .int 0, .int 0, .int 0, .int 0, .int 0]))) : Met l yX6_init wsX6_init ({ frames := 2, cells := 99, slots := 1226, locals := 33 }) (va_Pc [.ref h0] (fun U => inW D (tyB cA ++ tr) ws sz U ∧ EX6 U)) (va_Qv (fun u : Nat → Nat => u 0 = h0) (fun u : Nat → Nat => outW D (tyB cA ++ tr) (va_A ws sz) (ws.set q0 (u 0, ob cA u s0 0) ++ wS cA u)) (va_A ws sz)) 99 1226 (va_A ws sz) := by
  refine Met.ofW (cc := cX6_init) (maxL := 2) (ret := none) (by decide) rfl ?_
  intro p e s m args below meth c s₁ B hml hv
  obtain ⟨rfl, ⟨hsz, hP, hK, hD0⟩, hE⟩ := hv
  obtain ⟨hA7, hA5, hA2, hA1, hN1⟩ := hE
  have hx := B.exec
  have hb := B.bytes
  have hr := B.returns
  have hts := atoms_spec (ws := wsX6_init) B.pre
  have hown : s.vm.findClass RX6 = some m.cls := findClass_of_methodNamed B.named
  have hlocks := B.notSynchronized
  have hin : meth.name = "<init>" := (name_of_methodNamed B.named B.method).1
  subst hsz
  have hD := hD0.self (sz := s.heap.size)
  clear hD0
  generalize hAe : va_A ws s.heap.size = A at hD ⊢
  have hA : ∀ q : Nat, s.heap.size ≤ q → A q := fun q h => by rw [← hAe]; exact Or.inr h
  clear hAe
  have hS : va_S A s.heap s.heap [] := va_S.rf
  have hq : q0 < ws.length := (List.getElem?_eq_some_iff.mp he).1
  have hl := lv_entry ([.ref h0]) (n := 2) (Nat.le_of_ble_eq_true rfl)
  rw [lg_entry_eq]
  generalize (lg_sl ([.ref h0]) ++ List.replicate (2 - (lg_sl ([.ref h0])).length) Slot.unset).toArray = ls at hl ⊢
  have hl : lv_has ls 2 [(0, .ref h0)] := hl
  have nX6 : ∀ w ∈ u_ws RX6 TX6 12, w ∈ wsX6_init := by decide +kernel
  have nX7 : ∀ w ∈ u_ws RX7 TX7 17, w ∈ wsX6_init := by decide +kernel
  have nX5 : ∀ w ∈ u_ws RX5 TX5 14, w ∈ wsX6_init := by decide +kernel
  have nX2 : ∀ w ∈ u_ws RX2 TX2 3, w ∈ wsX6_init := by decide +kernel
  have nX1 : ∀ w ∈ u_ws RX1 TX1 5, w ∈ wsX6_init := by decide +kernel
  have k11 := hts (.fieldLink RX6 11 "ScopeRow$State" "tasks" "[LScopeRow$Task;") (by decide +kernel)
  have k19 := hts (.fieldLink RX6 19 "ScopeRow$State" "scopes" "[LScopeRow$Scope;") (by decide +kernel)
  have k25 := hts (.fieldLink RX6 25 "ScopeRow$State" "locks" "[LScopeRow$Lock;") (by decide +kernel)
  have k31 := hts (.fieldLink RX6 31 "ScopeRow$State" "channels" "[LScopeRow$Channel;") (by decide +kernel)
  have k35 := hts (.fieldLink RX6 35 "ScopeRow$State" "row" "[I") (by decide +kernel)
  have hP : va_P D vwCl (ws.set q0 (h0, .inr (6, [.null, .int 0, .null, .int 0, .null, .null, .null, .int 0, .int 0, .int 0, .int 0, .int 0])) ++ []) s.heap := by rw [← xws_id he]; exact hP
  have hD : va_D A (ws.set q0 (h0, .inr (6, [.null, .int 0, .null, .int 0, .null, .null, .null, .int 0, .int 0, .int 0, .int 0, .int 0])) ++ []) := by rw [← xws_id he]; exact hD
  refine lv_aload_n hx hb dX6_init_0 rfl (lv_at hl 0 rfl) ?_
  refine W.objInit hx hb hown (hts (.methodLink RX6 3 objectInit) (by decide +kernel)) (hts (.instanceMethod objectInit) (by decide +kernel)) (hts (.code objectInit ⟨#[0xb1]⟩ 1 none) (by decide +kernel)) rfl (by rw [hml]; exact hl.1) rfl dX6_init_1 (Nat.le_of_ble_eq_true rfl) (Nat.le_of_ble_eq_true rfl) ?_
  refine W.eq (g2 := F0 m 4 ls []) rfl ?_
  refine lv_aload_n hx hb dX6_init_4 rfl (lv_at hl 0 rfl) ?_
  refine lv_bipush (v := 24) hx hb dX6_init_5 (by decide) ?_
  refine va_newq (C := RX7) (N' := 24) hx hb hown (hts (.classLink RX6 9 RX7) (by decide +kernel)) hA7 hK hP hD hS hA (by decide) (by decide) (Nat.le_of_ble_eq_true rfl) (Nat.le_of_ble_eq_true rfl) (Nat.le_of_ble_eq_true rfl) dX6_init_7 (fun q1 cN H hKn hP hD hS => ?_)
  obtain rfl : cN = cA 1 := cA_any (t0 := 1) hKn rfl
  clear hKn
  rw [List.append_assoc] at hP hD
  have hP : va_P D vwCl (ws.set q0 (h0, .inr (6, [.null, .int 0, .null, .int 0, .null, .null, .null, .int 0, .int 0, .int 0, .int 0, .int 0])) ++ [(q1, .inl (cA 1, 24, .inr (.inr (.inr (.inr (fun _ => none))))))]) H := hP
  have hD : va_D A (ws.set q0 (h0, .inr (6, [.null, .int 0, .null, .int 0, .null, .null, .null, .int 0, .int 0, .int 0, .int 0, .int 0])) ++ [(q1, .inl (cA 1, 24, .inr (.inr (.inr (.inr (fun _ => none))))))]) := hD
  refine W.widen (k := 1) (n := 24) (by omega) (by omega) ?_
  refine va_putF (D := D) (ci := 6) (v := .ref q1) (ty := .array (.object "ScopeRow$Task")) (C := RX6) (T := TX6) (N := 12) hx hb hts nX6 tyX6 tyX6_ok nmX6 hown hK hP hD hS q0 (xt_set hq) rfl 0 (by decide) k11 (fun _ h9 => h9) rfl hin rfl (tyX6_ok 0 (by decide)) rfl rfl (Nat.le_of_ble_eq_true rfl) dX6_init_10 (fun H locs hP hD hS => ?_)
  rw [xset_set hq] at hP hD
  have hP : va_P D vwCl (ws.set q0 (h0, .inr (6, [.ref q1, .int 0, .null, .int 0, .null, .null, .null, .int 0, .int 0, .int 0, .int 0, .int 0])) ++ [(q1, .inl (cA 1, 24, .inr (.inr (.inr (.inr (fun _ => none))))))]) H := hP
  have hD : va_D A (ws.set q0 (h0, .inr (6, [.ref q1, .int 0, .null, .int 0, .null, .null, .null, .int 0, .int 0, .int 0, .int 0, .int 0])) ++ [(q1, .inl (cA 1, 24, .inr (.inr (.inr (.inr (fun _ => none))))))]) := hD
  refine lv_aload_n hx hb dX6_init_13 rfl (lv_at hl 0 rfl) ?_
  refine lv_bipush (v := 40) hx hb dX6_init_14 (by decide) ?_
  refine va_newq (C := RX5) (N' := 40) hx hb hown (hts (.classLink RX6 17 RX5) (by decide +kernel)) hA5 hK hP hD hS hA (by decide) (by decide) (Nat.le_of_ble_eq_true rfl) (Nat.le_of_ble_eq_true rfl) (Nat.le_of_ble_eq_true rfl) dX6_init_16 (fun q2 cN H hKn hP hD hS => ?_)
  obtain rfl : cN = cA 2 := cA_any (t0 := 2) hKn rfl
  clear hKn
  rw [List.append_assoc] at hP hD
  have hP : va_P D vwCl (ws.set q0 (h0, .inr (6, [.ref q1, .int 0, .null, .int 0, .null, .null, .null, .int 0, .int 0, .int 0, .int 0, .int 0])) ++ [(q1, .inl (cA 1, 24, .inr (.inr (.inr (.inr (fun _ => none)))))), (q2, .inl (cA 2, 40, .inr (.inr (.inr (.inr (fun _ => none))))))]) H := hP
  have hD : va_D A (ws.set q0 (h0, .inr (6, [.ref q1, .int 0, .null, .int 0, .null, .null, .null, .int 0, .int 0, .int 0, .int 0, .int 0])) ++ [(q1, .inl (cA 1, 24, .inr (.inr (.inr (.inr (fun _ => none)))))), (q2, .inl (cA 2, 40, .inr (.inr (.inr (.inr (fun _ => none))))))]) := hD
  refine W.widen (k := 2) (n := 64) (by omega) (by omega) ?_
  refine va_putF (D := D) (ci := 6) (v := .ref q2) (ty := .array (.object "ScopeRow$Scope")) (C := RX6) (T := TX6) (N := 12) hx hb hts nX6 tyX6 tyX6_ok nmX6 hown hK hP hD hS q0 (xt_set hq) rfl 2 (by decide) k19 (fun _ h9 => h9) rfl hin rfl (tyX6_ok 2 (by decide)) rfl rfl (Nat.le_of_ble_eq_true rfl) dX6_init_19 (fun H locs hP hD hS => ?_)
  rw [xset_set hq] at hP hD
  have hP : va_P D vwCl (ws.set q0 (h0, .inr (6, [.ref q1, .int 0, .ref q2, .int 0, .null, .null, .null, .int 0, .int 0, .int 0, .int 0, .int 0])) ++ [(q1, .inl (cA 1, 24, .inr (.inr (.inr (.inr (fun _ => none)))))), (q2, .inl (cA 2, 40, .inr (.inr (.inr (.inr (fun _ => none))))))]) H := hP
  have hD : va_D A (ws.set q0 (h0, .inr (6, [.ref q1, .int 0, .ref q2, .int 0, .null, .null, .null, .int 0, .int 0, .int 0, .int 0, .int 0])) ++ [(q1, .inl (cA 1, 24, .inr (.inr (.inr (.inr (fun _ => none)))))), (q2, .inl (cA 2, 40, .inr (.inr (.inr (.inr (fun _ => none))))))]) := hD
  refine lv_aload_n hx hb dX6_init_22 rfl (lv_at hl 0 rfl) ?_
  refine lv_iconst (v := 2) hx hb dX6_init_23 (by decide) ?_
  refine va_newq (C := RX2) (N' := 2) hx hb hown (hts (.classLink RX6 23 RX2) (by decide +kernel)) hA2 hK hP hD hS hA (by decide) (by decide) (Nat.le_of_ble_eq_true rfl) (Nat.le_of_ble_eq_true rfl) (Nat.le_of_ble_eq_true rfl) dX6_init_24 (fun q3 cN H hKn hP hD hS => ?_)
  obtain rfl : cN = cA 3 := cA_any (t0 := 3) hKn rfl
  clear hKn
  rw [List.append_assoc] at hP hD
  have hP : va_P D vwCl (ws.set q0 (h0, .inr (6, [.ref q1, .int 0, .ref q2, .int 0, .null, .null, .null, .int 0, .int 0, .int 0, .int 0, .int 0])) ++ [(q1, .inl (cA 1, 24, .inr (.inr (.inr (.inr (fun _ => none)))))), (q2, .inl (cA 2, 40, .inr (.inr (.inr (.inr (fun _ => none)))))), (q3, .inl (cA 3, 2, .inr (.inr (.inr (.inr (fun _ => none))))))]) H := hP
  have hD : va_D A (ws.set q0 (h0, .inr (6, [.ref q1, .int 0, .ref q2, .int 0, .null, .null, .null, .int 0, .int 0, .int 0, .int 0, .int 0])) ++ [(q1, .inl (cA 1, 24, .inr (.inr (.inr (.inr (fun _ => none)))))), (q2, .inl (cA 2, 40, .inr (.inr (.inr (.inr (fun _ => none)))))), (q3, .inl (cA 3, 2, .inr (.inr (.inr (.inr (fun _ => none))))))]) := hD
  refine W.widen (k := 3) (n := 66) (by omega) (by omega) ?_
  refine va_putF (D := D) (ci := 6) (v := .ref q3) (ty := .array (.object "ScopeRow$Lock")) (C := RX6) (T := TX6) (N := 12) hx hb hts nX6 tyX6 tyX6_ok nmX6 hown hK hP hD hS q0 (xt_set hq) rfl 4 (by decide) k25 (fun _ h9 => h9) rfl hin rfl (tyX6_ok 4 (by decide)) rfl rfl (Nat.le_of_ble_eq_true rfl) dX6_init_27 (fun H locs hP hD hS => ?_)
  rw [xset_set hq] at hP hD
  have hP : va_P D vwCl (ws.set q0 (h0, .inr (6, [.ref q1, .int 0, .ref q2, .int 0, .ref q3, .null, .null, .int 0, .int 0, .int 0, .int 0, .int 0])) ++ [(q1, .inl (cA 1, 24, .inr (.inr (.inr (.inr (fun _ => none)))))), (q2, .inl (cA 2, 40, .inr (.inr (.inr (.inr (fun _ => none)))))), (q3, .inl (cA 3, 2, .inr (.inr (.inr (.inr (fun _ => none))))))]) H := hP
  have hD : va_D A (ws.set q0 (h0, .inr (6, [.ref q1, .int 0, .ref q2, .int 0, .ref q3, .null, .null, .int 0, .int 0, .int 0, .int 0, .int 0])) ++ [(q1, .inl (cA 1, 24, .inr (.inr (.inr (.inr (fun _ => none)))))), (q2, .inl (cA 2, 40, .inr (.inr (.inr (.inr (fun _ => none)))))), (q3, .inl (cA 3, 2, .inr (.inr (.inr (.inr (fun _ => none))))))]) := hD
  refine lv_aload_n hx hb dX6_init_30 rfl (lv_at hl 0 rfl) ?_
  refine lv_iconst (v := 2) hx hb dX6_init_31 (by decide) ?_
  refine va_newq (C := RX1) (N' := 2) hx hb hown (hts (.classLink RX6 29 RX1) (by decide +kernel)) hA1 hK hP hD hS hA (by decide) (by decide) (Nat.le_of_ble_eq_true rfl) (Nat.le_of_ble_eq_true rfl) (Nat.le_of_ble_eq_true rfl) dX6_init_32 (fun q4 cN H hKn hP hD hS => ?_)
  obtain rfl : cN = cA 4 := cA_any (t0 := 4) hKn rfl
  clear hKn
  rw [List.append_assoc] at hP hD
  have hP : va_P D vwCl (ws.set q0 (h0, .inr (6, [.ref q1, .int 0, .ref q2, .int 0, .ref q3, .null, .null, .int 0, .int 0, .int 0, .int 0, .int 0])) ++ [(q1, .inl (cA 1, 24, .inr (.inr (.inr (.inr (fun _ => none)))))), (q2, .inl (cA 2, 40, .inr (.inr (.inr (.inr (fun _ => none)))))), (q3, .inl (cA 3, 2, .inr (.inr (.inr (.inr (fun _ => none)))))), (q4, .inl (cA 4, 2, .inr (.inr (.inr (.inr (fun _ => none))))))]) H := hP
  have hD : va_D A (ws.set q0 (h0, .inr (6, [.ref q1, .int 0, .ref q2, .int 0, .ref q3, .null, .null, .int 0, .int 0, .int 0, .int 0, .int 0])) ++ [(q1, .inl (cA 1, 24, .inr (.inr (.inr (.inr (fun _ => none)))))), (q2, .inl (cA 2, 40, .inr (.inr (.inr (.inr (fun _ => none)))))), (q3, .inl (cA 3, 2, .inr (.inr (.inr (.inr (fun _ => none)))))), (q4, .inl (cA 4, 2, .inr (.inr (.inr (.inr (fun _ => none))))))]) := hD
  refine W.widen (k := 4) (n := 68) (by omega) (by omega) ?_
  refine va_putF (D := D) (ci := 6) (v := .ref q4) (ty := .array (.object "ScopeRow$Channel")) (C := RX6) (T := TX6) (N := 12) hx hb hts nX6 tyX6 tyX6_ok nmX6 hown hK hP hD hS q0 (xt_set hq) rfl 5 (by decide) k31 (fun _ h9 => h9) rfl hin rfl (tyX6_ok 5 (by decide)) rfl rfl (Nat.le_of_ble_eq_true rfl) dX6_init_35 (fun H locs hP hD hS => ?_)
  rw [xset_set hq] at hP hD
  have hP : va_P D vwCl (ws.set q0 (h0, .inr (6, [.ref q1, .int 0, .ref q2, .int 0, .ref q3, .ref q4, .null, .int 0, .int 0, .int 0, .int 0, .int 0])) ++ [(q1, .inl (cA 1, 24, .inr (.inr (.inr (.inr (fun _ => none)))))), (q2, .inl (cA 2, 40, .inr (.inr (.inr (.inr (fun _ => none)))))), (q3, .inl (cA 3, 2, .inr (.inr (.inr (.inr (fun _ => none)))))), (q4, .inl (cA 4, 2, .inr (.inr (.inr (.inr (fun _ => none))))))]) H := hP
  have hD : va_D A (ws.set q0 (h0, .inr (6, [.ref q1, .int 0, .ref q2, .int 0, .ref q3, .ref q4, .null, .int 0, .int 0, .int 0, .int 0, .int 0])) ++ [(q1, .inl (cA 1, 24, .inr (.inr (.inr (.inr (fun _ => none)))))), (q2, .inl (cA 2, 40, .inr (.inr (.inr (.inr (fun _ => none)))))), (q3, .inl (cA 3, 2, .inr (.inr (.inr (.inr (fun _ => none)))))), (q4, .inl (cA 4, 2, .inr (.inr (.inr (.inr (fun _ => none))))))]) := hD
  refine lv_aload_n hx hb dX6_init_38 rfl (lv_at hl 0 rfl) ?_
  refine lv_bipush (v := 24) hx hb dX6_init_39 (by decide) ?_
  refine va_newa (atype := .int) (ty := .int) (N' := 24) (a0 := (24, .inl (fun _ => 0))) hx hb (hts (.arrayClass .int) (by decide +kernel)) rfl hK hP hD hS hA (fun _ => rfl) (by decide) (by decide) (Nat.le_of_ble_eq_true rfl) (Nat.le_of_ble_eq_true rfl) (Nat.le_of_ble_eq_true rfl) dX6_init_41 (fun q5 cN H hKn hP hD hS => ?_)
  obtain rfl : cN = cA 0 := cA_int hKn rfl
  clear hKn
  rw [List.append_assoc] at hP hD
  have hP : va_P D vwCl (ws.set q0 (h0, .inr (6, [.ref q1, .int 0, .ref q2, .int 0, .ref q3, .ref q4, .null, .int 0, .int 0, .int 0, .int 0, .int 0])) ++ [(q1, .inl (cA 1, 24, .inr (.inr (.inr (.inr (fun _ => none)))))), (q2, .inl (cA 2, 40, .inr (.inr (.inr (.inr (fun _ => none)))))), (q3, .inl (cA 3, 2, .inr (.inr (.inr (.inr (fun _ => none)))))), (q4, .inl (cA 4, 2, .inr (.inr (.inr (.inr (fun _ => none)))))), (q5, .inl (cA 0, 24, .inl (fun _ => 0)))]) H := hP
  have hD : va_D A (ws.set q0 (h0, .inr (6, [.ref q1, .int 0, .ref q2, .int 0, .ref q3, .ref q4, .null, .int 0, .int 0, .int 0, .int 0, .int 0])) ++ [(q1, .inl (cA 1, 24, .inr (.inr (.inr (.inr (fun _ => none)))))), (q2, .inl (cA 2, 40, .inr (.inr (.inr (.inr (fun _ => none)))))), (q3, .inl (cA 3, 2, .inr (.inr (.inr (.inr (fun _ => none)))))), (q4, .inl (cA 4, 2, .inr (.inr (.inr (.inr (fun _ => none)))))), (q5, .inl (cA 0, 24, .inl (fun _ => 0)))]) := hD
  refine W.widen (k := 5) (n := 92) (by omega) (by omega) ?_
  refine va_putF (D := D) (ci := 6) (v := .ref q5) (ty := .array .int) (C := RX6) (T := TX6) (N := 12) hx hb hts nX6 tyX6 tyX6_ok nmX6 hown hK hP hD hS q0 (xt_set hq) rfl 6 (by decide) k35 (fun _ h9 => h9) rfl hin rfl (tyX6_ok 6 (by decide)) rfl rfl (Nat.le_of_ble_eq_true rfl) dX6_init_43 (fun H locs hP hD hS => ?_)
  rw [xset_set hq] at hP hD
  have hP : va_P D vwCl (ws.set q0 (h0, .inr (6, [.ref q1, .int 0, .ref q2, .int 0, .ref q3, .ref q4, .ref q5, .int 0, .int 0, .int 0, .int 0, .int 0])) ++ [(q1, .inl (cA 1, 24, .inr (.inr (.inr (.inr (fun _ => none)))))), (q2, .inl (cA 2, 40, .inr (.inr (.inr (.inr (fun _ => none)))))), (q3, .inl (cA 3, 2, .inr (.inr (.inr (.inr (fun _ => none)))))), (q4, .inl (cA 4, 2, .inr (.inr (.inr (.inr (fun _ => none)))))), (q5, .inl (cA 0, 24, .inl (fun _ => 0)))]) H := hP
  have hD : va_D A (ws.set q0 (h0, .inr (6, [.ref q1, .int 0, .ref q2, .int 0, .ref q3, .ref q4, .ref q5, .int 0, .int 0, .int 0, .int 0, .int 0])) ++ [(q1, .inl (cA 1, 24, .inr (.inr (.inr (.inr (fun _ => none)))))), (q2, .inl (cA 2, 40, .inr (.inr (.inr (.inr (fun _ => none)))))), (q3, .inl (cA 3, 2, .inr (.inr (.inr (.inr (fun _ => none)))))), (q4, .inl (cA 4, 2, .inr (.inr (.inr (.inr (fun _ => none)))))), (q5, .inl (cA 0, 24, .inl (fun _ => 0)))]) := hD
  obtain ⟨V, eV⟩ : ∃ z : va_W, z = ws.set q0 (h0, .inr (6, stI q1 q2 q3 q4 q5)) := ⟨_, rfl⟩
  have hV0 : V[q0]? = some (h0, .inr (6, stI q1 q2 q3 q4 q5)) := by rw [eV]; exact List.getElem?_set_self hq
  obtain ⟨P, eP⟩ : ∃ z : va_W, z = [] := ⟨_, rfl⟩
  have hP : va_P D vwCl ((V ++ (st5 cA q1 q2 q3 q4 q5 (fun _ => none) (fun _ => none) (fun _ => none) (fun _ => none) ++ P)) ++ []) H := by rw [eV, eP, List.append_nil, List.append_nil]; exact hP
  have hD : va_D A ((V ++ (st5 cA q1 q2 q3 q4 q5 (fun _ => none) (fun _ => none) (fun _ => none) (fun _ => none) ++ P)) ++ []) := by rw [eV, eP, List.append_nil, List.append_nil]; exact hD
  refine lv_iconst (v := 0) hx hb dX6_init_46 (by decide) ?_
  refine lv_istore_n (lv' := [(1, .int 0), (0, .ref h0)]) hx hb dX6_init_47 rfl hl (by decide) rfl (fun ls hl => ?_)
  have hl : lv_has ls 2 [(1, .int (nI 0)), (0, .ref h0)] := hl
  refine W_measC (I := fun n9 H locs ls cells slots => ∃ (i : Nat) (f : Nat → Option Nat) (T L : va_W), i + n9 = 24 ∧ mkTwo eTk (.inl (cA 0, 4, .inl (fun _ => 0))) f T L i ∧ lv_has ls 2 [(1, .int (nI i)), (0, .ref h0)] ∧ va_P D vwCl ((V ++ (st5 cA q1 q2 q3 q4 q5 f (fun _ => none) (fun _ => none) (fun _ => none) ++ P)) ++ (T ++ L)) H ∧ va_D A ((V ++ (st5 cA q1 q2 q3 q4 q5 f (fun _ => none) (fun _ => none) (fun _ => none) ++ P)) ++ (T ++ L)) ∧ va_S A s.heap H locs ∧ cells = 5 + 2 * i ∧ slots = 92 + 21 * i) 24 ⟨0, (fun _ => none), [], [], rfl, mkTwo.z, hl, hP, hD, hS, rfl, rfl⟩ ?_
  intro n9 ih H locs ls cells slots hI
  obtain ⟨i, f, T, L, hi, hm, hl, hP, hD, hS, rfl, rfl⟩ := hI
  refine lv_iload_n hx hb dX6_init_48 rfl (lv_at hl 0 rfl) ?_
  refine lv_aload_n hx hb dX6_init_49 rfl (lv_at hl 1 rfl) ?_
  refine va_get (D := D) (C := RX6) (T := TX6) (N := 12) (ci := 6) (v := .ref q1) hx hb hts nX6 hown hK hP q0 (xv_old (xv_old hV0)) rfl 0 (by decide) k11 (fun _ h9 => h9) rfl dX6_init_50 ?_
  refine va_alen (v := 24) hx hb hK hP (V.length + 0) 1 (xv_old (xv_at (k := 0) rfl)) rfl rfl dX6_init_53 ?_
  refine lv_icmp_ge (tgt := 77) hx hb dX6_init_54 (by decide) (fun c1 => ?_) (fun c1 => ?_)
  rotate_left
  · have hi2 : i < 24 := Nat.not_le.mp (fun z => c1 ((nI_leI (a := 24) (b := i) (by decide) (by omega)).mpr z))
    obtain ⟨W0, eW0⟩ : ∃ z : va_W, z = (V ++ (st5 cA q1 q2 q3 q4 q5 f (fun _ => none) (fun _ => none) (fun _ => none) ++ P)) ++ (T ++ L) := ⟨_, rfl⟩
    rw [← eW0] at hP hD
    refine lv_aload_n hx hb dX6_init_57 rfl (lv_at hl 1 rfl) ?_
    refine va_get (D := D) (C := RX6) (T := TX6) (N := 12) (ci := 6) (v := .ref q1) hx hb hts nX6 hown hK hP q0 (by rw [eW0]; exact xv_old (xv_old hV0)) rfl 0 (by decide) k11 (fun _ h9 => h9) rfl dX6_init_58 ?_
    refine lv_iload_n hx hb dX6_init_61 rfl (lv_at hl 0 rfl) ?_
    refine va_new (ci := 7) (fs := [.int 0, .null, .int 0, .int 0, .int 0, .int 0, .int 0, .int 0, .int 0, .int 0, .int 0, .int 0, .int 0, .int 0, .int 0, .int 0, .int 0]) (C := RX7) (T := TX7) (N := 17) hx hb hts nX7 tyX7 tyX7_ok hown (hts (.classLink RX6 9 RX7) (by decide +kernel)) (hts (.instantiable RX7 17) (by decide +kernel)) (hts (.initialized RX7) (by decide +kernel)) hK hP hD hS hA rfl (fun j hj => by rcases (show j = 0 ∨ j = 1 ∨ j = 2 ∨ j = 3 ∨ j = 4 ∨ j = 5 ∨ j = 6 ∨ j = 7 ∨ j = 8 ∨ j = 9 ∨ j = 10 ∨ j = 11 ∨ j = 12 ∨ j = 13 ∨ j = 14 ∨ j = 15 ∨ j = 16 by omega) with rfl | rfl | rfl | rfl | rfl | rfl | rfl | rfl | rfl | rfl | rfl | rfl | rfl | rfl | rfl | rfl | rfl <;> rfl) (show 5 + 2 * i + 1 ≤ 99 by omega) (show 92 + 21 * i + 17 ≤ 1226 by omega) dX6_init_62 (fun q H hP hD hS => ?_)
    refine lv_dup hx hb dX6_init_65 rfl ?_
    refine lv_iload_n hx hb dX6_init_66 rfl (lv_at hl 0 rfl) ?_
    refine x_Iv (As := [.int (nI i)]) (rest0 := [.ref q, .int (nI i), .ref q1]) (fun _ => True) (fun _ _ _ _ _ => trivial) (fun _ _ _ => trivial) ⟨hx, hb, hml, hown, hts⟩ (Met.andT (c_X7_init l D cA tr (W0 ++ [(q, .inr (7, [.int 0, .null, .int 0, .int 0, .int 0, .int 0, .int 0, .int 0, .int 0, .int 0, .int 0, .int 0, .int 0, .int 0, .int 0, .int 0, .int 0]))]) H.size W0.length q xv_new (nI i))) (cwI 1 hts gX6_init_X7_init rfl rfl rfl (hts (.initialized RX7) (by decide +kernel)) (hts (.methodLink RX6 39 yX7_init) (by decide +kernel)) (hts (.instanceMethod yX7_init) (by decide +kernel)) rfl (by decide +kernel) ⟨Nat.le_of_ble_eq_true rfl, Nat.le_of_ble_eq_true rfl⟩) hK hP hD hS hA hl.1 rfl rfl (Nat.le_of_ble_eq_true rfl) ⟨(show 5 + 2 * i + 1 + 1 ≤ 99 by omega), (show 92 + 21 * i + 17 + 4 ≤ 1226 by omega)⟩ dX6_init_67 (fun u H locs _ hP hD hS => ?_)
    rw [xv_put, eW0] at hP hD
    have hP : va_P D vwCl ((V ++ (st5 cA q1 q2 q3 q4 q5 f (fun _ => none) (fun _ => none) (fun _ => none) ++ P)) ++ ((T ++ [(q, eTk i u)]) ++ (L ++ [(u, (.inl (cA 0, 4, .inl (fun _ => 0))))]))) H := hP.perm two_perm
    have hD : va_D A ((V ++ (st5 cA q1 q2 q3 q4 q5 f (fun _ => none) (fun _ => none) (fun _ => none) ++ P)) ++ ((T ++ [(q, eTk i u)]) ++ (L ++ [(u, (.inl (cA 0, 4, .inl (fun _ => 0))))]))) := hD.perm two_perm
    refine va_astq hx hb hK hP hD hS (V.length + 0) 1 ((V ++ (st5 cA q1 q2 q3 q4 q5 f (fun _ => none) (fun _ => none) (fun _ => none) ++ P)).length + i) 7 (xv_old (xv_at (k := 0) rfl)) rfl (xv_at (xv_old (snoc_at hm.1))) rfl (vp_in_nI hi2 (by decide)) dX6_init_70 (fun H locs hP hD hS => ?_)
    rw [s5_set (by decide), nI_clamp (show i < 2 ^ 31 by omega)] at hP hD
    have hP : va_P D vwCl ((V ++ (st5 cA q1 q2 q3 q4 q5 (va_up f i (some q)) (fun _ => none) (fun _ => none) (fun _ => none) ++ P)) ++ ((T ++ [(q, eTk i u)]) ++ (L ++ [(u, (.inl (cA 0, 4, .inl (fun _ => 0))))]))) H := hP
    have hD : va_D A ((V ++ (st5 cA q1 q2 q3 q4 q5 (va_up f i (some q)) (fun _ => none) (fun _ => none) (fun _ => none) ++ P)) ++ ((T ++ [(q, eTk i u)]) ++ (L ++ [(u, (.inl (cA 0, 4, .inl (fun _ => 0))))]))) := hD
    refine lv_iinc (v := nI (i + 1)) (lv' := [(1, .int (nI (i + 1))), (0, .ref h0)]) hx hb dX6_init_71 hl (k := 0) rfl (show nI i + 1 = nI (i + 1) from nI_1 i) (by decide) rfl (fun ls hl => ?_)
    refine lv_goto (tgt := 48) hx hb dX6_init_74 (by decide) ?_
    exact ih (n9 - 1) (by omega) _ _ _ _ _ ⟨i + 1, _, _, _, by omega, hm.s, hl, hP, hD, hS, by omega, by omega⟩
  have hi3 : i = 24 := by have := (nI_leI (a := 24) (b := i) (by decide) (by omega)).mp c1; omega
  subst hi3
  obtain ⟨f1, ef1⟩ : ∃ z, z = f := ⟨_, rfl⟩
  obtain ⟨T1, eT1⟩ : ∃ z, z = T := ⟨_, rfl⟩
  obtain ⟨L1, eL1⟩ : ∃ z, z = L := ⟨_, rfl⟩
  rw [← ef1, ← eT1, ← eL1] at hP hD hm
  have hm1 := hm
  clear hm ih
  obtain ⟨P1, eP1⟩ : ∃ z : va_W, z = P ++ (T1 ++ L1) := ⟨_, rfl⟩
  have hP : va_P D vwCl ((V ++ (st5 cA q1 q2 q3 q4 q5 f1 (fun _ => none) (fun _ => none) (fun _ => none) ++ P1)) ++ []) H := by rw [eP1, List.append_nil]; simp only [List.append_assoc] at hP ⊢; exact hP
  have hD : va_D A ((V ++ (st5 cA q1 q2 q3 q4 q5 f1 (fun _ => none) (fun _ => none) (fun _ => none) ++ P1)) ++ []) := by rw [eP1, List.append_nil]; simp only [List.append_assoc] at hD ⊢; exact hD
  refine W.widen (k := 53) (n := 596) (by omega) (by omega) ?_
  refine lv_iconst (v := 0) hx hb dX6_init_77 (by decide) ?_
  refine lv_istore_n (lv' := [(1, .int 0), (0, .ref h0)]) hx hb dX6_init_78 rfl hl (by decide) rfl (fun ls hl => ?_)
  have hl : lv_has ls 2 [(1, .int (nI 0)), (0, .ref h0)] := hl
  refine W_measC (I := fun n9 H locs ls cells slots => ∃ (i : Nat) (f : Nat → Option Nat) (T : va_W), i + n9 = 40 ∧ mkOne eSc f T i ∧ lv_has ls 2 [(1, .int (nI i)), (0, .ref h0)] ∧ va_P D vwCl ((V ++ (st5 cA q1 q2 q3 q4 q5 f1 f (fun _ => none) (fun _ => none) ++ P1)) ++ T) H ∧ va_D A ((V ++ (st5 cA q1 q2 q3 q4 q5 f1 f (fun _ => none) (fun _ => none) ++ P1)) ++ T) ∧ va_S A s.heap H locs ∧ cells = 53 + 1 * i ∧ slots = 596 + 14 * i) 40 ⟨0, (fun _ => none), [], rfl, mkOne.z, hl, hP, hD, hS, rfl, rfl⟩ ?_
  intro n9 ih H locs ls cells slots hI
  obtain ⟨i, f, T, hi, hm, hl, hP, hD, hS, rfl, rfl⟩ := hI
  refine lv_iload_n hx hb dX6_init_79 rfl (lv_at hl 0 rfl) ?_
  refine lv_aload_n hx hb dX6_init_80 rfl (lv_at hl 1 rfl) ?_
  refine va_get (D := D) (C := RX6) (T := TX6) (N := 12) (ci := 6) (v := .ref q2) hx hb hts nX6 hown hK hP q0 (xv_old (xv_old hV0)) rfl 2 (by decide) k19 (fun _ h9 => h9) rfl dX6_init_81 ?_
  refine va_alen (v := 40) hx hb hK hP (V.length + 1) 2 (xv_old (xv_at (k := 1) rfl)) rfl rfl dX6_init_84 ?_
  refine lv_icmp_ge (tgt := 108) hx hb dX6_init_85 (by decide) (fun c1 => ?_) (fun c1 => ?_)
  rotate_left
  · have hi2 : i < 40 := Nat.not_le.mp (fun z => c1 ((nI_leI (a := 40) (b := i) (by decide) (by omega)).mpr z))
    obtain ⟨W0, eW0⟩ : ∃ z : va_W, z = (V ++ (st5 cA q1 q2 q3 q4 q5 f1 f (fun _ => none) (fun _ => none) ++ P1)) ++ T := ⟨_, rfl⟩
    rw [← eW0] at hP hD
    refine lv_aload_n hx hb dX6_init_88 rfl (lv_at hl 1 rfl) ?_
    refine va_get (D := D) (C := RX6) (T := TX6) (N := 12) (ci := 6) (v := .ref q2) hx hb hts nX6 hown hK hP q0 (by rw [eW0]; exact xv_old (xv_old hV0)) rfl 2 (by decide) k19 (fun _ h9 => h9) rfl dX6_init_89 ?_
    refine lv_iload_n hx hb dX6_init_92 rfl (lv_at hl 0 rfl) ?_
    refine va_new (ci := 5) (fs := [.int 0, .int 0, .int 0, .int 0, .int 0, .int 0, .int 0, .int 0, .int 0, .int 0, .int 0, .int 0, .int 0, .int 0]) (C := RX5) (T := TX5) (N := 14) hx hb hts nX5 tyX5 tyX5_ok hown (hts (.classLink RX6 17 RX5) (by decide +kernel)) (hts (.instantiable RX5 14) (by decide +kernel)) (hts (.initialized RX5) (by decide +kernel)) hK hP hD hS hA rfl (fun j hj => by rcases (show j = 0 ∨ j = 1 ∨ j = 2 ∨ j = 3 ∨ j = 4 ∨ j = 5 ∨ j = 6 ∨ j = 7 ∨ j = 8 ∨ j = 9 ∨ j = 10 ∨ j = 11 ∨ j = 12 ∨ j = 13 by omega) with rfl | rfl | rfl | rfl | rfl | rfl | rfl | rfl | rfl | rfl | rfl | rfl | rfl | rfl <;> rfl) (show 53 + 1 * i + 1 ≤ 99 by omega) (show 596 + 14 * i + 14 ≤ 1226 by omega) dX6_init_93 (fun q H hP hD hS => ?_)
    refine lv_dup hx hb dX6_init_96 rfl ?_
    refine lv_iload_n hx hb dX6_init_97 rfl (lv_at hl 0 rfl) ?_
    refine x_Iv (As := [.int (nI i)]) (rest0 := [.ref q, .int (nI i), .ref q2]) (fun _ => True) (fun _ _ _ _ _ => trivial) (fun _ _ _ => trivial) ⟨hx, hb, hml, hown, hts⟩ (Met.andT (c_X5_init l D cA tr (W0 ++ [(q, .inr (5, [.int 0, .int 0, .int 0, .int 0, .int 0, .int 0, .int 0, .int 0, .int 0, .int 0, .int 0, .int 0, .int 0, .int 0]))]) H.size W0.length q xv_new (nI i))) (cwI 1 hts gX6_init_X5_init rfl rfl rfl (hts (.initialized RX5) (by decide +kernel)) (hts (.methodLink RX6 42 yX5_init) (by decide +kernel)) (hts (.instanceMethod yX5_init) (by decide +kernel)) rfl (by decide +kernel) ⟨Nat.le_of_ble_eq_true rfl, Nat.le_of_ble_eq_true rfl⟩) hK hP hD hS hA hl.1 rfl rfl (Nat.le_of_ble_eq_true rfl) ⟨(show 53 + 1 * i + 1 + 0 ≤ 99 by omega), (show 596 + 14 * i + 14 + 0 ≤ 1226 by omega)⟩ dX6_init_98 (fun _u H locs _ hP hD hS => ?_)
    rw [xv_put, List.append_nil, eW0] at hP hD
    rw [List.append_assoc] at hP hD
    have hP : va_P D vwCl ((V ++ (st5 cA q1 q2 q3 q4 q5 f1 f (fun _ => none) (fun _ => none) ++ P1)) ++ (T ++ [(q, eSc i)])) H := hP
    have hD : va_D A ((V ++ (st5 cA q1 q2 q3 q4 q5 f1 f (fun _ => none) (fun _ => none) ++ P1)) ++ (T ++ [(q, eSc i)])) := hD
    refine va_astq hx hb hK hP hD hS (V.length + 1) 2 ((V ++ (st5 cA q1 q2 q3 q4 q5 f1 f (fun _ => none) (fun _ => none) ++ P1)).length + i) 5 (xv_old (xv_at (k := 1) rfl)) rfl (xv_at (snoc_at hm.1)) rfl (vp_in_nI hi2 (by decide)) dX6_init_101 (fun H locs hP hD hS => ?_)
    rw [s5_set (by decide), nI_clamp (show i < 2 ^ 31 by omega)] at hP hD
    have hP : va_P D vwCl ((V ++ (st5 cA q1 q2 q3 q4 q5 f1 (va_up f i (some q)) (fun _ => none) (fun _ => none) ++ P1)) ++ (T ++ [(q, eSc i)])) H := hP
    have hD : va_D A ((V ++ (st5 cA q1 q2 q3 q4 q5 f1 (va_up f i (some q)) (fun _ => none) (fun _ => none) ++ P1)) ++ (T ++ [(q, eSc i)])) := hD
    refine lv_iinc (v := nI (i + 1)) (lv' := [(1, .int (nI (i + 1))), (0, .ref h0)]) hx hb dX6_init_102 hl (k := 0) rfl (show nI i + 1 = nI (i + 1) from nI_1 i) (by decide) rfl (fun ls hl => ?_)
    refine lv_goto (tgt := 79) hx hb dX6_init_105 (by decide) ?_
    exact ih (n9 - 1) (by omega) _ _ _ _ _ ⟨i + 1, _, _, by omega, hm.s, hl, hP, hD, hS, by omega, by omega⟩
  have hi3 : i = 40 := by have := (nI_leI (a := 40) (b := i) (by decide) (by omega)).mp c1; omega
  subst hi3
  obtain ⟨f2, ef2⟩ : ∃ z, z = f := ⟨_, rfl⟩
  obtain ⟨T2, eT2⟩ : ∃ z, z = T := ⟨_, rfl⟩
  rw [← ef2, ← eT2] at hP hD hm
  have hm2 := hm
  clear hm ih
  obtain ⟨P2, eP2⟩ : ∃ z : va_W, z = P1 ++ T2 := ⟨_, rfl⟩
  have hP : va_P D vwCl ((V ++ (st5 cA q1 q2 q3 q4 q5 f1 f2 (fun _ => none) (fun _ => none) ++ P2)) ++ []) H := by rw [eP2, List.append_nil]; simp only [List.append_assoc] at hP ⊢; exact hP
  have hD : va_D A ((V ++ (st5 cA q1 q2 q3 q4 q5 f1 f2 (fun _ => none) (fun _ => none) ++ P2)) ++ []) := by rw [eP2, List.append_nil]; simp only [List.append_assoc] at hD ⊢; exact hD
  refine W.widen (k := 93) (n := 1156) (by omega) (by omega) ?_
  refine lv_iconst (v := 0) hx hb dX6_init_108 (by decide) ?_
  refine lv_istore_n (lv' := [(1, .int 0), (0, .ref h0)]) hx hb dX6_init_109 rfl hl (by decide) rfl (fun ls hl => ?_)
  have hl : lv_has ls 2 [(1, .int (nI 0)), (0, .ref h0)] := hl
  refine W_measC (I := fun n9 H locs ls cells slots => ∃ (i : Nat) (f : Nat → Option Nat) (T : va_W), i + n9 = 2 ∧ mkOne eLk f T i ∧ lv_has ls 2 [(1, .int (nI i)), (0, .ref h0)] ∧ va_P D vwCl ((V ++ (st5 cA q1 q2 q3 q4 q5 f1 f2 f (fun _ => none) ++ P2)) ++ T) H ∧ va_D A ((V ++ (st5 cA q1 q2 q3 q4 q5 f1 f2 f (fun _ => none) ++ P2)) ++ T) ∧ va_S A s.heap H locs ∧ cells = 93 + 1 * i ∧ slots = 1156 + 3 * i) 2 ⟨0, (fun _ => none), [], rfl, mkOne.z, hl, hP, hD, hS, rfl, rfl⟩ ?_
  intro n9 ih H locs ls cells slots hI
  obtain ⟨i, f, T, hi, hm, hl, hP, hD, hS, rfl, rfl⟩ := hI
  refine lv_iload_n hx hb dX6_init_110 rfl (lv_at hl 0 rfl) ?_
  refine lv_aload_n hx hb dX6_init_111 rfl (lv_at hl 1 rfl) ?_
  refine va_get (D := D) (C := RX6) (T := TX6) (N := 12) (ci := 6) (v := .ref q3) hx hb hts nX6 hown hK hP q0 (xv_old (xv_old hV0)) rfl 4 (by decide) k25 (fun _ h9 => h9) rfl dX6_init_112 ?_
  refine va_alen (v := 2) hx hb hK hP (V.length + 2) 3 (xv_old (xv_at (k := 2) rfl)) rfl rfl dX6_init_115 ?_
  refine lv_icmp_ge (tgt := 139) hx hb dX6_init_116 (by decide) (fun c1 => ?_) (fun c1 => ?_)
  rotate_left
  · have hi2 : i < 2 := Nat.not_le.mp (fun z => c1 ((nI_leI (a := 2) (b := i) (by decide) (by omega)).mpr z))
    obtain ⟨W0, eW0⟩ : ∃ z : va_W, z = (V ++ (st5 cA q1 q2 q3 q4 q5 f1 f2 f (fun _ => none) ++ P2)) ++ T := ⟨_, rfl⟩
    rw [← eW0] at hP hD
    refine lv_aload_n hx hb dX6_init_119 rfl (lv_at hl 1 rfl) ?_
    refine va_get (D := D) (C := RX6) (T := TX6) (N := 12) (ci := 6) (v := .ref q3) hx hb hts nX6 hown hK hP q0 (by rw [eW0]; exact xv_old (xv_old hV0)) rfl 4 (by decide) k25 (fun _ h9 => h9) rfl dX6_init_120 ?_
    refine lv_iload_n hx hb dX6_init_123 rfl (lv_at hl 0 rfl) ?_
    refine va_new (ci := 2) (fs := [.int 0, .int 0, .int 0]) (C := RX2) (T := TX2) (N := 3) hx hb hts nX2 tyX2 tyX2_ok hown (hts (.classLink RX6 23 RX2) (by decide +kernel)) (hts (.instantiable RX2 3) (by decide +kernel)) (hts (.initialized RX2) (by decide +kernel)) hK hP hD hS hA rfl (fun j hj => by rcases (show j = 0 ∨ j = 1 ∨ j = 2 by omega) with rfl | rfl | rfl <;> rfl) (show 93 + 1 * i + 1 ≤ 99 by omega) (show 1156 + 3 * i + 3 ≤ 1226 by omega) dX6_init_124 (fun q H hP hD hS => ?_)
    refine lv_dup hx hb dX6_init_127 rfl ?_
    refine lv_iload_n hx hb dX6_init_128 rfl (lv_at hl 0 rfl) ?_
    refine x_Iv (As := [.int (nI i)]) (rest0 := [.ref q, .int (nI i), .ref q3]) (fun _ => True) (fun _ _ _ _ _ => trivial) (fun _ _ _ => trivial) ⟨hx, hb, hml, hown, hts⟩ (Met.andT (c_X2_init l D cA tr (W0 ++ [(q, .inr (2, [.int 0, .int 0, .int 0]))]) H.size W0.length q xv_new (nI i))) (cwI 1 hts gX6_init_X2_init rfl rfl rfl (hts (.initialized RX2) (by decide +kernel)) (hts (.methodLink RX6 43 yX2_init) (by decide +kernel)) (hts (.instanceMethod yX2_init) (by decide +kernel)) rfl (by decide +kernel) ⟨Nat.le_of_ble_eq_true rfl, Nat.le_of_ble_eq_true rfl⟩) hK hP hD hS hA hl.1 rfl rfl (Nat.le_of_ble_eq_true rfl) ⟨(show 93 + 1 * i + 1 + 0 ≤ 99 by omega), (show 1156 + 3 * i + 3 + 0 ≤ 1226 by omega)⟩ dX6_init_129 (fun _u H locs _ hP hD hS => ?_)
    rw [xv_put, List.append_nil, eW0] at hP hD
    rw [List.append_assoc] at hP hD
    have hP : va_P D vwCl ((V ++ (st5 cA q1 q2 q3 q4 q5 f1 f2 f (fun _ => none) ++ P2)) ++ (T ++ [(q, eLk i)])) H := hP
    have hD : va_D A ((V ++ (st5 cA q1 q2 q3 q4 q5 f1 f2 f (fun _ => none) ++ P2)) ++ (T ++ [(q, eLk i)])) := hD
    refine va_astq hx hb hK hP hD hS (V.length + 2) 3 ((V ++ (st5 cA q1 q2 q3 q4 q5 f1 f2 f (fun _ => none) ++ P2)).length + i) 2 (xv_old (xv_at (k := 2) rfl)) rfl (xv_at (snoc_at hm.1)) rfl (vp_in_nI hi2 (by decide)) dX6_init_132 (fun H locs hP hD hS => ?_)
    rw [s5_set (by decide), nI_clamp (show i < 2 ^ 31 by omega)] at hP hD
    have hP : va_P D vwCl ((V ++ (st5 cA q1 q2 q3 q4 q5 f1 f2 (va_up f i (some q)) (fun _ => none) ++ P2)) ++ (T ++ [(q, eLk i)])) H := hP
    have hD : va_D A ((V ++ (st5 cA q1 q2 q3 q4 q5 f1 f2 (va_up f i (some q)) (fun _ => none) ++ P2)) ++ (T ++ [(q, eLk i)])) := hD
    refine lv_iinc (v := nI (i + 1)) (lv' := [(1, .int (nI (i + 1))), (0, .ref h0)]) hx hb dX6_init_133 hl (k := 0) rfl (show nI i + 1 = nI (i + 1) from nI_1 i) (by decide) rfl (fun ls hl => ?_)
    refine lv_goto (tgt := 110) hx hb dX6_init_136 (by decide) ?_
    exact ih (n9 - 1) (by omega) _ _ _ _ _ ⟨i + 1, _, _, by omega, hm.s, hl, hP, hD, hS, by omega, by omega⟩
  have hi3 : i = 2 := by have := (nI_leI (a := 2) (b := i) (by decide) (by omega)).mp c1; omega
  subst hi3
  obtain ⟨f3, ef3⟩ : ∃ z, z = f := ⟨_, rfl⟩
  obtain ⟨T3, eT3⟩ : ∃ z, z = T := ⟨_, rfl⟩
  rw [← ef3, ← eT3] at hP hD hm
  have hm3 := hm
  clear hm ih
  obtain ⟨P3, eP3⟩ : ∃ z : va_W, z = P2 ++ T3 := ⟨_, rfl⟩
  have hP : va_P D vwCl ((V ++ (st5 cA q1 q2 q3 q4 q5 f1 f2 f3 (fun _ => none) ++ P3)) ++ []) H := by rw [eP3, List.append_nil]; simp only [List.append_assoc] at hP ⊢; exact hP
  have hD : va_D A ((V ++ (st5 cA q1 q2 q3 q4 q5 f1 f2 f3 (fun _ => none) ++ P3)) ++ []) := by rw [eP3, List.append_nil]; simp only [List.append_assoc] at hD ⊢; exact hD
  refine W.widen (k := 95) (n := 1162) (by omega) (by omega) ?_
  refine lv_iconst (v := 0) hx hb dX6_init_139 (by decide) ?_
  refine lv_istore_n (lv' := [(1, .int 0), (0, .ref h0)]) hx hb dX6_init_140 rfl hl (by decide) rfl (fun ls hl => ?_)
  have hl : lv_has ls 2 [(1, .int (nI 0)), (0, .ref h0)] := hl
  refine W_measC (I := fun n9 H locs ls cells slots => ∃ (i : Nat) (f : Nat → Option Nat) (T L : va_W), i + n9 = 2 ∧ mkTwo eCh (.inl (cA 0, 27, .inl (fun _ => 0))) f T L i ∧ lv_has ls 2 [(1, .int (nI i)), (0, .ref h0)] ∧ va_P D vwCl ((V ++ (st5 cA q1 q2 q3 q4 q5 f1 f2 f3 f ++ P3)) ++ (T ++ L)) H ∧ va_D A ((V ++ (st5 cA q1 q2 q3 q4 q5 f1 f2 f3 f ++ P3)) ++ (T ++ L)) ∧ va_S A s.heap H locs ∧ cells = 95 + 2 * i ∧ slots = 1162 + 32 * i) 2 ⟨0, (fun _ => none), [], [], rfl, mkTwo.z, hl, hP, hD, hS, rfl, rfl⟩ ?_
  intro n9 ih H locs ls cells slots hI
  obtain ⟨i, f, T, L, hi, hm, hl, hP, hD, hS, rfl, rfl⟩ := hI
  refine lv_iload_n hx hb dX6_init_141 rfl (lv_at hl 0 rfl) ?_
  refine lv_aload_n hx hb dX6_init_142 rfl (lv_at hl 1 rfl) ?_
  refine va_get (D := D) (C := RX6) (T := TX6) (N := 12) (ci := 6) (v := .ref q4) hx hb hts nX6 hown hK hP q0 (xv_old (xv_old hV0)) rfl 5 (by decide) k31 (fun _ h9 => h9) rfl dX6_init_143 ?_
  refine va_alen (v := 2) hx hb hK hP (V.length + 3) 4 (xv_old (xv_at (k := 3) rfl)) rfl rfl dX6_init_146 ?_
  refine lv_icmp_ge (tgt := 169) hx hb dX6_init_147 (by decide) (fun c1 => ?_) (fun c1 => ?_)
  rotate_left
  · have hi2 : i < 2 := Nat.not_le.mp (fun z => c1 ((nI_leI (a := 2) (b := i) (by decide) (by omega)).mpr z))
    obtain ⟨W0, eW0⟩ : ∃ z : va_W, z = (V ++ (st5 cA q1 q2 q3 q4 q5 f1 f2 f3 f ++ P3)) ++ (T ++ L) := ⟨_, rfl⟩
    rw [← eW0] at hP hD
    refine lv_aload_n hx hb dX6_init_150 rfl (lv_at hl 1 rfl) ?_
    refine va_get (D := D) (C := RX6) (T := TX6) (N := 12) (ci := 6) (v := .ref q4) hx hb hts nX6 hown hK hP q0 (by rw [eW0]; exact xv_old (xv_old hV0)) rfl 5 (by decide) k31 (fun _ h9 => h9) rfl dX6_init_151 ?_
    refine lv_iload_n hx hb dX6_init_154 rfl (lv_at hl 0 rfl) ?_
    refine va_new (ci := 1) (fs := [.int 0, .null, .int 0, .int 0, .int 0]) (C := RX1) (T := TX1) (N := 5) hx hb hts nX1 tyX1 tyX1_ok hown (hts (.classLink RX6 29 RX1) (by decide +kernel)) (hts (.instantiable RX1 5) (by decide +kernel)) (hts (.initialized RX1) (by decide +kernel)) hK hP hD hS hA rfl (fun j hj => by rcases (show j = 0 ∨ j = 1 ∨ j = 2 ∨ j = 3 ∨ j = 4 by omega) with rfl | rfl | rfl | rfl | rfl <;> rfl) (show 95 + 2 * i + 1 ≤ 99 by omega) (show 1162 + 32 * i + 5 ≤ 1226 by omega) dX6_init_155 (fun q H hP hD hS => ?_)
    refine lv_dup hx hb dX6_init_158 rfl ?_
    refine x_IvN (As := []) (rest0 := [.ref q, .int (nI i), .ref q4]) (fun _ => True) (fun _ _ _ _ _ => trivial) (fun _ _ _ => trivial) ⟨hx, hb, hml, hown, hts⟩ (Met.andT (c_X1_init l D cA tr (W0 ++ [(q, .inr (1, [.int 0, .null, .int 0, .int 0, .int 0]))]) H.size W0.length q xv_new)) ⟨va_cnB 0 hts gX6_init_X1_init_n44 rfl rfl rfl hN1 (hts (.initialized RX1) (by decide +kernel)) (by decide +kernel) ⟨Nat.le_of_ble_eq_true rfl, Nat.le_of_ble_eq_true rfl⟩, rfl, hts (.instanceMethod yX1_init) (by decide +kernel)⟩ hK hP hD hS hA hl.1 rfl rfl (Nat.le_of_ble_eq_true rfl) ⟨(show 95 + 2 * i + 1 + 1 ≤ 99 by omega), (show 1162 + 32 * i + 5 + 27 ≤ 1226 by omega)⟩ dX6_init_159 (fun u H locs _ hP hD hS => ?_)
    rw [xv_put, eW0] at hP hD
    have hP : va_P D vwCl ((V ++ (st5 cA q1 q2 q3 q4 q5 f1 f2 f3 f ++ P3)) ++ ((T ++ [(q, eCh i u)]) ++ (L ++ [(u, (.inl (cA 0, 27, .inl (fun _ => 0))))]))) H := hP.perm two_perm
    have hD : va_D A ((V ++ (st5 cA q1 q2 q3 q4 q5 f1 f2 f3 f ++ P3)) ++ ((T ++ [(q, eCh i u)]) ++ (L ++ [(u, (.inl (cA 0, 27, .inl (fun _ => 0))))]))) := hD.perm two_perm
    refine va_astq hx hb hK hP hD hS (V.length + 3) 4 ((V ++ (st5 cA q1 q2 q3 q4 q5 f1 f2 f3 f ++ P3)).length + i) 1 (xv_old (xv_at (k := 3) rfl)) rfl (xv_at (xv_old (snoc_at hm.1))) rfl (vp_in_nI hi2 (by decide)) dX6_init_162 (fun H locs hP hD hS => ?_)
    rw [s5_set (by decide), nI_clamp (show i < 2 ^ 31 by omega)] at hP hD
    have hP : va_P D vwCl ((V ++ (st5 cA q1 q2 q3 q4 q5 f1 f2 f3 (va_up f i (some q)) ++ P3)) ++ ((T ++ [(q, eCh i u)]) ++ (L ++ [(u, (.inl (cA 0, 27, .inl (fun _ => 0))))]))) H := hP
    have hD : va_D A ((V ++ (st5 cA q1 q2 q3 q4 q5 f1 f2 f3 (va_up f i (some q)) ++ P3)) ++ ((T ++ [(q, eCh i u)]) ++ (L ++ [(u, (.inl (cA 0, 27, .inl (fun _ => 0))))]))) := hD
    refine lv_iinc (v := nI (i + 1)) (lv' := [(1, .int (nI (i + 1))), (0, .ref h0)]) hx hb dX6_init_163 hl (k := 0) rfl (show nI i + 1 = nI (i + 1) from nI_1 i) (by decide) rfl (fun ls hl => ?_)
    refine lv_goto (tgt := 141) hx hb dX6_init_166 (by decide) ?_
    exact ih (n9 - 1) (by omega) _ _ _ _ _ ⟨i + 1, _, _, _, by omega, hm.s, hl, hP, hD, hS, by omega, by omega⟩
  have hi3 : i = 2 := by have := (nI_leI (a := 2) (b := i) (by decide) (by omega)).mp c1; omega
  subst hi3
  obtain ⟨f4, ef4⟩ : ∃ z, z = f := ⟨_, rfl⟩
  obtain ⟨T4, eT4⟩ : ∃ z, z = T := ⟨_, rfl⟩
  obtain ⟨L4, eL4⟩ : ∃ z, z = L := ⟨_, rfl⟩
  rw [← ef4, ← eT4, ← eL4] at hP hD hm
  have hm4 := hm
  clear hm ih
  rw [eP3, eP2, eP1, eP, eV] at hP hD
  simp only [List.append_assoc, List.nil_append] at hP hD
  obtain ⟨u, u0, hP, hD⟩ := st_done hq hm1 hm2 hm3 hm4 hP hD
  refine W.widen (k := 99) (n := 1226) (by omega) (by omega) ?_
  exact W.vret hx hb hr (fun t ht hW => ⟨⟨u, rfl, u0, by rw [ht]; exact hP, va_K.moved hW.alike hK, hD⟩, hS.F ht⟩) hS.2.2 dX6_init_169 hlocks
