/-! CONSTRUCTORS: the object lies at place q0 of a world ws, with its fields as 'new' left them; what is made comes behind -/
theorem xws_id {ws : va_W} {q0 : Nat} {x : Nat × va_E} (h : ws[q0]? = some x) : ws = ws.set q0 x ++ [] := by
  obtain ⟨h1, h2⟩ := List.getElem?_eq_some_iff.mp h
  subst h2
  rw [List.append_nil, List.set_getElem_self]
theorem xt_set {ws T : va_W} {q0 : Nat} {x : Nat × va_E} (h : q0 < ws.length) : (ws.set q0 x ++ T)[q0]? = some x := by
  rw [List.getElem?_append_left (by rw [List.length_set]; exact h), List.getElem?_set_self h]
theorem xset_set {ws T : va_W} {q0 : Nat} {x y : Nat × va_E} (h : q0 < ws.length) : (ws.set q0 x ++ T).set q0 y = ws.set q0 y ++ T := by
  rw [List.set_append_left _ _ (by rw [List.length_set]; exact h), List.set_set]
theorem cA_int {D : va_G} {tys : List (ClassId × FieldType)} {s : State} {c1 c2 : ClassId} (h1 : va_K D vwCl (tys ++ [(c2, .int)]) s) (h2 : tys[0]? = some (c1, .int)) : c2 = c1 := by
  have e1 := (h1.2 0 (c1, .int) (by rw [List.getElem?_append_left (List.getElem?_eq_some_iff.mp h2).1]; exact h2)).2
  have e2 := (h1.2 tys.length (c2, .int) (by rw [List.getElem?_append_right (Nat.le_refl _)]; simp)).2
  exact Option.some.inj (e2.symm.trans e1)
set_option maxHeartbeats 4000000 in
set_option maxRecDepth 100000 in
/-- Task(k) -/
theorem c_X7_init (l : Launch) (D : va_G) (cA : Nat → ClassId) (tr : List (ClassId × FieldType)) (ws : va_W) (sz : Nat) (q0 h0 : Nat) (he : ws[q0]? = some (h0, .inr (7, [.int 0, .null, .int 0, .int 0, .int 0, .int 0, .int 0, .int 0, .int 0, .int 0, .int 0, .int 0, .int 0, .int 0, .int 0, .int 0, .int 0]))) (k : Int32) : Met l yX7_init wsX7_init ({ frames := 1, cells := 1, slots := 4, locals := 12 }) (va_Pc [.ref h0, .int k] (inW D (tyB cA ++ tr) ws sz)) (va_Qv (fun _ : Nat => True) (fun u : Nat => outW D (tyB cA ++ tr) (va_A ws sz) (ws.set q0 (h0, .inr (7, [.int k, .ref u, .int 0, .int (-1), .int 0, .int 0, .int (-1), .int (-1), .int 0, .int 0, .int 0, .int 0, .int 0, .int 0, .int 0, .int 0, .int 0])) ++ [(u, .inl (cA 0, 4, .inl (fun _ => 0)))])) (va_A ws sz)) 1 4 (va_A ws sz) := by
  refine Met.ofW (cc := cX7_init) (maxL := 2) (ret := none) (by decide) rfl ?_
  intro p e s m args below meth c s₁ B hml hv
  obtain ⟨rfl, hsz, hP, hK, hD0⟩ := hv
  have hx := B.exec
  have hb := B.bytes
  have hr := B.returns
  have hts := atoms_spec (ws := wsX7_init) B.pre
  have hown : s.vm.findClass RX7 = some m.cls := findClass_of_methodNamed B.named
  have hlocks := B.notSynchronized
  have hin : meth.name = "<init>" := (name_of_methodNamed B.named B.method).1
  subst hsz
  have hD := hD0.self (sz := s.heap.size)
  clear hD0
  generalize hAe : va_A ws s.heap.size = A at hD ⊢
  have hA : ∀ q : Nat, s.heap.size ≤ q → A q := fun q h => by rw [← hAe]; exact Or.inr h
  clear hAe
  have hS : va_S A s.heap s.heap [] := va_S.rf
  have hq : q0 < ws.length := (List.getElem?_eq_some_iff.mp he).1
  have hl := lv_entry ([.ref h0, .int k]) (n := 2) (Nat.le_of_ble_eq_true rfl)
  rw [lg_entry_eq]
  generalize (lg_sl ([.ref h0, .int k]) ++ List.replicate (2 - (lg_sl ([.ref h0, .int k])).length) Slot.unset).toArray = ls at hl ⊢
  have hl : lv_has ls 2 [(0, .ref h0), (1, .int k)] := hl
  have nX7 : ∀ w ∈ u_ws RX7 TX7 17, w ∈ wsX7_init := by decide +kernel
  have k9 := hts (.fieldLink RX7 9 "ScopeRow$Task" "locals" "[I") (by decide +kernel)
  have k15 := hts (.fieldLink RX7 15 "ScopeRow$Task" "state" "I") (by decide +kernel)
  have k19 := hts (.fieldLink RX7 19 "ScopeRow$Task" "in" "I") (by decide +kernel)
  have k22 := hts (.fieldLink RX7 22 "ScopeRow$Task" "top" "I") (by decide +kernel)
  have k25 := hts (.fieldLink RX7 25 "ScopeRow$Task" "number" "I") (by decide +kernel)
  have hP : va_P D vwCl (ws.set q0 (h0, .inr (7, [.int 0, .null, .int 0, .int 0, .int 0, .int 0, .int 0, .int 0, .int 0, .int 0, .int 0, .int 0, .int 0, .int 0, .int 0, .int 0, .int 0])) ++ []) s.heap := by rw [← xws_id he]; exact hP
  have hD : va_D A (ws.set q0 (h0, .inr (7, [.int 0, .null, .int 0, .int 0, .int 0, .int 0, .int 0, .int 0, .int 0, .int 0, .int 0, .int 0, .int 0, .int 0, .int 0, .int 0, .int 0])) ++ []) := by rw [← xws_id he]; exact hD
  refine lv_aload_n hx hb dX7_init_0 rfl (lv_at hl 0 rfl) ?_
  refine W.objInit hx hb hown (hts (.methodLink RX7 3 objectInit) (by decide +kernel)) (hts (.instanceMethod objectInit) (by decide +kernel)) (hts _ (List.mem_cons_of_mem _ (List.mem_append_left _ (List.mem_of_getElem? (i := 2) rfl)))) rfl (by rw [hml]; exact hl.1) rfl dX7_init_1 (Nat.le_of_ble_eq_true rfl) (Nat.le_of_ble_eq_true rfl) ?_
  refine W.eq (g2 := F0 m 4 ls []) rfl ?_
  refine lv_aload_n hx hb dX7_init_4 rfl (lv_at hl 0 rfl) ?_
  refine lv_iconst (v := 4) hx hb dX7_init_5 (by decide) ?_
  refine va_newa (atype := .int) (ty := .int) (N' := 4) (a0 := (4, .inl (fun _ => 0))) hx hb (hts (.arrayClass .int) (by decide +kernel)) rfl hK hP hD hS hA (fun _ => rfl) (by decide) (by decide) (Nat.le_of_ble_eq_true rfl) (Nat.le_of_ble_eq_true rfl) (Nat.le_of_ble_eq_true rfl) dX7_init_6 (fun q1 cN H hKn hP hD hS => ?_)
  obtain rfl : cN = cA 0 := cA_int hKn rfl
  clear hKn
  rw [List.append_assoc] at hP hD
  have hP : va_P D vwCl (ws.set q0 (h0, .inr (7, [.int 0, .null, .int 0, .int 0, .int 0, .int 0, .int 0, .int 0, .int 0, .int 0, .int 0, .int 0, .int 0, .int 0, .int 0, .int 0, .int 0])) ++ [(q1, .inl (cA 0, 4, .inl (fun _ => 0)))]) H := hP
  have hD : va_D A (ws.set q0 (h0, .inr (7, [.int 0, .null, .int 0, .int 0, .int 0, .int 0, .int 0, .int 0, .int 0, .int 0, .int 0, .int 0, .int 0, .int 0, .int 0, .int 0, .int 0])) ++ [(q1, .inl (cA 0, 4, .inl (fun _ => 0)))]) := hD
  refine W.widen (k := 1) (n := 4) (by omega) (by omega) ?_
  refine va_putF (D := D) (ci := 7) (v := .ref q1) (ty := .array .int) (C := RX7) (T := TX7) (N := 17) hx hb hts nX7 tyX7 tyX7_ok nmX7 hown hK hP hD hS q0 (xt_set hq) rfl 1 (by decide) k9 (fun _ h9 => h9) rfl hin rfl (tyX7_ok 1 (by decide)) rfl rfl (Nat.le_of_ble_eq_true rfl) dX7_init_8 (fun H locs hP hD hS => ?_)
  rw [xset_set hq] at hP hD
  have hP : va_P D vwCl (ws.set q0 (h0, .inr (7, [.int 0, .ref q1, .int 0, .int 0, .int 0, .int 0, .int 0, .int 0, .int 0, .int 0, .int 0, .int 0, .int 0, .int 0, .int 0, .int 0, .int 0])) ++ [(q1, .inl (cA 0, 4, .inl (fun _ => 0)))]) H := hP
  have hD : va_D A (ws.set q0 (h0, .inr (7, [.int 0, .ref q1, .int 0, .int 0, .int 0, .int 0, .int 0, .int 0, .int 0, .int 0, .int 0, .int 0, .int 0, .int 0, .int 0, .int 0, .int 0])) ++ [(q1, .inl (cA 0, 4, .inl (fun _ => 0)))]) := hD
  refine lv_aload_n hx hb dX7_init_11 rfl (lv_at hl 0 rfl) ?_
  refine lv_iconst (v := (-1)) hx hb dX7_init_12 (by decide) ?_
  refine va_put (D := D) (ci := 7) (v := .int (-1)) (ty := .int) (C := RX7) (T := TX7) (N := 17) hx hb hts nX7 tyX7 tyX7_ok nmX7 hown hK hP hD hS q0 (xt_set hq) rfl 3 (by decide) k15 (fun _ h9 => h9) rfl (tyX7_ok 3 (by decide)) rfl rfl (Nat.le_of_ble_eq_true rfl) dX7_init_13 (fun H locs hP hD hS => ?_)
  rw [xset_set hq] at hP hD
  have hP : va_P D vwCl (ws.set q0 (h0, .inr (7, [.int 0, .ref q1, .int 0, .int (-1), .int 0, .int 0, .int 0, .int 0, .int 0, .int 0, .int 0, .int 0, .int 0, .int 0, .int 0, .int 0, .int 0])) ++ [(q1, .inl (cA 0, 4, .inl (fun _ => 0)))]) H := hP
  have hD : va_D A (ws.set q0 (h0, .inr (7, [.int 0, .ref q1, .int 0, .int (-1), .int 0, .int 0, .int 0, .int 0, .int 0, .int 0, .int 0, .int 0, .int 0, .int 0, .int 0, .int 0, .int 0])) ++ [(q1, .inl (cA 0, 4, .inl (fun _ => 0)))]) := hD
  refine lv_aload_n hx hb dX7_init_16 rfl (lv_at hl 0 rfl) ?_
  refine lv_iconst (v := (-1)) hx hb dX7_init_17 (by decide) ?_
  refine va_put (D := D) (ci := 7) (v := .int (-1)) (ty := .int) (C := RX7) (T := TX7) (N := 17) hx hb hts nX7 tyX7 tyX7_ok nmX7 hown hK hP hD hS q0 (xt_set hq) rfl 6 (by decide) k19 (fun _ h9 => h9) rfl (tyX7_ok 6 (by decide)) rfl rfl (Nat.le_of_ble_eq_true rfl) dX7_init_18 (fun H locs hP hD hS => ?_)
  rw [xset_set hq] at hP hD
  have hP : va_P D vwCl (ws.set q0 (h0, .inr (7, [.int 0, .ref q1, .int 0, .int (-1), .int 0, .int 0, .int (-1), .int 0, .int 0, .int 0, .int 0, .int 0, .int 0, .int 0, .int 0, .int 0, .int 0])) ++ [(q1, .inl (cA 0, 4, .inl (fun _ => 0)))]) H := hP
  have hD : va_D A (ws.set q0 (h0, .inr (7, [.int 0, .ref q1, .int 0, .int (-1), .int 0, .int 0, .int (-1), .int 0, .int 0, .int 0, .int 0, .int 0, .int 0, .int 0, .int 0, .int 0, .int 0])) ++ [(q1, .inl (cA 0, 4, .inl (fun _ => 0)))]) := hD
  refine lv_aload_n hx hb dX7_init_21 rfl (lv_at hl 0 rfl) ?_
  refine lv_iconst (v := (-1)) hx hb dX7_init_22 (by decide) ?_
  refine va_put (D := D) (ci := 7) (v := .int (-1)) (ty := .int) (C := RX7) (T := TX7) (N := 17) hx hb hts nX7 tyX7 tyX7_ok nmX7 hown hK hP hD hS q0 (xt_set hq) rfl 7 (by decide) k22 (fun _ h9 => h9) rfl (tyX7_ok 7 (by decide)) rfl rfl (Nat.le_of_ble_eq_true rfl) dX7_init_23 (fun H locs hP hD hS => ?_)
  rw [xset_set hq] at hP hD
  have hP : va_P D vwCl (ws.set q0 (h0, .inr (7, [.int 0, .ref q1, .int 0, .int (-1), .int 0, .int 0, .int (-1), .int (-1), .int 0, .int 0, .int 0, .int 0, .int 0, .int 0, .int 0, .int 0, .int 0])) ++ [(q1, .inl (cA 0, 4, .inl (fun _ => 0)))]) H := hP
  have hD : va_D A (ws.set q0 (h0, .inr (7, [.int 0, .ref q1, .int 0, .int (-1), .int 0, .int 0, .int (-1), .int (-1), .int 0, .int 0, .int 0, .int 0, .int 0, .int 0, .int 0, .int 0, .int 0])) ++ [(q1, .inl (cA 0, 4, .inl (fun _ => 0)))]) := hD
  refine lv_aload_n hx hb dX7_init_26 rfl (lv_at hl 0 rfl) ?_
  refine lv_iload_n hx hb dX7_init_27 rfl (lv_at hl 1 rfl) ?_
  refine va_putF (D := D) (ci := 7) (v := .int k) (ty := .int) (C := RX7) (T := TX7) (N := 17) hx hb hts nX7 tyX7 tyX7_ok nmX7 hown hK hP hD hS q0 (xt_set hq) rfl 0 (by decide) k25 (fun _ h9 => h9) rfl hin rfl (tyX7_ok 0 (by decide)) rfl rfl (Nat.le_of_ble_eq_true rfl) dX7_init_28 (fun H locs hP hD hS => ?_)
  rw [xset_set hq] at hP hD
  have hP : va_P D vwCl (ws.set q0 (h0, .inr (7, [.int k, .ref q1, .int 0, .int (-1), .int 0, .int 0, .int (-1), .int (-1), .int 0, .int 0, .int 0, .int 0, .int 0, .int 0, .int 0, .int 0, .int 0])) ++ [(q1, .inl (cA 0, 4, .inl (fun _ => 0)))]) H := hP
  have hD : va_D A (ws.set q0 (h0, .inr (7, [.int k, .ref q1, .int 0, .int (-1), .int 0, .int 0, .int (-1), .int (-1), .int 0, .int 0, .int 0, .int 0, .int 0, .int 0, .int 0, .int 0, .int 0])) ++ [(q1, .inl (cA 0, 4, .inl (fun _ => 0)))]) := hD
  exact W.vret hx hb hr (fun t ht hW => ⟨⟨q1, rfl, trivial, by rw [ht]; exact hP, va_K.moved hW.alike hK, hD⟩, hS.F ht⟩) hS.2.2 dX7_init_31 hlocks

set_option maxHeartbeats 4000000 in
set_option maxRecDepth 100000 in
/-- Scope(k) -/
theorem c_X5_init (l : Launch) (D : va_G) (cA : Nat → ClassId) (tr : List (ClassId × FieldType)) (ws : va_W) (sz : Nat) (q0 h0 : Nat) (he : ws[q0]? = some (h0, .inr (5, [.int 0, .int 0, .int 0, .int 0, .int 0, .int 0, .int 0, .int 0, .int 0, .int 0, .int 0, .int 0, .int 0, .int 0]))) (k : Int32) : Met l yX5_init wsX5_init ({ frames := 1, cells := 0, slots := 0, locals := 12 }) (va_Pc [.ref h0, .int k] (inW D (tyB cA ++ tr) ws sz)) (va_Qv (fun _ : Unit => True) (fun _ : Unit => outW D (tyB cA ++ tr) (va_A ws sz) (ws.set q0 (h0, .inr (5, [.int k, .int (-1), .int 0, .int 0, .int 0, .int 0, .int 0, .int 0, .int 0, .int 0, .int 0, .int 0, .int 0, .int (-1)])) ++ [])) (va_A ws sz)) 0 0 (va_A ws sz) := by
  refine Met.ofW (cc := cX5_init) (maxL := 2) (ret := none) (by decide) rfl ?_
  intro p e s m args below meth c s₁ B hml hv
  obtain ⟨rfl, hsz, hP, hK, hD0⟩ := hv
  have hx := B.exec
  have hb := B.bytes
  have hr := B.returns
  have hts := atoms_spec (ws := wsX5_init) B.pre
  have hown : s.vm.findClass RX5 = some m.cls := findClass_of_methodNamed B.named
  have hlocks := B.notSynchronized
  have hin : meth.name = "<init>" := (name_of_methodNamed B.named B.method).1
  subst hsz
  have hD := hD0.self (sz := s.heap.size)
  clear hD0
  generalize hAe : va_A ws s.heap.size = A at hD ⊢
  have hA : ∀ q : Nat, s.heap.size ≤ q → A q := fun q h => by rw [← hAe]; exact Or.inr h
  clear hAe
  have hS : va_S A s.heap s.heap [] := va_S.rf
  have hq : q0 < ws.length := (List.getElem?_eq_some_iff.mp he).1
  have hl := lv_entry ([.ref h0, .int k]) (n := 2) (Nat.le_of_ble_eq_true rfl)
  rw [lg_entry_eq]
  generalize (lg_sl ([.ref h0, .int k]) ++ List.replicate (2 - (lg_sl ([.ref h0, .int k])).length) Slot.unset).toArray = ls at hl ⊢
  have hl : lv_has ls 2 [(0, .ref h0), (1, .int k)] := hl
  have nX5 : ∀ w ∈ u_ws RX5 TX5 14, w ∈ wsX5_init := by decide +kernel
  have k9 := hts (.fieldLink RX5 9 "ScopeRow$Scope" "state" "I") (by decide +kernel)
  have k15 := hts (.fieldLink RX5 15 "ScopeRow$Scope" "firstFailed" "I") (by decide +kernel)
  have k18 := hts (.fieldLink RX5 18 "ScopeRow$Scope" "number" "I") (by decide +kernel)
  have hP : va_P D vwCl (ws.set q0 (h0, .inr (5, [.int 0, .int 0, .int 0, .int 0, .int 0, .int 0, .int 0, .int 0, .int 0, .int 0, .int 0, .int 0, .int 0, .int 0])) ++ []) s.heap := by rw [← xws_id he]; exact hP
  have hD : va_D A (ws.set q0 (h0, .inr (5, [.int 0, .int 0, .int 0, .int 0, .int 0, .int 0, .int 0, .int 0, .int 0, .int 0, .int 0, .int 0, .int 0, .int 0])) ++ []) := by rw [← xws_id he]; exact hD
  refine lv_aload_n hx hb dX5_init_0 rfl (lv_at hl 0 rfl) ?_
  refine W.objInit hx hb hown (hts (.methodLink RX5 3 objectInit) (by decide +kernel)) (hts (.instanceMethod objectInit) (by decide +kernel)) (hts _ (List.mem_cons_of_mem _ (List.mem_append_left _ (List.mem_of_getElem? (i := 2) rfl)))) rfl (by rw [hml]; exact hl.1) rfl dX5_init_1 (Nat.le_of_ble_eq_true rfl) (Nat.le_of_ble_eq_true rfl) ?_
  refine W.eq (g2 := F0 m 4 ls []) rfl ?_
  refine lv_aload_n hx hb dX5_init_4 rfl (lv_at hl 0 rfl) ?_
  refine lv_iconst (v := (-1)) hx hb dX5_init_5 (by decide) ?_
  refine va_put (D := D) (ci := 5) (v := .int (-1)) (ty := .int) (C := RX5) (T := TX5) (N := 14) hx hb hts nX5 tyX5 tyX5_ok nmX5 hown hK hP hD hS q0 (xt_set hq) rfl 1 (by decide) k9 (fun _ h9 => h9) rfl (tyX5_ok 1 (by decide)) rfl rfl (Nat.le_of_ble_eq_true rfl) dX5_init_6 (fun H locs hP hD hS => ?_)
  rw [xset_set hq] at hP hD
  have hP : va_P D vwCl (ws.set q0 (h0, .inr (5, [.int 0, .int (-1), .int 0, .int 0, .int 0, .int 0, .int 0, .int 0, .int 0, .int 0, .int 0, .int 0, .int 0, .int 0])) ++ []) H := hP
  have hD : va_D A (ws.set q0 (h0, .inr (5, [.int 0, .int (-1), .int 0, .int 0, .int 0, .int 0, .int 0, .int 0, .int 0, .int 0, .int 0, .int 0, .int 0, .int 0])) ++ []) := hD
  refine lv_aload_n hx hb dX5_init_9 rfl (lv_at hl 0 rfl) ?_
  refine lv_iconst (v := (-1)) hx hb dX5_init_10 (by decide) ?_
  refine va_put (D := D) (ci := 5) (v := .int (-1)) (ty := .int) (C := RX5) (T := TX5) (N := 14) hx hb hts nX5 tyX5 tyX5_ok nmX5 hown hK hP hD hS q0 (xt_set hq) rfl 13 (by decide) k15 (fun _ h9 => h9) rfl (tyX5_ok 13 (by decide)) rfl rfl (Nat.le_of_ble_eq_true rfl) dX5_init_11 (fun H locs hP hD hS => ?_)
  rw [xset_set hq] at hP hD
  have hP : va_P D vwCl (ws.set q0 (h0, .inr (5, [.int 0, .int (-1), .int 0, .int 0, .int 0, .int 0, .int 0, .int 0, .int 0, .int 0, .int 0, .int 0, .int 0, .int (-1)])) ++ []) H := hP
  have hD : va_D A (ws.set q0 (h0, .inr (5, [.int 0, .int (-1), .int 0, .int 0, .int 0, .int 0, .int 0, .int 0, .int 0, .int 0, .int 0, .int 0, .int 0, .int (-1)])) ++ []) := hD
  refine lv_aload_n hx hb dX5_init_14 rfl (lv_at hl 0 rfl) ?_
  refine lv_iload_n hx hb dX5_init_15 rfl (lv_at hl 1 rfl) ?_
  refine va_putF (D := D) (ci := 5) (v := .int k) (ty := .int) (C := RX5) (T := TX5) (N := 14) hx hb hts nX5 tyX5 tyX5_ok nmX5 hown hK hP hD hS q0 (xt_set hq) rfl 0 (by decide) k18 (fun _ h9 => h9) rfl hin rfl (tyX5_ok 0 (by decide)) rfl rfl (Nat.le_of_ble_eq_true rfl) dX5_init_16 (fun H locs hP hD hS => ?_)
  rw [xset_set hq] at hP hD
  have hP : va_P D vwCl (ws.set q0 (h0, .inr (5, [.int k, .int (-1), .int 0, .int 0, .int 0, .int 0, .int 0, .int 0, .int 0, .int 0, .int 0, .int 0, .int 0, .int (-1)])) ++ []) H := hP
  have hD : va_D A (ws.set q0 (h0, .inr (5, [.int k, .int (-1), .int 0, .int 0, .int 0, .int 0, .int 0, .int 0, .int 0, .int 0, .int 0, .int 0, .int 0, .int (-1)])) ++ []) := hD
  exact W.vret hx hb hr (fun t ht hW => ⟨⟨(), rfl, trivial, by rw [ht]; exact hP, va_K.moved hW.alike hK, hD⟩, hS.F ht⟩) hS.2.2 dX5_init_19 hlocks

set_option maxHeartbeats 4000000 in
set_option maxRecDepth 100000 in
/-- Lock(k) -/
theorem c_X2_init (l : Launch) (D : va_G) (cA : Nat → ClassId) (tr : List (ClassId × FieldType)) (ws : va_W) (sz : Nat) (q0 h0 : Nat) (he : ws[q0]? = some (h0, .inr (2, [.int 0, .int 0, .int 0]))) (k : Int32) : Met l yX2_init wsX2_init ({ frames := 1, cells := 0, slots := 0, locals := 12 }) (va_Pc [.ref h0, .int k] (inW D (tyB cA ++ tr) ws sz)) (va_Qv (fun _ : Unit => True) (fun _ : Unit => outW D (tyB cA ++ tr) (va_A ws sz) (ws.set q0 (h0, .inr (2, [.int k, .int (-1), .int 0])) ++ [])) (va_A ws sz)) 0 0 (va_A ws sz) := by
  refine Met.ofW (cc := cX2_init) (maxL := 2) (ret := none) (by decide) rfl ?_
  intro p e s m args below meth c s₁ B hml hv
  obtain ⟨rfl, hsz, hP, hK, hD0⟩ := hv
  have hx := B.exec
  have hb := B.bytes
  have hr := B.returns
  have hts := atoms_spec (ws := wsX2_init) B.pre
  have hown : s.vm.findClass RX2 = some m.cls := findClass_of_methodNamed B.named
  have hlocks := B.notSynchronized
  have hin : meth.name = "<init>" := (name_of_methodNamed B.named B.method).1
  subst hsz
  have hD := hD0.self (sz := s.heap.size)
  clear hD0
  generalize hAe : va_A ws s.heap.size = A at hD ⊢
  have hA : ∀ q : Nat, s.heap.size ≤ q → A q := fun q h => by rw [← hAe]; exact Or.inr h
  clear hAe
  have hS : va_S A s.heap s.heap [] := va_S.rf
  have hq : q0 < ws.length := (List.getElem?_eq_some_iff.mp he).1
  have hl := lv_entry ([.ref h0, .int k]) (n := 2) (Nat.le_of_ble_eq_true rfl)
  rw [lg_entry_eq]
  generalize (lg_sl ([.ref h0, .int k]) ++ List.replicate (2 - (lg_sl ([.ref h0, .int k])).length) Slot.unset).toArray = ls at hl ⊢
  have hl : lv_has ls 2 [(0, .ref h0), (1, .int k)] := hl
  have nX2 : ∀ w ∈ u_ws RX2 TX2 3, w ∈ wsX2_init := by decide +kernel
  have k9 := hts (.fieldLink RX2 9 "ScopeRow$Lock" "holder" "I") (by decide +kernel)
  have k15 := hts (.fieldLink RX2 15 "ScopeRow$Lock" "number" "I") (by decide +kernel)
  have hP : va_P D vwCl (ws.set q0 (h0, .inr (2, [.int 0, .int 0, .int 0])) ++ []) s.heap := by rw [← xws_id he]; exact hP
  have hD : va_D A (ws.set q0 (h0, .inr (2, [.int 0, .int 0, .int 0])) ++ []) := by rw [← xws_id he]; exact hD
  refine lv_aload_n hx hb dX2_init_0 rfl (lv_at hl 0 rfl) ?_
  refine W.objInit hx hb hown (hts (.methodLink RX2 3 objectInit) (by decide +kernel)) (hts (.instanceMethod objectInit) (by decide +kernel)) (hts _ (List.mem_cons_of_mem _ (List.mem_append_left _ (List.mem_of_getElem? (i := 2) rfl)))) rfl (by rw [hml]; exact hl.1) rfl dX2_init_1 (Nat.le_of_ble_eq_true rfl) (Nat.le_of_ble_eq_true rfl) ?_
  refine W.eq (g2 := F0 m 4 ls []) rfl ?_
  refine lv_aload_n hx hb dX2_init_4 rfl (lv_at hl 0 rfl) ?_
  refine lv_iconst (v := (-1)) hx hb dX2_init_5 (by decide) ?_
  refine va_put (D := D) (ci := 2) (v := .int (-1)) (ty := .int) (C := RX2) (T := TX2) (N := 3) hx hb hts nX2 tyX2 tyX2_ok nmX2 hown hK hP hD hS q0 (xt_set hq) rfl 1 (by decide) k9 (fun _ h9 => h9) rfl (tyX2_ok 1 (by decide)) rfl rfl (Nat.le_of_ble_eq_true rfl) dX2_init_6 (fun H locs hP hD hS => ?_)
  rw [xset_set hq] at hP hD
  have hP : va_P D vwCl (ws.set q0 (h0, .inr (2, [.int 0, .int (-1), .int 0])) ++ []) H := hP
  have hD : va_D A (ws.set q0 (h0, .inr (2, [.int 0, .int (-1), .int 0])) ++ []) := hD
  refine lv_aload_n hx hb dX2_init_9 rfl (lv_at hl 0 rfl) ?_
  refine lv_iload_n hx hb dX2_init_10 rfl (lv_at hl 1 rfl) ?_
  refine va_putF (D := D) (ci := 2) (v := .int k) (ty := .int) (C := RX2) (T := TX2) (N := 3) hx hb hts nX2 tyX2 tyX2_ok nmX2 hown hK hP hD hS q0 (xt_set hq) rfl 0 (by decide) k15 (fun _ h9 => h9) rfl hin rfl (tyX2_ok 0 (by decide)) rfl rfl (Nat.le_of_ble_eq_true rfl) dX2_init_11 (fun H locs hP hD hS => ?_)
  rw [xset_set hq] at hP hD
  have hP : va_P D vwCl (ws.set q0 (h0, .inr (2, [.int k, .int (-1), .int 0])) ++ []) H := hP
  have hD : va_D A (ws.set q0 (h0, .inr (2, [.int k, .int (-1), .int 0])) ++ []) := hD
  exact W.vret hx hb hr (fun t ht hW => ⟨⟨(), rfl, trivial, by rw [ht]; exact hP, va_K.moved hW.alike hK, hD⟩, hS.F ht⟩) hS.2.2 dX2_init_14 hlocks

set_option maxHeartbeats 4000000 in
set_option maxRecDepth 100000 in
/-- Channel() -/
theorem c_X1_init (l : Launch) (D : va_G) (cA : Nat → ClassId) (tr : List (ClassId × FieldType)) (ws : va_W) (sz : Nat) (q0 h0 : Nat) (he : ws[q0]? = some (h0, .inr (1, [.int 0, .null, .int 0, .int 0, .int 0]))) : Met l yX1_init wsX1_init ({ frames := 1, cells := 1, slots := 27, locals := 12 }) (va_Pc [.ref h0] (inW D (tyB cA ++ tr) ws sz)) (va_Qv (fun _ : Nat => True) (fun u : Nat => outW D (tyB cA ++ tr) (va_A ws sz) (ws.set q0 (h0, .inr (1, [.int 1, .ref u, .int 0, .int 0, .int 0])) ++ [(u, .inl (cA 0, 27, .inl (fun _ => 0)))])) (va_A ws sz)) 1 27 (va_A ws sz) := by
  refine Met.ofW (cc := cX1_init) (maxL := 1) (ret := none) (by decide) rfl ?_
  intro p e s m args below meth c s₁ B hml hv
  obtain ⟨rfl, hsz, hP, hK, hD0⟩ := hv
  have hx := B.exec
  have hb := B.bytes
  have hr := B.returns
  have hts := atoms_spec (ws := wsX1_init) B.pre
  have hown : s.vm.findClass RX1 = some m.cls := findClass_of_methodNamed B.named
  have hlocks := B.notSynchronized
  have hin : meth.name = "<init>" := (name_of_methodNamed B.named B.method).1
  subst hsz
  have hD := hD0.self (sz := s.heap.size)
  clear hD0
  generalize hAe : va_A ws s.heap.size = A at hD ⊢
  have hA : ∀ q : Nat, s.heap.size ≤ q → A q := fun q h => by rw [← hAe]; exact Or.inr h
  clear hAe
  have hS : va_S A s.heap s.heap [] := va_S.rf
  have hq : q0 < ws.length := (List.getElem?_eq_some_iff.mp he).1
  have hl := lv_entry ([.ref h0]) (n := 1) (Nat.le_of_ble_eq_true rfl)
  rw [lg_entry_eq]
  generalize (lg_sl ([.ref h0]) ++ List.replicate (1 - (lg_sl ([.ref h0])).length) Slot.unset).toArray = ls at hl ⊢
  have hl : lv_has ls 1 [(0, .ref h0)] := hl
  have nX1 : ∀ w ∈ u_ws RX1 TX1 5, w ∈ wsX1_init := by decide +kernel
  have k9 := hts (.fieldLink RX1 9 "ScopeRow$Channel" "room" "I") (by decide +kernel)
  have k15 := hts (.fieldLink RX1 15 "ScopeRow$Channel" "values" "[I") (by decide +kernel)
  have hP : va_P D vwCl (ws.set q0 (h0, .inr (1, [.int 0, .null, .int 0, .int 0, .int 0])) ++ []) s.heap := by rw [← xws_id he]; exact hP
  have hD : va_D A (ws.set q0 (h0, .inr (1, [.int 0, .null, .int 0, .int 0, .int 0])) ++ []) := by rw [← xws_id he]; exact hD
  refine lv_aload_n hx hb dX1_init_0 rfl (lv_at hl 0 rfl) ?_
  refine W.objInit hx hb hown (hts (.methodLink RX1 3 objectInit) (by decide +kernel)) (hts (.instanceMethod objectInit) (by decide +kernel)) (hts _ (List.mem_cons_of_mem _ (List.mem_append_left _ (List.mem_of_getElem? (i := 2) rfl)))) rfl (by rw [hml]; exact hl.1) rfl dX1_init_1 (Nat.le_of_ble_eq_true rfl) (Nat.le_of_ble_eq_true rfl) ?_
  refine W.eq (g2 := F0 m 4 ls []) rfl ?_
  refine lv_aload_n hx hb dX1_init_4 rfl (lv_at hl 0 rfl) ?_
  refine lv_iconst (v := 1) hx hb dX1_init_5 (by decide) ?_
  refine va_put (D := D) (ci := 1) (v := .int 1) (ty := .int) (C := RX1) (T := TX1) (N := 5) hx hb hts nX1 tyX1 tyX1_ok nmX1 hown hK hP hD hS q0 (xt_set hq) rfl 0 (by decide) k9 (fun _ h9 => h9) rfl (tyX1_ok 0 (by decide)) rfl rfl (Nat.le_of_ble_eq_true rfl) dX1_init_6 (fun H locs hP hD hS => ?_)
  rw [xset_set hq] at hP hD
  have hP : va_P D vwCl (ws.set q0 (h0, .inr (1, [.int 1, .null, .int 0, .int 0, .int 0])) ++ []) H := hP
  have hD : va_D A (ws.set q0 (h0, .inr (1, [.int 1, .null, .int 0, .int 0, .int 0])) ++ []) := hD
  refine lv_aload_n hx hb dX1_init_9 rfl (lv_at hl 0 rfl) ?_
  refine lv_bipush (v := 27) hx hb dX1_init_10 (by decide) ?_
  refine va_newa (atype := .int) (ty := .int) (N' := 27) (a0 := (27, .inl (fun _ => 0))) hx hb (hts (.arrayClass .int) (by decide +kernel)) rfl hK hP hD hS hA (fun _ => rfl) (by decide) (by decide) (Nat.le_of_ble_eq_true rfl) (Nat.le_of_ble_eq_true rfl) (Nat.le_of_ble_eq_true rfl) dX1_init_12 (fun q1 cN H hKn hP hD hS => ?_)
  obtain rfl : cN = cA 0 := cA_int hKn rfl
  clear hKn
  rw [List.append_assoc] at hP hD
  have hP : va_P D vwCl (ws.set q0 (h0, .inr (1, [.int 1, .null, .int 0, .int 0, .int 0])) ++ [(q1, .inl (cA 0, 27, .inl (fun _ => 0)))]) H := hP
  have hD : va_D A (ws.set q0 (h0, .inr (1, [.int 1, .null, .int 0, .int 0, .int 0])) ++ [(q1, .inl (cA 0, 27, .inl (fun _ => 0)))]) := hD
  refine W.widen (k := 1) (n := 27) (by omega) (by omega) ?_
  refine va_putF (D := D) (ci := 1) (v := .ref q1) (ty := .array .int) (C := RX1) (T := TX1) (N := 5) hx hb hts nX1 tyX1 tyX1_ok nmX1 hown hK hP hD hS q0 (xt_set hq) rfl 1 (by decide) k15 (fun _ h9 => h9) rfl hin rfl (tyX1_ok 1 (by decide)) rfl rfl (Nat.le_of_ble_eq_true rfl) dX1_init_14 (fun H locs hP hD hS => ?_)
  rw [xset_set hq] at hP hD
  have hP : va_P D vwCl (ws.set q0 (h0, .inr (1, [.int 1, .ref q1, .int 0, .int 0, .int 0])) ++ [(q1, .inl (cA 0, 27, .inl (fun _ => 0)))]) H := hP
  have hD : va_D A (ws.set q0 (h0, .inr (1, [.int 1, .ref q1, .int 0, .int 0, .int 0])) ++ [(q1, .inl (cA 0, 27, .inl (fun _ => 0)))]) := hD
  exact W.vret hx hb hr (fun t ht hW => ⟨⟨q1, rfl, trivial, by rw [ht]; exact hP, va_K.moved hW.alike hK, hD⟩, hS.F ht⟩) hS.2.2 dX1_init_17 hlocks

set_option maxHeartbeats 4000000 in
set_option maxRecDepth 100000 in
/-- Program() -/
theorem c_X3_init (l : Launch) (D : va_G) (cA : Nat → ClassId) (tr : List (ClassId × FieldType)) (ws : va_W) (sz : Nat) (q0 h0 : Nat) (he : ws[q0]? = some (h0, .inr (3, [.int 0, .null, .null, .null, .null]))) : Met l yX3_init wsX3_init ({ frames := 1, cells := 4, slots := 296, locals := 12 }) (va_Pc [.ref h0] (inW D (tyB cA ++ tr) ws sz)) (va_Qv (fun _ : Nat × Nat × Nat × Nat => True) (fun u : Nat × Nat × Nat × Nat => outW D (tyB cA ++ tr) (va_A ws sz) (ws.set q0 (h0, .inr (3, [.int 0, .ref u.1, .ref u.2.1, .ref u.2.2.1, .ref u.2.2.2])) ++ [(u.1, .inl (cA 0, 8, .inl (fun _ => 0))), (u.2.1, .inl (cA 0, 96, .inl (fun _ => 0))), (u.2.2.1, .inl (cA 0, 96, .inl (fun _ => 0))), (u.2.2.2, .inl (cA 0, 96, .inl (fun _ => 0)))])) (va_A ws sz)) 4 296 (va_A ws sz) := by
  refine Met.ofW (cc := cX3_init) (maxL := 1) (ret := none) (by decide) rfl ?_
  intro p e s m args below meth c s₁ B hml hv
  obtain ⟨rfl, hsz, hP, hK, hD0⟩ := hv
  have hx := B.exec
  have hb := B.bytes
  have hr := B.returns
  have hts := atoms_spec (ws := wsX3_init) B.pre
  have hown : s.vm.findClass RX3 = some m.cls := findClass_of_methodNamed B.named
  have hlocks := B.notSynchronized
  have hin : meth.name = "<init>" := (name_of_methodNamed B.named B.method).1
  subst hsz
  have hD := hD0.self (sz := s.heap.size)
  clear hD0
  generalize hAe : va_A ws s.heap.size = A at hD ⊢
  have hA : ∀ q : Nat, s.heap.size ≤ q → A q := fun q h => by rw [← hAe]; exact Or.inr h
  clear hAe
  have hS : va_S A s.heap s.heap [] := va_S.rf
  have hq : q0 < ws.length := (List.getElem?_eq_some_iff.mp he).1
  have hl := lv_entry ([.ref h0]) (n := 1) (Nat.le_of_ble_eq_true rfl)
  rw [lg_entry_eq]
  generalize (lg_sl ([.ref h0]) ++ List.replicate (1 - (lg_sl ([.ref h0])).length) Slot.unset).toArray = ls at hl ⊢
  have hl : lv_has ls 1 [(0, .ref h0)] := hl
  have nX3 : ∀ w ∈ u_ws RX3 TX3 5, w ∈ wsX3_init := by decide +kernel
  have k9 := hts (.fieldLink RX3 9 "ScopeRow$Program" "lengths" "[I") (by decide +kernel)
  have k15 := hts (.fieldLink RX3 15 "ScopeRow$Program" "kinds" "[I") (by decide +kernel)
  have k18 := hts (.fieldLink RX3 18 "ScopeRow$Program" "firsts" "[I") (by decide +kernel)
  have k21 := hts (.fieldLink RX3 21 "ScopeRow$Program" "seconds" "[I") (by decide +kernel)
  have hP : va_P D vwCl (ws.set q0 (h0, .inr (3, [.int 0, .null, .null, .null, .null])) ++ []) s.heap := by rw [← xws_id he]; exact hP
  have hD : va_D A (ws.set q0 (h0, .inr (3, [.int 0, .null, .null, .null, .null])) ++ []) := by rw [← xws_id he]; exact hD
  refine lv_aload_n hx hb dX3_init_0 rfl (lv_at hl 0 rfl) ?_
  refine W.objInit hx hb hown (hts (.methodLink RX3 3 objectInit) (by decide +kernel)) (hts (.instanceMethod objectInit) (by decide +kernel)) (hts _ (List.mem_cons_of_mem _ (List.mem_append_left _ (List.mem_of_getElem? (i := 2) rfl)))) rfl (by rw [hml]; exact hl.1) rfl dX3_init_1 (Nat.le_of_ble_eq_true rfl) (Nat.le_of_ble_eq_true rfl) ?_
  refine W.eq (g2 := F0 m 4 ls []) rfl ?_
  refine lv_aload_n hx hb dX3_init_4 rfl (lv_at hl 0 rfl) ?_
  refine lv_bipush (v := 8) hx hb dX3_init_5 (by decide) ?_
  refine va_newa (atype := .int) (ty := .int) (N' := 8) (a0 := (8, .inl (fun _ => 0))) hx hb (hts (.arrayClass .int) (by decide +kernel)) rfl hK hP hD hS hA (fun _ => rfl) (by decide) (by decide) (Nat.le_of_ble_eq_true rfl) (Nat.le_of_ble_eq_true rfl) (Nat.le_of_ble_eq_true rfl) dX3_init_7 (fun q1 cN H hKn hP hD hS => ?_)
  obtain rfl : cN = cA 0 := cA_int hKn rfl
  clear hKn
  rw [List.append_assoc] at hP hD
  have hP : va_P D vwCl (ws.set q0 (h0, .inr (3, [.int 0, .null, .null, .null, .null])) ++ [(q1, .inl (cA 0, 8, .inl (fun _ => 0)))]) H := hP
  have hD : va_D A (ws.set q0 (h0, .inr (3, [.int 0, .null, .null, .null, .null])) ++ [(q1, .inl (cA 0, 8, .inl (fun _ => 0)))]) := hD
  refine W.widen (k := 1) (n := 8) (by omega) (by omega) ?_
  refine va_putF (D := D) (ci := 3) (v := .ref q1) (ty := .array .int) (C := RX3) (T := TX3) (N := 5) hx hb hts nX3 tyX3 tyX3_ok nmX3 hown hK hP hD hS q0 (xt_set hq) rfl 1 (by decide) k9 (fun _ h9 => h9) rfl hin rfl (tyX3_ok 1 (by decide)) rfl rfl (Nat.le_of_ble_eq_true rfl) dX3_init_9 (fun H locs hP hD hS => ?_)
  rw [xset_set hq] at hP hD
  have hP : va_P D vwCl (ws.set q0 (h0, .inr (3, [.int 0, .ref q1, .null, .null, .null])) ++ [(q1, .inl (cA 0, 8, .inl (fun _ => 0)))]) H := hP
  have hD : va_D A (ws.set q0 (h0, .inr (3, [.int 0, .ref q1, .null, .null, .null])) ++ [(q1, .inl (cA 0, 8, .inl (fun _ => 0)))]) := hD
  refine lv_aload_n hx hb dX3_init_12 rfl (lv_at hl 0 rfl) ?_
  refine lv_bipush (v := 96) hx hb dX3_init_13 (by decide) ?_
  refine va_newa (atype := .int) (ty := .int) (N' := 96) (a0 := (96, .inl (fun _ => 0))) hx hb (hts (.arrayClass .int) (by decide +kernel)) rfl hK hP hD hS hA (fun _ => rfl) (by decide) (by decide) (Nat.le_of_ble_eq_true rfl) (Nat.le_of_ble_eq_true rfl) (Nat.le_of_ble_eq_true rfl) dX3_init_15 (fun q2 cN H hKn hP hD hS => ?_)
  obtain rfl : cN = cA 0 := cA_int hKn rfl
  clear hKn
  rw [List.append_assoc] at hP hD
  have hP : va_P D vwCl (ws.set q0 (h0, .inr (3, [.int 0, .ref q1, .null, .null, .null])) ++ [(q1, .inl (cA 0, 8, .inl (fun _ => 0))), (q2, .inl (cA 0, 96, .inl (fun _ => 0)))]) H := hP
  have hD : va_D A (ws.set q0 (h0, .inr (3, [.int 0, .ref q1, .null, .null, .null])) ++ [(q1, .inl (cA 0, 8, .inl (fun _ => 0))), (q2, .inl (cA 0, 96, .inl (fun _ => 0)))]) := hD
  refine W.widen (k := 2) (n := 104) (by omega) (by omega) ?_
  refine va_putF (D := D) (ci := 3) (v := .ref q2) (ty := .array .int) (C := RX3) (T := TX3) (N := 5) hx hb hts nX3 tyX3 tyX3_ok nmX3 hown hK hP hD hS q0 (xt_set hq) rfl 2 (by decide) k15 (fun _ h9 => h9) rfl hin rfl (tyX3_ok 2 (by decide)) rfl rfl (Nat.le_of_ble_eq_true rfl) dX3_init_17 (fun H locs hP hD hS => ?_)
  rw [xset_set hq] at hP hD
  have hP : va_P D vwCl (ws.set q0 (h0, .inr (3, [.int 0, .ref q1, .ref q2, .null, .null])) ++ [(q1, .inl (cA 0, 8, .inl (fun _ => 0))), (q2, .inl (cA 0, 96, .inl (fun _ => 0)))]) H := hP
  have hD : va_D A (ws.set q0 (h0, .inr (3, [.int 0, .ref q1, .ref q2, .null, .null])) ++ [(q1, .inl (cA 0, 8, .inl (fun _ => 0))), (q2, .inl (cA 0, 96, .inl (fun _ => 0)))]) := hD
  refine lv_aload_n hx hb dX3_init_20 rfl (lv_at hl 0 rfl) ?_
  refine lv_bipush (v := 96) hx hb dX3_init_21 (by decide) ?_
  refine va_newa (atype := .int) (ty := .int) (N' := 96) (a0 := (96, .inl (fun _ => 0))) hx hb (hts (.arrayClass .int) (by decide +kernel)) rfl hK hP hD hS hA (fun _ => rfl) (by decide) (by decide) (Nat.le_of_ble_eq_true rfl) (Nat.le_of_ble_eq_true rfl) (Nat.le_of_ble_eq_true rfl) dX3_init_23 (fun q3 cN H hKn hP hD hS => ?_)
  obtain rfl : cN = cA 0 := cA_int hKn rfl
  clear hKn
  rw [List.append_assoc] at hP hD
  have hP : va_P D vwCl (ws.set q0 (h0, .inr (3, [.int 0, .ref q1, .ref q2, .null, .null])) ++ [(q1, .inl (cA 0, 8, .inl (fun _ => 0))), (q2, .inl (cA 0, 96, .inl (fun _ => 0))), (q3, .inl (cA 0, 96, .inl (fun _ => 0)))]) H := hP
  have hD : va_D A (ws.set q0 (h0, .inr (3, [.int 0, .ref q1, .ref q2, .null, .null])) ++ [(q1, .inl (cA 0, 8, .inl (fun _ => 0))), (q2, .inl (cA 0, 96, .inl (fun _ => 0))), (q3, .inl (cA 0, 96, .inl (fun _ => 0)))]) := hD
  refine W.widen (k := 3) (n := 200) (by omega) (by omega) ?_
  refine va_putF (D := D) (ci := 3) (v := .ref q3) (ty := .array .int) (C := RX3) (T := TX3) (N := 5) hx hb hts nX3 tyX3 tyX3_ok nmX3 hown hK hP hD hS q0 (xt_set hq) rfl 3 (by decide) k18 (fun _ h9 => h9) rfl hin rfl (tyX3_ok 3 (by decide)) rfl rfl (Nat.le_of_ble_eq_true rfl) dX3_init_25 (fun H locs hP hD hS => ?_)
  rw [xset_set hq] at hP hD
  have hP : va_P D vwCl (ws.set q0 (h0, .inr (3, [.int 0, .ref q1, .ref q2, .ref q3, .null])) ++ [(q1, .inl (cA 0, 8, .inl (fun _ => 0))), (q2, .inl (cA 0, 96, .inl (fun _ => 0))), (q3, .inl (cA 0, 96, .inl (fun _ => 0)))]) H := hP
  have hD : va_D A (ws.set q0 (h0, .inr (3, [.int 0, .ref q1, .ref q2, .ref q3, .null])) ++ [(q1, .inl (cA 0, 8, .inl (fun _ => 0))), (q2, .inl (cA 0, 96, .inl (fun _ => 0))), (q3, .inl (cA 0, 96, .inl (fun _ => 0)))]) := hD
  refine lv_aload_n hx hb dX3_init_28 rfl (lv_at hl 0 rfl) ?_
  refine lv_bipush (v := 96) hx hb dX3_init_29 (by decide) ?_
  refine va_newa (atype := .int) (ty := .int) (N' := 96) (a0 := (96, .inl (fun _ => 0))) hx hb (hts (.arrayClass .int) (by decide +kernel)) rfl hK hP hD hS hA (fun _ => rfl) (by decide) (by decide) (Nat.le_of_ble_eq_true rfl) (Nat.le_of_ble_eq_true rfl) (Nat.le_of_ble_eq_true rfl) dX3_init_31 (fun q4 cN H hKn hP hD hS => ?_)
  obtain rfl : cN = cA 0 := cA_int hKn rfl
  clear hKn
  rw [List.append_assoc] at hP hD
  have hP : va_P D vwCl (ws.set q0 (h0, .inr (3, [.int 0, .ref q1, .ref q2, .ref q3, .null])) ++ [(q1, .inl (cA 0, 8, .inl (fun _ => 0))), (q2, .inl (cA 0, 96, .inl (fun _ => 0))), (q3, .inl (cA 0, 96, .inl (fun _ => 0))), (q4, .inl (cA 0, 96, .inl (fun _ => 0)))]) H := hP
  have hD : va_D A (ws.set q0 (h0, .inr (3, [.int 0, .ref q1, .ref q2, .ref q3, .null])) ++ [(q1, .inl (cA 0, 8, .inl (fun _ => 0))), (q2, .inl (cA 0, 96, .inl (fun _ => 0))), (q3, .inl (cA 0, 96, .inl (fun _ => 0))), (q4, .inl (cA 0, 96, .inl (fun _ => 0)))]) := hD
  refine W.widen (k := 4) (n := 296) (by omega) (by omega) ?_
  refine va_putF (D := D) (ci := 3) (v := .ref q4) (ty := .array .int) (C := RX3) (T := TX3) (N := 5) hx hb hts nX3 tyX3 tyX3_ok nmX3 hown hK hP hD hS q0 (xt_set hq) rfl 4 (by decide) k21 (fun _ h9 => h9) rfl hin rfl (tyX3_ok 4 (by decide)) rfl rfl (Nat.le_of_ble_eq_true rfl) dX3_init_33 (fun H locs hP hD hS => ?_)
  rw [xset_set hq] at hP hD
  have hP : va_P D vwCl (ws.set q0 (h0, .inr (3, [.int 0, .ref q1, .ref q2, .ref q3, .ref q4])) ++ [(q1, .inl (cA 0, 8, .inl (fun _ => 0))), (q2, .inl (cA 0, 96, .inl (fun _ => 0))), (q3, .inl (cA 0, 96, .inl (fun _ => 0))), (q4, .inl (cA 0, 96, .inl (fun _ => 0)))]) H := hP
  have hD : va_D A (ws.set q0 (h0, .inr (3, [.int 0, .ref q1, .ref q2, .ref q3, .ref q4])) ++ [(q1, .inl (cA 0, 8, .inl (fun _ => 0))), (q2, .inl (cA 0, 96, .inl (fun _ => 0))), (q3, .inl (cA 0, 96, .inl (fun _ => 0))), (q4, .inl (cA 0, 96, .inl (fun _ => 0)))]) := hD
  exact W.vret hx hb hr (fun t ht hW => ⟨⟨(q1, q2, q3, q4), rfl, trivial, by rw [ht]; exact hP, va_K.moved hW.alike hK, hD⟩, hS.F ht⟩) hS.2.2 dX3_init_36 hlocks

set_option maxHeartbeats 4000000 in
set_option maxRecDepth 100000 in
/-- Runner(program, state) -/
theorem c_X4_init (l : Launch) (D : va_G) (cA : Nat → ClassId) (tr : List (ClassId × FieldType)) (ws : va_W) (sz : Nat) (q0 h0 : Nat) (he : ws[q0]? = some (h0, .inr (4, [.null, .null, .int 0]))) (a b : Nat) : Met l yX4_init wsX4_init ({ frames := 1, cells := 0, slots := 0, locals := 12 }) (va_Pc [.ref h0, .ref a, .ref b] (inW D (tyB cA ++ tr) ws sz)) (va_Qv (fun _ : Unit => True) (fun _ : Unit => outW D (tyB cA ++ tr) (va_A ws sz) (ws.set q0 (h0, .inr (4, [.ref a, .ref b, .int 0])) ++ [])) (va_A ws sz)) 0 0 (va_A ws sz) := by
  refine Met.ofW (cc := cX4_init) (maxL := 3) (ret := none) (by decide) rfl ?_
  intro p e s m args below meth c s₁ B hml hv
  obtain ⟨rfl, hsz, hP, hK, hD0⟩ := hv
  have hx := B.exec
  have hb := B.bytes
  have hr := B.returns
  have hts := atoms_spec (ws := wsX4_init) B.pre
  have hown : s.vm.findClass RX4 = some m.cls := findClass_of_methodNamed B.named
  have hlocks := B.notSynchronized
  have hin : meth.name = "<init>" := (name_of_methodNamed B.named B.method).1
  subst hsz
  have hD := hD0.self (sz := s.heap.size)
  clear hD0
  generalize hAe : va_A ws s.heap.size = A at hD ⊢
  have hA : ∀ q : Nat, s.heap.size ≤ q → A q := fun q h => by rw [← hAe]; exact Or.inr h
  clear hAe
  have hS : va_S A s.heap s.heap [] := va_S.rf
  have hq : q0 < ws.length := (List.getElem?_eq_some_iff.mp he).1
  have hl := lv_entry ([.ref h0, .ref a, .ref b]) (n := 3) (Nat.le_of_ble_eq_true rfl)
  rw [lg_entry_eq]
  generalize (lg_sl ([.ref h0, .ref a, .ref b]) ++ List.replicate (3 - (lg_sl ([.ref h0, .ref a, .ref b])).length) Slot.unset).toArray = ls at hl ⊢
  have hl : lv_has ls 3 [(0, .ref h0), (1, .ref a), (2, .ref b)] := hl
  have nX4 : ∀ w ∈ u_ws RX4 TX4 3, w ∈ wsX4_init := by decide +kernel
  have k9 := hts (.fieldLink RX4 9 "ScopeRow$Runner" "program" "LScopeRow$Program;") (by decide +kernel)
  have k15 := hts (.fieldLink RX4 15 "ScopeRow$Runner" "state" "LScopeRow$State;") (by decide +kernel)
  have hP : va_P D vwCl (ws.set q0 (h0, .inr (4, [.null, .null, .int 0])) ++ []) s.heap := by rw [← xws_id he]; exact hP
  have hD : va_D A (ws.set q0 (h0, .inr (4, [.null, .null, .int 0])) ++ []) := by rw [← xws_id he]; exact hD
  refine lv_aload_n hx hb dX4_init_0 rfl (lv_at hl 0 rfl) ?_
  refine W.objInit hx hb hown (hts (.methodLink RX4 3 objectInit) (by decide +kernel)) (hts (.instanceMethod objectInit) (by decide +kernel)) (hts _ (List.mem_cons_of_mem _ (List.mem_append_left _ (List.mem_of_getElem? (i := 2) rfl)))) rfl (by rw [hml]; exact hl.1) rfl dX4_init_1 (Nat.le_of_ble_eq_true rfl) (Nat.le_of_ble_eq_true rfl) ?_
  refine W.eq (g2 := F0 m 4 ls []) rfl ?_
  refine lv_aload_n hx hb dX4_init_4 rfl (lv_at hl 0 rfl) ?_
  refine lv_aload_n hx hb dX4_init_5 rfl (lv_at hl 1 rfl) ?_
  refine va_putF (D := D) (ci := 4) (v := .ref a) (ty := .object "ScopeRow$Program") (C := RX4) (T := TX4) (N := 3) hx hb hts nX4 tyX4 tyX4_ok nmX4 hown hK hP hD hS q0 (xt_set hq) rfl 0 (by decide) k9 (fun _ h9 => h9) rfl hin rfl (tyX4_ok 0 (by decide)) rfl rfl (Nat.le_of_ble_eq_true rfl) dX4_init_6 (fun H locs hP hD hS => ?_)
  rw [xset_set hq] at hP hD
  have hP : va_P D vwCl (ws.set q0 (h0, .inr (4, [.ref a, .null, .int 0])) ++ []) H := hP
  have hD : va_D A (ws.set q0 (h0, .inr (4, [.ref a, .null, .int 0])) ++ []) := hD
  refine lv_aload_n hx hb dX4_init_9 rfl (lv_at hl 0 rfl) ?_
  refine lv_aload_n hx hb dX4_init_10 rfl (lv_at hl 2 rfl) ?_
  refine va_putF (D := D) (ci := 4) (v := .ref b) (ty := .object "ScopeRow$State") (C := RX4) (T := TX4) (N := 3) hx hb hts nX4 tyX4 tyX4_ok nmX4 hown hK hP hD hS q0 (xt_set hq) rfl 1 (by decide) k15 (fun _ h9 => h9) rfl hin rfl (tyX4_ok 1 (by decide)) rfl rfl (Nat.le_of_ble_eq_true rfl) dX4_init_11 (fun H locs hP hD hS => ?_)
  rw [xset_set hq] at hP hD
  have hP : va_P D vwCl (ws.set q0 (h0, .inr (4, [.ref a, .ref b, .int 0])) ++ []) H := hP
  have hD : va_D A (ws.set q0 (h0, .inr (4, [.ref a, .ref b, .int 0])) ++ []) := hD
  exact W.vret hx hb hr (fun t ht hW => ⟨⟨(), rfl, trivial, by rw [ht]; exact hP, va_K.moved hW.alike hK, hD⟩, hS.F ht⟩) hS.2.2 dX4_init_14 hlocks

set_option maxHeartbeats 4000000 in
set_option maxRecDepth 100000 in
/-- Answers(program, state) -/
theorem c_X0_init (l : Launch) (D : va_G) (cA : Nat → ClassId) (tr : List (ClassId × FieldType)) (ws : va_W) (sz : Nat) (q0 h0 : Nat) (he : ws[q0]? = some (h0, .inr (0, [.null, .null]))) (a b : Nat) : Met l yX0_init wsX0_init ({ frames := 1, cells := 0, slots := 0, locals := 12 }) (va_Pc [.ref h0, .ref a, .ref b] (inW D (tyB cA ++ tr) ws sz)) (va_Qv (fun _ : Unit => True) (fun _ : Unit => outW D (tyB cA ++ tr) (va_A ws sz) (ws.set q0 (h0, .inr (0, [.ref a, .ref b])) ++ [])) (va_A ws sz)) 0 0 (va_A ws sz) := by
  refine Met.ofW (cc := cX0_init) (maxL := 3) (ret := none) (by decide) rfl ?_
  intro p e s m args below meth c s₁ B hml hv
  obtain ⟨rfl, hsz, hP, hK, hD0⟩ := hv
  have hx := B.exec
  have hb := B.bytes
  have hr := B.returns
  have hts := atoms_spec (ws := wsX0_init) B.pre
  have hown : s.vm.findClass RX0 = some m.cls := findClass_of_methodNamed B.named
  have hlocks := B.notSynchronized
  have hin : meth.name = "<init>" := (name_of_methodNamed B.named B.method).1
  subst hsz
  have hD := hD0.self (sz := s.heap.size)
  clear hD0
  generalize hAe : va_A ws s.heap.size = A at hD ⊢
  have hA : ∀ q : Nat, s.heap.size ≤ q → A q := fun q h => by rw [← hAe]; exact Or.inr h
  clear hAe
  have hS : va_S A s.heap s.heap [] := va_S.rf
  have hq : q0 < ws.length := (List.getElem?_eq_some_iff.mp he).1
  have hl := lv_entry ([.ref h0, .ref a, .ref b]) (n := 3) (Nat.le_of_ble_eq_true rfl)
  rw [lg_entry_eq]
  generalize (lg_sl ([.ref h0, .ref a, .ref b]) ++ List.replicate (3 - (lg_sl ([.ref h0, .ref a, .ref b])).length) Slot.unset).toArray = ls at hl ⊢
  have hl : lv_has ls 3 [(0, .ref h0), (1, .ref a), (2, .ref b)] := hl
  have nX0 : ∀ w ∈ u_ws RX0 TX0 2, w ∈ wsX0_init := by decide +kernel
  have k9 := hts (.fieldLink RX0 9 "ScopeRow$Answers" "program" "LScopeRow$Program;") (by decide +kernel)
  have k15 := hts (.fieldLink RX0 15 "ScopeRow$Answers" "state" "LScopeRow$State;") (by decide +kernel)
  have hP : va_P D vwCl (ws.set q0 (h0, .inr (0, [.null, .null])) ++ []) s.heap := by rw [← xws_id he]; exact hP
  have hD : va_D A (ws.set q0 (h0, .inr (0, [.null, .null])) ++ []) := by rw [← xws_id he]; exact hD
  refine lv_aload_n hx hb dX0_init_0 rfl (lv_at hl 0 rfl) ?_
  refine W.objInit hx hb hown (hts (.methodLink RX0 3 objectInit) (by decide +kernel)) (hts (.instanceMethod objectInit) (by decide +kernel)) (hts _ (List.mem_cons_of_mem _ (List.mem_append_left _ (List.mem_of_getElem? (i := 2) rfl)))) rfl (by rw [hml]; exact hl.1) rfl dX0_init_1 (Nat.le_of_ble_eq_true rfl) (Nat.le_of_ble_eq_true rfl) ?_
  refine W.eq (g2 := F0 m 4 ls []) rfl ?_
  refine lv_aload_n hx hb dX0_init_4 rfl (lv_at hl 0 rfl) ?_
  refine lv_aload_n hx hb dX0_init_5 rfl (lv_at hl 1 rfl) ?_
  refine va_putF (D := D) (ci := 0) (v := .ref a) (ty := .object "ScopeRow$Program") (C := RX0) (T := TX0) (N := 2) hx hb hts nX0 tyX0 tyX0_ok nmX0 hown hK hP hD hS q0 (xt_set hq) rfl 0 (by decide) k9 (fun _ h9 => h9) rfl hin rfl (tyX0_ok 0 (by decide)) rfl rfl (Nat.le_of_ble_eq_true rfl) dX0_init_6 (fun H locs hP hD hS => ?_)
  rw [xset_set hq] at hP hD
  have hP : va_P D vwCl (ws.set q0 (h0, .inr (0, [.ref a, .null])) ++ []) H := hP
  have hD : va_D A (ws.set q0 (h0, .inr (0, [.ref a, .null])) ++ []) := hD
  refine lv_aload_n hx hb dX0_init_9 rfl (lv_at hl 0 rfl) ?_
  refine lv_aload_n hx hb dX0_init_10 rfl (lv_at hl 2 rfl) ?_
  refine va_putF (D := D) (ci := 0) (v := .ref b) (ty := .object "ScopeRow$State") (C := RX0) (T := TX0) (N := 2) hx hb hts nX0 tyX0 tyX0_ok nmX0 hown hK hP hD hS q0 (xt_set hq) rfl 1 (by decide) k15 (fun _ h9 => h9) rfl hin rfl (tyX0_ok 1 (by decide)) rfl rfl (Nat.le_of_ble_eq_true rfl) dX0_init_11 (fun H locs hP hD hS => ?_)
  rw [xset_set hq] at hP hD
  have hP : va_P D vwCl (ws.set q0 (h0, .inr (0, [.ref a, .ref b])) ++ []) H := hP
  have hD : va_D A (ws.set q0 (h0, .inr (0, [.ref a, .ref b])) ++ []) := hD
  exact W.vret hx hb hr (fun t ht hW => ⟨⟨(), rfl, trivial, by rw [ht]; exact hP, va_K.moved hW.alike hK, hD⟩, hS.F ht⟩) hS.2.2 dX0_init_14 hlocks
