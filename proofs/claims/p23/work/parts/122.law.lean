/-! the law: over -/
set_option maxHeartbeats 4000000 in
set_option maxRecDepth 100000 in
theorem c_L_over (l : Launch) (D : va_G) (cA : Nat → ClassId) (ad : Nat → Nat) (tr : List (ClassId × FieldType)) (rest : va_W) (sz : Nat) (τ : Sg) (pd : Nat → Nat) (π : Sg) (bd : Nat → Nat) (tp : Nat) (ρ : Sg) (h102 : bd 102 = ad 102)  : Met l yL_over wl_over ({ frames := 4, cells := 0, slots := 0, locals := 87 }) (va_Pc [.ref tp] (inW D (tyB cA ++ tr) (wB cA ad τ ++ (wPg cA ad pd π ++ (wB cA bd ρ ++ ((tp, .inr (8, tpF ad bd)) :: rest)))) sz)) (va_Qi (fun (r : Int32) (_ : Unit) => r = m_howMany τ π 4 + m_howMany τ π 5 + m_howMany τ π 6) (fun _ : Unit => outW D (tyB cA ++ tr) (va_A (wB cA ad τ ++ (wPg cA ad pd π ++ (wB cA bd ρ ++ ((tp, .inr (8, tpF ad bd)) :: rest)))) sz) (wB cA ad τ ++ (wPg cA ad pd π ++ (wB cA bd ρ ++ ((tp, .inr (8, tpF ad bd)) :: rest))))) (va_A (wB cA ad τ ++ (wPg cA ad pd π ++ (wB cA bd ρ ++ ((tp, .inr (8, tpF ad bd)) :: rest)))) sz)) 0 0 (va_A (wB cA ad τ ++ (wPg cA ad pd π ++ (wB cA bd ρ ++ ((tp, .inr (8, tpF ad bd)) :: rest)))) sz) := by
  refine Met.ofW (cc := cL_over) (maxL := 1) (ret := (some .int)) (by decide) rfl ?_
  intro p e s m args below meth c s₁ B hml hv
  obtain ⟨rfl, hsz, hP, hK, hD0⟩ := hv
  have hx := B.exec
  have hb := B.bytes
  have hr := B.returns
  have hts := atoms_spec (ws := wl_over) B.pre
  have hown : s.vm.findClass RL = some m.cls := findClass_of_methodNamed B.named
  have hlocks := B.notSynchronized
  subst hsz
  have hD := hD0.self (sz := s.heap.size)
  clear hD0
  generalize hAe : va_A (wB cA ad τ ++ (wPg cA ad pd π ++ (wB cA bd ρ ++ ((tp, .inr (8, tpF ad bd)) :: rest)))) s.heap.size = A at hD ⊢
  have hA : ∀ q : Nat, s.heap.size ≤ q → A q := fun q h => by rw [← hAe]; exact Or.inr h
  clear hAe
  have hS : va_S A s.heap s.heap [] := va_S.rf
  have hP : va_P D vwCl (wB cA ad τ ++ (wPg cA ad pd π ++ (wB cA bd ρ ++ ((tp, .inr (8, tpF ad bd)) :: rest)))) s.heap := hP
  have hl := lv_entry ([.ref tp]) (n := 1) (Nat.le_of_ble_eq_true rfl)
  rw [lg_entry_eq]
  generalize (lg_sl ([.ref tp]) ++ List.replicate (1 - (lg_sl ([.ref tp])).length) Slot.unset).toArray = ls at hl ⊢
  have hl : lv_has ls 1 [(0, .ref tp)] := hl
  refine lv_aload_n hx hb dL_over_0 rfl (lv_at hl 0 rfl) ?_
  refine lv_iconst (v := 4) hx hb dL_over_1 (by decide) ?_
  refine x_Vi (As := [.int 4]) (rest0 := []) ⟨hx, hb, hml, hown, hts⟩ (c_X8_many l D cA ad tr rest s.heap.size τ pd π bd tp ρ h102 4 (by decide) (by decide)) (cwV 1 hts gl_over_X8_many rfl rfl rfl (by decide +kernel) ⟨Nat.le_of_ble_eq_true rfl, Nat.le_of_ble_eq_true rfl⟩) hK hP hD hS hA 209 w_tp rfl hl.1 rfl rfl (Nat.le_of_ble_eq_true rfl) ⟨Nat.le_of_ble_eq_true rfl, Nat.le_of_ble_eq_true rfl⟩ dL_over_2 (fun r _ H locs hw hP hD hS => ?_)
  obtain rfl : r = (m_howMany τ π 4) := hw.trans rfl
  refine lv_aload_n hx hb dL_over_5 rfl (lv_at hl 0 rfl) ?_
  refine lv_iconst (v := 5) hx hb dL_over_6 (by decide) ?_
  refine x_Vi (As := [.int 5]) (rest0 := [.int (m_howMany τ π 4)]) ⟨hx, hb, hml, hown, hts⟩ (c_X8_many l D cA ad tr rest H.size τ pd π bd tp ρ h102 5 (by decide) (by decide)) (cwV 1 hts gl_over_X8_many rfl rfl rfl (by decide +kernel) ⟨Nat.le_of_ble_eq_true rfl, Nat.le_of_ble_eq_true rfl⟩) hK hP hD hS hA 209 w_tp rfl hl.1 rfl rfl (Nat.le_of_ble_eq_true rfl) ⟨Nat.le_of_ble_eq_true rfl, Nat.le_of_ble_eq_true rfl⟩ dL_over_7 (fun r _ H locs hw hP hD hS => ?_)
  obtain rfl : r = (m_howMany τ π 5) := hw.trans rfl
  refine lv_iadd hx hb dL_over_10 ?_
  refine lv_aload_n hx hb dL_over_11 rfl (lv_at hl 0 rfl) ?_
  refine lv_bipush (v := 6) hx hb dL_over_12 (by decide) ?_
  refine x_Vi (As := [.int 6]) (rest0 := [.int ((m_howMany τ π 4) + (m_howMany τ π 5))]) ⟨hx, hb, hml, hown, hts⟩ (c_X8_many l D cA ad tr rest H.size τ pd π bd tp ρ h102 6 (by decide) (by decide)) (cwV 1 hts gl_over_X8_many rfl rfl rfl (by decide +kernel) ⟨Nat.le_of_ble_eq_true rfl, Nat.le_of_ble_eq_true rfl⟩) hK hP hD hS hA 209 w_tp rfl hl.1 rfl rfl (Nat.le_of_ble_eq_true rfl) ⟨Nat.le_of_ble_eq_true rfl, Nat.le_of_ble_eq_true rfl⟩ dL_over_14 (fun r _ H locs hw hP hD hS => ?_)
  obtain rfl : r = (m_howMany τ π 6) := hw.trans rfl
  refine lv_iadd hx hb dL_over_17 ?_
  exact x_iret hx hb hr hlocks hK () hP hD hS dL_over_18 rfl
