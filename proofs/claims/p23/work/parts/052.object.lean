theorem z7 : nI 7 = 7 := rfl
theorem z8 : nI 8 = 8 := rfl
theorem z9 : nI 9 = 9 := rfl
theorem z10 : nI 10 = 10 := rfl
theorem z11 : nI 11 = 11 := rfl
theorem z12 : nI 12 = 12 := rfl
def m_dig (τ π ρ : Sg) (T V : Nat) : Int64 :=
  ((m_dgLC τ (m_dgS τ V 0 (m_dgT τ T 0 (m_dg (m_fM τ π) 13 0 7614))) * 31 + (m_countStuck τ).toInt64) * 31 + (nI (m_countOver (m_overS π 10 1 (m_copy ρ τ)))).toInt64) * 31 + (nI (m_countOver (m_overS π 10 5 (m_copy (m_overS π 10 1 (m_copy ρ τ)) τ)))).toInt64
theorem m_dgM13 (τ π : Sg) (d : Int64) : m_dg (m_fM τ π) 13 0 d = (((((((((((((d * 31 + (m_howMany τ π 0).toInt64) * 31 + (m_howMany τ π 1).toInt64) * 31 + (m_howMany τ π 2).toInt64) * 31 + (m_howMany τ π 3).toInt64) * 31 + (m_howMany τ π 4).toInt64) * 31 + (m_howMany τ π 5).toInt64) * 31 + (m_howMany τ π 6).toInt64) * 31 + (m_howMany τ π 7).toInt64) * 31 + (m_howMany τ π 8).toInt64) * 31 + (m_howMany τ π 9).toInt64) * 31 + (m_howMany τ π 10).toInt64) * 31 + (m_howMany τ π 11).toInt64) * 31 + (m_howMany τ π 12).toInt64) := by simp only [m_dg, m_fM, Nat.reduceAdd, z0, z1, z2, z3, z4, z5, z6, z7, z8, z9, z10, z11, z12]

set_option maxHeartbeats 4000000 in
set_option maxRecDepth 100000 in
theorem c_X8_start (l : Launch) (D : va_G) (cA : Nat → ClassId) (ad : Nat → Nat) (tr : List (ClassId × FieldType)) (rest : va_W) (sz : Nat) (τ : Sg) (pd : Nat → Nat) (π : Sg) (bd : Nat → Nat) (tp : Nat) (ρ : Sg) (h102 : bd 102 = ad 102) (b : Int32) (h0 : ¬ b < 0) (h1 : b < π 0 0) (h2 : ¬ m_makeTask τ = -1) : Met l yX8_start w8_start ({ frames := 2, cells := 0, slots := 0, locals := 44 }) (va_Pc [.ref (tp), .int b] (inW D (tyB cA ++ tr) (wB cA ad τ ++ (wPg cA ad pd π ++ (wB cA bd ρ ++ ((tp, .inr (8, tpF ad bd)) :: rest)))) sz)) (va_Qi (fun (r : Int32) (u : Sg) => r = m_makeTask τ ∧ u = m_makeTaskW τ b (-1)) (fun u : Sg => outW D (tyB cA ++ tr) (va_A (wB cA ad τ ++ (wPg cA ad pd π ++ (wB cA bd ρ ++ ((tp, .inr (8, tpF ad bd)) :: rest)))) sz) (wB cA ad u ++ (wPg cA ad pd π ++ (wB cA bd ρ ++ ((tp, .inr (8, tpF ad bd)) :: rest))))) (va_A (wB cA ad τ ++ (wPg cA ad pd π ++ (wB cA bd ρ ++ ((tp, .inr (8, tpF ad bd)) :: rest)))) sz)) 0 0 (va_A (wB cA ad τ ++ (wPg cA ad pd π ++ (wB cA bd ρ ++ ((tp, .inr (8, tpF ad bd)) :: rest)))) sz) := by
  refine Met.ofW (cc := cX8_start) (maxL := 3) (ret := (some .int)) (by decide) rfl ?_
  intro p e s m args below meth c s₁ B hml hv
  obtain ⟨rfl, hsz, hP, hK, hD0⟩ := hv
  have hx := B.exec
  have hb := B.bytes
  have hr := B.returns
  have hts := atoms_spec (ws := w8_start) B.pre
  have hown : s.vm.findClass RX8 = some m.cls := findClass_of_methodNamed B.named
  have hlocks := B.notSynchronized
  subst hsz
  have hD := hD0.self (sz := s.heap.size)
  clear hD0
  generalize hAe : va_A (wB cA ad τ ++ (wPg cA ad pd π ++ (wB cA bd ρ ++ ((tp, .inr (8, tpF ad bd)) :: rest)))) s.heap.size = A at hD ⊢
  have hA : ∀ q : Nat, s.heap.size ≤ q → A q := fun q h => by rw [← hAe]; exact Or.inr h
  clear hAe
  have hS : va_S A s.heap s.heap [] := va_S.rf
  have hP : va_P D vwCl (wB cA ad τ ++ (wPg cA ad pd π ++ (wB cA bd ρ ++ ((tp, .inr (8, tpF ad bd)) :: rest)))) s.heap := hP
  have hl := lv_entry ([.ref (tp), .int b]) (n := 3) (Nat.le_of_ble_eq_true rfl)
  rw [lg_entry_eq]
  generalize (lg_sl ([.ref (tp), .int b]) ++ List.replicate (3 - (lg_sl ([.ref (tp), .int b])).length) Slot.unset).toArray = ls at hl ⊢
  have hl : lv_has ls 3 [(0, .ref (tp)), (1, .int b)] := hl
  have nX8 : ∀ w ∈ u_ws RX8 TX8 7, w ∈ w8_start := n8_start_X8
  have nX3 : ∀ w ∈ u_ws RX3 TX3 5, w ∈ w8_start := n8_start_X3
  have k12 := hts (.fieldLink RX8 12 "ScopeRow" "program" "LScopeRow$Program;") (by decide +kernel)
  have k48 := hts (.fieldLink RX8 48 "ScopeRow$Program" "bodies" "I") (by decide +kernel)
  have k19 := hts (.fieldLink RX8 19 "ScopeRow" "state" "LScopeRow$State;") (by decide +kernel)
  refine lv_iload_n hx hb dX8_start_0 rfl (lv_at hl 1 rfl) ?_
  refine lv_aload_n hx hb dX8_start_1 rfl (lv_at hl 0 rfl) ?_
  refine va_get (D := D) (C := RX8) (T := TX8) (N := 7) (ci := 8) (v := .ref (ad 102)) hx hb hts nX8 hown hK hP 209 w_tp rfl 0 (by decide) k12 (fun _ h9 => h9) rfl dX8_start_2 ?_
  refine va_get (D := D) (C := RX3) (T := TX3) (N := 5) (ci := 3) (v := .int (π 0 0)) hx hb hts nX3 hown hK hP 102 w_pg rfl 0 (by decide) k48 (fun _ h9 => h9) rfl dX8_start_5 ?_
  refine x_Sv (As := [.int b, .int (π 0 0)]) (rest0 := []) ⟨hx, hb, hml, hown, hts⟩ (c_X8_checkNumber l D cA ad tr (wPg cA ad pd π ++ (wB cA bd ρ ++ ((tp, .inr (8, tpF ad bd)) :: rest))) s.heap.size τ b (π 0 0) h0 h1) (va_cwS 2 hts g8_start_X8_checkNumber rfl rfl rfl (by decide +kernel) ⟨Nat.le_of_ble_eq_true rfl, Nat.le_of_ble_eq_true rfl⟩) hK hP hD hS hA hl.1 rfl rfl (Nat.le_of_ble_eq_true rfl) ⟨Nat.zero_le _, Nat.zero_le _⟩ dX8_start_8 (fun _ H locs hw hP hD hS => ?_)
  refine lv_aload_n hx hb dX8_start_11 rfl (lv_at hl 0 rfl) ?_
  refine va_get (D := D) (C := RX8) (T := TX8) (N := 7) (ci := 8) (v := .ref (ad 0)) hx hb hts nX8 hown hK hP 209 w_tp rfl 1 (by decide) k19 (fun _ h9 => h9) rfl dX8_start_12 ?_
  refine lv_iload_n hx hb dX8_start_15 rfl (lv_at hl 1 rfl) ?_
  refine lv_iconst (v := (-1)) hx hb dX8_start_16 (by decide) ?_
  refine x_Vi (As := [.int b, .int (-1)]) (rest0 := []) ⟨hx, hb, hml, hown, hts⟩ (c_X6_makeTask l D cA ad tr (wPg cA ad pd π ++ (wB cA bd ρ ++ ((tp, .inr (8, tpF ad bd)) :: rest))) H.size τ b (-1)) (cwV 2 hts g8_start_X6_makeTask rfl rfl rfl (by decide +kernel) ⟨Nat.le_of_ble_eq_true rfl, Nat.le_of_ble_eq_true rfl⟩) hK hP hD hS hA 0 w_st rfl hl.1 rfl rfl (Nat.le_of_ble_eq_true rfl) ⟨Nat.zero_le _, Nat.zero_le _⟩ dX8_start_17 (fun r1 τ2 H locs hw hP hD hS => ?_)
  obtain ⟨er1, eτ2⟩ := hw
  refine lv_istore_n (lv' := [(2, .int r1), (0, .ref (tp)), (1, .int b)]) hx hb dX8_start_20 rfl hl (by decide) rfl (fun ls hl => ?_)
  refine lv_iload_n hx hb dX8_start_21 rfl (lv_at hl 0 rfl) ?_
  refine lv_iconst (v := (-1)) hx hb dX8_start_22 (by decide) ?_
  refine lv_icmp_ne (tgt := 36) hx hb dX8_start_23 (by decide) (fun c_23_3 => ?_) (fun c_23_3 => ?_)
  -- 23 jumps
  · skip
    refine lv_iload_n hx hb dX8_start_36 rfl (lv_at hl 0 rfl) ?_
    exact x_iret hx hb hr hlocks hK τ2 hP hD hS dX8_start_37 (by subst er1 eτ2; exact ⟨rfl, rfl⟩)
  -- 23 goes on
  · exact absurd (by rw [← er1]; exact c_23_3) h2

set_option maxHeartbeats 4000000 in
set_option maxRecDepth 100000 in
theorem c_X8_line (l : Launch) (D : va_G) (cA : Nat → ClassId) (ad : Nat → Nat) (tr : List (ClassId × FieldType)) (rest : va_W) (sz : Nat) (τ : Sg) (pd : Nat → Nat) (π : Sg) (bd : Nat → Nat) (tp : Nat) (ρ : Sg) (h102 : bd 102 = ad 102) (b k a c1 : Int32) (h0 : ¬ b < 0) (h1 : b < π 0 0) (h2 : m_fits k a c1 (m_linesOf π b) = true) (h3 : ¬ 12 ≤ m_linesOf π b) (h4 : m_isUsed τ b = false) : Met l yX8_line w8_line ({ frames := 3, cells := 0, slots := 0, locals := 64 }) (va_Pc [.ref (tp), .int b, .int k, .int a, .int c1] (inW D (tyB cA ++ tr) (wB cA ad τ ++ (wPg cA ad pd π ++ (wB cA bd ρ ++ ((tp, .inr (8, tpF ad bd)) :: rest)))) sz)) (va_Qi (fun (r : Int32) (u : Sg) => r = m_linesOf π b ∧ u = m_addLine π b k a c1) (fun u : Sg => outW D (tyB cA ++ tr) (va_A (wB cA ad τ ++ (wPg cA ad pd π ++ (wB cA bd ρ ++ ((tp, .inr (8, tpF ad bd)) :: rest)))) sz) (wB cA ad τ ++ (wPg cA ad pd u ++ (wB cA bd ρ ++ ((tp, .inr (8, tpF ad bd)) :: rest))))) (va_A (wB cA ad τ ++ (wPg cA ad pd π ++ (wB cA bd ρ ++ ((tp, .inr (8, tpF ad bd)) :: rest)))) sz)) 0 0 (va_A (wB cA ad τ ++ (wPg cA ad pd π ++ (wB cA bd ρ ++ ((tp, .inr (8, tpF ad bd)) :: rest)))) sz) := by
  refine Met.ofW (cc := cX8_line) (maxL := 6) (ret := (some .int)) (by decide) rfl ?_
  intro p e s m args below meth c s₁ B hml hv
  obtain ⟨rfl, hsz, hP, hK, hD0⟩ := hv
  have hx := B.exec
  have hb := B.bytes
  have hr := B.returns
  have hts := atoms_spec (ws := w8_line) B.pre
  have hown : s.vm.findClass RX8 = some m.cls := findClass_of_methodNamed B.named
  have hlocks := B.notSynchronized
  subst hsz
  have hD := hD0.self (sz := s.heap.size)
  clear hD0
  generalize hAe : va_A (wB cA ad τ ++ (wPg cA ad pd π ++ (wB cA bd ρ ++ ((tp, .inr (8, tpF ad bd)) :: rest)))) s.heap.size = A at hD ⊢
  have hA : ∀ q : Nat, s.heap.size ≤ q → A q := fun q h => by rw [← hAe]; exact Or.inr h
  clear hAe
  have hS : va_S A s.heap s.heap [] := va_S.rf
  have hP : va_P D vwCl (wB cA ad τ ++ (wPg cA ad pd π ++ (wB cA bd ρ ++ ((tp, .inr (8, tpF ad bd)) :: rest)))) s.heap := hP
  have hl := lv_entry ([.ref (tp), .int b, .int k, .int a, .int c1]) (n := 6) (Nat.le_of_ble_eq_true rfl)
  rw [lg_entry_eq]
  generalize (lg_sl ([.ref (tp), .int b, .int k, .int a, .int c1]) ++ List.replicate (6 - (lg_sl ([.ref (tp), .int b, .int k, .int a, .int c1])).length) Slot.unset).toArray = ls at hl ⊢
  have hl : lv_has ls 6 [(0, .ref (tp)), (1, .int b), (2, .int k), (3, .int a), (4, .int c1)] := hl
  have nX8 : ∀ w ∈ u_ws RX8 TX8 7, w ∈ w8_line := n8_line_X8
  have nX3 : ∀ w ∈ u_ws RX3 TX3 5, w ∈ w8_line := n8_line_X3
  have k12 := hts (.fieldLink RX8 12 "ScopeRow" "program" "LScopeRow$Program;") (by decide +kernel)
  have k48 := hts (.fieldLink RX8 48 "ScopeRow$Program" "bodies" "I") (by decide +kernel)
  have k19 := hts (.fieldLink RX8 19 "ScopeRow" "state" "LScopeRow$State;") (by decide +kernel)
  refine lv_iload_n hx hb dX8_line_0 rfl (lv_at hl 1 rfl) ?_
  refine lv_aload_n hx hb dX8_line_1 rfl (lv_at hl 0 rfl) ?_
  refine va_get (D := D) (C := RX8) (T := TX8) (N := 7) (ci := 8) (v := .ref (ad 102)) hx hb hts nX8 hown hK hP 209 w_tp rfl 0 (by decide) k12 (fun _ h9 => h9) rfl dX8_line_2 ?_
  refine va_get (D := D) (C := RX3) (T := TX3) (N := 5) (ci := 3) (v := .int (π 0 0)) hx hb hts nX3 hown hK hP 102 w_pg rfl 0 (by decide) k48 (fun _ h9 => h9) rfl dX8_line_5 ?_
  refine x_Sv (As := [.int b, .int (π 0 0)]) (rest0 := []) ⟨hx, hb, hml, hown, hts⟩ (c_X8_checkNumber l D cA ad tr (wPg cA ad pd π ++ (wB cA bd ρ ++ ((tp, .inr (8, tpF ad bd)) :: rest))) s.heap.size τ b (π 0 0) h0 h1) (va_cwS 2 hts g8_line_X8_checkNumber rfl rfl rfl (by decide +kernel) ⟨Nat.le_of_ble_eq_true rfl, Nat.le_of_ble_eq_true rfl⟩) hK hP hD hS hA hl.1 rfl rfl (Nat.le_of_ble_eq_true rfl) ⟨Nat.zero_le _, Nat.zero_le _⟩ dX8_line_8 (fun _ H locs hw hP hD hS => ?_)
  refine lv_aload_n hx hb dX8_line_11 rfl (lv_at hl 0 rfl) ?_
  refine va_get (D := D) (C := RX8) (T := TX8) (N := 7) (ci := 8) (v := .ref (ad 102)) hx hb hts nX8 hown hK hP 209 w_tp rfl 0 (by decide) k12 (fun _ h9 => h9) rfl dX8_line_12 ?_
  refine lv_iload_n hx hb dX8_line_15 rfl (lv_at hl 1 rfl) ?_
  refine x_Vi (As := [.int b]) (rest0 := []) ⟨hx, hb, hml, hown, hts⟩ (c_X3_linesOf l D cA ad tr (wB cA bd ρ ++ ((tp, .inr (8, tpF ad bd)) :: rest)) H.size τ pd π b) (cwV 1 hts g8_line_X3_linesOf rfl rfl rfl (by decide +kernel) ⟨Nat.le_of_ble_eq_true rfl, Nat.le_of_ble_eq_true rfl⟩) hK hP hD hS hA 102 w_pg rfl hl.1 rfl rfl (Nat.le_of_ble_eq_true rfl) ⟨Nat.zero_le _, Nat.zero_le _⟩ dX8_line_16 (fun r1 _ H locs hw hP hD hS => ?_)
  have er1 := hw
  refine lv_istore (lv' := [(5, .int r1), (0, .ref (tp)), (1, .int b), (2, .int k), (3, .int a), (4, .int c1)]) hx hb dX8_line_19 hl (by decide) rfl (fun ls hl => ?_)
  refine lv_iload_n hx hb dX8_line_21 rfl (lv_at hl 3 rfl) ?_
  refine lv_iload_n hx hb dX8_line_22 rfl (lv_at hl 4 rfl) ?_
  refine lv_iload hx hb dX8_line_23 (lv_at hl 5 rfl) ?_
  refine lv_iload hx hb dX8_line_25 (lv_at hl 0 rfl) ?_
  refine x_Si (As := [.int k, .int a, .int c1, .int r1]) (rest0 := []) ⟨hx, hb, hml, hown, hts⟩ (c_X3_fits l D cA ad tr (wPg cA ad pd π ++ (wB cA bd ρ ++ ((tp, .inr (8, tpF ad bd)) :: rest))) H.size τ k a c1 r1) (va_cwS 4 hts g8_line_X3_fits rfl rfl rfl (by decide +kernel) ⟨Nat.le_of_ble_eq_true rfl, Nat.le_of_ble_eq_true rfl⟩) hK hP hD hS hA hl.1 rfl rfl (Nat.le_of_ble_eq_true rfl) ⟨Nat.zero_le _, Nat.zero_le _⟩ dX8_line_27 (fun r2 _ H locs hw hP hD hS => ?_)
  have er2 := hw
  refine lv_if_ne (tgt := 43) hx hb dX8_line_30 (by decide) (fun c_30_3 => ?_) (fun c_30_3 => ?_)
  -- 30 jumps
  · skip
    have dc_30_3 := bI_t er2 c_30_3
    refine lv_iload hx hb dX8_line_43 (lv_at hl 0 rfl) ?_
    refine lv_bipush (v := 12) hx hb dX8_line_45 (by decide) ?_
    refine lv_icmp_ge (tgt := 61) hx hb dX8_line_47 (by decide) (fun c_47_4 => ?_) (fun c_47_4 => ?_)
    -- 47 jumps
    · exact absurd (by rw [← er1]; exact c_47_4) h3
    -- 47 goes on
    · skip
      refine lv_aload_n hx hb dX8_line_50 rfl (lv_at hl 1 rfl) ?_
      refine va_get (D := D) (C := RX8) (T := TX8) (N := 7) (ci := 8) (v := .ref (ad 0)) hx hb hts nX8 hown hK hP 209 w_tp rfl 1 (by decide) k19 (fun _ h9 => h9) rfl dX8_line_51 ?_
      refine lv_iload_n hx hb dX8_line_54 rfl (lv_at hl 2 rfl) ?_
      refine x_Vi (As := [.int b]) (rest0 := []) ⟨hx, hb, hml, hown, hts⟩ (c_X6_isUsed l D cA ad tr (wPg cA ad pd π ++ (wB cA bd ρ ++ ((tp, .inr (8, tpF ad bd)) :: rest))) H.size τ b) (cwV 1 hts g8_line_X6_isUsed rfl rfl rfl (by decide +kernel) ⟨Nat.le_of_ble_eq_true rfl, Nat.le_of_ble_eq_true rfl⟩) hK hP hD hS hA 0 w_st rfl hl.1 rfl rfl (Nat.le_of_ble_eq_true rfl) ⟨Nat.zero_le _, Nat.zero_le _⟩ dX8_line_55 (fun r5 _ H locs hw hP hD hS => ?_)
      have er5 := hw
      refine lv_if_eq (tgt := 71) hx hb dX8_line_58 (by decide) (fun c_58_6 => ?_) (fun c_58_6 => ?_)
      -- 58 jumps
      · skip
        have dc_58_6 := bI_f er5 c_58_6
        refine lv_aload_n hx hb dX8_line_71 rfl (lv_at hl 1 rfl) ?_
        refine va_get (D := D) (C := RX8) (T := TX8) (N := 7) (ci := 8) (v := .ref (ad 102)) hx hb hts nX8 hown hK hP 209 w_tp rfl 0 (by decide) k12 (fun _ h9 => h9) rfl dX8_line_72 ?_
        refine lv_iload_n hx hb dX8_line_75 rfl (lv_at hl 2 rfl) ?_
        refine lv_iload_n hx hb dX8_line_76 rfl (lv_at hl 3 rfl) ?_
        refine lv_iload_n hx hb dX8_line_77 rfl (lv_at hl 4 rfl) ?_
        refine lv_iload hx hb dX8_line_78 (lv_at hl 5 rfl) ?_
        refine x_Vv (As := [.int b, .int k, .int a, .int c1]) (rest0 := []) ⟨hx, hb, hml, hown, hts⟩ (c_X3_addLine l D cA ad tr (wB cA bd ρ ++ ((tp, .inr (8, tpF ad bd)) :: rest)) H.size τ pd π b k a c1) (cwV 4 hts g8_line_X3_addLine rfl rfl rfl (by decide +kernel) ⟨Nat.le_of_ble_eq_true rfl, Nat.le_of_ble_eq_true rfl⟩) hK hP hD hS hA 102 w_pg rfl hl.1 rfl rfl (Nat.le_of_ble_eq_true rfl) ⟨Nat.zero_le _, Nat.zero_le _⟩ dX8_line_80 (fun π7 H locs hw hP hD hS => ?_)
        have eπ7 := hw
        refine lv_iload hx hb dX8_line_83 (lv_at hl 0 rfl) ?_
        exact x_iret hx hb hr hlocks hK π7 hP hD hS dX8_line_85 (by subst eπ7 er5 er2 er1; exact ⟨rfl, rfl⟩)
      -- 58 goes on
      · exact absurd (bI_t er5 c_58_6) (by rw [h4]; decide)
  -- 30 goes on
  · rw [er1] at er2; exact absurd (bI_f er2 c_30_3) (by rw [h2]; decide)

set_option maxHeartbeats 4000000 in
set_option maxRecDepth 100000 in
theorem c_X8_overBy (l : Launch) (D : va_G) (cA : Nat → ClassId) (ad : Nat → Nat) (tr : List (ClassId × FieldType)) (rest : va_W) (sz : Nat) (τ : Sg) (pd : Nat → Nat) (π : Sg) (bd : Nat → Nat) (tp : Nat) (ρ : Sg) (h102 : bd 102 = ad 102) (T U : Nat) (hT0 : ¬ nI T < 1) (hT1 : nI T ≤ 20) (hU0 : ¬ nI U < 1) (hU1 : nI U ≤ 50) (hT : T < 1000) (hU : U < 1000) (hfl : m_flags τ) : Met l yX8_overBy w8_overBy ({ frames := 7, cells := 0, slots := 0, locals := 171 }) (va_Pc [.ref (tp), .int (nI T), .int (nI U)] (inW D (tyB cA ++ tr) (wB cA ad τ ++ (wPg cA ad pd π ++ (wB cA bd ρ ++ ((tp, .inr (8, tpF ad bd)) :: rest)))) sz)) (va_Qi (fun (r : Int32) (u : Sg) => r = nI (m_countOver (m_overS π U T (m_copy ρ τ))) ∧ u = m_overS π U T (m_copy ρ τ)) (fun u : Sg => outW D (tyB cA ++ tr) (va_A (wB cA ad τ ++ (wPg cA ad pd π ++ (wB cA bd ρ ++ ((tp, .inr (8, tpF ad bd)) :: rest)))) sz) (wB cA ad τ ++ (wPg cA ad pd π ++ (wB cA bd u ++ ((tp, .inr (8, tpF ad bd)) :: rest))))) (va_A (wB cA ad τ ++ (wPg cA ad pd π ++ (wB cA bd ρ ++ ((tp, .inr (8, tpF ad bd)) :: rest)))) sz)) 0 0 (va_A (wB cA ad τ ++ (wPg cA ad pd π ++ (wB cA bd ρ ++ ((tp, .inr (8, tpF ad bd)) :: rest)))) sz) := by
  refine Met.ofW (cc := cX8_overBy) (maxL := 3) (ret := (some .int)) (by decide) rfl ?_
  intro p e s m args below meth c s₁ B hml hv
  obtain ⟨rfl, hsz, hP, hK, hD0⟩ := hv
  have hx := B.exec
  have hb := B.bytes
  have hr := B.returns
  have hts := atoms_spec (ws := w8_overBy) B.pre
  have hown : s.vm.findClass RX8 = some m.cls := findClass_of_methodNamed B.named
  have hlocks := B.notSynchronized
  subst hsz
  have hD := hD0.self (sz := s.heap.size)
  clear hD0
  generalize hAe : va_A (wB cA ad τ ++ (wPg cA ad pd π ++ (wB cA bd ρ ++ ((tp, .inr (8, tpF ad bd)) :: rest)))) s.heap.size = A at hD ⊢
  have hA : ∀ q : Nat, s.heap.size ≤ q → A q := fun q h => by rw [← hAe]; exact Or.inr h
  clear hAe
  have hS : va_S A s.heap s.heap [] := va_S.rf
  have hP : va_P D vwCl (wB cA ad τ ++ (wPg cA ad pd π ++ (wB cA bd ρ ++ ((tp, .inr (8, tpF ad bd)) :: rest)))) s.heap := hP
  have hl := lv_entry ([.ref (tp), .int (nI T), .int (nI U)]) (n := 3) (Nat.le_of_ble_eq_true rfl)
  rw [lg_entry_eq]
  generalize (lg_sl ([.ref (tp), .int (nI T), .int (nI U)]) ++ List.replicate (3 - (lg_sl ([.ref (tp), .int (nI T), .int (nI U)])).length) Slot.unset).toArray = ls at hl ⊢
  have hl : lv_has ls 3 [(0, .ref (tp)), (1, .int (nI T)), (2, .int (nI U))] := hl
  refine lv_iload_n hx hb dX8_overBy_0 rfl (lv_at hl 1 rfl) ?_
  refine lv_iconst (v := 1) hx hb dX8_overBy_1 (by decide) ?_
  refine lv_bipush (v := 20) hx hb dX8_overBy_2 (by decide) ?_
  refine x_Sv (As := [.int (nI T), .int 1, .int 20]) (rest0 := []) ⟨hx, hb, hml, hown, hts⟩ (c_X8_checkWithin l D cA ad tr (wPg cA ad pd π ++ (wB cA bd ρ ++ ((tp, .inr (8, tpF ad bd)) :: rest))) s.heap.size τ (nI T) 1 20 hT0 hT1) (va_cwS 3 hts g8_overBy_X8_checkWithin rfl rfl rfl (by decide +kernel) ⟨Nat.le_of_ble_eq_true rfl, Nat.le_of_ble_eq_true rfl⟩) hK hP hD hS hA hl.1 rfl rfl (Nat.le_of_ble_eq_true rfl) ⟨Nat.zero_le _, Nat.zero_le _⟩ dX8_overBy_4 (fun _ H locs hw hP hD hS => ?_)
  refine lv_iload_n hx hb dX8_overBy_7 rfl (lv_at hl 2 rfl) ?_
  refine lv_iconst (v := 1) hx hb dX8_overBy_8 (by decide) ?_
  refine lv_bipush (v := 50) hx hb dX8_overBy_9 (by decide) ?_
  refine x_Sv (As := [.int (nI U), .int 1, .int 50]) (rest0 := []) ⟨hx, hb, hml, hown, hts⟩ (c_X8_checkWithin l D cA ad tr (wPg cA ad pd π ++ (wB cA bd ρ ++ ((tp, .inr (8, tpF ad bd)) :: rest))) H.size τ (nI U) 1 50 hU0 hU1) (va_cwS 3 hts g8_overBy_X8_checkWithin rfl rfl rfl (by decide +kernel) ⟨Nat.le_of_ble_eq_true rfl, Nat.le_of_ble_eq_true rfl⟩) hK hP hD hS hA hl.1 rfl rfl (Nat.le_of_ble_eq_true rfl) ⟨Nat.zero_le _, Nat.zero_le _⟩ dX8_overBy_11 (fun _ H locs hw hP hD hS => ?_)
  refine lv_aload_n hx hb dX8_overBy_14 rfl (lv_at hl 0 rfl) ?_
  refine lv_iload_n hx hb dX8_overBy_15 rfl (lv_at hl 1 rfl) ?_
  refine lv_iload_n hx hb dX8_overBy_16 rfl (lv_at hl 2 rfl) ?_
  refine x_Vi (As := [.int (nI T), .int (nI U)]) (rest0 := []) ⟨hx, hb, hml, hown, hts⟩ (c_X8_overAfter l D cA ad tr rest H.size τ pd π bd tp ρ h102 T U hT hU hfl) (cwV 2 hts g8_overBy_X8_overAfter rfl rfl rfl (by decide +kernel) ⟨Nat.le_of_ble_eq_true rfl, Nat.le_of_ble_eq_true rfl⟩) hK hP hD hS hA 209 w_tp rfl hl.1 rfl rfl (Nat.le_of_ble_eq_true rfl) ⟨Nat.zero_le _, Nat.zero_le _⟩ dX8_overBy_17 (fun r1 ρ2 H locs hw hP hD hS => ?_)
  obtain ⟨er1, eρ2⟩ := hw
  exact x_iret hx hb hr hlocks hK ρ2 hP hD hS dX8_overBy_20 ⟨er1, eρ2⟩

set_option maxHeartbeats 4000000 in
set_option maxRecDepth 100000 in
theorem c_X8_digest (l : Launch) (D : va_G) (cA : Nat → ClassId) (ad : Nat → Nat) (tr : List (ClassId × FieldType)) (rest : va_W) (sz : Nat) (τ : Sg) (pd : Nat → Nat) (π : Sg) (bd : Nat → Nat) (tp : Nat) (ρ : Sg) (h102 : bd 102 = ad 102) (T : Nat) (hT : τ 0 1 = nI T) (hT2 : T < 1000) (V : Nat) (hV : τ 0 3 = nI V) (hV2 : V < 1000) (hfl : m_flags τ) : Met l yX8_digest w8_digest ({ frames := 7, cells := 0, slots := 0, locals := 171 }) (va_Pc [.ref (tp)] (inW D (tyB cA ++ tr) (wB cA ad τ ++ (wPg cA ad pd π ++ (wB cA bd ρ ++ ((tp, .inr (8, tpF ad bd)) :: rest)))) sz)) (va_Ql (fun (r : Int64) (u : Sg) => r = m_dig τ π ρ T V ∧ u = m_overS π 10 5 (m_copy (m_overS π 10 1 (m_copy ρ τ)) τ)) (fun u : Sg => outW D (tyB cA ++ tr) (va_A (wB cA ad τ ++ (wPg cA ad pd π ++ (wB cA bd ρ ++ ((tp, .inr (8, tpF ad bd)) :: rest)))) sz) (wB cA ad τ ++ (wPg cA ad pd π ++ (wB cA bd u ++ ((tp, .inr (8, tpF ad bd)) :: rest))))) (va_A (wB cA ad τ ++ (wPg cA ad pd π ++ (wB cA bd ρ ++ ((tp, .inr (8, tpF ad bd)) :: rest)))) sz)) 0 0 (va_A (wB cA ad τ ++ (wPg cA ad pd π ++ (wB cA bd ρ ++ ((tp, .inr (8, tpF ad bd)) :: rest)))) sz) := by
  refine Met.ofW (cc := cX8_digest) (maxL := 4) (ret := (some .long)) (by decide) rfl ?_
  intro p e s m args below meth c s₁ B hml hv
  obtain ⟨rfl, hsz, hP, hK, hD0⟩ := hv
  have hx := B.exec
  have hb := B.bytes
  have hr := B.returns
  have hts := atoms_spec (ws := w8_digest) B.pre
  have hown : s.vm.findClass RX8 = some m.cls := findClass_of_methodNamed B.named
  have hlocks := B.notSynchronized
  subst hsz
  have hD := hD0.self (sz := s.heap.size)
  clear hD0
  generalize hAe : va_A (wB cA ad τ ++ (wPg cA ad pd π ++ (wB cA bd ρ ++ ((tp, .inr (8, tpF ad bd)) :: rest)))) s.heap.size = A at hD ⊢
  have hA : ∀ q : Nat, s.heap.size ≤ q → A q := fun q h => by rw [← hAe]; exact Or.inr h
  clear hAe
  have hS : va_S A s.heap s.heap [] := va_S.rf
  have hP : va_P D vwCl (wB cA ad τ ++ (wPg cA ad pd π ++ (wB cA bd ρ ++ ((tp, .inr (8, tpF ad bd)) :: rest)))) s.heap := hP
  have hl := lv_entry ([.ref (tp)]) (n := 4) (Nat.le_of_ble_eq_true rfl)
  rw [lg_entry_eq]
  generalize (lg_sl ([.ref (tp)]) ++ List.replicate (4 - (lg_sl ([.ref (tp)])).length) Slot.unset).toArray = ls at hl ⊢
  have hl : lv_has ls 4 [(0, .ref (tp))] := hl
  have nX8 : ∀ w ∈ u_ws RX8 TX8 7, w ∈ w8_digest := n8_digest_X8
  have k35 := hts (.fieldLink RX8 35 "ScopeRow" "answers" "LScopeRow$Answers;") (by decide +kernel)
  refine lv_ldc2 (v := 7614) hx hb hown (hts (.constantLong RX8 159 (7614)) (by decide +kernel)) dX8_digest_0 ?_
  refine lv_lstore_n (lv' := [(1, .long 7614), (0, .ref (tp))]) hx hb dX8_digest_3 rfl hl (by decide) rfl (fun ls hl => ?_)
  refine lv_iconst (v := 0) hx hb dX8_digest_4 (by decide) ?_
  refine lv_istore_n (lv' := [(3, .int 0), (1, .long 7614), (0, .ref (tp))]) hx hb dX8_digest_5 rfl hl (by decide) rfl (fun ls hl => ?_)
  refine lv_iload_n hx hb dX8_digest_6 rfl (lv_at hl 0 rfl) ?_
  refine lv_bipush (v := 12) hx hb dX8_digest_7 (by decide) ?_
  refine lv_icmp_gt (tgt := 34) hx hb dX8_digest_9 (by decide) (fun c_9_1 => ?_) (fun c_9_1 => ?_)
  -- 9 jumps
  · exact absurd c_9_1 (by decide)
  -- 9 goes on
  · skip
    refine lv_lload_n hx hb dX8_digest_12 rfl (lv_at hl 1 rfl) ?_
    refine lv_ldc2 (v := 31) hx hb hown (hts (.constantLong RX8 161 (31)) (by decide +kernel)) dX8_digest_13 ?_
    refine lv_lmul hx hb dX8_digest_16 ?_
    refine lv_aload_n hx hb dX8_digest_17 rfl (lv_at hl 2 rfl) ?_
    refine va_get (D := D) (C := RX8) (T := TX8) (N := 7) (ci := 8) (v := .ref (ad 101)) hx hb hts nX8 hown hK hP 209 w_tp rfl 3 (by decide) k35 (fun _ h9 => h9) rfl dX8_digest_18 ?_
    refine lv_iload_n hx hb dX8_digest_21 rfl (lv_at hl 0 rfl) ?_
    refine x_Vi (As := [.int 0]) (rest0 := [.long (7614 * 31)]) ⟨hx, hb, hml, hown, hts⟩ (c_X0_howMany l D cA ad tr (wB cA bd ρ ++ ((tp, .inr (8, tpF ad bd)) :: rest)) s.heap.size τ pd π 0) (cwV 1 hts g8_digest_X0_howMany rfl rfl rfl (by decide +kernel) ⟨Nat.le_of_ble_eq_true rfl, Nat.le_of_ble_eq_true rfl⟩) hK hP hD hS hA 101 w_an rfl hl.1 rfl rfl (Nat.le_of_ble_eq_true rfl) ⟨Nat.zero_le _, Nat.zero_le _⟩ dX8_digest_22 (fun r2 _ H locs hw hP hD hS => ?_)
    have er2 := hw
    refine lv_i2l (v := r2.toInt64) hx hb dX8_digest_25 rfl ?_
    refine lv_ladd hx hb dX8_digest_26 ?_
    refine lv_topl (fun d3 ed3 => ?_)
    refine lv_lstore_n (lv' := [(1, .long d3), (3, .int 0), (0, .ref (tp))]) hx hb dX8_digest_27 rfl hl (by decide) rfl (fun ls hl => ?_)
    refine lv_iinc (v := 1) (lv' := [(3, .int 1), (1, .long d3), (0, .ref (tp))]) hx hb dX8_digest_28 hl (k := 1) rfl (by decide) (by decide) rfl (fun ls hl => ?_)
    refine lv_goto (tgt := 6) hx hb dX8_digest_31 (by decide) ?_
    refine lv_iload_n hx hb dX8_digest_6 rfl (lv_at hl 0 rfl) ?_
    refine lv_bipush (v := 12) hx hb dX8_digest_7 (by decide) ?_
    refine lv_icmp_gt (tgt := 34) hx hb dX8_digest_9 (by decide) (fun c_9_4 => ?_) (fun c_9_4 => ?_)
    -- 9 jumps
    · exact absurd c_9_4 (by decide)
    -- 9 goes on
    · skip
      refine lv_lload_n hx hb dX8_digest_12 rfl (lv_at hl 1 rfl) ?_
      refine lv_ldc2 (v := 31) hx hb hown (hts (.constantLong RX8 161 (31)) (by decide +kernel)) dX8_digest_13 ?_
      refine lv_lmul hx hb dX8_digest_16 ?_
      refine lv_aload_n hx hb dX8_digest_17 rfl (lv_at hl 2 rfl) ?_
      refine va_get (D := D) (C := RX8) (T := TX8) (N := 7) (ci := 8) (v := .ref (ad 101)) hx hb hts nX8 hown hK hP 209 w_tp rfl 3 (by decide) k35 (fun _ h9 => h9) rfl dX8_digest_18 ?_
      refine lv_iload_n hx hb dX8_digest_21 rfl (lv_at hl 0 rfl) ?_
      refine x_Vi (As := [.int 1]) (rest0 := [.long (d3 * 31)]) ⟨hx, hb, hml, hown, hts⟩ (c_X0_howMany l D cA ad tr (wB cA bd ρ ++ ((tp, .inr (8, tpF ad bd)) :: rest)) H.size τ pd π 1) (cwV 1 hts g8_digest_X0_howMany rfl rfl rfl (by decide +kernel) ⟨Nat.le_of_ble_eq_true rfl, Nat.le_of_ble_eq_true rfl⟩) hK hP hD hS hA 101 w_an rfl hl.1 rfl rfl (Nat.le_of_ble_eq_true rfl) ⟨Nat.zero_le _, Nat.zero_le _⟩ dX8_digest_22 (fun r5 _ H locs hw hP hD hS => ?_)
      have er5 := hw
      refine lv_i2l (v := r5.toInt64) hx hb dX8_digest_25 rfl ?_
      refine lv_ladd hx hb dX8_digest_26 ?_
      refine lv_topl (fun d6 ed6 => ?_)
      refine lv_lstore_n (lv' := [(1, .long d6), (3, .int 1), (0, .ref (tp))]) hx hb dX8_digest_27 rfl hl (by decide) rfl (fun ls hl => ?_)
      refine lv_iinc (v := 2) (lv' := [(3, .int 2), (1, .long d6), (0, .ref (tp))]) hx hb dX8_digest_28 hl (k := 1) rfl (by decide) (by decide) rfl (fun ls hl => ?_)
      refine lv_goto (tgt := 6) hx hb dX8_digest_31 (by decide) ?_
      refine lv_iload_n hx hb dX8_digest_6 rfl (lv_at hl 0 rfl) ?_
      refine lv_bipush (v := 12) hx hb dX8_digest_7 (by decide) ?_
      refine lv_icmp_gt (tgt := 34) hx hb dX8_digest_9 (by decide) (fun c_9_7 => ?_) (fun c_9_7 => ?_)
      -- 9 jumps
      · exact absurd c_9_7 (by decide)
      -- 9 goes on
      · skip
        refine lv_lload_n hx hb dX8_digest_12 rfl (lv_at hl 1 rfl) ?_
        refine lv_ldc2 (v := 31) hx hb hown (hts (.constantLong RX8 161 (31)) (by decide +kernel)) dX8_digest_13 ?_
        refine lv_lmul hx hb dX8_digest_16 ?_
        refine lv_aload_n hx hb dX8_digest_17 rfl (lv_at hl 2 rfl) ?_
        refine va_get (D := D) (C := RX8) (T := TX8) (N := 7) (ci := 8) (v := .ref (ad 101)) hx hb hts nX8 hown hK hP 209 w_tp rfl 3 (by decide) k35 (fun _ h9 => h9) rfl dX8_digest_18 ?_
        refine lv_iload_n hx hb dX8_digest_21 rfl (lv_at hl 0 rfl) ?_
        refine x_Vi (As := [.int 2]) (rest0 := [.long (d6 * 31)]) ⟨hx, hb, hml, hown, hts⟩ (c_X0_howMany l D cA ad tr (wB cA bd ρ ++ ((tp, .inr (8, tpF ad bd)) :: rest)) H.size τ pd π 2) (cwV 1 hts g8_digest_X0_howMany rfl rfl rfl (by decide +kernel) ⟨Nat.le_of_ble_eq_true rfl, Nat.le_of_ble_eq_true rfl⟩) hK hP hD hS hA 101 w_an rfl hl.1 rfl rfl (Nat.le_of_ble_eq_true rfl) ⟨Nat.zero_le _, Nat.zero_le _⟩ dX8_digest_22 (fun r8 _ H locs hw hP hD hS => ?_)
        have er8 := hw
        refine lv_i2l (v := r8.toInt64) hx hb dX8_digest_25 rfl ?_
        refine lv_ladd hx hb dX8_digest_26 ?_
        refine lv_topl (fun d9 ed9 => ?_)
        refine lv_lstore_n (lv' := [(1, .long d9), (3, .int 2), (0, .ref (tp))]) hx hb dX8_digest_27 rfl hl (by decide) rfl (fun ls hl => ?_)
        refine lv_iinc (v := 3) (lv' := [(3, .int 3), (1, .long d9), (0, .ref (tp))]) hx hb dX8_digest_28 hl (k := 1) rfl (by decide) (by decide) rfl (fun ls hl => ?_)
        refine lv_goto (tgt := 6) hx hb dX8_digest_31 (by decide) ?_
        refine lv_iload_n hx hb dX8_digest_6 rfl (lv_at hl 0 rfl) ?_
        refine lv_bipush (v := 12) hx hb dX8_digest_7 (by decide) ?_
        refine lv_icmp_gt (tgt := 34) hx hb dX8_digest_9 (by decide) (fun c_9_10 => ?_) (fun c_9_10 => ?_)
        -- 9 jumps
        · exact absurd c_9_10 (by decide)
        -- 9 goes on
        · skip
          refine lv_lload_n hx hb dX8_digest_12 rfl (lv_at hl 1 rfl) ?_
          refine lv_ldc2 (v := 31) hx hb hown (hts (.constantLong RX8 161 (31)) (by decide +kernel)) dX8_digest_13 ?_
          refine lv_lmul hx hb dX8_digest_16 ?_
          refine lv_aload_n hx hb dX8_digest_17 rfl (lv_at hl 2 rfl) ?_
          refine va_get (D := D) (C := RX8) (T := TX8) (N := 7) (ci := 8) (v := .ref (ad 101)) hx hb hts nX8 hown hK hP 209 w_tp rfl 3 (by decide) k35 (fun _ h9 => h9) rfl dX8_digest_18 ?_
          refine lv_iload_n hx hb dX8_digest_21 rfl (lv_at hl 0 rfl) ?_
          refine x_Vi (As := [.int 3]) (rest0 := [.long (d9 * 31)]) ⟨hx, hb, hml, hown, hts⟩ (c_X0_howMany l D cA ad tr (wB cA bd ρ ++ ((tp, .inr (8, tpF ad bd)) :: rest)) H.size τ pd π 3) (cwV 1 hts g8_digest_X0_howMany rfl rfl rfl (by decide +kernel) ⟨Nat.le_of_ble_eq_true rfl, Nat.le_of_ble_eq_true rfl⟩) hK hP hD hS hA 101 w_an rfl hl.1 rfl rfl (Nat.le_of_ble_eq_true rfl) ⟨Nat.zero_le _, Nat.zero_le _⟩ dX8_digest_22 (fun r11 _ H locs hw hP hD hS => ?_)
          have er11 := hw
          refine lv_i2l (v := r11.toInt64) hx hb dX8_digest_25 rfl ?_
          refine lv_ladd hx hb dX8_digest_26 ?_
          refine lv_topl (fun d12 ed12 => ?_)
          refine lv_lstore_n (lv' := [(1, .long d12), (3, .int 3), (0, .ref (tp))]) hx hb dX8_digest_27 rfl hl (by decide) rfl (fun ls hl => ?_)
          refine lv_iinc (v := 4) (lv' := [(3, .int 4), (1, .long d12), (0, .ref (tp))]) hx hb dX8_digest_28 hl (k := 1) rfl (by decide) (by decide) rfl (fun ls hl => ?_)
          refine lv_goto (tgt := 6) hx hb dX8_digest_31 (by decide) ?_
          refine lv_iload_n hx hb dX8_digest_6 rfl (lv_at hl 0 rfl) ?_
          refine lv_bipush (v := 12) hx hb dX8_digest_7 (by decide) ?_
          refine lv_icmp_gt (tgt := 34) hx hb dX8_digest_9 (by decide) (fun c_9_13 => ?_) (fun c_9_13 => ?_)
          -- 9 jumps
          · exact absurd c_9_13 (by decide)
          -- 9 goes on
          · skip
            refine lv_lload_n hx hb dX8_digest_12 rfl (lv_at hl 1 rfl) ?_
            refine lv_ldc2 (v := 31) hx hb hown (hts (.constantLong RX8 161 (31)) (by decide +kernel)) dX8_digest_13 ?_
            refine lv_lmul hx hb dX8_digest_16 ?_
            refine lv_aload_n hx hb dX8_digest_17 rfl (lv_at hl 2 rfl) ?_
            refine va_get (D := D) (C := RX8) (T := TX8) (N := 7) (ci := 8) (v := .ref (ad 101)) hx hb hts nX8 hown hK hP 209 w_tp rfl 3 (by decide) k35 (fun _ h9 => h9) rfl dX8_digest_18 ?_
            refine lv_iload_n hx hb dX8_digest_21 rfl (lv_at hl 0 rfl) ?_
            refine x_Vi (As := [.int 4]) (rest0 := [.long (d12 * 31)]) ⟨hx, hb, hml, hown, hts⟩ (c_X0_howMany l D cA ad tr (wB cA bd ρ ++ ((tp, .inr (8, tpF ad bd)) :: rest)) H.size τ pd π 4) (cwV 1 hts g8_digest_X0_howMany rfl rfl rfl (by decide +kernel) ⟨Nat.le_of_ble_eq_true rfl, Nat.le_of_ble_eq_true rfl⟩) hK hP hD hS hA 101 w_an rfl hl.1 rfl rfl (Nat.le_of_ble_eq_true rfl) ⟨Nat.zero_le _, Nat.zero_le _⟩ dX8_digest_22 (fun r14 _ H locs hw hP hD hS => ?_)
            have er14 := hw
            refine lv_i2l (v := r14.toInt64) hx hb dX8_digest_25 rfl ?_
            refine lv_ladd hx hb dX8_digest_26 ?_
            refine lv_topl (fun d15 ed15 => ?_)
            refine lv_lstore_n (lv' := [(1, .long d15), (3, .int 4), (0, .ref (tp))]) hx hb dX8_digest_27 rfl hl (by decide) rfl (fun ls hl => ?_)
            refine lv_iinc (v := 5) (lv' := [(3, .int 5), (1, .long d15), (0, .ref (tp))]) hx hb dX8_digest_28 hl (k := 1) rfl (by decide) (by decide) rfl (fun ls hl => ?_)
            refine lv_goto (tgt := 6) hx hb dX8_digest_31 (by decide) ?_
            refine lv_iload_n hx hb dX8_digest_6 rfl (lv_at hl 0 rfl) ?_
            refine lv_bipush (v := 12) hx hb dX8_digest_7 (by decide) ?_
            refine lv_icmp_gt (tgt := 34) hx hb dX8_digest_9 (by decide) (fun c_9_16 => ?_) (fun c_9_16 => ?_)
            -- 9 jumps
            · exact absurd c_9_16 (by decide)
            -- 9 goes on
            · skip
              refine lv_lload_n hx hb dX8_digest_12 rfl (lv_at hl 1 rfl) ?_
              refine lv_ldc2 (v := 31) hx hb hown (hts (.constantLong RX8 161 (31)) (by decide +kernel)) dX8_digest_13 ?_
              refine lv_lmul hx hb dX8_digest_16 ?_
              refine lv_aload_n hx hb dX8_digest_17 rfl (lv_at hl 2 rfl) ?_
              refine va_get (D := D) (C := RX8) (T := TX8) (N := 7) (ci := 8) (v := .ref (ad 101)) hx hb hts nX8 hown hK hP 209 w_tp rfl 3 (by decide) k35 (fun _ h9 => h9) rfl dX8_digest_18 ?_
              refine lv_iload_n hx hb dX8_digest_21 rfl (lv_at hl 0 rfl) ?_
              refine x_Vi (As := [.int 5]) (rest0 := [.long (d15 * 31)]) ⟨hx, hb, hml, hown, hts⟩ (c_X0_howMany l D cA ad tr (wB cA bd ρ ++ ((tp, .inr (8, tpF ad bd)) :: rest)) H.size τ pd π 5) (cwV 1 hts g8_digest_X0_howMany rfl rfl rfl (by decide +kernel) ⟨Nat.le_of_ble_eq_true rfl, Nat.le_of_ble_eq_true rfl⟩) hK hP hD hS hA 101 w_an rfl hl.1 rfl rfl (Nat.le_of_ble_eq_true rfl) ⟨Nat.zero_le _, Nat.zero_le _⟩ dX8_digest_22 (fun r17 _ H locs hw hP hD hS => ?_)
              have er17 := hw
              refine lv_i2l (v := r17.toInt64) hx hb dX8_digest_25 rfl ?_
              refine lv_ladd hx hb dX8_digest_26 ?_
              refine lv_topl (fun d18 ed18 => ?_)
              refine lv_lstore_n (lv' := [(1, .long d18), (3, .int 5), (0, .ref (tp))]) hx hb dX8_digest_27 rfl hl (by decide) rfl (fun ls hl => ?_)
              refine lv_iinc (v := 6) (lv' := [(3, .int 6), (1, .long d18), (0, .ref (tp))]) hx hb dX8_digest_28 hl (k := 1) rfl (by decide) (by decide) rfl (fun ls hl => ?_)
              refine lv_goto (tgt := 6) hx hb dX8_digest_31 (by decide) ?_
              refine lv_iload_n hx hb dX8_digest_6 rfl (lv_at hl 0 rfl) ?_
              refine lv_bipush (v := 12) hx hb dX8_digest_7 (by decide) ?_
              refine lv_icmp_gt (tgt := 34) hx hb dX8_digest_9 (by decide) (fun c_9_19 => ?_) (fun c_9_19 => ?_)
              -- 9 jumps
              · exact absurd c_9_19 (by decide)
              -- 9 goes on
              · skip
                refine lv_lload_n hx hb dX8_digest_12 rfl (lv_at hl 1 rfl) ?_
                refine lv_ldc2 (v := 31) hx hb hown (hts (.constantLong RX8 161 (31)) (by decide +kernel)) dX8_digest_13 ?_
                refine lv_lmul hx hb dX8_digest_16 ?_
                refine lv_aload_n hx hb dX8_digest_17 rfl (lv_at hl 2 rfl) ?_
                refine va_get (D := D) (C := RX8) (T := TX8) (N := 7) (ci := 8) (v := .ref (ad 101)) hx hb hts nX8 hown hK hP 209 w_tp rfl 3 (by decide) k35 (fun _ h9 => h9) rfl dX8_digest_18 ?_
                refine lv_iload_n hx hb dX8_digest_21 rfl (lv_at hl 0 rfl) ?_
                refine x_Vi (As := [.int 6]) (rest0 := [.long (d18 * 31)]) ⟨hx, hb, hml, hown, hts⟩ (c_X0_howMany l D cA ad tr (wB cA bd ρ ++ ((tp, .inr (8, tpF ad bd)) :: rest)) H.size τ pd π 6) (cwV 1 hts g8_digest_X0_howMany rfl rfl rfl (by decide +kernel) ⟨Nat.le_of_ble_eq_true rfl, Nat.le_of_ble_eq_true rfl⟩) hK hP hD hS hA 101 w_an rfl hl.1 rfl rfl (Nat.le_of_ble_eq_true rfl) ⟨Nat.zero_le _, Nat.zero_le _⟩ dX8_digest_22 (fun r20 _ H locs hw hP hD hS => ?_)
                have er20 := hw
                refine lv_i2l (v := r20.toInt64) hx hb dX8_digest_25 rfl ?_
                refine lv_ladd hx hb dX8_digest_26 ?_
                refine lv_topl (fun d21 ed21 => ?_)
                refine lv_lstore_n (lv' := [(1, .long d21), (3, .int 6), (0, .ref (tp))]) hx hb dX8_digest_27 rfl hl (by decide) rfl (fun ls hl => ?_)
                refine lv_iinc (v := 7) (lv' := [(3, .int 7), (1, .long d21), (0, .ref (tp))]) hx hb dX8_digest_28 hl (k := 1) rfl (by decide) (by decide) rfl (fun ls hl => ?_)
                refine lv_goto (tgt := 6) hx hb dX8_digest_31 (by decide) ?_
                refine lv_iload_n hx hb dX8_digest_6 rfl (lv_at hl 0 rfl) ?_
                refine lv_bipush (v := 12) hx hb dX8_digest_7 (by decide) ?_
                refine lv_icmp_gt (tgt := 34) hx hb dX8_digest_9 (by decide) (fun c_9_22 => ?_) (fun c_9_22 => ?_)
                -- 9 jumps
                · exact absurd c_9_22 (by decide)
                -- 9 goes on
                · skip
                  refine lv_lload_n hx hb dX8_digest_12 rfl (lv_at hl 1 rfl) ?_
                  refine lv_ldc2 (v := 31) hx hb hown (hts (.constantLong RX8 161 (31)) (by decide +kernel)) dX8_digest_13 ?_
                  refine lv_lmul hx hb dX8_digest_16 ?_
                  refine lv_aload_n hx hb dX8_digest_17 rfl (lv_at hl 2 rfl) ?_
                  refine va_get (D := D) (C := RX8) (T := TX8) (N := 7) (ci := 8) (v := .ref (ad 101)) hx hb hts nX8 hown hK hP 209 w_tp rfl 3 (by decide) k35 (fun _ h9 => h9) rfl dX8_digest_18 ?_
                  refine lv_iload_n hx hb dX8_digest_21 rfl (lv_at hl 0 rfl) ?_
                  refine x_Vi (As := [.int 7]) (rest0 := [.long (d21 * 31)]) ⟨hx, hb, hml, hown, hts⟩ (c_X0_howMany l D cA ad tr (wB cA bd ρ ++ ((tp, .inr (8, tpF ad bd)) :: rest)) H.size τ pd π 7) (cwV 1 hts g8_digest_X0_howMany rfl rfl rfl (by decide +kernel) ⟨Nat.le_of_ble_eq_true rfl, Nat.le_of_ble_eq_true rfl⟩) hK hP hD hS hA 101 w_an rfl hl.1 rfl rfl (Nat.le_of_ble_eq_true rfl) ⟨Nat.zero_le _, Nat.zero_le _⟩ dX8_digest_22 (fun r23 _ H locs hw hP hD hS => ?_)
                  have er23 := hw
                  refine lv_i2l (v := r23.toInt64) hx hb dX8_digest_25 rfl ?_
                  refine lv_ladd hx hb dX8_digest_26 ?_
                  refine lv_topl (fun d24 ed24 => ?_)
                  refine lv_lstore_n (lv' := [(1, .long d24), (3, .int 7), (0, .ref (tp))]) hx hb dX8_digest_27 rfl hl (by decide) rfl (fun ls hl => ?_)
                  refine lv_iinc (v := 8) (lv' := [(3, .int 8), (1, .long d24), (0, .ref (tp))]) hx hb dX8_digest_28 hl (k := 1) rfl (by decide) (by decide) rfl (fun ls hl => ?_)
                  refine lv_goto (tgt := 6) hx hb dX8_digest_31 (by decide) ?_
                  refine lv_iload_n hx hb dX8_digest_6 rfl (lv_at hl 0 rfl) ?_
                  refine lv_bipush (v := 12) hx hb dX8_digest_7 (by decide) ?_
                  refine lv_icmp_gt (tgt := 34) hx hb dX8_digest_9 (by decide) (fun c_9_25 => ?_) (fun c_9_25 => ?_)
                  -- 9 jumps
                  · exact absurd c_9_25 (by decide)
                  -- 9 goes on
                  · skip
                    refine lv_lload_n hx hb dX8_digest_12 rfl (lv_at hl 1 rfl) ?_
                    refine lv_ldc2 (v := 31) hx hb hown (hts (.constantLong RX8 161 (31)) (by decide +kernel)) dX8_digest_13 ?_
                    refine lv_lmul hx hb dX8_digest_16 ?_
                    refine lv_aload_n hx hb dX8_digest_17 rfl (lv_at hl 2 rfl) ?_
                    refine va_get (D := D) (C := RX8) (T := TX8) (N := 7) (ci := 8) (v := .ref (ad 101)) hx hb hts nX8 hown hK hP 209 w_tp rfl 3 (by decide) k35 (fun _ h9 => h9) rfl dX8_digest_18 ?_
                    refine lv_iload_n hx hb dX8_digest_21 rfl (lv_at hl 0 rfl) ?_
                    refine x_Vi (As := [.int 8]) (rest0 := [.long (d24 * 31)]) ⟨hx, hb, hml, hown, hts⟩ (c_X0_howMany l D cA ad tr (wB cA bd ρ ++ ((tp, .inr (8, tpF ad bd)) :: rest)) H.size τ pd π 8) (cwV 1 hts g8_digest_X0_howMany rfl rfl rfl (by decide +kernel) ⟨Nat.le_of_ble_eq_true rfl, Nat.le_of_ble_eq_true rfl⟩) hK hP hD hS hA 101 w_an rfl hl.1 rfl rfl (Nat.le_of_ble_eq_true rfl) ⟨Nat.zero_le _, Nat.zero_le _⟩ dX8_digest_22 (fun r26 _ H locs hw hP hD hS => ?_)
                    have er26 := hw
                    refine lv_i2l (v := r26.toInt64) hx hb dX8_digest_25 rfl ?_
                    refine lv_ladd hx hb dX8_digest_26 ?_
                    refine lv_topl (fun d27 ed27 => ?_)
                    refine lv_lstore_n (lv' := [(1, .long d27), (3, .int 8), (0, .ref (tp))]) hx hb dX8_digest_27 rfl hl (by decide) rfl (fun ls hl => ?_)
                    refine lv_iinc (v := 9) (lv' := [(3, .int 9), (1, .long d27), (0, .ref (tp))]) hx hb dX8_digest_28 hl (k := 1) rfl (by decide) (by decide) rfl (fun ls hl => ?_)
                    refine lv_goto (tgt := 6) hx hb dX8_digest_31 (by decide) ?_
                    refine lv_iload_n hx hb dX8_digest_6 rfl (lv_at hl 0 rfl) ?_
                    refine lv_bipush (v := 12) hx hb dX8_digest_7 (by decide) ?_
                    refine lv_icmp_gt (tgt := 34) hx hb dX8_digest_9 (by decide) (fun c_9_28 => ?_) (fun c_9_28 => ?_)
                    -- 9 jumps
                    · exact absurd c_9_28 (by decide)
                    -- 9 goes on
                    · skip
                      refine lv_lload_n hx hb dX8_digest_12 rfl (lv_at hl 1 rfl) ?_
                      refine lv_ldc2 (v := 31) hx hb hown (hts (.constantLong RX8 161 (31)) (by decide +kernel)) dX8_digest_13 ?_
                      refine lv_lmul hx hb dX8_digest_16 ?_
                      refine lv_aload_n hx hb dX8_digest_17 rfl (lv_at hl 2 rfl) ?_
                      refine va_get (D := D) (C := RX8) (T := TX8) (N := 7) (ci := 8) (v := .ref (ad 101)) hx hb hts nX8 hown hK hP 209 w_tp rfl 3 (by decide) k35 (fun _ h9 => h9) rfl dX8_digest_18 ?_
                      refine lv_iload_n hx hb dX8_digest_21 rfl (lv_at hl 0 rfl) ?_
                      refine x_Vi (As := [.int 9]) (rest0 := [.long (d27 * 31)]) ⟨hx, hb, hml, hown, hts⟩ (c_X0_howMany l D cA ad tr (wB cA bd ρ ++ ((tp, .inr (8, tpF ad bd)) :: rest)) H.size τ pd π 9) (cwV 1 hts g8_digest_X0_howMany rfl rfl rfl (by decide +kernel) ⟨Nat.le_of_ble_eq_true rfl, Nat.le_of_ble_eq_true rfl⟩) hK hP hD hS hA 101 w_an rfl hl.1 rfl rfl (Nat.le_of_ble_eq_true rfl) ⟨Nat.zero_le _, Nat.zero_le _⟩ dX8_digest_22 (fun r29 _ H locs hw hP hD hS => ?_)
                      have er29 := hw
                      refine lv_i2l (v := r29.toInt64) hx hb dX8_digest_25 rfl ?_
                      refine lv_ladd hx hb dX8_digest_26 ?_
                      refine lv_topl (fun d30 ed30 => ?_)
                      refine lv_lstore_n (lv' := [(1, .long d30), (3, .int 9), (0, .ref (tp))]) hx hb dX8_digest_27 rfl hl (by decide) rfl (fun ls hl => ?_)
                      refine lv_iinc (v := 10) (lv' := [(3, .int 10), (1, .long d30), (0, .ref (tp))]) hx hb dX8_digest_28 hl (k := 1) rfl (by decide) (by decide) rfl (fun ls hl => ?_)
                      refine lv_goto (tgt := 6) hx hb dX8_digest_31 (by decide) ?_
                      refine lv_iload_n hx hb dX8_digest_6 rfl (lv_at hl 0 rfl) ?_
                      refine lv_bipush (v := 12) hx hb dX8_digest_7 (by decide) ?_
                      refine lv_icmp_gt (tgt := 34) hx hb dX8_digest_9 (by decide) (fun c_9_31 => ?_) (fun c_9_31 => ?_)
                      -- 9 jumps
                      · exact absurd c_9_31 (by decide)
                      -- 9 goes on
                      · skip
                        refine lv_lload_n hx hb dX8_digest_12 rfl (lv_at hl 1 rfl) ?_
                        refine lv_ldc2 (v := 31) hx hb hown (hts (.constantLong RX8 161 (31)) (by decide +kernel)) dX8_digest_13 ?_
                        refine lv_lmul hx hb dX8_digest_16 ?_
                        refine lv_aload_n hx hb dX8_digest_17 rfl (lv_at hl 2 rfl) ?_
                        refine va_get (D := D) (C := RX8) (T := TX8) (N := 7) (ci := 8) (v := .ref (ad 101)) hx hb hts nX8 hown hK hP 209 w_tp rfl 3 (by decide) k35 (fun _ h9 => h9) rfl dX8_digest_18 ?_
                        refine lv_iload_n hx hb dX8_digest_21 rfl (lv_at hl 0 rfl) ?_
                        refine x_Vi (As := [.int 10]) (rest0 := [.long (d30 * 31)]) ⟨hx, hb, hml, hown, hts⟩ (c_X0_howMany l D cA ad tr (wB cA bd ρ ++ ((tp, .inr (8, tpF ad bd)) :: rest)) H.size τ pd π 10) (cwV 1 hts g8_digest_X0_howMany rfl rfl rfl (by decide +kernel) ⟨Nat.le_of_ble_eq_true rfl, Nat.le_of_ble_eq_true rfl⟩) hK hP hD hS hA 101 w_an rfl hl.1 rfl rfl (Nat.le_of_ble_eq_true rfl) ⟨Nat.zero_le _, Nat.zero_le _⟩ dX8_digest_22 (fun r32 _ H locs hw hP hD hS => ?_)
                        have er32 := hw
                        refine lv_i2l (v := r32.toInt64) hx hb dX8_digest_25 rfl ?_
                        refine lv_ladd hx hb dX8_digest_26 ?_
                        refine lv_topl (fun d33 ed33 => ?_)
                        refine lv_lstore_n (lv' := [(1, .long d33), (3, .int 10), (0, .ref (tp))]) hx hb dX8_digest_27 rfl hl (by decide) rfl (fun ls hl => ?_)
                        refine lv_iinc (v := 11) (lv' := [(3, .int 11), (1, .long d33), (0, .ref (tp))]) hx hb dX8_digest_28 hl (k := 1) rfl (by decide) (by decide) rfl (fun ls hl => ?_)
                        refine lv_goto (tgt := 6) hx hb dX8_digest_31 (by decide) ?_
                        refine lv_iload_n hx hb dX8_digest_6 rfl (lv_at hl 0 rfl) ?_
                        refine lv_bipush (v := 12) hx hb dX8_digest_7 (by decide) ?_
                        refine lv_icmp_gt (tgt := 34) hx hb dX8_digest_9 (by decide) (fun c_9_34 => ?_) (fun c_9_34 => ?_)
                        -- 9 jumps
                        · exact absurd c_9_34 (by decide)
                        -- 9 goes on
                        · skip
                          refine lv_lload_n hx hb dX8_digest_12 rfl (lv_at hl 1 rfl) ?_
                          refine lv_ldc2 (v := 31) hx hb hown (hts (.constantLong RX8 161 (31)) (by decide +kernel)) dX8_digest_13 ?_
                          refine lv_lmul hx hb dX8_digest_16 ?_
                          refine lv_aload_n hx hb dX8_digest_17 rfl (lv_at hl 2 rfl) ?_
                          refine va_get (D := D) (C := RX8) (T := TX8) (N := 7) (ci := 8) (v := .ref (ad 101)) hx hb hts nX8 hown hK hP 209 w_tp rfl 3 (by decide) k35 (fun _ h9 => h9) rfl dX8_digest_18 ?_
                          refine lv_iload_n hx hb dX8_digest_21 rfl (lv_at hl 0 rfl) ?_
                          refine x_Vi (As := [.int 11]) (rest0 := [.long (d33 * 31)]) ⟨hx, hb, hml, hown, hts⟩ (c_X0_howMany l D cA ad tr (wB cA bd ρ ++ ((tp, .inr (8, tpF ad bd)) :: rest)) H.size τ pd π 11) (cwV 1 hts g8_digest_X0_howMany rfl rfl rfl (by decide +kernel) ⟨Nat.le_of_ble_eq_true rfl, Nat.le_of_ble_eq_true rfl⟩) hK hP hD hS hA 101 w_an rfl hl.1 rfl rfl (Nat.le_of_ble_eq_true rfl) ⟨Nat.zero_le _, Nat.zero_le _⟩ dX8_digest_22 (fun r35 _ H locs hw hP hD hS => ?_)
                          have er35 := hw
                          refine lv_i2l (v := r35.toInt64) hx hb dX8_digest_25 rfl ?_
                          refine lv_ladd hx hb dX8_digest_26 ?_
                          refine lv_topl (fun d36 ed36 => ?_)
                          refine lv_lstore_n (lv' := [(1, .long d36), (3, .int 11), (0, .ref (tp))]) hx hb dX8_digest_27 rfl hl (by decide) rfl (fun ls hl => ?_)
                          refine lv_iinc (v := 12) (lv' := [(3, .int 12), (1, .long d36), (0, .ref (tp))]) hx hb dX8_digest_28 hl (k := 1) rfl (by decide) (by decide) rfl (fun ls hl => ?_)
                          refine lv_goto (tgt := 6) hx hb dX8_digest_31 (by decide) ?_
                          refine lv_iload_n hx hb dX8_digest_6 rfl (lv_at hl 0 rfl) ?_
                          refine lv_bipush (v := 12) hx hb dX8_digest_7 (by decide) ?_
                          refine lv_icmp_gt (tgt := 34) hx hb dX8_digest_9 (by decide) (fun c_9_37 => ?_) (fun c_9_37 => ?_)
                          -- 9 jumps
                          · exact absurd c_9_37 (by decide)
                          -- 9 goes on
                          · skip
                            refine lv_lload_n hx hb dX8_digest_12 rfl (lv_at hl 1 rfl) ?_
                            refine lv_ldc2 (v := 31) hx hb hown (hts (.constantLong RX8 161 (31)) (by decide +kernel)) dX8_digest_13 ?_
                            refine lv_lmul hx hb dX8_digest_16 ?_
                            refine lv_aload_n hx hb dX8_digest_17 rfl (lv_at hl 2 rfl) ?_
                            refine va_get (D := D) (C := RX8) (T := TX8) (N := 7) (ci := 8) (v := .ref (ad 101)) hx hb hts nX8 hown hK hP 209 w_tp rfl 3 (by decide) k35 (fun _ h9 => h9) rfl dX8_digest_18 ?_
                            refine lv_iload_n hx hb dX8_digest_21 rfl (lv_at hl 0 rfl) ?_
                            refine x_Vi (As := [.int 12]) (rest0 := [.long (d36 * 31)]) ⟨hx, hb, hml, hown, hts⟩ (c_X0_howMany l D cA ad tr (wB cA bd ρ ++ ((tp, .inr (8, tpF ad bd)) :: rest)) H.size τ pd π 12) (cwV 1 hts g8_digest_X0_howMany rfl rfl rfl (by decide +kernel) ⟨Nat.le_of_ble_eq_true rfl, Nat.le_of_ble_eq_true rfl⟩) hK hP hD hS hA 101 w_an rfl hl.1 rfl rfl (Nat.le_of_ble_eq_true rfl) ⟨Nat.zero_le _, Nat.zero_le _⟩ dX8_digest_22 (fun r38 _ H locs hw hP hD hS => ?_)
                            have er38 := hw
                            refine lv_i2l (v := r38.toInt64) hx hb dX8_digest_25 rfl ?_
                            refine lv_ladd hx hb dX8_digest_26 ?_
                            refine lv_topl (fun d39 ed39 => ?_)
                            refine lv_lstore_n (lv' := [(1, .long d39), (3, .int 12), (0, .ref (tp))]) hx hb dX8_digest_27 rfl hl (by decide) rfl (fun ls hl => ?_)
                            refine lv_iinc (v := 13) (lv' := [(3, .int 13), (1, .long d39), (0, .ref (tp))]) hx hb dX8_digest_28 hl (k := 1) rfl (by decide) (by decide) rfl (fun ls hl => ?_)
                            refine lv_goto (tgt := 6) hx hb dX8_digest_31 (by decide) ?_
                            refine lv_iload_n hx hb dX8_digest_6 rfl (lv_at hl 0 rfl) ?_
                            refine lv_bipush (v := 12) hx hb dX8_digest_7 (by decide) ?_
                            refine lv_icmp_gt (tgt := 34) hx hb dX8_digest_9 (by decide) (fun c_9_40 => ?_) (fun c_9_40 => ?_)
                            -- 9 jumps
                            · skip
                              refine lv_aload_n hx hb dX8_digest_34 rfl (lv_at hl 2 rfl) ?_
                              refine va_get (D := D) (C := RX8) (T := TX8) (N := 7) (ci := 8) (v := .ref (ad 101)) hx hb hts nX8 hown hK hP 209 w_tp rfl 3 (by decide) k35 (fun _ h9 => h9) rfl dX8_digest_35 ?_
                              refine lv_lload_n hx hb dX8_digest_38 rfl (lv_at hl 1 rfl) ?_
                              refine x_Vl (As := [.long d39]) (rest0 := []) ⟨hx, hb, hml, hown, hts⟩ (c_X0_digestTasks l D cA ad tr (wPg cA ad pd π ++ (wB cA bd ρ ++ ((tp, .inr (8, tpF ad bd)) :: rest))) H.size τ T hT hT2 d39) (cwV 1 hts g8_digest_X0_digestTasks rfl rfl rfl (by decide +kernel) ⟨Nat.le_of_ble_eq_true rfl, Nat.le_of_ble_eq_true rfl⟩) hK hP hD hS hA 101 w_an rfl hl.1 rfl rfl (Nat.le_of_ble_eq_true rfl) ⟨Nat.zero_le _, Nat.zero_le _⟩ dX8_digest_39 (fun r41 _ H locs hw hP hD hS => ?_)
                              have er41 := hw
                              refine lv_lstore_n (lv' := [(1, .long r41), (3, .int 13), (0, .ref (tp))]) hx hb dX8_digest_42 rfl hl (by decide) rfl (fun ls hl => ?_)
                              refine lv_aload_n hx hb dX8_digest_43 rfl (lv_at hl 2 rfl) ?_
                              refine va_get (D := D) (C := RX8) (T := TX8) (N := 7) (ci := 8) (v := .ref (ad 101)) hx hb hts nX8 hown hK hP 209 w_tp rfl 3 (by decide) k35 (fun _ h9 => h9) rfl dX8_digest_44 ?_
                              refine lv_lload_n hx hb dX8_digest_47 rfl (lv_at hl 0 rfl) ?_
                              refine x_Vl (As := [.long r41]) (rest0 := []) ⟨hx, hb, hml, hown, hts⟩ (c_X0_digestScopes l D cA ad tr (wPg cA ad pd π ++ (wB cA bd ρ ++ ((tp, .inr (8, tpF ad bd)) :: rest))) H.size τ V hV hV2 r41) (cwV 1 hts g8_digest_X0_digestScopes rfl rfl rfl (by decide +kernel) ⟨Nat.le_of_ble_eq_true rfl, Nat.le_of_ble_eq_true rfl⟩) hK hP hD hS hA 101 w_an rfl hl.1 rfl rfl (Nat.le_of_ble_eq_true rfl) ⟨Nat.zero_le _, Nat.zero_le _⟩ dX8_digest_48 (fun r42 _ H locs hw hP hD hS => ?_)
                              have er42 := hw
                              refine lv_lstore_n (lv' := [(1, .long r42), (3, .int 13), (0, .ref (tp))]) hx hb dX8_digest_51 rfl hl (by decide) rfl (fun ls hl => ?_)
                              refine lv_aload_n hx hb dX8_digest_52 rfl (lv_at hl 2 rfl) ?_
                              refine va_get (D := D) (C := RX8) (T := TX8) (N := 7) (ci := 8) (v := .ref (ad 101)) hx hb hts nX8 hown hK hP 209 w_tp rfl 3 (by decide) k35 (fun _ h9 => h9) rfl dX8_digest_53 ?_
                              refine lv_lload_n hx hb dX8_digest_56 rfl (lv_at hl 0 rfl) ?_
                              refine x_Vl (As := [.long r42]) (rest0 := []) ⟨hx, hb, hml, hown, hts⟩ (c_X0_digestLocksAndChannels l D cA ad tr (wPg cA ad pd π ++ (wB cA bd ρ ++ ((tp, .inr (8, tpF ad bd)) :: rest))) H.size τ r42) (cwV 1 hts g8_digest_X0_digestLocksAndChannels rfl rfl rfl (by decide +kernel) ⟨Nat.le_of_ble_eq_true rfl, Nat.le_of_ble_eq_true rfl⟩) hK hP hD hS hA 101 w_an rfl hl.1 rfl rfl (Nat.le_of_ble_eq_true rfl) ⟨Nat.zero_le _, Nat.zero_le _⟩ dX8_digest_57 (fun r43 _ H locs hw hP hD hS => ?_)
                              have er43 := hw
                              refine lv_lstore_n (lv' := [(1, .long r43), (3, .int 13), (0, .ref (tp))]) hx hb dX8_digest_60 rfl hl (by decide) rfl (fun ls hl => ?_)
                              refine lv_lload_n hx hb dX8_digest_61 rfl (lv_at hl 0 rfl) ?_
                              refine lv_ldc2 (v := 31) hx hb hown (hts (.constantLong RX8 161 (31)) (by decide +kernel)) dX8_digest_62 ?_
                              refine lv_lmul hx hb dX8_digest_65 ?_
                              refine lv_aload_n hx hb dX8_digest_66 rfl (lv_at hl 2 rfl) ?_
                              refine va_get (D := D) (C := RX8) (T := TX8) (N := 7) (ci := 8) (v := .ref (ad 101)) hx hb hts nX8 hown hK hP 209 w_tp rfl 3 (by decide) k35 (fun _ h9 => h9) rfl dX8_digest_67 ?_
                              refine x_Vi (As := []) (rest0 := [.long (r43 * 31)]) ⟨hx, hb, hml, hown, hts⟩ (c_X0_countStuck l D cA ad tr (wPg cA ad pd π ++ (wB cA bd ρ ++ ((tp, .inr (8, tpF ad bd)) :: rest))) H.size τ ) (cwV 0 hts g8_digest_X0_countStuck rfl rfl rfl (by decide +kernel) ⟨Nat.le_of_ble_eq_true rfl, Nat.le_of_ble_eq_true rfl⟩) hK hP hD hS hA 101 w_an rfl hl.1 rfl rfl (Nat.le_of_ble_eq_true rfl) ⟨Nat.zero_le _, Nat.zero_le _⟩ dX8_digest_70 (fun r44 _ H locs hw hP hD hS => ?_)
                              have er44 := hw
                              refine lv_i2l (v := r44.toInt64) hx hb dX8_digest_73 rfl ?_
                              refine lv_ladd hx hb dX8_digest_74 ?_
                              refine lv_topl (fun d45 ed45 => ?_)
                              refine lv_lstore_n (lv' := [(1, .long d45), (3, .int 13), (0, .ref (tp))]) hx hb dX8_digest_75 rfl hl (by decide) rfl (fun ls hl => ?_)
                              refine lv_lload_n hx hb dX8_digest_76 rfl (lv_at hl 0 rfl) ?_
                              refine lv_ldc2 (v := 31) hx hb hown (hts (.constantLong RX8 161 (31)) (by decide +kernel)) dX8_digest_77 ?_
                              refine lv_lmul hx hb dX8_digest_80 ?_
                              refine lv_aload_n hx hb dX8_digest_81 rfl (lv_at hl 2 rfl) ?_
                              refine lv_iconst (v := 1) hx hb dX8_digest_82 (by decide) ?_
                              refine lv_bipush (v := 10) hx hb dX8_digest_83 (by decide) ?_
                              refine x_Vi (As := [.int 1, .int 10]) (rest0 := [.long (d45 * 31)]) ⟨hx, hb, hml, hown, hts⟩ (c_X8_overAfter l D cA ad tr rest H.size τ pd π bd tp ρ h102 1 10 (by decide) (by decide) hfl) (cwV 2 hts g8_digest_X8_overAfter rfl rfl rfl (by decide +kernel) ⟨Nat.le_of_ble_eq_true rfl, Nat.le_of_ble_eq_true rfl⟩) hK hP hD hS hA 209 w_tp rfl hl.1 rfl rfl (Nat.le_of_ble_eq_true rfl) ⟨Nat.zero_le _, Nat.zero_le _⟩ dX8_digest_85 (fun r46 ρ47 H locs hw hP hD hS => ?_)
                              obtain ⟨er46, eρ47⟩ := hw
                              refine lv_i2l (v := r46.toInt64) hx hb dX8_digest_88 rfl ?_
                              refine lv_ladd hx hb dX8_digest_89 ?_
                              refine lv_topl (fun d48 ed48 => ?_)
                              refine lv_lstore_n (lv' := [(1, .long d48), (3, .int 13), (0, .ref (tp))]) hx hb dX8_digest_90 rfl hl (by decide) rfl (fun ls hl => ?_)
                              refine lv_lload_n hx hb dX8_digest_91 rfl (lv_at hl 0 rfl) ?_
                              refine lv_ldc2 (v := 31) hx hb hown (hts (.constantLong RX8 161 (31)) (by decide +kernel)) dX8_digest_92 ?_
                              refine lv_lmul hx hb dX8_digest_95 ?_
                              refine lv_aload_n hx hb dX8_digest_96 rfl (lv_at hl 2 rfl) ?_
                              refine lv_iconst (v := 5) hx hb dX8_digest_97 (by decide) ?_
                              refine lv_bipush (v := 10) hx hb dX8_digest_98 (by decide) ?_
                              refine x_Vi (As := [.int 5, .int 10]) (rest0 := [.long (d48 * 31)]) ⟨hx, hb, hml, hown, hts⟩ (c_X8_overAfter l D cA ad tr rest H.size τ pd π bd tp ρ47 h102 5 10 (by decide) (by decide) hfl) (cwV 2 hts g8_digest_X8_overAfter rfl rfl rfl (by decide +kernel) ⟨Nat.le_of_ble_eq_true rfl, Nat.le_of_ble_eq_true rfl⟩) hK hP hD hS hA 209 w_tp rfl hl.1 rfl rfl (Nat.le_of_ble_eq_true rfl) ⟨Nat.zero_le _, Nat.zero_le _⟩ dX8_digest_100 (fun r49 ρ50 H locs hw hP hD hS => ?_)
                              obtain ⟨er49, eρ50⟩ := hw
                              refine lv_i2l (v := r49.toInt64) hx hb dX8_digest_103 rfl ?_
                              refine lv_ladd hx hb dX8_digest_104 ?_
                              refine lv_topl (fun d51 ed51 => ?_)
                              refine lv_lstore_n (lv' := [(1, .long d51), (3, .int 13), (0, .ref (tp))]) hx hb dX8_digest_105 rfl hl (by decide) rfl (fun ls hl => ?_)
                              refine lv_lload_n hx hb dX8_digest_106 rfl (lv_at hl 0 rfl) ?_
                              exact x_lret hx hb hr hlocks hK ρ50 hP hD hS dX8_digest_107 ⟨by rw [ed51, er49, eρ47, ed48, er46, ed45, er44, er43, er42, er41, ed39, er38, ed36, er35, ed33, er32, ed30, er29, ed27, er26, ed24, er23, ed21, er20, ed18, er17, ed15, er14, ed12, er11, ed9, er8, ed6, er5, ed3, er2, m_dig, m_dgM13], by rw [eρ50, eρ47]⟩
                            -- 9 goes on
                            · exact absurd c_9_40 (by decide)
