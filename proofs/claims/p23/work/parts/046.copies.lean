/-- what the loops of State.copyFrom make of the cells -/
abbrev cpch (σ ρ : Sg) : Sg := setC (setC (setC (setC (setC (setC σ (0 + 94) (ρ (0 + 94))) (1 + 94) (ρ (1 + 94))) (0 + 98) (ρ (0 + 98))) (0 + 96) (ρ (0 + 96))) (1 + 98) (ρ (1 + 98))) (1 + 96) (ρ (1 + 96))
theorem cpch_ne {σ ρ : Sg} {a : Nat} (h : a < 94 ∨ 100 ≤ a) : cpch σ ρ a = σ a := by
  unfold cpch
  rw [setC_ne (by omega), setC_ne (by omega), setC_ne (by omega), setC_ne (by omega), setC_ne (by omega), setC_ne (by omega)]
theorem cpch_in {σ ρ : Sg} {a : Nat} (h : 94 ≤ a) (h2 : a < 100) : cpch σ ρ a = ρ a := by
  have e : a = 94 ∨ a = 95 ∨ a = 96 ∨ a = 97 ∨ a = 98 ∨ a = 99 := by omega
  rcases e with rfl | rfl | rfl | rfl | rfl | rfl
  · unfold cpch; rw [setC_ne (by omega), setC_ne (by omega), setC_ne (by omega), setC_ne (by omega), setC_ne (by omega)]; exact setC_k
  · unfold cpch; rw [setC_ne (by omega), setC_ne (by omega), setC_ne (by omega), setC_ne (by omega)]; exact setC_k
  · unfold cpch; rw [setC_ne (by omega), setC_ne (by omega)]; exact setC_k
  · unfold cpch; exact setC_k
  · unfold cpch; rw [setC_ne (by omega), setC_ne (by omega), setC_ne (by omega)]; exact setC_k
  · unfold cpch; rw [setC_ne (by omega)]; exact setC_k
theorem cp_5 {τ ρ : Sg} {j : Nat} (hj : j < 24) : cpch (m_c2 (m_c1 τ ρ 24) ρ 40) ρ 5 j = ρ 5 j := by
  rw [cpch_ne (by omega)]
  unfold m_c2
  rw [if_neg (by omega)]
  unfold m_c1
  rw [if_pos rfl]
  exact if_pos hj
theorem cp_mid {τ ρ : Sg} {a : Nat} (ha : 6 ≤ a) (hb : a < 100) : cpch (m_c2 (m_c1 τ ρ 24) ρ 40) ρ a = ρ a := by
  by_cases h : 94 ≤ a
  · exact cpch_in h hb
  · rw [cpch_ne (by omega)]
    unfold m_c2
    by_cases h2 : 54 ≤ a ∧ a < 54 + 40
    · rw [if_pos h2]
    · rw [if_neg h2]
      unfold m_c1
      rw [if_neg (by omega)]
      by_cases h3 : 6 ≤ a ∧ a < 6 + 24
      · rw [if_pos h3]
      · rw [if_neg h3, if_pos (by omega)]
theorem cp_hi {τ ρ : Sg} {a : Nat} (ha : 100 ≤ a) : cpch (m_c2 (m_c1 τ ρ 24) ρ 40) ρ a = τ a := by
  rw [cpch_ne (by omega)]
  unfold m_c2
  rw [if_neg (by omega)]
  unfold m_c1
  rw [if_neg (by omega), if_neg (by omega), if_neg (by omega)]
set_option maxHeartbeats 4000000 in
set_option maxRecDepth 100000 in
theorem c_X6_copyFrom (l : Launch) (D : va_G) (cA : Nat → ClassId) (ad : Nat → Nat) (tr : List (ClassId × FieldType)) (rest : va_W) (sz : Nat) (τ : Sg) (bd : Nat → Nat) (ρ : Sg) (hfl : m_flags ρ) : Met l yX6_copyFrom wsX6_copyFrom ({ frames := 2, cells := 0, slots := 0, locals := 81 }) (va_Pc [.ref (ad 0), .ref (bd 0)] (inW D (tyB cA ++ tr) (wB cA ad τ ++ (wB cA bd ρ ++ rest)) sz)) (va_Qv (fun u : Sg => u = m_copy τ ρ) (fun u : Sg => outW D (tyB cA ++ tr) (va_A (wB cA ad τ ++ (wB cA bd ρ ++ rest)) sz) (wB cA ad u ++ (wB cA bd ρ ++ rest))) (va_A (wB cA ad τ ++ (wB cA bd ρ ++ rest)) sz)) 0 0 (va_A (wB cA ad τ ++ (wB cA bd ρ ++ rest)) sz) := by
  refine Met.ofW (cc := cX6_copyFrom) (maxL := 3) (ret := none) (by decide) rfl ?_
  intro p e s m args below meth c s₁ B hml hv
  obtain ⟨rfl, hsz, hP, hK, hD0⟩ := hv
  have hx := B.exec
  have hb := B.bytes
  have hr := B.returns
  have hts := atoms_spec (ws := wsX6_copyFrom) B.pre
  have hown : s.vm.findClass RX6 = some m.cls := findClass_of_methodNamed B.named
  have hlocks := B.notSynchronized
  subst hsz
  have hD := hD0.self (sz := s.heap.size)
  clear hD0
  generalize hAe : va_A (wB cA ad τ ++ (wB cA bd ρ ++ rest)) s.heap.size = A at hD ⊢
  have hA : ∀ q : Nat, s.heap.size ≤ q → A q := fun q h => by rw [← hAe]; exact Or.inr h
  clear hAe
  have hS : va_S A s.heap s.heap [] := va_S.rf
  have hP : va_P D vwCl (wB cA ad τ ++ (wB cA bd ρ ++ rest)) s.heap := hP
  have hl := lv_entry ([.ref (ad 0), .ref (bd 0)]) (n := 3) (Nat.le_of_ble_eq_true rfl)
  rw [lg_entry_eq]
  generalize (lg_sl ([.ref (ad 0), .ref (bd 0)]) ++ List.replicate (3 - (lg_sl ([.ref (ad 0), .ref (bd 0)])).length) Slot.unset).toArray = ls at hl ⊢
  have hl : lv_has ls 3 [(0, .ref (ad 0)), (1, .ref (bd 0))] := hl
  have nX6 : ∀ w ∈ u_ws RX6 TX6 12, w ∈ wsX6_copyFrom := by decide +kernel
  have k25 := hts (.fieldLink RX6 25 "ScopeRow$State" "locks" "[LScopeRow$Lock;") (by decide +kernel)
  have k31 := hts (.fieldLink RX6 31 "ScopeRow$State" "channels" "[LScopeRow$Channel;") (by decide +kernel)
  have k58 := hts (.fieldLink RX6 58 "ScopeRow$State" "taskCount" "I") (by decide +kernel)
  have k62 := hts (.fieldLink RX6 62 "ScopeRow$State" "scopeCount" "I") (by decide +kernel)
  have k65 := hts (.fieldLink RX6 65 "ScopeRow$State" "rowCount" "I") (by decide +kernel)
  have k68 := hts (.fieldLink RX6 68 "ScopeRow$State" "now" "I") (by decide +kernel)
  have k71 := hts (.fieldLink RX6 71 "ScopeRow$State" "turns" "I") (by decide +kernel)
  have k74 := hts (.fieldLink RX6 74 "ScopeRow$State" "lines" "I") (by decide +kernel)
  have k77 := hts (.fieldLink RX6 77 "ScopeRow$State" "waits" "I") (by decide +kernel)
  have k19 := hts (.fieldLink RX6 19 "ScopeRow$State" "scopes" "[LScopeRow$Scope;") (by decide +kernel)
  have k11 := hts (.fieldLink RX6 11 "ScopeRow$State" "tasks" "[LScopeRow$Task;") (by decide +kernel)
  have k35 := hts (.fieldLink RX6 35 "ScopeRow$State" "row" "[I") (by decide +kernel)
  refine lv_iconst (v := 0) hx hb dX6_copyFrom_0 (by decide) ?_
  refine lv_istore_n (lv' := [(2, .int 0), (0, .ref (ad 0)), (1, .ref (bd 0))]) hx hb dX6_copyFrom_1 rfl hl (by decide) rfl (fun ls hl => ?_)
  refine W_meas (I := fun (n : Nat) (H : Heap) (locs : List Loc) (ls : Array Slot) => ∃ (σ : Sg) (j : Nat), ((n + j = 24) ∧ (σ = m_c1 τ ρ j)) ∧ va_P D vwCl (wB cA ad σ ++ (wB cA bd ρ ++ rest)) H ∧ va_D A (wB cA ad σ ++ (wB cA bd ρ ++ rest)) ∧ va_S A s.heap H locs ∧ lv_has ls 3 [(0, .ref (ad 0)), (1, .ref (bd 0)), (2, .int (nI j))]) 24 ⟨τ, 0, ⟨by omega, by rw [m_c1_0]⟩, hP, hD, hS, lv_sub hl [1, 2, 0] rfl⟩ ?_
  clear hP hD hS hl
  intro n ih H locs ls hI
  obtain ⟨σ, j, ⟨hn, hf⟩, hP, hD, hS, hl⟩ := hI
  refine lv_iload_n hx hb dX6_copyFrom_2 rfl (lv_at hl 2 rfl) ?_
  refine lv_bipush (v := 24) hx hb dX6_copyFrom_3 (by decide) ?_
  refine lv_icmp_ge (tgt := 41) hx hb dX6_copyFrom_5 (by decide) (fun c_5_1 => ?_) (fun c_5_1 => ?_)
  -- 5 jumps
  · skip
    obtain rfl : n = 0 := by have := ge_c c_5_1 (by omega); omega
    obtain rfl : j = 24 := by omega
    refine lv_iconst (v := 0) hx hb dX6_copyFrom_41 (by decide) ?_
    refine lv_istore_n (lv' := [(2, .int 0), (0, .ref (ad 0)), (1, .ref (bd 0))]) hx hb dX6_copyFrom_42 rfl hl (by decide) rfl (fun ls hl => ?_)
    refine W_meas (I := fun (n : Nat) (H : Heap) (locs : List Loc) (ls : Array Slot) => ∃ (σ2 : Sg) (j2 : Nat), ((n + j2 = 40) ∧ (σ2 = m_c2 (m_c1 τ ρ 24) ρ j2)) ∧ va_P D vwCl (wB cA ad σ2 ++ (wB cA bd ρ ++ rest)) H ∧ va_D A (wB cA ad σ2 ++ (wB cA bd ρ ++ rest)) ∧ va_S A s.heap H locs ∧ lv_has ls 3 [(0, .ref (ad 0)), (1, .ref (bd 0)), (2, .int (nI j2))]) 40 ⟨σ, 0, ⟨by omega, by rw [m_c2_0]; exact hf⟩, hP, hD, hS, lv_sub hl [1, 2, 0] rfl⟩ ?_
    clear hP hD hS hl
    intro n ih H locs ls hI
    obtain ⟨σ2, j2, ⟨hn2, hf2⟩, hP, hD, hS, hl⟩ := hI
    refine lv_iload_n hx hb dX6_copyFrom_43 rfl (lv_at hl 2 rfl) ?_
    refine lv_bipush (v := 40) hx hb dX6_copyFrom_44 (by decide) ?_
    refine lv_icmp_ge (tgt := 70) hx hb dX6_copyFrom_46 (by decide) (fun c_46_2 => ?_) (fun c_46_2 => ?_)
    -- 46 jumps
    · skip
      obtain rfl : n = 0 := by have := ge_c40 c_46_2 (by omega); omega
      obtain rfl : j2 = 40 := by omega
      refine lv_iconst (v := 0) hx hb dX6_copyFrom_70 (by decide) ?_
      refine lv_istore_n (lv' := [(2, .int 0), (0, .ref (ad 0)), (1, .ref (bd 0))]) hx hb dX6_copyFrom_71 rfl hl (by decide) rfl (fun ls hl => ?_)
      refine lv_iload_n hx hb dX6_copyFrom_72 rfl (lv_at hl 0 rfl) ?_
      refine lv_iconst (v := 2) hx hb dX6_copyFrom_73 (by decide) ?_
      refine lv_icmp_ge (tgt := 98) hx hb dX6_copyFrom_74 (by decide) (fun c_74_3 => ?_) (fun c_74_3 => ?_)
      -- 74 jumps
      · exact absurd c_74_3 (by decide)
      -- 74 goes on
      · skip
        refine lv_aload_n hx hb dX6_copyFrom_77 rfl (lv_at hl 1 rfl) ?_
        refine va_get (D := D) (C := RX6) (T := TX6) (N := 12) (ci := 6) (v := .ref (ad 3)) hx hb hts nX6 hown hK hP 0 w_st rfl 4 (by decide) k25 (fun _ h9 => h9) rfl dX6_copyFrom_78 ?_
        refine lv_iload_n hx hb dX6_copyFrom_81 rfl (lv_at hl 0 rfl) ?_
        refine l_a3 hx hb hK hP (j := 0) rfl (by unfold vp_in; decide) dX6_copyFrom_82 ?_
        refine lv_aload_n hx hb dX6_copyFrom_83 rfl (lv_at hl 2 rfl) ?_
        refine va_get (D := D) (C := RX6) (T := TX6) (N := 12) (ci := 6) (v := .ref (bd 3)) hx hb hts nX6 hown hK hP (0 + 102) w2_st rfl 4 (by decide) k25 (fun _ h9 => h9) rfl dX6_copyFrom_84 ?_
        refine lv_iload_n hx hb dX6_copyFrom_87 rfl (lv_at hl 0 rfl) ?_
        refine l2_a3 hx hb hK hP (j := 0) rfl (by unfold vp_in; decide) dX6_copyFrom_88 ?_
        refine x_Vv (As := [.ref (bd (0 + 94))]) (rest0 := []) ⟨hx, hb, hml, hown, hts⟩ (c_X2_copyFrom l D cA ad tr rest H.size σ2 bd ρ 0 (by decide)) (cwV 1 hts gX6_copyFrom_X2_copyFrom rfl rfl rfl (by decide +kernel) ⟨Nat.le_of_ble_eq_true rfl, Nat.le_of_ble_eq_true rfl⟩) hK hP hD hS hA (0 + 94) (w_lk (by decide)) rfl hl.1 rfl rfl (Nat.le_of_ble_eq_true rfl) ⟨Nat.zero_le _, Nat.zero_le _⟩ dX6_copyFrom_89 (fun τ4 H locs hw hP hD hS => ?_)
        have eτ4 := hw
        refine lv_iinc (v := 1) (lv' := [(2, .int 1), (0, .ref (ad 0)), (1, .ref (bd 0))]) hx hb dX6_copyFrom_92 hl (k := 0) rfl (by decide) (by decide) rfl (fun ls hl => ?_)
        refine lv_goto (tgt := 72) hx hb dX6_copyFrom_95 (by decide) ?_
        refine lv_iload_n hx hb dX6_copyFrom_72 rfl (lv_at hl 0 rfl) ?_
        refine lv_iconst (v := 2) hx hb dX6_copyFrom_73 (by decide) ?_
        refine lv_icmp_ge (tgt := 98) hx hb dX6_copyFrom_74 (by decide) (fun c_74_5 => ?_) (fun c_74_5 => ?_)
        -- 74 jumps
        · exact absurd c_74_5 (by decide)
        -- 74 goes on
        · skip
          refine lv_aload_n hx hb dX6_copyFrom_77 rfl (lv_at hl 1 rfl) ?_
          refine va_get (D := D) (C := RX6) (T := TX6) (N := 12) (ci := 6) (v := .ref (ad 3)) hx hb hts nX6 hown hK hP 0 w_st rfl 4 (by decide) k25 (fun _ h9 => h9) rfl dX6_copyFrom_78 ?_
          refine lv_iload_n hx hb dX6_copyFrom_81 rfl (lv_at hl 0 rfl) ?_
          refine l_a3 hx hb hK hP (j := 1) rfl (by unfold vp_in; decide) dX6_copyFrom_82 ?_
          refine lv_aload_n hx hb dX6_copyFrom_83 rfl (lv_at hl 2 rfl) ?_
          refine va_get (D := D) (C := RX6) (T := TX6) (N := 12) (ci := 6) (v := .ref (bd 3)) hx hb hts nX6 hown hK hP (0 + 102) w2_st rfl 4 (by decide) k25 (fun _ h9 => h9) rfl dX6_copyFrom_84 ?_
          refine lv_iload_n hx hb dX6_copyFrom_87 rfl (lv_at hl 0 rfl) ?_
          refine l2_a3 hx hb hK hP (j := 1) rfl (by unfold vp_in; decide) dX6_copyFrom_88 ?_
          refine x_Vv (As := [.ref (bd (1 + 94))]) (rest0 := []) ⟨hx, hb, hml, hown, hts⟩ (c_X2_copyFrom l D cA ad tr rest H.size τ4 bd ρ 1 (by decide)) (cwV 1 hts gX6_copyFrom_X2_copyFrom rfl rfl rfl (by decide +kernel) ⟨Nat.le_of_ble_eq_true rfl, Nat.le_of_ble_eq_true rfl⟩) hK hP hD hS hA (1 + 94) (w_lk (by decide)) rfl hl.1 rfl rfl (Nat.le_of_ble_eq_true rfl) ⟨Nat.zero_le _, Nat.zero_le _⟩ dX6_copyFrom_89 (fun τ6 H locs hw hP hD hS => ?_)
          have eτ6 := hw
          refine lv_iinc (v := 2) (lv' := [(2, .int 2), (0, .ref (ad 0)), (1, .ref (bd 0))]) hx hb dX6_copyFrom_92 hl (k := 0) rfl (by decide) (by decide) rfl (fun ls hl => ?_)
          refine lv_goto (tgt := 72) hx hb dX6_copyFrom_95 (by decide) ?_
          refine lv_iload_n hx hb dX6_copyFrom_72 rfl (lv_at hl 0 rfl) ?_
          refine lv_iconst (v := 2) hx hb dX6_copyFrom_73 (by decide) ?_
          refine lv_icmp_ge (tgt := 98) hx hb dX6_copyFrom_74 (by decide) (fun c_74_7 => ?_) (fun c_74_7 => ?_)
          -- 74 jumps
          · skip
            refine lv_iconst (v := 0) hx hb dX6_copyFrom_98 (by decide) ?_
            refine lv_istore_n (lv' := [(2, .int 0), (0, .ref (ad 0)), (1, .ref (bd 0))]) hx hb dX6_copyFrom_99 rfl hl (by decide) rfl (fun ls hl => ?_)
            refine lv_iload_n hx hb dX6_copyFrom_100 rfl (lv_at hl 0 rfl) ?_
            refine lv_iconst (v := 2) hx hb dX6_copyFrom_101 (by decide) ?_
            refine lv_icmp_ge (tgt := 126) hx hb dX6_copyFrom_102 (by decide) (fun c_102_8 => ?_) (fun c_102_8 => ?_)
            -- 102 jumps
            · exact absurd c_102_8 (by decide)
            -- 102 goes on
            · skip
              refine lv_aload_n hx hb dX6_copyFrom_105 rfl (lv_at hl 1 rfl) ?_
              refine va_get (D := D) (C := RX6) (T := TX6) (N := 12) (ci := 6) (v := .ref (ad 4)) hx hb hts nX6 hown hK hP 0 w_st rfl 5 (by decide) k31 (fun _ h9 => h9) rfl dX6_copyFrom_106 ?_
              refine lv_iload_n hx hb dX6_copyFrom_109 rfl (lv_at hl 0 rfl) ?_
              refine l_a4 hx hb hK hP (j := 0) rfl (by unfold vp_in; decide) dX6_copyFrom_110 ?_
              refine lv_aload_n hx hb dX6_copyFrom_111 rfl (lv_at hl 2 rfl) ?_
              refine va_get (D := D) (C := RX6) (T := TX6) (N := 12) (ci := 6) (v := .ref (bd 4)) hx hb hts nX6 hown hK hP (0 + 102) w2_st rfl 5 (by decide) k31 (fun _ h9 => h9) rfl dX6_copyFrom_112 ?_
              refine lv_iload_n hx hb dX6_copyFrom_115 rfl (lv_at hl 0 rfl) ?_
              refine l2_a4 hx hb hK hP (j := 0) rfl (by unfold vp_in; decide) dX6_copyFrom_116 ?_
              refine x_Vv (As := [.ref (bd (0 + 96))]) (rest0 := []) ⟨hx, hb, hml, hown, hts⟩ (c_X1_copyFrom l D cA ad tr rest H.size τ6 bd ρ 0 (by decide) (hfl.2.2 0 (by decide))) (cwV 1 hts gX6_copyFrom_X1_copyFrom rfl rfl rfl (by decide +kernel) ⟨Nat.le_of_ble_eq_true rfl, Nat.le_of_ble_eq_true rfl⟩) hK hP hD hS hA (0 + 96) (w_ch (by decide)) rfl hl.1 rfl rfl (Nat.le_of_ble_eq_true rfl) ⟨Nat.zero_le _, Nat.zero_le _⟩ dX6_copyFrom_117 (fun τ9 H locs hw hP hD hS => ?_)
              have eτ9 := hw
              refine lv_iinc (v := 1) (lv' := [(2, .int 1), (0, .ref (ad 0)), (1, .ref (bd 0))]) hx hb dX6_copyFrom_120 hl (k := 0) rfl (by decide) (by decide) rfl (fun ls hl => ?_)
              refine lv_goto (tgt := 100) hx hb dX6_copyFrom_123 (by decide) ?_
              refine lv_iload_n hx hb dX6_copyFrom_100 rfl (lv_at hl 0 rfl) ?_
              refine lv_iconst (v := 2) hx hb dX6_copyFrom_101 (by decide) ?_
              refine lv_icmp_ge (tgt := 126) hx hb dX6_copyFrom_102 (by decide) (fun c_102_10 => ?_) (fun c_102_10 => ?_)
              -- 102 jumps
              · exact absurd c_102_10 (by decide)
              -- 102 goes on
              · skip
                refine lv_aload_n hx hb dX6_copyFrom_105 rfl (lv_at hl 1 rfl) ?_
                refine va_get (D := D) (C := RX6) (T := TX6) (N := 12) (ci := 6) (v := .ref (ad 4)) hx hb hts nX6 hown hK hP 0 w_st rfl 5 (by decide) k31 (fun _ h9 => h9) rfl dX6_copyFrom_106 ?_
                refine lv_iload_n hx hb dX6_copyFrom_109 rfl (lv_at hl 0 rfl) ?_
                refine l_a4 hx hb hK hP (j := 1) rfl (by unfold vp_in; decide) dX6_copyFrom_110 ?_
                refine lv_aload_n hx hb dX6_copyFrom_111 rfl (lv_at hl 2 rfl) ?_
                refine va_get (D := D) (C := RX6) (T := TX6) (N := 12) (ci := 6) (v := .ref (bd 4)) hx hb hts nX6 hown hK hP (0 + 102) w2_st rfl 5 (by decide) k31 (fun _ h9 => h9) rfl dX6_copyFrom_112 ?_
                refine lv_iload_n hx hb dX6_copyFrom_115 rfl (lv_at hl 0 rfl) ?_
                refine l2_a4 hx hb hK hP (j := 1) rfl (by unfold vp_in; decide) dX6_copyFrom_116 ?_
                refine x_Vv (As := [.ref (bd (1 + 96))]) (rest0 := []) ⟨hx, hb, hml, hown, hts⟩ (c_X1_copyFrom l D cA ad tr rest H.size τ9 bd ρ 1 (by decide) (hfl.2.2 1 (by decide))) (cwV 1 hts gX6_copyFrom_X1_copyFrom rfl rfl rfl (by decide +kernel) ⟨Nat.le_of_ble_eq_true rfl, Nat.le_of_ble_eq_true rfl⟩) hK hP hD hS hA (1 + 96) (w_ch (by decide)) rfl hl.1 rfl rfl (Nat.le_of_ble_eq_true rfl) ⟨Nat.zero_le _, Nat.zero_le _⟩ dX6_copyFrom_117 (fun τ11 H locs hw hP hD hS => ?_)
                have eτ11 := hw
                refine lv_iinc (v := 2) (lv' := [(2, .int 2), (0, .ref (ad 0)), (1, .ref (bd 0))]) hx hb dX6_copyFrom_120 hl (k := 0) rfl (by decide) (by decide) rfl (fun ls hl => ?_)
                refine lv_goto (tgt := 100) hx hb dX6_copyFrom_123 (by decide) ?_
                refine lv_iload_n hx hb dX6_copyFrom_100 rfl (lv_at hl 0 rfl) ?_
                refine lv_iconst (v := 2) hx hb dX6_copyFrom_101 (by decide) ?_
                refine lv_icmp_ge (tgt := 126) hx hb dX6_copyFrom_102 (by decide) (fun c_102_12 => ?_) (fun c_102_12 => ?_)
                -- 102 jumps
                · skip
                  refine lv_aload_n hx hb dX6_copyFrom_126 rfl (lv_at hl 1 rfl) ?_
                  refine lv_aload_n hx hb dX6_copyFrom_127 rfl (lv_at hl 2 rfl) ?_
                  refine va_get (D := D) (C := RX6) (T := TX6) (N := 12) (ci := 6) (v := .int (ρ 0 1)) hx hb hts nX6 hown hK hP (0 + 102) w2_st rfl 1 (by decide) k58 (fun _ h9 => h9) rfl dX6_copyFrom_128 ?_
                  refine p_st hx hb hts nX6 hown hK hP hD hS 1 (by decide) (by decide) k58 (fun _ h9 => h9) rfl rfl rfl dX6_copyFrom_131 (fun τ13 H locs eτ13 hP hD hS => ?_)
                  refine lv_aload_n hx hb dX6_copyFrom_134 rfl (lv_at hl 1 rfl) ?_
                  refine lv_aload_n hx hb dX6_copyFrom_135 rfl (lv_at hl 2 rfl) ?_
                  refine va_get (D := D) (C := RX6) (T := TX6) (N := 12) (ci := 6) (v := .int (ρ 0 3)) hx hb hts nX6 hown hK hP (0 + 102) w2_st rfl 3 (by decide) k62 (fun _ h9 => h9) rfl dX6_copyFrom_136 ?_
                  refine p_st hx hb hts nX6 hown hK hP hD hS 3 (by decide) (by decide) k62 (fun _ h9 => h9) rfl rfl rfl dX6_copyFrom_139 (fun τ14 H locs eτ14 hP hD hS => ?_)
                  refine lv_aload_n hx hb dX6_copyFrom_142 rfl (lv_at hl 1 rfl) ?_
                  refine lv_aload_n hx hb dX6_copyFrom_143 rfl (lv_at hl 2 rfl) ?_
                  refine va_get (D := D) (C := RX6) (T := TX6) (N := 12) (ci := 6) (v := .int (ρ 0 7)) hx hb hts nX6 hown hK hP (0 + 102) w2_st rfl 7 (by decide) k65 (fun _ h9 => h9) rfl dX6_copyFrom_144 ?_
                  refine p_st hx hb hts nX6 hown hK hP hD hS 7 (by decide) (by decide) k65 (fun _ h9 => h9) rfl rfl rfl dX6_copyFrom_147 (fun τ15 H locs eτ15 hP hD hS => ?_)
                  refine lv_aload_n hx hb dX6_copyFrom_150 rfl (lv_at hl 1 rfl) ?_
                  refine lv_aload_n hx hb dX6_copyFrom_151 rfl (lv_at hl 2 rfl) ?_
                  refine va_get (D := D) (C := RX6) (T := TX6) (N := 12) (ci := 6) (v := .int (ρ 0 8)) hx hb hts nX6 hown hK hP (0 + 102) w2_st rfl 8 (by decide) k68 (fun _ h9 => h9) rfl dX6_copyFrom_152 ?_
                  refine p_st hx hb hts nX6 hown hK hP hD hS 8 (by decide) (by decide) k68 (fun _ h9 => h9) rfl rfl rfl dX6_copyFrom_155 (fun τ16 H locs eτ16 hP hD hS => ?_)
                  refine lv_aload_n hx hb dX6_copyFrom_158 rfl (lv_at hl 1 rfl) ?_
                  refine lv_aload_n hx hb dX6_copyFrom_159 rfl (lv_at hl 2 rfl) ?_
                  refine va_get (D := D) (C := RX6) (T := TX6) (N := 12) (ci := 6) (v := .int (ρ 0 9)) hx hb hts nX6 hown hK hP (0 + 102) w2_st rfl 9 (by decide) k71 (fun _ h9 => h9) rfl dX6_copyFrom_160 ?_
                  refine p_st hx hb hts nX6 hown hK hP hD hS 9 (by decide) (by decide) k71 (fun _ h9 => h9) rfl rfl rfl dX6_copyFrom_163 (fun τ17 H locs eτ17 hP hD hS => ?_)
                  refine lv_aload_n hx hb dX6_copyFrom_166 rfl (lv_at hl 1 rfl) ?_
                  refine lv_aload_n hx hb dX6_copyFrom_167 rfl (lv_at hl 2 rfl) ?_
                  refine va_get (D := D) (C := RX6) (T := TX6) (N := 12) (ci := 6) (v := .int (ρ 0 10)) hx hb hts nX6 hown hK hP (0 + 102) w2_st rfl 10 (by decide) k74 (fun _ h9 => h9) rfl dX6_copyFrom_168 ?_
                  refine p_st hx hb hts nX6 hown hK hP hD hS 10 (by decide) (by decide) k74 (fun _ h9 => h9) rfl rfl rfl dX6_copyFrom_171 (fun τ18 H locs eτ18 hP hD hS => ?_)
                  refine lv_aload_n hx hb dX6_copyFrom_174 rfl (lv_at hl 1 rfl) ?_
                  refine lv_aload_n hx hb dX6_copyFrom_175 rfl (lv_at hl 2 rfl) ?_
                  refine va_get (D := D) (C := RX6) (T := TX6) (N := 12) (ci := 6) (v := .int (ρ 0 11)) hx hb hts nX6 hown hK hP (0 + 102) w2_st rfl 11 (by decide) k77 (fun _ h9 => h9) rfl dX6_copyFrom_176 ?_
                  refine p_st hx hb hts nX6 hown hK hP hD hS 11 (by decide) (by decide) k77 (fun _ h9 => h9) rfl rfl rfl dX6_copyFrom_179 (fun τ19 H locs eτ19 hP hD hS => ?_)
                  have hP : va_P D vwCl (wB cA ad (m_copy τ ρ) ++ (wB cA bd ρ ++ rest)) H := cv_all (τ := τ) (by intro j hq; subst eτ19 eτ18 eτ17 eτ16 eτ15 eτ14 eτ13 eτ11 eτ9 eτ6 eτ4; rcases hq with rfl | rfl | rfl | rfl | rfl | rfl | rfl <;> simp [up2_ap]) (by intro j hq; subst eτ19 eτ18 eτ17 eτ16 eτ15 eτ14 eτ13 eτ11 eτ9 eτ6 eτ4; simp only [up2_ne (show (5 : Nat) ≠ 0 by decide)]; rw [hf2]; exact cp_5 hq) (by intro a ha hb; subst eτ19 eτ18 eτ17 eτ16 eτ15 eτ14 eτ13 eτ11 eτ9 eτ6 eτ4; simp only [up2_ne (show a ≠ 0 by omega)]; rw [hf2]; exact cp_mid ha hb) (by intro a ha; subst eτ19 eτ18 eτ17 eτ16 eτ15 eτ14 eτ13 eτ11 eτ9 eτ6 eτ4; simp only [up2_ne (show a ≠ 0 by omega)]; rw [hf2]; exact cp_hi ha) hP
                  have hD : va_D A (wB cA ad (m_copy τ ρ) ++ (wB cA bd ρ ++ rest)) := wB_convD hD
                  exact x_vret hx hb hr hlocks hK (m_copy τ ρ) hP hD hS dX6_copyFrom_182 rfl
                -- 102 goes on
                · exact absurd c_102_12 (by decide)
          -- 74 goes on
          · exact absurd c_74_7 (by decide)
    -- 46 goes on
    · skip
      have hj2 : j2 < 40 := lt_c40 c_46_2 (by omega)
      obtain ⟨n, rfl⟩ : ∃ k, n = k + 1 := ⟨n - 1, by omega⟩
      refine lv_aload_n hx hb dX6_copyFrom_49 rfl (lv_at hl 0 rfl) ?_
      refine va_get (D := D) (C := RX6) (T := TX6) (N := 12) (ci := 6) (v := .ref (ad 2)) hx hb hts nX6 hown hK hP 0 w_st rfl 2 (by decide) k19 (fun _ h9 => h9) rfl dX6_copyFrom_50 ?_
      refine lv_iload_n hx hb dX6_copyFrom_53 rfl (lv_at hl 2 rfl) ?_
      refine l_a2 hx hb hK hP (j := j2) (nI_clamp (by omega)) (vp_in_nI hj2 (by omega)) dX6_copyFrom_54 ?_
      refine lv_aload_n hx hb dX6_copyFrom_55 rfl (lv_at hl 1 rfl) ?_
      refine va_get (D := D) (C := RX6) (T := TX6) (N := 12) (ci := 6) (v := .ref (bd 2)) hx hb hts nX6 hown hK hP (0 + 102) w2_st rfl 2 (by decide) k19 (fun _ h9 => h9) rfl dX6_copyFrom_56 ?_
      refine lv_iload_n hx hb dX6_copyFrom_59 rfl (lv_at hl 2 rfl) ?_
      refine l2_a2 hx hb hK hP (j := j2) (nI_clamp (by omega)) (vp_in_nI hj2 (by omega)) dX6_copyFrom_60 ?_
      refine x_Vv (As := [.ref (bd (j2 + 54))]) (rest0 := []) ⟨hx, hb, hml, hown, hts⟩ (c_X5_copyFrom l D cA ad tr rest H.size σ2 bd ρ j2 hj2 (hfl.2.1 j2 hj2).1 (hfl.2.1 j2 hj2).2) (cwV 1 hts gX6_copyFrom_X5_copyFrom rfl rfl rfl (by decide +kernel) ⟨Nat.le_of_ble_eq_true rfl, Nat.le_of_ble_eq_true rfl⟩) hK hP hD hS hA (j2 + 54) (w_sc hj2) rfl hl.1 rfl rfl (Nat.le_of_ble_eq_true rfl) ⟨Nat.zero_le _, Nat.zero_le _⟩ dX6_copyFrom_61 (fun τ20 H locs hw hP hD hS => ?_)
      have eτ20 := hw
      refine lv_iinc (v := (nI (j2 + 1))) (lv' := [(2, .int (nI (j2 + 1))), (0, .ref (ad 0)), (1, .ref (bd 0))]) hx hb dX6_copyFrom_64 hl (k := 2) rfl (show nI j2 + 1 = nI (j2 + 1) from nI_1 j2) (by decide) rfl (fun ls hl => ?_)
      refine lv_goto (tgt := 43) hx hb dX6_copyFrom_67 (by decide) ?_
      exact ih n (Nat.lt_succ_self n) H locs ls ⟨τ20, (j2 + 1), ⟨by omega, by subst eτ20; rw [hf2]; exact m_c2_s _ ρ j2⟩, hP, hD, hS, lv_sub hl [1, 2, 0] rfl⟩
  -- 5 goes on
  · skip
    have hj : j < 24 := lt_c c_5_1 (by omega)
    obtain ⟨n, rfl⟩ : ∃ k, n = k + 1 := ⟨n - 1, by omega⟩
    refine lv_aload_n hx hb dX6_copyFrom_8 rfl (lv_at hl 0 rfl) ?_
    refine va_get (D := D) (C := RX6) (T := TX6) (N := 12) (ci := 6) (v := .ref (ad 1)) hx hb hts nX6 hown hK hP 0 w_st rfl 0 (by decide) k11 (fun _ h9 => h9) rfl dX6_copyFrom_9 ?_
    refine lv_iload_n hx hb dX6_copyFrom_12 rfl (lv_at hl 2 rfl) ?_
    refine l_a1 hx hb hK hP (j := j) (nI_clamp (by omega)) (vp_in_nI hj (by omega)) dX6_copyFrom_13 ?_
    refine lv_aload_n hx hb dX6_copyFrom_14 rfl (lv_at hl 1 rfl) ?_
    refine va_get (D := D) (C := RX6) (T := TX6) (N := 12) (ci := 6) (v := .ref (bd 1)) hx hb hts nX6 hown hK hP (0 + 102) w2_st rfl 0 (by decide) k11 (fun _ h9 => h9) rfl dX6_copyFrom_15 ?_
    refine lv_iload_n hx hb dX6_copyFrom_18 rfl (lv_at hl 2 rfl) ?_
    refine l2_a1 hx hb hK hP (j := j) (nI_clamp (by omega)) (vp_in_nI hj (by omega)) dX6_copyFrom_19 ?_
    refine x_Vv (As := [.ref (bd (j + 6))]) (rest0 := []) ⟨hx, hb, hml, hown, hts⟩ (c_X7_copyFrom l D cA ad tr rest H.size σ bd ρ j hj (hfl.1 j hj).1 (hfl.1 j hj).2) (cwV 1 hts gX6_copyFrom_X7_copyFrom rfl rfl rfl (by decide +kernel) ⟨Nat.le_of_ble_eq_true rfl, Nat.le_of_ble_eq_true rfl⟩) hK hP hD hS hA (j + 6) (w_tk hj) rfl hl.1 rfl rfl (Nat.le_of_ble_eq_true rfl) ⟨Nat.zero_le _, Nat.zero_le _⟩ dX6_copyFrom_20 (fun τ21 H locs hw hP hD hS => ?_)
    have eτ21 := hw
    refine lv_aload_n hx hb dX6_copyFrom_23 rfl (lv_at hl 0 rfl) ?_
    refine va_get (D := D) (C := RX6) (T := TX6) (N := 12) (ci := 6) (v := .ref (ad 5)) hx hb hts nX6 hown hK hP 0 w_st rfl 6 (by decide) k35 (fun _ h9 => h9) rfl dX6_copyFrom_24 ?_
    refine lv_iload_n hx hb dX6_copyFrom_27 rfl (lv_at hl 2 rfl) ?_
    refine lv_aload_n hx hb dX6_copyFrom_28 rfl (lv_at hl 1 rfl) ?_
    refine va_get (D := D) (C := RX6) (T := TX6) (N := 12) (ci := 6) (v := .ref (bd 5)) hx hb hts nX6 hown hK hP (0 + 102) w2_st rfl 6 (by decide) k35 (fun _ h9 => h9) rfl dX6_copyFrom_29 ?_
    refine lv_iload_n hx hb dX6_copyFrom_32 rfl (lv_at hl 2 rfl) ?_
    refine l2_a5 hx hb hK hP (j := j) (nI_clamp (by omega)) (vp_in_nI hj (by omega)) dX6_copyFrom_33 ?_
    refine p_a5 hx hb hK hP hD hS (j := j) (nI_clamp (by omega)) (vp_in_nI hj (by omega)) dX6_copyFrom_34 (fun τ22 H locs eτ22 hP hD hS => ?_)
    refine lv_iinc (v := (nI (j + 1))) (lv' := [(2, .int (nI (j + 1))), (0, .ref (ad 0)), (1, .ref (bd 0))]) hx hb dX6_copyFrom_35 hl (k := 2) rfl (show nI j + 1 = nI (j + 1) from nI_1 j) (by decide) rfl (fun ls hl => ?_)
    refine lv_goto (tgt := 2) hx hb dX6_copyFrom_38 (by decide) ?_
    exact ih n (Nat.lt_succ_self n) H locs ls ⟨τ22, (j + 1), ⟨by omega, by subst eτ22; subst eτ21; rw [hf]; exact m_c1_s τ ρ j hj⟩, hP, hD, hS, lv_sub hl [1, 2, 0] rfl⟩
