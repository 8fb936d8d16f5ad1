theorem m_turns_some {π τ : Sg} {n k i : Nat} (h : m_takeReady τ = some i) : m_turns π (n + 1) k τ = m_turns π n (k + 1) (m_turn (m_takeReadyW τ) π i) := by simp [m_turns, h]
theorem m_turn_of {π τ0 τ1 τ2 τ3 ρ : Sg} {i : Nat} {w : Int32} (e1 : τ1 = up2 τ0 0 9 (τ0 0 9 + 1)) (e2 : τ2 = up2 τ1 100 2 0) (e3 : τ3 = (m_beginTurn τ2 i).1) (e4 : w = (m_beginTurn τ2 i).2) (hs : ρ = m_steps π i 1000 τ3 w) : ρ = m_turn τ0 π i := by rw [hs, e4, e3, e2, e1, m_turn]
set_option maxHeartbeats 4000000 in
set_option maxRecDepth 100000 in
theorem c_X4_takeTurns (l : Launch) (D : va_G) (cA : Nat → ClassId) (ad : Nat → Nat) (tr : List (ClassId × FieldType)) (rest : va_W) (sz : Nat) (τ : Sg) (pd : Nat → Nat) (π : Sg) (N : Nat) (hN : N < 1000) : Met l yX4_takeTurns wsX4_takeTurns ({ frames := 5, cells := 0, slots := 0, locals := 123 }) (va_Pc [.ref (ad 100), .int (nI N)] (inW D (tyB cA ++ tr) (wB cA ad τ ++ (wPg cA ad pd π ++ rest)) sz)) (va_Qi (fun (r : Int32) (u : Sg) => r = nI (m_turns π N 0 τ).2 ∧ u = (m_turns π N 0 τ).1) (fun u : Sg => outW D (tyB cA ++ tr) (va_A (wB cA ad τ ++ (wPg cA ad pd π ++ rest)) sz) (wB cA ad u ++ (wPg cA ad pd π ++ rest))) (va_A (wB cA ad τ ++ (wPg cA ad pd π ++ rest)) sz)) 0 0 (va_A (wB cA ad τ ++ (wPg cA ad pd π ++ rest)) sz) := by
  refine Met.ofW (cc := cX4_takeTurns) (maxL := 6) (ret := (some .int)) (by decide) rfl ?_
  intro p e s m args below meth c s₁ B hml hv
  obtain ⟨rfl, hsz, hP, hK, hD0⟩ := hv
  have hx := B.exec
  have hb := B.bytes
  have hr := B.returns
  have hts := atoms_spec (ws := wsX4_takeTurns) B.pre
  have hown : s.vm.findClass RX4 = some m.cls := findClass_of_methodNamed B.named
  have hlocks := B.notSynchronized
  subst hsz
  have hD := hD0.self (sz := s.heap.size)
  clear hD0
  generalize hAe : va_A (wB cA ad τ ++ (wPg cA ad pd π ++ rest)) s.heap.size = A at hD ⊢
  have hA : ∀ q : Nat, s.heap.size ≤ q → A q := fun q h => by rw [← hAe]; exact Or.inr h
  clear hAe
  have hS : va_S A s.heap s.heap [] := va_S.rf
  have hP : va_P D vwCl (wB cA ad τ ++ (wPg cA ad pd π ++ rest)) s.heap := hP
  have hl := lv_entry ([.ref (ad 100), .int (nI N)]) (n := 6) (Nat.le_of_ble_eq_true rfl)
  rw [lg_entry_eq]
  generalize (lg_sl ([.ref (ad 100), .int (nI N)]) ++ List.replicate (6 - (lg_sl ([.ref (ad 100), .int (nI N)])).length) Slot.unset).toArray = ls at hl ⊢
  have hl : lv_has ls 6 [(0, .ref (ad 100)), (1, .int (nI N))] := hl
  have nX4 : ∀ w ∈ u_ws RX4 TX4 3, w ∈ wsX4_takeTurns := by decide +kernel
  have nX6 : ∀ w ∈ u_ws RX6 TX6 12, w ∈ wsX4_takeTurns := by decide +kernel
  have k15 := hts (.fieldLink RX4 15 "ScopeRow$Runner" "state" "LScopeRow$State;") (by decide +kernel)
  have k25 := hts (.fieldLink RX4 25 "ScopeRow$State" "turns" "I") (by decide +kernel)
  have k29 := hts (.fieldLink RX4 29 "ScopeRow$Runner" "linesOfTurn" "I") (by decide +kernel)
  refine lv_iconst (v := 0) hx hb dX4_takeTurns_0 (by decide) ?_
  refine lv_istore_n (lv' := [(2, .int 0), (0, .ref (ad 100)), (1, .int (nI N))]) hx hb dX4_takeTurns_1 rfl hl (by decide) rfl (fun ls hl => ?_)
  refine W_meas (I := fun (n : Nat) (H : Heap) (locs : List Loc) (ls : Array Slot) => ∃ (σ : Sg) (k : Nat), ((n + k = N) ∧ (m_turns π n k σ = m_turns π N 0 τ)) ∧ va_P D vwCl (wB cA ad σ ++ (wPg cA ad pd π ++ rest)) H ∧ va_D A (wB cA ad σ ++ (wPg cA ad pd π ++ rest)) ∧ va_S A s.heap H locs ∧ lv_has ls 6 [(0, .ref (ad 100)), (1, .int (nI N)), (2, .int (nI k))]) N ⟨τ, 0, ⟨by omega, rfl⟩, hP, hD, hS, lv_sub hl [1, 2, 0] rfl⟩ ?_
  clear hP hD hS hl
  intro n ih H locs ls hI
  obtain ⟨σ, k, ⟨hn, hf⟩, hP, hD, hS, hl⟩ := hI
  refine lv_iload_n hx hb dX4_takeTurns_2 rfl (lv_at hl 2 rfl) ?_
  refine lv_iload_n hx hb dX4_takeTurns_3 rfl (lv_at hl 1 rfl) ?_
  refine lv_icmp_ge (tgt := 98) hx hb dX4_takeTurns_4 (by decide) (fun c_4_1 => ?_) (fun c_4_1 => ?_)
  -- 4 jumps
  · skip
    obtain rfl : n = 0 := by have := (nI_leI (by omega) (by omega)).mp c_4_1; omega
    refine lv_iload_n hx hb dX4_takeTurns_98 rfl (lv_at hl 2 rfl) ?_
    exact x_iret hx hb hr hlocks hK σ hP hD hS dX4_takeTurns_99 (by rw [← hf]; exact ⟨rfl, rfl⟩)
  -- 4 goes on
  · skip
    have hk : k < N := Nat.not_le.mp (fun q => c_4_1 ((nI_leI (by omega) (by omega)).mpr q))
    obtain ⟨n, rfl⟩ : ∃ q, n = q + 1 := ⟨n - 1, by omega⟩
    refine lv_aload_n hx hb dX4_takeTurns_7 rfl (lv_at hl 0 rfl) ?_
    refine va_get (D := D) (C := RX4) (T := TX4) (N := 3) (ci := 4) (v := .ref (ad 0)) hx hb hts nX4 hown hK hP 100 w_ru rfl 1 (by decide) k15 (fun _ h9 => h9) rfl dX4_takeTurns_8 ?_
    refine x_Vq (As := []) (rest0 := []) ⟨hx, hb, hml, hown, hts⟩ (c_X6_takeReady l D cA ad tr (wPg cA ad pd π ++ rest) H.size σ ) (cwV 0 hts gX4_takeTurns_X6_takeReady rfl rfl rfl (by decide +kernel) ⟨Nat.le_of_ble_eq_true rfl, Nat.le_of_ble_eq_true rfl⟩) hK hP hD hS hA 0 w_st rfl hl.1 rfl rfl (Nat.le_of_ble_eq_true rfl) ⟨Nat.zero_le _, Nat.zero_le _⟩ dX4_takeTurns_11 (fun r2 τ3 H locs hw hP hD hS => ?_)
    obtain ⟨er2, eτ3⟩ := hw
    subst er2
    rcases hi4 : m_takeReady σ with _ | i4
    · refine W.eq (g2 := F0 m 14 ls [.null]) rfl ?_
      refine lv_astore_nN (lv' := [(3, .null), (0, .ref (ad 100)), (1, .int (nI N)), (2, .int (nI k))]) hx hb dX4_takeTurns_14 rfl hl (by decide) rfl (fun ls hl => ?_)
      refine lv_aload_nN hx hb dX4_takeTurns_15 rfl (lv_at hl 0 rfl) ?_
      refine lv_ifnonnullN hx hb dX4_takeTurns_16 ?_
      refine lv_iload_n hx hb dX4_takeTurns_19 rfl (lv_at hl 3 rfl) ?_
      exact x_iret hx hb hr hlocks hK τ3 hP hD hS dX4_takeTurns_20 (by subst eτ3; rw [← hf]; simp [m_turns, c_4_1, hi4])
    · have bi4 := m_takeReady_lt hi4
      refine W.eq (g2 := F0 m 14 ls [.ref (ad (i4 + 6))]) rfl ?_
      refine lv_astore_n (lv' := [(3, .ref (ad (i4 + 6))), (0, .ref (ad 100)), (1, .int (nI N)), (2, .int (nI k))]) hx hb dX4_takeTurns_14 rfl hl (by decide) rfl (fun ls hl => ?_)
      refine lv_aload_n hx hb dX4_takeTurns_15 rfl (lv_at hl 0 rfl) ?_
      refine lv_ifnonnull (tgt := 21) hx hb dX4_takeTurns_16 (by decide) ?_
      refine lv_iinc (v := (nI (k + 1))) (lv' := [(2, .int (nI (k + 1))), (3, .ref (ad (i4 + 6))), (0, .ref (ad 100)), (1, .int (nI N))]) hx hb dX4_takeTurns_21 hl (k := 3) rfl (show nI k + 1 = nI (k + 1) from nI_1 k) (by decide) rfl (fun ls hl => ?_)
      refine lv_aload_n hx hb dX4_takeTurns_24 rfl (lv_at hl 2 rfl) ?_
      refine va_get (D := D) (C := RX4) (T := TX4) (N := 3) (ci := 4) (v := .ref (ad 0)) hx hb hts nX4 hown hK hP 100 w_ru rfl 1 (by decide) k15 (fun _ h9 => h9) rfl dX4_takeTurns_25 ?_
      refine lv_dup hx hb dX4_takeTurns_28 rfl ?_
      refine va_get (D := D) (C := RX6) (T := TX6) (N := 12) (ci := 6) (v := .int (τ3 0 9)) hx hb hts nX6 hown hK hP 0 w_st rfl 9 (by decide) k25 (fun _ h9 => h9) rfl dX4_takeTurns_29 ?_
      refine lv_iconst (v := 1) hx hb dX4_takeTurns_32 (by decide) ?_
      refine lv_iadd hx hb dX4_takeTurns_33 ?_
      refine p_st hx hb hts nX6 hown hK hP hD hS 9 (by decide) (by decide) k25 (fun _ h9 => h9) rfl rfl rfl dX4_takeTurns_34 (fun τ5 H locs eτ5 hP hD hS => ?_)
      refine lv_aload_n hx hb dX4_takeTurns_37 rfl (lv_at hl 2 rfl) ?_
      refine lv_iconst (v := 0) hx hb dX4_takeTurns_38 (by decide) ?_
      refine p_ru hx hb hts nX4 hown hK hP hD hS 2 (by decide) (by decide) k29 (fun _ h9 => h9) rfl rfl rfl dX4_takeTurns_39 (fun τ6 H locs eτ6 hP hD hS => ?_)
      refine lv_aload_n hx hb dX4_takeTurns_42 rfl (lv_at hl 2 rfl) ?_
      refine lv_aload_n hx hb dX4_takeTurns_43 rfl (lv_at hl 1 rfl) ?_
      refine x_Vi (As := [.ref (ad (i4 + 6))]) (rest0 := []) ⟨hx, hb, hml, hown, hts⟩ (c_X4_beginTurn l D cA ad tr (wPg cA ad pd π ++ rest) H.size τ6 i4 bi4) (cwV 1 hts gX4_takeTurns_X4_beginTurn rfl rfl rfl (by decide +kernel) ⟨Nat.le_of_ble_eq_true rfl, Nat.le_of_ble_eq_true rfl⟩) hK hP hD hS hA 100 w_ru rfl hl.1 rfl rfl (Nat.le_of_ble_eq_true rfl) ⟨Nat.zero_le _, Nat.zero_le _⟩ dX4_takeTurns_44 (fun r7 τ8 H locs hw hP hD hS => ?_)
      obtain ⟨er7, eτ8⟩ := hw
      refine lv_istore (lv' := [(4, .int r7), (2, .int (nI (k + 1))), (3, .ref (ad (i4 + 6))), (0, .ref (ad 100)), (1, .int (nI N))]) hx hb dX4_takeTurns_47 hl (by decide) rfl (fun ls hl => ?_)
      refine lv_iconst (v := 0) hx hb dX4_takeTurns_49 (by decide) ?_
      refine lv_istore (lv' := [(5, .int 0), (4, .int r7), (2, .int (nI (k + 1))), (3, .ref (ad (i4 + 6))), (0, .ref (ad 100)), (1, .int (nI N))]) hx hb dX4_takeTurns_50 hl (by decide) rfl (fun ls hl => ?_)
      refine W_meas (I := fun (n2 : Nat) (H : Heap) (locs : List Loc) (ls : Array Slot) => ∃ (ρ : Sg) (w : Int32) (j : Nat), ((n2 + j = 1000) ∧ (m_steps π i4 n2 ρ w = m_steps π i4 1000 τ8 r7)) ∧ va_P D vwCl (wB cA ad ρ ++ (wPg cA ad pd π ++ rest)) H ∧ va_D A (wB cA ad ρ ++ (wPg cA ad pd π ++ rest)) ∧ va_S A s.heap H locs ∧ lv_has ls 6 [(0, .ref (ad 100)), (1, .int (nI N)), (2, .int (nI (k + 1))), (3, .ref (ad (i4 + 6))), (4, .int w), (5, .int (nI j))]) 1000 ⟨τ8, r7, 0, ⟨by omega, rfl⟩, hP, hD, hS, lv_sub hl [4, 5, 2, 3, 1, 0] rfl⟩ ?_
      clear hP hD hS hl
      intro n2 ih2 H locs ls hI
      obtain ⟨ρ, w, j, ⟨hn2, hg⟩, hP, hD, hS, hl⟩ := hI
      refine lv_iload hx hb dX4_takeTurns_52 (lv_at hl 5 rfl) ?_
      refine lv_sipush (v := 1000) hx hb dX4_takeTurns_54 (by decide) ?_
      refine lv_icmp_ge (tgt := 95) hx hb dX4_takeTurns_57 (by decide) (fun c_57_9 => ?_) (fun c_57_9 => ?_)
      -- 57 jumps
      · skip
        obtain rfl : n2 = 0 := by have := ge_cN 1000 c_57_9 (by decide) (by omega); omega
        have hs : ρ = m_steps π i4 1000 τ8 r7 := hg
        refine lv_goto (tgt := 2) hx hb dX4_takeTurns_95 (by decide) ?_
        exact ih n (Nat.lt_succ_self n) H locs ls ⟨ρ, (k + 1), ⟨by omega, by rw [← hf, m_turns_some hi4, ← eτ3, ← m_turn_of eτ5 eτ6 eτ8 er7 hs]⟩, hP, hD, hS, lv_sub hl [0, 1, 2] rfl⟩
      -- 57 goes on
      · skip
        obtain ⟨n2, rfl⟩ : ∃ q, n2 = q + 1 := ⟨n2 - 1, by have := lt_cN 1000 c_57_9 (by decide) (by omega); omega⟩
        refine lv_iload hx hb dX4_takeTurns_60 (lv_at hl 4 rfl) ?_
        refine lv_bipush (v := (-4)) hx hb dX4_takeTurns_62 (by decide) ?_
        refine lv_icmp_eq (tgt := 95) hx hb dX4_takeTurns_64 (by decide) (fun c_64_10 => ?_) (fun c_64_10 => ?_)
        -- 64 jumps
        · skip
          have hs : ρ = m_steps π i4 1000 τ8 r7 := (by rw [← hg]; simp [m_steps, eq_true c_64_10])
          refine lv_goto (tgt := 2) hx hb dX4_takeTurns_95 (by decide) ?_
          exact ih n (Nat.lt_succ_self n) H locs ls ⟨ρ, (k + 1), ⟨by omega, by rw [← hf, m_turns_some hi4, ← eτ3, ← m_turn_of eτ5 eτ6 eτ8 er7 hs]⟩, hP, hD, hS, lv_sub hl [0, 1, 2] rfl⟩
        -- 64 goes on
        · skip
          refine lv_iload hx hb dX4_takeTurns_67 (lv_at hl 4 rfl) ?_
          refine lv_if_ne (tgt := 80) hx hb dX4_takeTurns_69 (by decide) (fun c_69_11 => ?_) (fun c_69_11 => ?_)
          -- 69 jumps
          · skip
            refine lv_aload_n hx hb dX4_takeTurns_80 rfl (lv_at hl 0 rfl) ?_
            refine lv_aload_n hx hb dX4_takeTurns_81 rfl (lv_at hl 3 rfl) ?_
            refine lv_iload hx hb dX4_takeTurns_82 (lv_at hl 4 rfl) ?_
            refine x_Vi (As := [.ref (ad (i4 + 6)), .int w]) (rest0 := []) ⟨hx, hb, hml, hown, hts⟩ (c_X4_leave l D cA ad tr (wPg cA ad pd π ++ rest) H.size ρ i4 bi4 w) (cwV 2 hts gX4_takeTurns_X4_leave rfl rfl rfl (by decide +kernel) ⟨Nat.le_of_ble_eq_true rfl, Nat.le_of_ble_eq_true rfl⟩) hK hP hD hS hA 100 w_ru rfl hl.1 rfl rfl (Nat.le_of_ble_eq_true rfl) ⟨Nat.zero_le _, Nat.zero_le _⟩ dX4_takeTurns_84 (fun r12 τ13 H locs hw hP hD hS => ?_)
            obtain ⟨er12, eτ13⟩ := hw
            refine lv_istore (lv' := [(4, .int r12), (0, .ref (ad 100)), (1, .int (nI N)), (2, .int (nI (k + 1))), (3, .ref (ad (i4 + 6))), (5, .int (nI j))]) hx hb dX4_takeTurns_87 hl (by decide) rfl (fun ls hl => ?_)
            refine lv_iinc (v := (nI (j + 1))) (lv' := [(5, .int (nI (j + 1))), (4, .int r12), (0, .ref (ad 100)), (1, .int (nI N)), (2, .int (nI (k + 1))), (3, .ref (ad (i4 + 6)))]) hx hb dX4_takeTurns_89 hl (k := 5) rfl (show nI j + 1 = nI (j + 1) from nI_1 j) (by decide) rfl (fun ls hl => ?_)
            refine lv_goto (tgt := 52) hx hb dX4_takeTurns_92 (by decide) ?_
            exact ih2 n2 (Nat.lt_succ_self n2) H locs ls ⟨τ13, r12, (j + 1), ⟨by omega, by rw [← hg]; subst er12 eτ13; simp [m_steps, c_57_9, c_64_10, c_69_11]⟩, hP, hD, hS, lv_sub hl [2, 3, 4, 5, 1, 0] rfl⟩
          -- 69 goes on
          · skip
            refine lv_aload_n hx hb dX4_takeTurns_72 rfl (lv_at hl 0 rfl) ?_
            refine lv_aload_n hx hb dX4_takeTurns_73 rfl (lv_at hl 3 rfl) ?_
            refine x_Vi (As := [.ref (ad (i4 + 6))]) (rest0 := []) ⟨hx, hb, hml, hown, hts⟩ (c_X4_goOn l D cA ad tr rest H.size ρ pd π i4 bi4) (cwV 1 hts gX4_takeTurns_X4_goOn rfl rfl rfl (by decide +kernel) ⟨Nat.le_of_ble_eq_true rfl, Nat.le_of_ble_eq_true rfl⟩) hK hP hD hS hA 100 w_ru rfl hl.1 rfl rfl (Nat.le_of_ble_eq_true rfl) ⟨Nat.zero_le _, Nat.zero_le _⟩ dX4_takeTurns_74 (fun r14 τ15 H locs hw hP hD hS => ?_)
            obtain ⟨er14, eτ15⟩ := hw
            refine lv_goto (tgt := 87) hx hb dX4_takeTurns_77 (by decide) ?_
            refine lv_istore (lv' := [(4, .int r14), (0, .ref (ad 100)), (1, .int (nI N)), (2, .int (nI (k + 1))), (3, .ref (ad (i4 + 6))), (5, .int (nI j))]) hx hb dX4_takeTurns_87 hl (by decide) rfl (fun ls hl => ?_)
            refine lv_iinc (v := (nI (j + 1))) (lv' := [(5, .int (nI (j + 1))), (4, .int r14), (0, .ref (ad 100)), (1, .int (nI N)), (2, .int (nI (k + 1))), (3, .ref (ad (i4 + 6)))]) hx hb dX4_takeTurns_89 hl (k := 5) rfl (show nI j + 1 = nI (j + 1) from nI_1 j) (by decide) rfl (fun ls hl => ?_)
            refine lv_goto (tgt := 52) hx hb dX4_takeTurns_92 (by decide) ?_
            exact ih2 n2 (Nat.lt_succ_self n2) H locs ls ⟨τ15, r14, (j + 1), ⟨by omega, by rw [← hg]; subst er14 eτ15; simp [m_steps, c_57_9, c_64_10, eq_true c_69_11]⟩, hP, hD, hS, lv_sub hl [2, 3, 4, 5, 1, 0] rfl⟩
