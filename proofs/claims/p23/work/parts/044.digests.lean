theorem m_dgT_s (τ : Sg) (n j : Nat) (d : Int64) : m_dgT τ (n + 1) j d = m_dgT τ n (j + 1) (m_dg (m_fL τ j) 4 0 (m_dg (m_fT τ j) 9 0 d)) := rfl
theorem m_dgS_s (τ : Sg) (n j : Nat) (d : Int64) : m_dgS τ (n + 1) j d = m_dgS τ n (j + 1) (m_dg (m_fS τ j) 9 0 d * 31 + (nI (m_newlyHit τ (nI j))).toInt64) := rfl
def m_fK (τ : Sg) (j w : Nat) : Int32 := m_aboutLock τ (nI j) (nI w)
def m_fC (τ : Sg) (j w : Nat) : Int32 := m_aboutChannel τ (nI j) (nI w)
def m_dgLC (τ : Sg) (d : Int64) : Int64 := m_dg (m_fC τ 1) 7 0 (m_dg (m_fC τ 0) 7 0 (m_dg (m_fK τ 1) 4 0 (m_dg (m_fK τ 0) 4 0 d)))
theorem z0 : nI 0 = 0 := rfl
theorem z1 : nI 1 = 1 := rfl
theorem z2 : nI 2 = 2 := rfl
theorem z3 : nI 3 = 3 := rfl
theorem z4 : nI 4 = 4 := rfl
theorem z5 : nI 5 = 5 := rfl
theorem z6 : nI 6 = 6 := rfl

set_option maxHeartbeats 4000000 in
set_option maxRecDepth 100000 in
theorem c_X0_digestTasks (l : Launch) (D : va_G) (cA : Nat → ClassId) (ad : Nat → Nat) (tr : List (ClassId × FieldType)) (rest : va_W) (sz : Nat) (τ : Sg)  (T : Nat) (hT : τ 0 1 = nI T) (hT2 : T < 1000) (d : Int64) : Met l yX0_digestTasks wsX0_digestTasks ({ frames := 2, cells := 0, slots := 0, locals := 48 }) (va_Pc [.ref (ad 101), .long d] (inW D (tyB cA ++ tr) (wB cA ad τ ++ rest) sz)) (va_Ql (fun (r : Int64) (_ : Unit) => r = m_dgT τ T 0 d) (fun _ : Unit => outW D (tyB cA ++ tr) (va_A (wB cA ad τ ++ rest) sz) (wB cA ad τ ++ rest)) (va_A (wB cA ad τ ++ rest) sz)) 0 0 (va_A (wB cA ad τ ++ rest) sz) := by
  refine Met.ofW (cc := cX0_digestTasks) (maxL := 7) (ret := (some .long)) (by decide) rfl ?_
  intro p e s m args below meth c s₁ B hml hv
  obtain ⟨rfl, hsz, hP, hK, hD0⟩ := hv
  have hx := B.exec
  have hb := B.bytes
  have hr := B.returns
  have hts := atoms_spec (ws := wsX0_digestTasks) B.pre
  have hown : s.vm.findClass RX0 = some m.cls := findClass_of_methodNamed B.named
  have hlocks := B.notSynchronized
  subst hsz
  have hD := hD0.self (sz := s.heap.size)
  clear hD0
  generalize hAe : va_A (wB cA ad τ ++ rest) s.heap.size = A at hD ⊢
  have hA : ∀ q : Nat, s.heap.size ≤ q → A q := fun q h => by rw [← hAe]; exact Or.inr h
  clear hAe
  have hS : va_S A s.heap s.heap [] := va_S.rf
  have hP : va_P D vwCl (wB cA ad τ ++ rest) s.heap := hP
  have hl := lv_entry ([.ref (ad 101), .long d]) (n := 7) (Nat.le_of_ble_eq_true rfl)
  rw [lg_entry_eq]
  generalize (lg_sl ([.ref (ad 101), .long d]) ++ List.replicate (7 - (lg_sl ([.ref (ad 101), .long d])).length) Slot.unset).toArray = ls at hl ⊢
  have hl : lv_has ls 7 [(0, .ref (ad 101)), (1, .long d)] := hl
  have nX0 : ∀ w ∈ u_ws RX0 TX0 2, w ∈ wsX0_digestTasks := by decide +kernel
  have nX6 : ∀ w ∈ u_ws RX6 TX6 12, w ∈ wsX0_digestTasks := by decide +kernel
  have k15 := hts (.fieldLink RX0 15 "ScopeRow$Answers" "state" "LScopeRow$State;") (by decide +kernel)
  have k161 := hts (.fieldLink RX0 161 "ScopeRow$State" "taskCount" "I") (by decide +kernel)
  refine lv_lload_n hx hb dX0_digestTasks_0 rfl (lv_at hl 1 rfl) ?_
  refine lv_lstore_n (lv' := [(3, .long d), (0, .ref (ad 101)), (1, .long d)]) hx hb dX0_digestTasks_1 rfl hl (by decide) rfl (fun ls hl => ?_)
  refine lv_iconst (v := 0) hx hb dX0_digestTasks_2 (by decide) ?_
  refine lv_istore (lv' := [(5, .int 0), (3, .long d), (0, .ref (ad 101)), (1, .long d)]) hx hb dX0_digestTasks_3 hl (by decide) rfl (fun ls hl => ?_)
  refine W_meas (I := fun (n : Nat) (H : Heap) (locs : List Loc) (ls : Array Slot) => ∃ (j : Nat) (e : Int64), ((n + j = T) ∧ (m_dgT τ n j e = m_dgT τ T 0 d)) ∧ va_P D vwCl (wB cA ad τ ++ rest) H ∧ va_D A (wB cA ad τ ++ rest) ∧ va_S A s.heap H locs ∧ lv_has ls 7 [(0, .ref (ad 101)), (1, .long d), (3, .long e), (5, .int (nI j))]) T ⟨0, d, ⟨by omega, rfl⟩, hP, hD, hS, lv_sub hl [2, 3, 1, 0] rfl⟩ ?_
  clear hP hD hS hl
  intro n ih H locs ls hI
  obtain ⟨j, e, ⟨hn, hf⟩, hP, hD, hS, hl⟩ := hI
  refine lv_iload hx hb dX0_digestTasks_5 (lv_at hl 3 rfl) ?_
  refine lv_aload_n hx hb dX0_digestTasks_7 rfl (lv_at hl 0 rfl) ?_
  refine va_get (D := D) (C := RX0) (T := TX0) (N := 2) (ci := 0) (v := .ref (ad 0)) hx hb hts nX0 hown hK hP 101 w_an rfl 1 (by decide) k15 (fun _ h9 => h9) rfl dX0_digestTasks_8 ?_
  refine va_get (D := D) (C := RX6) (T := TX6) (N := 12) (ci := 6) (v := .int (τ 0 1)) hx hb hts nX6 hown hK hP 0 w_st rfl 1 (by decide) k161 (fun _ h9 => h9) rfl dX0_digestTasks_11 ?_
  refine lv_icmp_ge (tgt := 86) hx hb dX0_digestTasks_14 (by decide) (fun c_14_1 => ?_) (fun c_14_1 => ?_)
  -- 14 jumps
  · skip
    obtain rfl : n = 0 := by rw [hT] at c_14_1; have := (nI_leI (by omega) (by omega)).mp c_14_1; omega
    refine lv_lload_n hx hb dX0_digestTasks_86 rfl (lv_at hl 2 rfl) ?_
    exact x_lret hx hb hr hlocks hK () hP hD hS dX0_digestTasks_87 hf
  -- 14 goes on
  · skip
    have hj : j < T := Nat.not_le.mp (fun q => c_14_1 (by rw [hT]; exact (nI_leI (by omega) (by omega)).mpr q))
    obtain ⟨n, rfl⟩ : ∃ k, n = k + 1 := ⟨n - 1, by omega⟩
    refine lv_iconst (v := 0) hx hb dX0_digestTasks_17 (by decide) ?_
    refine lv_istore (lv' := [(6, .int 0), (0, .ref (ad 101)), (1, .long d), (3, .long e), (5, .int (nI j))]) hx hb dX0_digestTasks_18 hl (by decide) rfl (fun ls hl => ?_)
    refine W_meas (I := fun (n1 : Nat) (H : Heap) (locs : List Loc) (ls : Array Slot) => ∃ (w1 : Nat) (e1 : Int64), ((n1 + w1 = 9) ∧ (m_dg (m_fT τ j) n1 w1 e1 = m_dg (m_fT τ j) 9 0 e)) ∧ va_P D vwCl (wB cA ad τ ++ rest) H ∧ va_D A (wB cA ad τ ++ rest) ∧ va_S A s.heap H locs ∧ lv_has ls 7 [(0, .ref (ad 101)), (1, .long d), (5, .int (nI j)), (3, .long e1), (6, .int (nI w1))]) 9 ⟨0, e, ⟨by omega, rfl⟩, hP, hD, hS, lv_sub hl [1, 2, 4, 3, 0] rfl⟩ ?_
    clear hP hD hS hl
    intro n1 ih1 H locs ls hI
    obtain ⟨w1, e1, ⟨hn1, hg1⟩, hP, hD, hS, hl⟩ := hI
    refine lv_iload hx hb dX0_digestTasks_20 (lv_at hl 4 rfl) ?_
    refine lv_bipush (v := 8) hx hb dX0_digestTasks_22 (by decide) ?_
    refine lv_icmp_gt (tgt := 49) hx hb dX0_digestTasks_24 (by decide) (fun c_24_2 => ?_) (fun c_24_2 => ?_)
    -- 24 jumps
    · skip
      obtain rfl : n1 = 0 := by have := (nI_ltI (a := 8) (by decide) (by omega)).mp c_24_2; omega
      have h1 : e1 = m_dg (m_fT τ j) 9 0 e := hg1
      refine lv_iconst (v := 0) hx hb dX0_digestTasks_49 (by decide) ?_
      refine lv_istore (lv' := [(6, .int 0), (0, .ref (ad 101)), (1, .long d), (5, .int (nI j)), (3, .long e1)]) hx hb dX0_digestTasks_50 hl (by decide) rfl (fun ls hl => ?_)
      refine W_meas (I := fun (n2 : Nat) (H : Heap) (locs : List Loc) (ls : Array Slot) => ∃ (w2 : Nat) (e2 : Int64), ((n2 + w2 = 4) ∧ (m_dg (m_fL τ j) n2 w2 e2 = m_dg (m_fL τ j) 4 0 e1)) ∧ va_P D vwCl (wB cA ad τ ++ rest) H ∧ va_D A (wB cA ad τ ++ rest) ∧ va_S A s.heap H locs ∧ lv_has ls 7 [(0, .ref (ad 101)), (1, .long d), (5, .int (nI j)), (3, .long e2), (6, .int (nI w2))]) 4 ⟨0, e1, ⟨by omega, rfl⟩, hP, hD, hS, lv_sub hl [1, 2, 3, 4, 0] rfl⟩ ?_
      clear hP hD hS hl
      intro n2 ih2 H locs ls hI
      obtain ⟨w2, e2, ⟨hn2, hg2⟩, hP, hD, hS, hl⟩ := hI
      refine lv_iload hx hb dX0_digestTasks_52 (lv_at hl 4 rfl) ?_
      refine lv_iconst (v := 4) hx hb dX0_digestTasks_54 (by decide) ?_
      refine lv_icmp_ge (tgt := 80) hx hb dX0_digestTasks_55 (by decide) (fun c_55_3 => ?_) (fun c_55_3 => ?_)
      -- 55 jumps
      · skip
        obtain rfl : n2 = 0 := by have := (nI_leI (a := 4) (by decide) (by omega)).mp c_55_3; omega
        have h2 : e2 = m_dg (m_fL τ j) 4 0 e1 := hg2
        refine lv_iinc (v := (nI (j + 1))) (lv' := [(5, .int (nI (j + 1))), (0, .ref (ad 101)), (1, .long d), (3, .long e2), (6, .int (nI w2))]) hx hb dX0_digestTasks_80 hl (k := 2) rfl (show nI j + 1 = nI (j + 1) from nI_1 j) (by decide) rfl (fun ls hl => ?_)
        refine lv_goto (tgt := 5) hx hb dX0_digestTasks_83 (by decide) ?_
        exact ih n (Nat.lt_succ_self n) H locs ls ⟨(j + 1), e2, ⟨by omega, by rw [← hf, m_dgT_s, ← h1, ← h2]⟩, hP, hD, hS, lv_sub hl [1, 2, 3, 0] rfl⟩
      -- 55 goes on
      · skip
        obtain ⟨n2, rfl⟩ : ∃ k, n2 = k + 1 := ⟨n2 - 1, by have : ¬ 4 ≤ w2 := (fun q => c_55_3 ((nI_leI (a := 4) (by decide) (by omega)).mpr q)); omega⟩
        refine lv_lload_n hx hb dX0_digestTasks_58 rfl (lv_at hl 3 rfl) ?_
        refine lv_ldc2 (v := 31) hx hb hown (hts (.constantLong RX0 196 (31)) (by decide +kernel)) dX0_digestTasks_59 ?_
        refine lv_lmul hx hb dX0_digestTasks_62 ?_
        refine lv_aload_n hx hb dX0_digestTasks_63 rfl (lv_at hl 0 rfl) ?_
        refine lv_iload hx hb dX0_digestTasks_64 (lv_at hl 2 rfl) ?_
        refine lv_iload hx hb dX0_digestTasks_66 (lv_at hl 4 rfl) ?_
        refine x_Vi (As := [.int (nI j), .int (nI w2)]) (rest0 := [.long (e2 * 31)]) ⟨hx, hb, hml, hown, hts⟩ (c_X0_aboutLocal l D cA ad tr rest H.size τ (nI j) (nI w2)) (cwV 2 hts gX0_digestTasks_X0_aboutLocal rfl rfl rfl (by decide +kernel) ⟨Nat.le_of_ble_eq_true rfl, Nat.le_of_ble_eq_true rfl⟩) hK hP hD hS hA 101 w_an rfl hl.1 rfl rfl (Nat.le_of_ble_eq_true rfl) ⟨Nat.zero_le _, Nat.zero_le _⟩ dX0_digestTasks_68 (fun r4 _ H locs hw hP hD hS => ?_)
        have er4 := hw
        refine lv_i2l (v := r4.toInt64) hx hb dX0_digestTasks_71 rfl ?_
        refine lv_ladd hx hb dX0_digestTasks_72 ?_
        refine lv_topl (fun d5 ed5 => ?_)
        refine lv_lstore_n (lv' := [(3, .long d5), (0, .ref (ad 101)), (1, .long d), (5, .int (nI j)), (6, .int (nI w2))]) hx hb dX0_digestTasks_73 rfl hl (by decide) rfl (fun ls hl => ?_)
        refine lv_iinc (v := (nI (w2 + 1))) (lv' := [(6, .int (nI (w2 + 1))), (3, .long d5), (0, .ref (ad 101)), (1, .long d), (5, .int (nI j))]) hx hb dX0_digestTasks_74 hl (k := 4) rfl (show nI w2 + 1 = nI (w2 + 1) from nI_1 w2) (by decide) rfl (fun ls hl => ?_)
        refine lv_goto (tgt := 52) hx hb dX0_digestTasks_77 (by decide) ?_
        exact ih2 n2 (Nat.lt_succ_self n2) H locs ls ⟨(w2 + 1), d5, ⟨by omega, by rw [← hg2]; subst ed5 er4; simp [m_dg, m_fT, m_fL, m_fS]⟩, hP, hD, hS, lv_sub hl [2, 3, 4, 1, 0] rfl⟩
    -- 24 goes on
    · skip
      obtain ⟨n1, rfl⟩ : ∃ k, n1 = k + 1 := ⟨n1 - 1, by have : ¬ 8 < w1 := (fun q => c_24_2 ((nI_ltI (a := 8) (by decide) (by omega)).mpr q)); omega⟩
      refine lv_lload_n hx hb dX0_digestTasks_27 rfl (lv_at hl 3 rfl) ?_
      refine lv_ldc2 (v := 31) hx hb hown (hts (.constantLong RX0 196 (31)) (by decide +kernel)) dX0_digestTasks_28 ?_
      refine lv_lmul hx hb dX0_digestTasks_31 ?_
      refine lv_aload_n hx hb dX0_digestTasks_32 rfl (lv_at hl 0 rfl) ?_
      refine lv_iload hx hb dX0_digestTasks_33 (lv_at hl 2 rfl) ?_
      refine lv_iload hx hb dX0_digestTasks_35 (lv_at hl 4 rfl) ?_
      refine x_Vi (As := [.int (nI j), .int (nI w1)]) (rest0 := [.long (e1 * 31)]) ⟨hx, hb, hml, hown, hts⟩ (c_X0_aboutTask l D cA ad tr rest H.size τ (nI j) (nI w1)) (cwV 2 hts gX0_digestTasks_X0_aboutTask rfl rfl rfl (by decide +kernel) ⟨Nat.le_of_ble_eq_true rfl, Nat.le_of_ble_eq_true rfl⟩) hK hP hD hS hA 101 w_an rfl hl.1 rfl rfl (Nat.le_of_ble_eq_true rfl) ⟨Nat.zero_le _, Nat.zero_le _⟩ dX0_digestTasks_37 (fun r6 _ H locs hw hP hD hS => ?_)
      have er6 := hw
      refine lv_i2l (v := r6.toInt64) hx hb dX0_digestTasks_40 rfl ?_
      refine lv_ladd hx hb dX0_digestTasks_41 ?_
      refine lv_topl (fun d7 ed7 => ?_)
      refine lv_lstore_n (lv' := [(3, .long d7), (0, .ref (ad 101)), (1, .long d), (5, .int (nI j)), (6, .int (nI w1))]) hx hb dX0_digestTasks_42 rfl hl (by decide) rfl (fun ls hl => ?_)
      refine lv_iinc (v := (nI (w1 + 1))) (lv' := [(6, .int (nI (w1 + 1))), (3, .long d7), (0, .ref (ad 101)), (1, .long d), (5, .int (nI j))]) hx hb dX0_digestTasks_43 hl (k := 4) rfl (show nI w1 + 1 = nI (w1 + 1) from nI_1 w1) (by decide) rfl (fun ls hl => ?_)
      refine lv_goto (tgt := 20) hx hb dX0_digestTasks_46 (by decide) ?_
      exact ih1 n1 (Nat.lt_succ_self n1) H locs ls ⟨(w1 + 1), d7, ⟨by omega, by rw [← hg1]; subst ed7 er6; simp [m_dg, m_fT, m_fL, m_fS]⟩, hP, hD, hS, lv_sub hl [2, 3, 4, 1, 0] rfl⟩

set_option maxHeartbeats 4000000 in
set_option maxRecDepth 100000 in
theorem c_X0_digestScopes (l : Launch) (D : va_G) (cA : Nat → ClassId) (ad : Nat → Nat) (tr : List (ClassId × FieldType)) (rest : va_W) (sz : Nat) (τ : Sg)  (T : Nat) (hT : τ 0 3 = nI T) (hT2 : T < 1000) (d : Int64) : Met l yX0_digestScopes wsX0_digestScopes ({ frames := 2, cells := 0, slots := 0, locals := 52 }) (va_Pc [.ref (ad 101), .long d] (inW D (tyB cA ++ tr) (wB cA ad τ ++ rest) sz)) (va_Ql (fun (r : Int64) (_ : Unit) => r = m_dgS τ T 0 d) (fun _ : Unit => outW D (tyB cA ++ tr) (va_A (wB cA ad τ ++ rest) sz) (wB cA ad τ ++ rest)) (va_A (wB cA ad τ ++ rest) sz)) 0 0 (va_A (wB cA ad τ ++ rest) sz) := by
  refine Met.ofW (cc := cX0_digestScopes) (maxL := 7) (ret := (some .long)) (by decide) rfl ?_
  intro p e s m args below meth c s₁ B hml hv
  obtain ⟨rfl, hsz, hP, hK, hD0⟩ := hv
  have hx := B.exec
  have hb := B.bytes
  have hr := B.returns
  have hts := atoms_spec (ws := wsX0_digestScopes) B.pre
  have hown : s.vm.findClass RX0 = some m.cls := findClass_of_methodNamed B.named
  have hlocks := B.notSynchronized
  subst hsz
  have hD := hD0.self (sz := s.heap.size)
  clear hD0
  generalize hAe : va_A (wB cA ad τ ++ rest) s.heap.size = A at hD ⊢
  have hA : ∀ q : Nat, s.heap.size ≤ q → A q := fun q h => by rw [← hAe]; exact Or.inr h
  clear hAe
  have hS : va_S A s.heap s.heap [] := va_S.rf
  have hP : va_P D vwCl (wB cA ad τ ++ rest) s.heap := hP
  have hl := lv_entry ([.ref (ad 101), .long d]) (n := 7) (Nat.le_of_ble_eq_true rfl)
  rw [lg_entry_eq]
  generalize (lg_sl ([.ref (ad 101), .long d]) ++ List.replicate (7 - (lg_sl ([.ref (ad 101), .long d])).length) Slot.unset).toArray = ls at hl ⊢
  have hl : lv_has ls 7 [(0, .ref (ad 101)), (1, .long d)] := hl
  have nX0 : ∀ w ∈ u_ws RX0 TX0 2, w ∈ wsX0_digestScopes := by decide +kernel
  have nX6 : ∀ w ∈ u_ws RX6 TX6 12, w ∈ wsX0_digestScopes := by decide +kernel
  have k15 := hts (.fieldLink RX0 15 "ScopeRow$Answers" "state" "LScopeRow$State;") (by decide +kernel)
  have k167 := hts (.fieldLink RX0 167 "ScopeRow$State" "scopeCount" "I") (by decide +kernel)
  refine lv_lload_n hx hb dX0_digestScopes_0 rfl (lv_at hl 1 rfl) ?_
  refine lv_lstore_n (lv' := [(3, .long d), (0, .ref (ad 101)), (1, .long d)]) hx hb dX0_digestScopes_1 rfl hl (by decide) rfl (fun ls hl => ?_)
  refine lv_iconst (v := 0) hx hb dX0_digestScopes_2 (by decide) ?_
  refine lv_istore (lv' := [(5, .int 0), (3, .long d), (0, .ref (ad 101)), (1, .long d)]) hx hb dX0_digestScopes_3 hl (by decide) rfl (fun ls hl => ?_)
  refine W_meas (I := fun (n : Nat) (H : Heap) (locs : List Loc) (ls : Array Slot) => ∃ (j : Nat) (e : Int64), ((n + j = T) ∧ (m_dgS τ n j e = m_dgS τ T 0 d)) ∧ va_P D vwCl (wB cA ad τ ++ rest) H ∧ va_D A (wB cA ad τ ++ rest) ∧ va_S A s.heap H locs ∧ lv_has ls 7 [(0, .ref (ad 101)), (1, .long d), (3, .long e), (5, .int (nI j))]) T ⟨0, d, ⟨by omega, rfl⟩, hP, hD, hS, lv_sub hl [2, 3, 1, 0] rfl⟩ ?_
  clear hP hD hS hl
  intro n ih H locs ls hI
  obtain ⟨j, e, ⟨hn, hf⟩, hP, hD, hS, hl⟩ := hI
  refine lv_iload hx hb dX0_digestScopes_5 (lv_at hl 3 rfl) ?_
  refine lv_aload_n hx hb dX0_digestScopes_7 rfl (lv_at hl 0 rfl) ?_
  refine va_get (D := D) (C := RX0) (T := TX0) (N := 2) (ci := 0) (v := .ref (ad 0)) hx hb hts nX0 hown hK hP 101 w_an rfl 1 (by decide) k15 (fun _ h9 => h9) rfl dX0_digestScopes_8 ?_
  refine va_get (D := D) (C := RX6) (T := TX6) (N := 12) (ci := 6) (v := .int (τ 0 3)) hx hb hts nX6 hown hK hP 0 w_st rfl 3 (by decide) k167 (fun _ h9 => h9) rfl dX0_digestScopes_11 ?_
  refine lv_icmp_ge (tgt := 69) hx hb dX0_digestScopes_14 (by decide) (fun c_14_1 => ?_) (fun c_14_1 => ?_)
  -- 14 jumps
  · skip
    obtain rfl : n = 0 := by rw [hT] at c_14_1; have := (nI_leI (by omega) (by omega)).mp c_14_1; omega
    refine lv_lload_n hx hb dX0_digestScopes_69 rfl (lv_at hl 2 rfl) ?_
    exact x_lret hx hb hr hlocks hK () hP hD hS dX0_digestScopes_70 hf
  -- 14 goes on
  · skip
    have hj : j < T := Nat.not_le.mp (fun q => c_14_1 (by rw [hT]; exact (nI_leI (by omega) (by omega)).mpr q))
    obtain ⟨n, rfl⟩ : ∃ k, n = k + 1 := ⟨n - 1, by omega⟩
    refine lv_iconst (v := 0) hx hb dX0_digestScopes_17 (by decide) ?_
    refine lv_istore (lv' := [(6, .int 0), (0, .ref (ad 101)), (1, .long d), (3, .long e), (5, .int (nI j))]) hx hb dX0_digestScopes_18 hl (by decide) rfl (fun ls hl => ?_)
    refine W_meas (I := fun (n1 : Nat) (H : Heap) (locs : List Loc) (ls : Array Slot) => ∃ (w1 : Nat) (e1 : Int64), ((n1 + w1 = 9) ∧ (m_dg (m_fS τ j) n1 w1 e1 = m_dg (m_fS τ j) 9 0 e)) ∧ va_P D vwCl (wB cA ad τ ++ rest) H ∧ va_D A (wB cA ad τ ++ rest) ∧ va_S A s.heap H locs ∧ lv_has ls 7 [(0, .ref (ad 101)), (1, .long d), (5, .int (nI j)), (3, .long e1), (6, .int (nI w1))]) 9 ⟨0, e, ⟨by omega, rfl⟩, hP, hD, hS, lv_sub hl [1, 2, 4, 3, 0] rfl⟩ ?_
    clear hP hD hS hl
    intro n1 ih1 H locs ls hI
    obtain ⟨w1, e1, ⟨hn1, hg1⟩, hP, hD, hS, hl⟩ := hI
    refine lv_iload hx hb dX0_digestScopes_20 (lv_at hl 4 rfl) ?_
    refine lv_bipush (v := 8) hx hb dX0_digestScopes_22 (by decide) ?_
    refine lv_icmp_gt (tgt := 49) hx hb dX0_digestScopes_24 (by decide) (fun c_24_2 => ?_) (fun c_24_2 => ?_)
    -- 24 jumps
    · skip
      obtain rfl : n1 = 0 := by have := (nI_ltI (a := 8) (by decide) (by omega)).mp c_24_2; omega
      have h1 : e1 = m_dg (m_fS τ j) 9 0 e := hg1
      refine lv_lload_n hx hb dX0_digestScopes_49 rfl (lv_at hl 3 rfl) ?_
      refine lv_ldc2 (v := 31) hx hb hown (hts (.constantLong RX0 196 (31)) (by decide +kernel)) dX0_digestScopes_50 ?_
      refine lv_lmul hx hb dX0_digestScopes_53 ?_
      refine lv_aload_n hx hb dX0_digestScopes_54 rfl (lv_at hl 0 rfl) ?_
      refine lv_iload hx hb dX0_digestScopes_55 (lv_at hl 2 rfl) ?_
      refine x_Vi (As := [.int (nI j)]) (rest0 := [.long (e1 * 31)]) ⟨hx, hb, hml, hown, hts⟩ (c_X0_countNewlyHit l D cA ad tr rest H.size τ (nI j)) (cwV 1 hts gX0_digestScopes_X0_countNewlyHit rfl rfl rfl (by decide +kernel) ⟨Nat.le_of_ble_eq_true rfl, Nat.le_of_ble_eq_true rfl⟩) hK hP hD hS hA 101 w_an rfl hl.1 rfl rfl (Nat.le_of_ble_eq_true rfl) ⟨Nat.zero_le _, Nat.zero_le _⟩ dX0_digestScopes_57 (fun r3 _ H locs hw hP hD hS => ?_)
      have er3 := hw
      refine lv_i2l (v := r3.toInt64) hx hb dX0_digestScopes_60 rfl ?_
      refine lv_ladd hx hb dX0_digestScopes_61 ?_
      refine lv_topl (fun d4 ed4 => ?_)
      refine lv_lstore_n (lv' := [(3, .long d4), (0, .ref (ad 101)), (1, .long d), (5, .int (nI j)), (6, .int (nI w1))]) hx hb dX0_digestScopes_62 rfl hl (by decide) rfl (fun ls hl => ?_)
      refine lv_iinc (v := (nI (j + 1))) (lv' := [(5, .int (nI (j + 1))), (3, .long d4), (0, .ref (ad 101)), (1, .long d), (6, .int (nI w1))]) hx hb dX0_digestScopes_63 hl (k := 3) rfl (show nI j + 1 = nI (j + 1) from nI_1 j) (by decide) rfl (fun ls hl => ?_)
      refine lv_goto (tgt := 5) hx hb dX0_digestScopes_66 (by decide) ?_
      exact ih n (Nat.lt_succ_self n) H locs ls ⟨(j + 1), d4, ⟨by omega, by rw [← hf, m_dgS_s, ← h1]; subst ed4 er3; rfl⟩, hP, hD, hS, lv_sub hl [2, 3, 1, 0] rfl⟩
    -- 24 goes on
    · skip
      obtain ⟨n1, rfl⟩ : ∃ k, n1 = k + 1 := ⟨n1 - 1, by have : ¬ 8 < w1 := (fun q => c_24_2 ((nI_ltI (a := 8) (by decide) (by omega)).mpr q)); omega⟩
      refine lv_lload_n hx hb dX0_digestScopes_27 rfl (lv_at hl 3 rfl) ?_
      refine lv_ldc2 (v := 31) hx hb hown (hts (.constantLong RX0 196 (31)) (by decide +kernel)) dX0_digestScopes_28 ?_
      refine lv_lmul hx hb dX0_digestScopes_31 ?_
      refine lv_aload_n hx hb dX0_digestScopes_32 rfl (lv_at hl 0 rfl) ?_
      refine lv_iload hx hb dX0_digestScopes_33 (lv_at hl 2 rfl) ?_
      refine lv_iload hx hb dX0_digestScopes_35 (lv_at hl 4 rfl) ?_
      refine x_Vi (As := [.int (nI j), .int (nI w1)]) (rest0 := [.long (e1 * 31)]) ⟨hx, hb, hml, hown, hts⟩ (c_X0_aboutScope l D cA ad tr rest H.size τ (nI j) (nI w1)) (cwV 2 hts gX0_digestScopes_X0_aboutScope rfl rfl rfl (by decide +kernel) ⟨Nat.le_of_ble_eq_true rfl, Nat.le_of_ble_eq_true rfl⟩) hK hP hD hS hA 101 w_an rfl hl.1 rfl rfl (Nat.le_of_ble_eq_true rfl) ⟨Nat.zero_le _, Nat.zero_le _⟩ dX0_digestScopes_37 (fun r5 _ H locs hw hP hD hS => ?_)
      have er5 := hw
      refine lv_i2l (v := r5.toInt64) hx hb dX0_digestScopes_40 rfl ?_
      refine lv_ladd hx hb dX0_digestScopes_41 ?_
      refine lv_topl (fun d6 ed6 => ?_)
      refine lv_lstore_n (lv' := [(3, .long d6), (0, .ref (ad 101)), (1, .long d), (5, .int (nI j)), (6, .int (nI w1))]) hx hb dX0_digestScopes_42 rfl hl (by decide) rfl (fun ls hl => ?_)
      refine lv_iinc (v := (nI (w1 + 1))) (lv' := [(6, .int (nI (w1 + 1))), (3, .long d6), (0, .ref (ad 101)), (1, .long d), (5, .int (nI j))]) hx hb dX0_digestScopes_43 hl (k := 4) rfl (show nI w1 + 1 = nI (w1 + 1) from nI_1 w1) (by decide) rfl (fun ls hl => ?_)
      refine lv_goto (tgt := 20) hx hb dX0_digestScopes_46 (by decide) ?_
      exact ih1 n1 (Nat.lt_succ_self n1) H locs ls ⟨(w1 + 1), d6, ⟨by omega, by rw [← hg1]; subst ed6 er5; simp [m_dg, m_fT, m_fL, m_fS]⟩, hP, hD, hS, lv_sub hl [2, 3, 4, 1, 0] rfl⟩

set_option maxHeartbeats 4000000 in
set_option maxRecDepth 100000 in
theorem c_X0_digestLocksAndChannels (l : Launch) (D : va_G) (cA : Nat → ClassId) (ad : Nat → Nat) (tr : List (ClassId × FieldType)) (rest : va_W) (sz : Nat) (τ : Sg)  (d : Int64) : Met l yX0_digestLocksAndChannels wsX0_digestLocksAndChannels ({ frames := 4, cells := 0, slots := 0, locals := 95 }) (va_Pc [.ref (ad 101), .long d] (inW D (tyB cA ++ tr) (wB cA ad τ ++ rest) sz)) (va_Ql (fun (r : Int64) (_ : Unit) => r = m_dgLC τ d) (fun _ : Unit => outW D (tyB cA ++ tr) (va_A (wB cA ad τ ++ rest) sz) (wB cA ad τ ++ rest)) (va_A (wB cA ad τ ++ rest) sz)) 0 0 (va_A (wB cA ad τ ++ rest) sz) := by
  refine Met.ofW (cc := cX0_digestLocksAndChannels) (maxL := 7) (ret := (some .long)) (by decide) rfl ?_
  intro p e s m args below meth c s₁ B hml hv
  obtain ⟨rfl, hsz, hP, hK, hD0⟩ := hv
  have hx := B.exec
  have hb := B.bytes
  have hr := B.returns
  have hts := atoms_spec (ws := wsX0_digestLocksAndChannels) B.pre
  have hown : s.vm.findClass RX0 = some m.cls := findClass_of_methodNamed B.named
  have hlocks := B.notSynchronized
  subst hsz
  have hD := hD0.self (sz := s.heap.size)
  clear hD0
  generalize hAe : va_A (wB cA ad τ ++ rest) s.heap.size = A at hD ⊢
  have hA : ∀ q : Nat, s.heap.size ≤ q → A q := fun q h => by rw [← hAe]; exact Or.inr h
  clear hAe
  have hS : va_S A s.heap s.heap [] := va_S.rf
  have hP : va_P D vwCl (wB cA ad τ ++ rest) s.heap := hP
  have hl := lv_entry ([.ref (ad 101), .long d]) (n := 7) (Nat.le_of_ble_eq_true rfl)
  rw [lg_entry_eq]
  generalize (lg_sl ([.ref (ad 101), .long d]) ++ List.replicate (7 - (lg_sl ([.ref (ad 101), .long d])).length) Slot.unset).toArray = ls at hl ⊢
  have hl : lv_has ls 7 [(0, .ref (ad 101)), (1, .long d)] := hl
  refine lv_lload_n hx hb dX0_digestLocksAndChannels_0 rfl (lv_at hl 1 rfl) ?_
  refine lv_lstore_n (lv' := [(3, .long d), (0, .ref (ad 101)), (1, .long d)]) hx hb dX0_digestLocksAndChannels_1 rfl hl (by decide) rfl (fun ls hl => ?_)
  refine lv_iconst (v := 0) hx hb dX0_digestLocksAndChannels_2 (by decide) ?_
  refine lv_istore (lv' := [(5, .int 0), (3, .long d), (0, .ref (ad 101)), (1, .long d)]) hx hb dX0_digestLocksAndChannels_3 hl (by decide) rfl (fun ls hl => ?_)
  refine lv_iload hx hb dX0_digestLocksAndChannels_5 (lv_at hl 0 rfl) ?_
  refine lv_iconst (v := 2) hx hb dX0_digestLocksAndChannels_7 (by decide) ?_
  refine lv_icmp_ge (tgt := 48) hx hb dX0_digestLocksAndChannels_8 (by decide) (fun c_8_1 => ?_) (fun c_8_1 => ?_)
  -- 8 jumps
  · exact absurd c_8_1 (by decide)
  -- 8 goes on
  · skip
    refine lv_iconst (v := 0) hx hb dX0_digestLocksAndChannels_11 (by decide) ?_
    refine lv_istore (lv' := [(6, .int 0), (5, .int 0), (3, .long d), (0, .ref (ad 101)), (1, .long d)]) hx hb dX0_digestLocksAndChannels_12 hl (by decide) rfl (fun ls hl => ?_)
    refine lv_iload hx hb dX0_digestLocksAndChannels_14 (lv_at hl 0 rfl) ?_
    refine lv_iconst (v := 3) hx hb dX0_digestLocksAndChannels_16 (by decide) ?_
    refine lv_icmp_gt (tgt := 42) hx hb dX0_digestLocksAndChannels_17 (by decide) (fun c_17_2 => ?_) (fun c_17_2 => ?_)
    -- 17 jumps
    · exact absurd c_17_2 (by decide)
    -- 17 goes on
    · skip
      refine lv_lload_n hx hb dX0_digestLocksAndChannels_20 rfl (lv_at hl 2 rfl) ?_
      refine lv_ldc2 (v := 31) hx hb hown (hts (.constantLong RX0 196 (31)) (by decide +kernel)) dX0_digestLocksAndChannels_21 ?_
      refine lv_lmul hx hb dX0_digestLocksAndChannels_24 ?_
      refine lv_aload_n hx hb dX0_digestLocksAndChannels_25 rfl (lv_at hl 3 rfl) ?_
      refine lv_iload hx hb dX0_digestLocksAndChannels_26 (lv_at hl 1 rfl) ?_
      refine lv_iload hx hb dX0_digestLocksAndChannels_28 (lv_at hl 0 rfl) ?_
      refine x_Vi (As := [.int 0, .int 0]) (rest0 := [.long (d * 31)]) ⟨hx, hb, hml, hown, hts⟩ (c_X0_aboutLock l D cA ad tr rest s.heap.size τ 0 0) (cwV 2 hts gX0_digestLocksAndChannels_X0_aboutLock rfl rfl rfl (by decide +kernel) ⟨Nat.le_of_ble_eq_true rfl, Nat.le_of_ble_eq_true rfl⟩) hK hP hD hS hA 101 w_an rfl hl.1 rfl rfl (Nat.le_of_ble_eq_true rfl) ⟨Nat.zero_le _, Nat.zero_le _⟩ dX0_digestLocksAndChannels_30 (fun r3 _ H locs hw hP hD hS => ?_)
      have er3 := hw
      refine lv_i2l (v := r3.toInt64) hx hb dX0_digestLocksAndChannels_33 rfl ?_
      refine lv_ladd hx hb dX0_digestLocksAndChannels_34 ?_
      refine lv_topl (fun d4 ed4 => ?_)
      refine lv_lstore_n (lv' := [(3, .long d4), (6, .int 0), (5, .int 0), (0, .ref (ad 101)), (1, .long d)]) hx hb dX0_digestLocksAndChannels_35 rfl hl (by decide) rfl (fun ls hl => ?_)
      refine lv_iinc (v := 1) (lv' := [(6, .int 1), (3, .long d4), (5, .int 0), (0, .ref (ad 101)), (1, .long d)]) hx hb dX0_digestLocksAndChannels_36 hl (k := 1) rfl (by decide) (by decide) rfl (fun ls hl => ?_)
      refine lv_goto (tgt := 14) hx hb dX0_digestLocksAndChannels_39 (by decide) ?_
      refine lv_iload hx hb dX0_digestLocksAndChannels_14 (lv_at hl 0 rfl) ?_
      refine lv_iconst (v := 3) hx hb dX0_digestLocksAndChannels_16 (by decide) ?_
      refine lv_icmp_gt (tgt := 42) hx hb dX0_digestLocksAndChannels_17 (by decide) (fun c_17_5 => ?_) (fun c_17_5 => ?_)
      -- 17 jumps
      · exact absurd c_17_5 (by decide)
      -- 17 goes on
      · skip
        refine lv_lload_n hx hb dX0_digestLocksAndChannels_20 rfl (lv_at hl 1 rfl) ?_
        refine lv_ldc2 (v := 31) hx hb hown (hts (.constantLong RX0 196 (31)) (by decide +kernel)) dX0_digestLocksAndChannels_21 ?_
        refine lv_lmul hx hb dX0_digestLocksAndChannels_24 ?_
        refine lv_aload_n hx hb dX0_digestLocksAndChannels_25 rfl (lv_at hl 3 rfl) ?_
        refine lv_iload hx hb dX0_digestLocksAndChannels_26 (lv_at hl 2 rfl) ?_
        refine lv_iload hx hb dX0_digestLocksAndChannels_28 (lv_at hl 0 rfl) ?_
        refine x_Vi (As := [.int 0, .int 1]) (rest0 := [.long (d4 * 31)]) ⟨hx, hb, hml, hown, hts⟩ (c_X0_aboutLock l D cA ad tr rest H.size τ 0 1) (cwV 2 hts gX0_digestLocksAndChannels_X0_aboutLock rfl rfl rfl (by decide +kernel) ⟨Nat.le_of_ble_eq_true rfl, Nat.le_of_ble_eq_true rfl⟩) hK hP hD hS hA 101 w_an rfl hl.1 rfl rfl (Nat.le_of_ble_eq_true rfl) ⟨Nat.zero_le _, Nat.zero_le _⟩ dX0_digestLocksAndChannels_30 (fun r6 _ H locs hw hP hD hS => ?_)
        have er6 := hw
        refine lv_i2l (v := r6.toInt64) hx hb dX0_digestLocksAndChannels_33 rfl ?_
        refine lv_ladd hx hb dX0_digestLocksAndChannels_34 ?_
        refine lv_topl (fun d7 ed7 => ?_)
        refine lv_lstore_n (lv' := [(3, .long d7), (6, .int 1), (5, .int 0), (0, .ref (ad 101)), (1, .long d)]) hx hb dX0_digestLocksAndChannels_35 rfl hl (by decide) rfl (fun ls hl => ?_)
        refine lv_iinc (v := 2) (lv' := [(6, .int 2), (3, .long d7), (5, .int 0), (0, .ref (ad 101)), (1, .long d)]) hx hb dX0_digestLocksAndChannels_36 hl (k := 1) rfl (by decide) (by decide) rfl (fun ls hl => ?_)
        refine lv_goto (tgt := 14) hx hb dX0_digestLocksAndChannels_39 (by decide) ?_
        refine lv_iload hx hb dX0_digestLocksAndChannels_14 (lv_at hl 0 rfl) ?_
        refine lv_iconst (v := 3) hx hb dX0_digestLocksAndChannels_16 (by decide) ?_
        refine lv_icmp_gt (tgt := 42) hx hb dX0_digestLocksAndChannels_17 (by decide) (fun c_17_8 => ?_) (fun c_17_8 => ?_)
        -- 17 jumps
        · exact absurd c_17_8 (by decide)
        -- 17 goes on
        · skip
          refine lv_lload_n hx hb dX0_digestLocksAndChannels_20 rfl (lv_at hl 1 rfl) ?_
          refine lv_ldc2 (v := 31) hx hb hown (hts (.constantLong RX0 196 (31)) (by decide +kernel)) dX0_digestLocksAndChannels_21 ?_
          refine lv_lmul hx hb dX0_digestLocksAndChannels_24 ?_
          refine lv_aload_n hx hb dX0_digestLocksAndChannels_25 rfl (lv_at hl 3 rfl) ?_
          refine lv_iload hx hb dX0_digestLocksAndChannels_26 (lv_at hl 2 rfl) ?_
          refine lv_iload hx hb dX0_digestLocksAndChannels_28 (lv_at hl 0 rfl) ?_
          refine x_Vi (As := [.int 0, .int 2]) (rest0 := [.long (d7 * 31)]) ⟨hx, hb, hml, hown, hts⟩ (c_X0_aboutLock l D cA ad tr rest H.size τ 0 2) (cwV 2 hts gX0_digestLocksAndChannels_X0_aboutLock rfl rfl rfl (by decide +kernel) ⟨Nat.le_of_ble_eq_true rfl, Nat.le_of_ble_eq_true rfl⟩) hK hP hD hS hA 101 w_an rfl hl.1 rfl rfl (Nat.le_of_ble_eq_true rfl) ⟨Nat.zero_le _, Nat.zero_le _⟩ dX0_digestLocksAndChannels_30 (fun r9 _ H locs hw hP hD hS => ?_)
          have er9 := hw
          refine lv_i2l (v := r9.toInt64) hx hb dX0_digestLocksAndChannels_33 rfl ?_
          refine lv_ladd hx hb dX0_digestLocksAndChannels_34 ?_
          refine lv_topl (fun d10 ed10 => ?_)
          refine lv_lstore_n (lv' := [(3, .long d10), (6, .int 2), (5, .int 0), (0, .ref (ad 101)), (1, .long d)]) hx hb dX0_digestLocksAndChannels_35 rfl hl (by decide) rfl (fun ls hl => ?_)
          refine lv_iinc (v := 3) (lv' := [(6, .int 3), (3, .long d10), (5, .int 0), (0, .ref (ad 101)), (1, .long d)]) hx hb dX0_digestLocksAndChannels_36 hl (k := 1) rfl (by decide) (by decide) rfl (fun ls hl => ?_)
          refine lv_goto (tgt := 14) hx hb dX0_digestLocksAndChannels_39 (by decide) ?_
          refine lv_iload hx hb dX0_digestLocksAndChannels_14 (lv_at hl 0 rfl) ?_
          refine lv_iconst (v := 3) hx hb dX0_digestLocksAndChannels_16 (by decide) ?_
          refine lv_icmp_gt (tgt := 42) hx hb dX0_digestLocksAndChannels_17 (by decide) (fun c_17_11 => ?_) (fun c_17_11 => ?_)
          -- 17 jumps
          · exact absurd c_17_11 (by decide)
          -- 17 goes on
          · skip
            refine lv_lload_n hx hb dX0_digestLocksAndChannels_20 rfl (lv_at hl 1 rfl) ?_
            refine lv_ldc2 (v := 31) hx hb hown (hts (.constantLong RX0 196 (31)) (by decide +kernel)) dX0_digestLocksAndChannels_21 ?_
            refine lv_lmul hx hb dX0_digestLocksAndChannels_24 ?_
            refine lv_aload_n hx hb dX0_digestLocksAndChannels_25 rfl (lv_at hl 3 rfl) ?_
            refine lv_iload hx hb dX0_digestLocksAndChannels_26 (lv_at hl 2 rfl) ?_
            refine lv_iload hx hb dX0_digestLocksAndChannels_28 (lv_at hl 0 rfl) ?_
            refine x_Vi (As := [.int 0, .int 3]) (rest0 := [.long (d10 * 31)]) ⟨hx, hb, hml, hown, hts⟩ (c_X0_aboutLock l D cA ad tr rest H.size τ 0 3) (cwV 2 hts gX0_digestLocksAndChannels_X0_aboutLock rfl rfl rfl (by decide +kernel) ⟨Nat.le_of_ble_eq_true rfl, Nat.le_of_ble_eq_true rfl⟩) hK hP hD hS hA 101 w_an rfl hl.1 rfl rfl (Nat.le_of_ble_eq_true rfl) ⟨Nat.zero_le _, Nat.zero_le _⟩ dX0_digestLocksAndChannels_30 (fun r12 _ H locs hw hP hD hS => ?_)
            have er12 := hw
            refine lv_i2l (v := r12.toInt64) hx hb dX0_digestLocksAndChannels_33 rfl ?_
            refine lv_ladd hx hb dX0_digestLocksAndChannels_34 ?_
            refine lv_topl (fun d13 ed13 => ?_)
            refine lv_lstore_n (lv' := [(3, .long d13), (6, .int 3), (5, .int 0), (0, .ref (ad 101)), (1, .long d)]) hx hb dX0_digestLocksAndChannels_35 rfl hl (by decide) rfl (fun ls hl => ?_)
            refine lv_iinc (v := 4) (lv' := [(6, .int 4), (3, .long d13), (5, .int 0), (0, .ref (ad 101)), (1, .long d)]) hx hb dX0_digestLocksAndChannels_36 hl (k := 1) rfl (by decide) (by decide) rfl (fun ls hl => ?_)
            refine lv_goto (tgt := 14) hx hb dX0_digestLocksAndChannels_39 (by decide) ?_
            refine lv_iload hx hb dX0_digestLocksAndChannels_14 (lv_at hl 0 rfl) ?_
            refine lv_iconst (v := 3) hx hb dX0_digestLocksAndChannels_16 (by decide) ?_
            refine lv_icmp_gt (tgt := 42) hx hb dX0_digestLocksAndChannels_17 (by decide) (fun c_17_14 => ?_) (fun c_17_14 => ?_)
            -- 17 jumps
            · skip
              refine lv_iinc (v := 1) (lv' := [(5, .int 1), (6, .int 4), (3, .long d13), (0, .ref (ad 101)), (1, .long d)]) hx hb dX0_digestLocksAndChannels_42 hl (k := 2) rfl (by decide) (by decide) rfl (fun ls hl => ?_)
              refine lv_goto (tgt := 5) hx hb dX0_digestLocksAndChannels_45 (by decide) ?_
              refine lv_iload hx hb dX0_digestLocksAndChannels_5 (lv_at hl 0 rfl) ?_
              refine lv_iconst (v := 2) hx hb dX0_digestLocksAndChannels_7 (by decide) ?_
              refine lv_icmp_ge (tgt := 48) hx hb dX0_digestLocksAndChannels_8 (by decide) (fun c_8_15 => ?_) (fun c_8_15 => ?_)
              -- 8 jumps
              · exact absurd c_8_15 (by decide)
              -- 8 goes on
              · skip
                refine lv_iconst (v := 0) hx hb dX0_digestLocksAndChannels_11 (by decide) ?_
                refine lv_istore (lv' := [(6, .int 0), (5, .int 1), (3, .long d13), (0, .ref (ad 101)), (1, .long d)]) hx hb dX0_digestLocksAndChannels_12 hl (by decide) rfl (fun ls hl => ?_)
                refine lv_iload hx hb dX0_digestLocksAndChannels_14 (lv_at hl 0 rfl) ?_
                refine lv_iconst (v := 3) hx hb dX0_digestLocksAndChannels_16 (by decide) ?_
                refine lv_icmp_gt (tgt := 42) hx hb dX0_digestLocksAndChannels_17 (by decide) (fun c_17_16 => ?_) (fun c_17_16 => ?_)
                -- 17 jumps
                · exact absurd c_17_16 (by decide)
                -- 17 goes on
                · skip
                  refine lv_lload_n hx hb dX0_digestLocksAndChannels_20 rfl (lv_at hl 2 rfl) ?_
                  refine lv_ldc2 (v := 31) hx hb hown (hts (.constantLong RX0 196 (31)) (by decide +kernel)) dX0_digestLocksAndChannels_21 ?_
                  refine lv_lmul hx hb dX0_digestLocksAndChannels_24 ?_
                  refine lv_aload_n hx hb dX0_digestLocksAndChannels_25 rfl (lv_at hl 3 rfl) ?_
                  refine lv_iload hx hb dX0_digestLocksAndChannels_26 (lv_at hl 1 rfl) ?_
                  refine lv_iload hx hb dX0_digestLocksAndChannels_28 (lv_at hl 0 rfl) ?_
                  refine x_Vi (As := [.int 1, .int 0]) (rest0 := [.long (d13 * 31)]) ⟨hx, hb, hml, hown, hts⟩ (c_X0_aboutLock l D cA ad tr rest H.size τ 1 0) (cwV 2 hts gX0_digestLocksAndChannels_X0_aboutLock rfl rfl rfl (by decide +kernel) ⟨Nat.le_of_ble_eq_true rfl, Nat.le_of_ble_eq_true rfl⟩) hK hP hD hS hA 101 w_an rfl hl.1 rfl rfl (Nat.le_of_ble_eq_true rfl) ⟨Nat.zero_le _, Nat.zero_le _⟩ dX0_digestLocksAndChannels_30 (fun r17 _ H locs hw hP hD hS => ?_)
                  have er17 := hw
                  refine lv_i2l (v := r17.toInt64) hx hb dX0_digestLocksAndChannels_33 rfl ?_
                  refine lv_ladd hx hb dX0_digestLocksAndChannels_34 ?_
                  refine lv_topl (fun d18 ed18 => ?_)
                  refine lv_lstore_n (lv' := [(3, .long d18), (6, .int 0), (5, .int 1), (0, .ref (ad 101)), (1, .long d)]) hx hb dX0_digestLocksAndChannels_35 rfl hl (by decide) rfl (fun ls hl => ?_)
                  refine lv_iinc (v := 1) (lv' := [(6, .int 1), (3, .long d18), (5, .int 1), (0, .ref (ad 101)), (1, .long d)]) hx hb dX0_digestLocksAndChannels_36 hl (k := 1) rfl (by decide) (by decide) rfl (fun ls hl => ?_)
                  refine lv_goto (tgt := 14) hx hb dX0_digestLocksAndChannels_39 (by decide) ?_
                  refine lv_iload hx hb dX0_digestLocksAndChannels_14 (lv_at hl 0 rfl) ?_
                  refine lv_iconst (v := 3) hx hb dX0_digestLocksAndChannels_16 (by decide) ?_
                  refine lv_icmp_gt (tgt := 42) hx hb dX0_digestLocksAndChannels_17 (by decide) (fun c_17_19 => ?_) (fun c_17_19 => ?_)
                  -- 17 jumps
                  · exact absurd c_17_19 (by decide)
                  -- 17 goes on
                  · skip
                    refine lv_lload_n hx hb dX0_digestLocksAndChannels_20 rfl (lv_at hl 1 rfl) ?_
                    refine lv_ldc2 (v := 31) hx hb hown (hts (.constantLong RX0 196 (31)) (by decide +kernel)) dX0_digestLocksAndChannels_21 ?_
                    refine lv_lmul hx hb dX0_digestLocksAndChannels_24 ?_
                    refine lv_aload_n hx hb dX0_digestLocksAndChannels_25 rfl (lv_at hl 3 rfl) ?_
                    refine lv_iload hx hb dX0_digestLocksAndChannels_26 (lv_at hl 2 rfl) ?_
                    refine lv_iload hx hb dX0_digestLocksAndChannels_28 (lv_at hl 0 rfl) ?_
                    refine x_Vi (As := [.int 1, .int 1]) (rest0 := [.long (d18 * 31)]) ⟨hx, hb, hml, hown, hts⟩ (c_X0_aboutLock l D cA ad tr rest H.size τ 1 1) (cwV 2 hts gX0_digestLocksAndChannels_X0_aboutLock rfl rfl rfl (by decide +kernel) ⟨Nat.le_of_ble_eq_true rfl, Nat.le_of_ble_eq_true rfl⟩) hK hP hD hS hA 101 w_an rfl hl.1 rfl rfl (Nat.le_of_ble_eq_true rfl) ⟨Nat.zero_le _, Nat.zero_le _⟩ dX0_digestLocksAndChannels_30 (fun r20 _ H locs hw hP hD hS => ?_)
                    have er20 := hw
                    refine lv_i2l (v := r20.toInt64) hx hb dX0_digestLocksAndChannels_33 rfl ?_
                    refine lv_ladd hx hb dX0_digestLocksAndChannels_34 ?_
                    refine lv_topl (fun d21 ed21 => ?_)
                    refine lv_lstore_n (lv' := [(3, .long d21), (6, .int 1), (5, .int 1), (0, .ref (ad 101)), (1, .long d)]) hx hb dX0_digestLocksAndChannels_35 rfl hl (by decide) rfl (fun ls hl => ?_)
                    refine lv_iinc (v := 2) (lv' := [(6, .int 2), (3, .long d21), (5, .int 1), (0, .ref (ad 101)), (1, .long d)]) hx hb dX0_digestLocksAndChannels_36 hl (k := 1) rfl (by decide) (by decide) rfl (fun ls hl => ?_)
                    refine lv_goto (tgt := 14) hx hb dX0_digestLocksAndChannels_39 (by decide) ?_
                    refine lv_iload hx hb dX0_digestLocksAndChannels_14 (lv_at hl 0 rfl) ?_
                    refine lv_iconst (v := 3) hx hb dX0_digestLocksAndChannels_16 (by decide) ?_
                    refine lv_icmp_gt (tgt := 42) hx hb dX0_digestLocksAndChannels_17 (by decide) (fun c_17_22 => ?_) (fun c_17_22 => ?_)
                    -- 17 jumps
                    · exact absurd c_17_22 (by decide)
                    -- 17 goes on
                    · skip
                      refine lv_lload_n hx hb dX0_digestLocksAndChannels_20 rfl (lv_at hl 1 rfl) ?_
                      refine lv_ldc2 (v := 31) hx hb hown (hts (.constantLong RX0 196 (31)) (by decide +kernel)) dX0_digestLocksAndChannels_21 ?_
                      refine lv_lmul hx hb dX0_digestLocksAndChannels_24 ?_
                      refine lv_aload_n hx hb dX0_digestLocksAndChannels_25 rfl (lv_at hl 3 rfl) ?_
                      refine lv_iload hx hb dX0_digestLocksAndChannels_26 (lv_at hl 2 rfl) ?_
                      refine lv_iload hx hb dX0_digestLocksAndChannels_28 (lv_at hl 0 rfl) ?_
                      refine x_Vi (As := [.int 1, .int 2]) (rest0 := [.long (d21 * 31)]) ⟨hx, hb, hml, hown, hts⟩ (c_X0_aboutLock l D cA ad tr rest H.size τ 1 2) (cwV 2 hts gX0_digestLocksAndChannels_X0_aboutLock rfl rfl rfl (by decide +kernel) ⟨Nat.le_of_ble_eq_true rfl, Nat.le_of_ble_eq_true rfl⟩) hK hP hD hS hA 101 w_an rfl hl.1 rfl rfl (Nat.le_of_ble_eq_true rfl) ⟨Nat.zero_le _, Nat.zero_le _⟩ dX0_digestLocksAndChannels_30 (fun r23 _ H locs hw hP hD hS => ?_)
                      have er23 := hw
                      refine lv_i2l (v := r23.toInt64) hx hb dX0_digestLocksAndChannels_33 rfl ?_
                      refine lv_ladd hx hb dX0_digestLocksAndChannels_34 ?_
                      refine lv_topl (fun d24 ed24 => ?_)
                      refine lv_lstore_n (lv' := [(3, .long d24), (6, .int 2), (5, .int 1), (0, .ref (ad 101)), (1, .long d)]) hx hb dX0_digestLocksAndChannels_35 rfl hl (by decide) rfl (fun ls hl => ?_)
                      refine lv_iinc (v := 3) (lv' := [(6, .int 3), (3, .long d24), (5, .int 1), (0, .ref (ad 101)), (1, .long d)]) hx hb dX0_digestLocksAndChannels_36 hl (k := 1) rfl (by decide) (by decide) rfl (fun ls hl => ?_)
                      refine lv_goto (tgt := 14) hx hb dX0_digestLocksAndChannels_39 (by decide) ?_
                      refine lv_iload hx hb dX0_digestLocksAndChannels_14 (lv_at hl 0 rfl) ?_
                      refine lv_iconst (v := 3) hx hb dX0_digestLocksAndChannels_16 (by decide) ?_
                      refine lv_icmp_gt (tgt := 42) hx hb dX0_digestLocksAndChannels_17 (by decide) (fun c_17_25 => ?_) (fun c_17_25 => ?_)
                      -- 17 jumps
                      · exact absurd c_17_25 (by decide)
                      -- 17 goes on
                      · skip
                        refine lv_lload_n hx hb dX0_digestLocksAndChannels_20 rfl (lv_at hl 1 rfl) ?_
                        refine lv_ldc2 (v := 31) hx hb hown (hts (.constantLong RX0 196 (31)) (by decide +kernel)) dX0_digestLocksAndChannels_21 ?_
                        refine lv_lmul hx hb dX0_digestLocksAndChannels_24 ?_
                        refine lv_aload_n hx hb dX0_digestLocksAndChannels_25 rfl (lv_at hl 3 rfl) ?_
                        refine lv_iload hx hb dX0_digestLocksAndChannels_26 (lv_at hl 2 rfl) ?_
                        refine lv_iload hx hb dX0_digestLocksAndChannels_28 (lv_at hl 0 rfl) ?_
                        refine x_Vi (As := [.int 1, .int 3]) (rest0 := [.long (d24 * 31)]) ⟨hx, hb, hml, hown, hts⟩ (c_X0_aboutLock l D cA ad tr rest H.size τ 1 3) (cwV 2 hts gX0_digestLocksAndChannels_X0_aboutLock rfl rfl rfl (by decide +kernel) ⟨Nat.le_of_ble_eq_true rfl, Nat.le_of_ble_eq_true rfl⟩) hK hP hD hS hA 101 w_an rfl hl.1 rfl rfl (Nat.le_of_ble_eq_true rfl) ⟨Nat.zero_le _, Nat.zero_le _⟩ dX0_digestLocksAndChannels_30 (fun r26 _ H locs hw hP hD hS => ?_)
                        have er26 := hw
                        refine lv_i2l (v := r26.toInt64) hx hb dX0_digestLocksAndChannels_33 rfl ?_
                        refine lv_ladd hx hb dX0_digestLocksAndChannels_34 ?_
                        refine lv_topl (fun d27 ed27 => ?_)
                        refine lv_lstore_n (lv' := [(3, .long d27), (6, .int 3), (5, .int 1), (0, .ref (ad 101)), (1, .long d)]) hx hb dX0_digestLocksAndChannels_35 rfl hl (by decide) rfl (fun ls hl => ?_)
                        refine lv_iinc (v := 4) (lv' := [(6, .int 4), (3, .long d27), (5, .int 1), (0, .ref (ad 101)), (1, .long d)]) hx hb dX0_digestLocksAndChannels_36 hl (k := 1) rfl (by decide) (by decide) rfl (fun ls hl => ?_)
                        refine lv_goto (tgt := 14) hx hb dX0_digestLocksAndChannels_39 (by decide) ?_
                        refine lv_iload hx hb dX0_digestLocksAndChannels_14 (lv_at hl 0 rfl) ?_
                        refine lv_iconst (v := 3) hx hb dX0_digestLocksAndChannels_16 (by decide) ?_
                        refine lv_icmp_gt (tgt := 42) hx hb dX0_digestLocksAndChannels_17 (by decide) (fun c_17_28 => ?_) (fun c_17_28 => ?_)
                        -- 17 jumps
                        · skip
                          refine lv_iinc (v := 2) (lv' := [(5, .int 2), (6, .int 4), (3, .long d27), (0, .ref (ad 101)), (1, .long d)]) hx hb dX0_digestLocksAndChannels_42 hl (k := 2) rfl (by decide) (by decide) rfl (fun ls hl => ?_)
                          refine lv_goto (tgt := 5) hx hb dX0_digestLocksAndChannels_45 (by decide) ?_
                          refine lv_iload hx hb dX0_digestLocksAndChannels_5 (lv_at hl 0 rfl) ?_
                          refine lv_iconst (v := 2) hx hb dX0_digestLocksAndChannels_7 (by decide) ?_
                          refine lv_icmp_ge (tgt := 48) hx hb dX0_digestLocksAndChannels_8 (by decide) (fun c_8_29 => ?_) (fun c_8_29 => ?_)
                          -- 8 jumps
                          · skip
                            refine lv_iconst (v := 0) hx hb dX0_digestLocksAndChannels_48 (by decide) ?_
                            refine lv_istore (lv' := [(5, .int 0), (6, .int 4), (3, .long d27), (0, .ref (ad 101)), (1, .long d)]) hx hb dX0_digestLocksAndChannels_49 hl (by decide) rfl (fun ls hl => ?_)
                            refine lv_iload hx hb dX0_digestLocksAndChannels_51 (lv_at hl 0 rfl) ?_
                            refine lv_iconst (v := 2) hx hb dX0_digestLocksAndChannels_53 (by decide) ?_
                            refine lv_icmp_ge (tgt := 95) hx hb dX0_digestLocksAndChannels_54 (by decide) (fun c_54_30 => ?_) (fun c_54_30 => ?_)
                            -- 54 jumps
                            · exact absurd c_54_30 (by decide)
                            -- 54 goes on
                            · skip
                              refine lv_iconst (v := 0) hx hb dX0_digestLocksAndChannels_57 (by decide) ?_
                              refine lv_istore (lv' := [(6, .int 0), (5, .int 0), (3, .long d27), (0, .ref (ad 101)), (1, .long d)]) hx hb dX0_digestLocksAndChannels_58 hl (by decide) rfl (fun ls hl => ?_)
                              refine lv_iload hx hb dX0_digestLocksAndChannels_60 (lv_at hl 0 rfl) ?_
                              refine lv_bipush (v := 6) hx hb dX0_digestLocksAndChannels_62 (by decide) ?_
                              refine lv_icmp_gt (tgt := 89) hx hb dX0_digestLocksAndChannels_64 (by decide) (fun c_64_31 => ?_) (fun c_64_31 => ?_)
                              -- 64 jumps
                              · exact absurd c_64_31 (by decide)
                              -- 64 goes on
                              · skip
                                refine lv_lload_n hx hb dX0_digestLocksAndChannels_67 rfl (lv_at hl 2 rfl) ?_
                                refine lv_ldc2 (v := 31) hx hb hown (hts (.constantLong RX0 196 (31)) (by decide +kernel)) dX0_digestLocksAndChannels_68 ?_
                                refine lv_lmul hx hb dX0_digestLocksAndChannels_71 ?_
                                refine lv_aload_n hx hb dX0_digestLocksAndChannels_72 rfl (lv_at hl 3 rfl) ?_
                                refine lv_iload hx hb dX0_digestLocksAndChannels_73 (lv_at hl 1 rfl) ?_
                                refine lv_iload hx hb dX0_digestLocksAndChannels_75 (lv_at hl 0 rfl) ?_
                                refine x_Vi (As := [.int 0, .int 0]) (rest0 := [.long (d27 * 31)]) ⟨hx, hb, hml, hown, hts⟩ (c_X0_aboutChannel l D cA ad tr rest H.size τ 0 0) (cwV 2 hts gX0_digestLocksAndChannels_X0_aboutChannel rfl rfl rfl (by decide +kernel) ⟨Nat.le_of_ble_eq_true rfl, Nat.le_of_ble_eq_true rfl⟩) hK hP hD hS hA 101 w_an rfl hl.1 rfl rfl (Nat.le_of_ble_eq_true rfl) ⟨Nat.zero_le _, Nat.zero_le _⟩ dX0_digestLocksAndChannels_77 (fun r32 _ H locs hw hP hD hS => ?_)
                                have er32 := hw
                                refine lv_i2l (v := r32.toInt64) hx hb dX0_digestLocksAndChannels_80 rfl ?_
                                refine lv_ladd hx hb dX0_digestLocksAndChannels_81 ?_
                                refine lv_topl (fun d33 ed33 => ?_)
                                refine lv_lstore_n (lv' := [(3, .long d33), (6, .int 0), (5, .int 0), (0, .ref (ad 101)), (1, .long d)]) hx hb dX0_digestLocksAndChannels_82 rfl hl (by decide) rfl (fun ls hl => ?_)
                                refine lv_iinc (v := 1) (lv' := [(6, .int 1), (3, .long d33), (5, .int 0), (0, .ref (ad 101)), (1, .long d)]) hx hb dX0_digestLocksAndChannels_83 hl (k := 1) rfl (by decide) (by decide) rfl (fun ls hl => ?_)
                                refine lv_goto (tgt := 60) hx hb dX0_digestLocksAndChannels_86 (by decide) ?_
                                refine lv_iload hx hb dX0_digestLocksAndChannels_60 (lv_at hl 0 rfl) ?_
                                refine lv_bipush (v := 6) hx hb dX0_digestLocksAndChannels_62 (by decide) ?_
                                refine lv_icmp_gt (tgt := 89) hx hb dX0_digestLocksAndChannels_64 (by decide) (fun c_64_34 => ?_) (fun c_64_34 => ?_)
                                -- 64 jumps
                                · exact absurd c_64_34 (by decide)
                                -- 64 goes on
                                · skip
                                  refine lv_lload_n hx hb dX0_digestLocksAndChannels_67 rfl (lv_at hl 1 rfl) ?_
                                  refine lv_ldc2 (v := 31) hx hb hown (hts (.constantLong RX0 196 (31)) (by decide +kernel)) dX0_digestLocksAndChannels_68 ?_
                                  refine lv_lmul hx hb dX0_digestLocksAndChannels_71 ?_
                                  refine lv_aload_n hx hb dX0_digestLocksAndChannels_72 rfl (lv_at hl 3 rfl) ?_
                                  refine lv_iload hx hb dX0_digestLocksAndChannels_73 (lv_at hl 2 rfl) ?_
                                  refine lv_iload hx hb dX0_digestLocksAndChannels_75 (lv_at hl 0 rfl) ?_
                                  refine x_Vi (As := [.int 0, .int 1]) (rest0 := [.long (d33 * 31)]) ⟨hx, hb, hml, hown, hts⟩ (c_X0_aboutChannel l D cA ad tr rest H.size τ 0 1) (cwV 2 hts gX0_digestLocksAndChannels_X0_aboutChannel rfl rfl rfl (by decide +kernel) ⟨Nat.le_of_ble_eq_true rfl, Nat.le_of_ble_eq_true rfl⟩) hK hP hD hS hA 101 w_an rfl hl.1 rfl rfl (Nat.le_of_ble_eq_true rfl) ⟨Nat.zero_le _, Nat.zero_le _⟩ dX0_digestLocksAndChannels_77 (fun r35 _ H locs hw hP hD hS => ?_)
                                  have er35 := hw
                                  refine lv_i2l (v := r35.toInt64) hx hb dX0_digestLocksAndChannels_80 rfl ?_
                                  refine lv_ladd hx hb dX0_digestLocksAndChannels_81 ?_
                                  refine lv_topl (fun d36 ed36 => ?_)
                                  refine lv_lstore_n (lv' := [(3, .long d36), (6, .int 1), (5, .int 0), (0, .ref (ad 101)), (1, .long d)]) hx hb dX0_digestLocksAndChannels_82 rfl hl (by decide) rfl (fun ls hl => ?_)
                                  refine lv_iinc (v := 2) (lv' := [(6, .int 2), (3, .long d36), (5, .int 0), (0, .ref (ad 101)), (1, .long d)]) hx hb dX0_digestLocksAndChannels_83 hl (k := 1) rfl (by decide) (by decide) rfl (fun ls hl => ?_)
                                  refine lv_goto (tgt := 60) hx hb dX0_digestLocksAndChannels_86 (by decide) ?_
                                  refine lv_iload hx hb dX0_digestLocksAndChannels_60 (lv_at hl 0 rfl) ?_
                                  refine lv_bipush (v := 6) hx hb dX0_digestLocksAndChannels_62 (by decide) ?_
                                  refine lv_icmp_gt (tgt := 89) hx hb dX0_digestLocksAndChannels_64 (by decide) (fun c_64_37 => ?_) (fun c_64_37 => ?_)
                                  -- 64 jumps
                                  · exact absurd c_64_37 (by decide)
                                  -- 64 goes on
                                  · skip
                                    refine lv_lload_n hx hb dX0_digestLocksAndChannels_67 rfl (lv_at hl 1 rfl) ?_
                                    refine lv_ldc2 (v := 31) hx hb hown (hts (.constantLong RX0 196 (31)) (by decide +kernel)) dX0_digestLocksAndChannels_68 ?_
                                    refine lv_lmul hx hb dX0_digestLocksAndChannels_71 ?_
                                    refine lv_aload_n hx hb dX0_digestLocksAndChannels_72 rfl (lv_at hl 3 rfl) ?_
                                    refine lv_iload hx hb dX0_digestLocksAndChannels_73 (lv_at hl 2 rfl) ?_
                                    refine lv_iload hx hb dX0_digestLocksAndChannels_75 (lv_at hl 0 rfl) ?_
                                    refine x_Vi (As := [.int 0, .int 2]) (rest0 := [.long (d36 * 31)]) ⟨hx, hb, hml, hown, hts⟩ (c_X0_aboutChannel l D cA ad tr rest H.size τ 0 2) (cwV 2 hts gX0_digestLocksAndChannels_X0_aboutChannel rfl rfl rfl (by decide +kernel) ⟨Nat.le_of_ble_eq_true rfl, Nat.le_of_ble_eq_true rfl⟩) hK hP hD hS hA 101 w_an rfl hl.1 rfl rfl (Nat.le_of_ble_eq_true rfl) ⟨Nat.zero_le _, Nat.zero_le _⟩ dX0_digestLocksAndChannels_77 (fun r38 _ H locs hw hP hD hS => ?_)
                                    have er38 := hw
                                    refine lv_i2l (v := r38.toInt64) hx hb dX0_digestLocksAndChannels_80 rfl ?_
                                    refine lv_ladd hx hb dX0_digestLocksAndChannels_81 ?_
                                    refine lv_topl (fun d39 ed39 => ?_)
                                    refine lv_lstore_n (lv' := [(3, .long d39), (6, .int 2), (5, .int 0), (0, .ref (ad 101)), (1, .long d)]) hx hb dX0_digestLocksAndChannels_82 rfl hl (by decide) rfl (fun ls hl => ?_)
                                    refine lv_iinc (v := 3) (lv' := [(6, .int 3), (3, .long d39), (5, .int 0), (0, .ref (ad 101)), (1, .long d)]) hx hb dX0_digestLocksAndChannels_83 hl (k := 1) rfl (by decide) (by decide) rfl (fun ls hl => ?_)
                                    refine lv_goto (tgt := 60) hx hb dX0_digestLocksAndChannels_86 (by decide) ?_
                                    refine lv_iload hx hb dX0_digestLocksAndChannels_60 (lv_at hl 0 rfl) ?_
                                    refine lv_bipush (v := 6) hx hb dX0_digestLocksAndChannels_62 (by decide) ?_
                                    refine lv_icmp_gt (tgt := 89) hx hb dX0_digestLocksAndChannels_64 (by decide) (fun c_64_40 => ?_) (fun c_64_40 => ?_)
                                    -- 64 jumps
                                    · exact absurd c_64_40 (by decide)
                                    -- 64 goes on
                                    · skip
                                      refine lv_lload_n hx hb dX0_digestLocksAndChannels_67 rfl (lv_at hl 1 rfl) ?_
                                      refine lv_ldc2 (v := 31) hx hb hown (hts (.constantLong RX0 196 (31)) (by decide +kernel)) dX0_digestLocksAndChannels_68 ?_
                                      refine lv_lmul hx hb dX0_digestLocksAndChannels_71 ?_
                                      refine lv_aload_n hx hb dX0_digestLocksAndChannels_72 rfl (lv_at hl 3 rfl) ?_
                                      refine lv_iload hx hb dX0_digestLocksAndChannels_73 (lv_at hl 2 rfl) ?_
                                      refine lv_iload hx hb dX0_digestLocksAndChannels_75 (lv_at hl 0 rfl) ?_
                                      refine x_Vi (As := [.int 0, .int 3]) (rest0 := [.long (d39 * 31)]) ⟨hx, hb, hml, hown, hts⟩ (c_X0_aboutChannel l D cA ad tr rest H.size τ 0 3) (cwV 2 hts gX0_digestLocksAndChannels_X0_aboutChannel rfl rfl rfl (by decide +kernel) ⟨Nat.le_of_ble_eq_true rfl, Nat.le_of_ble_eq_true rfl⟩) hK hP hD hS hA 101 w_an rfl hl.1 rfl rfl (Nat.le_of_ble_eq_true rfl) ⟨Nat.zero_le _, Nat.zero_le _⟩ dX0_digestLocksAndChannels_77 (fun r41 _ H locs hw hP hD hS => ?_)
                                      have er41 := hw
                                      refine lv_i2l (v := r41.toInt64) hx hb dX0_digestLocksAndChannels_80 rfl ?_
                                      refine lv_ladd hx hb dX0_digestLocksAndChannels_81 ?_
                                      refine lv_topl (fun d42 ed42 => ?_)
                                      refine lv_lstore_n (lv' := [(3, .long d42), (6, .int 3), (5, .int 0), (0, .ref (ad 101)), (1, .long d)]) hx hb dX0_digestLocksAndChannels_82 rfl hl (by decide) rfl (fun ls hl => ?_)
                                      refine lv_iinc (v := 4) (lv' := [(6, .int 4), (3, .long d42), (5, .int 0), (0, .ref (ad 101)), (1, .long d)]) hx hb dX0_digestLocksAndChannels_83 hl (k := 1) rfl (by decide) (by decide) rfl (fun ls hl => ?_)
                                      refine lv_goto (tgt := 60) hx hb dX0_digestLocksAndChannels_86 (by decide) ?_
                                      refine lv_iload hx hb dX0_digestLocksAndChannels_60 (lv_at hl 0 rfl) ?_
                                      refine lv_bipush (v := 6) hx hb dX0_digestLocksAndChannels_62 (by decide) ?_
                                      refine lv_icmp_gt (tgt := 89) hx hb dX0_digestLocksAndChannels_64 (by decide) (fun c_64_43 => ?_) (fun c_64_43 => ?_)
                                      -- 64 jumps
                                      · exact absurd c_64_43 (by decide)
                                      -- 64 goes on
                                      · skip
                                        refine lv_lload_n hx hb dX0_digestLocksAndChannels_67 rfl (lv_at hl 1 rfl) ?_
                                        refine lv_ldc2 (v := 31) hx hb hown (hts (.constantLong RX0 196 (31)) (by decide +kernel)) dX0_digestLocksAndChannels_68 ?_
                                        refine lv_lmul hx hb dX0_digestLocksAndChannels_71 ?_
                                        refine lv_aload_n hx hb dX0_digestLocksAndChannels_72 rfl (lv_at hl 3 rfl) ?_
                                        refine lv_iload hx hb dX0_digestLocksAndChannels_73 (lv_at hl 2 rfl) ?_
                                        refine lv_iload hx hb dX0_digestLocksAndChannels_75 (lv_at hl 0 rfl) ?_
                                        refine x_Vi (As := [.int 0, .int 4]) (rest0 := [.long (d42 * 31)]) ⟨hx, hb, hml, hown, hts⟩ (c_X0_aboutChannel l D cA ad tr rest H.size τ 0 4) (cwV 2 hts gX0_digestLocksAndChannels_X0_aboutChannel rfl rfl rfl (by decide +kernel) ⟨Nat.le_of_ble_eq_true rfl, Nat.le_of_ble_eq_true rfl⟩) hK hP hD hS hA 101 w_an rfl hl.1 rfl rfl (Nat.le_of_ble_eq_true rfl) ⟨Nat.zero_le _, Nat.zero_le _⟩ dX0_digestLocksAndChannels_77 (fun r44 _ H locs hw hP hD hS => ?_)
                                        have er44 := hw
                                        refine lv_i2l (v := r44.toInt64) hx hb dX0_digestLocksAndChannels_80 rfl ?_
                                        refine lv_ladd hx hb dX0_digestLocksAndChannels_81 ?_
                                        refine lv_topl (fun d45 ed45 => ?_)
                                        refine lv_lstore_n (lv' := [(3, .long d45), (6, .int 4), (5, .int 0), (0, .ref (ad 101)), (1, .long d)]) hx hb dX0_digestLocksAndChannels_82 rfl hl (by decide) rfl (fun ls hl => ?_)
                                        refine lv_iinc (v := 5) (lv' := [(6, .int 5), (3, .long d45), (5, .int 0), (0, .ref (ad 101)), (1, .long d)]) hx hb dX0_digestLocksAndChannels_83 hl (k := 1) rfl (by decide) (by decide) rfl (fun ls hl => ?_)
                                        refine lv_goto (tgt := 60) hx hb dX0_digestLocksAndChannels_86 (by decide) ?_
                                        refine lv_iload hx hb dX0_digestLocksAndChannels_60 (lv_at hl 0 rfl) ?_
                                        refine lv_bipush (v := 6) hx hb dX0_digestLocksAndChannels_62 (by decide) ?_
                                        refine lv_icmp_gt (tgt := 89) hx hb dX0_digestLocksAndChannels_64 (by decide) (fun c_64_46 => ?_) (fun c_64_46 => ?_)
                                        -- 64 jumps
                                        · exact absurd c_64_46 (by decide)
                                        -- 64 goes on
                                        · skip
                                          refine lv_lload_n hx hb dX0_digestLocksAndChannels_67 rfl (lv_at hl 1 rfl) ?_
                                          refine lv_ldc2 (v := 31) hx hb hown (hts (.constantLong RX0 196 (31)) (by decide +kernel)) dX0_digestLocksAndChannels_68 ?_
                                          refine lv_lmul hx hb dX0_digestLocksAndChannels_71 ?_
                                          refine lv_aload_n hx hb dX0_digestLocksAndChannels_72 rfl (lv_at hl 3 rfl) ?_
                                          refine lv_iload hx hb dX0_digestLocksAndChannels_73 (lv_at hl 2 rfl) ?_
                                          refine lv_iload hx hb dX0_digestLocksAndChannels_75 (lv_at hl 0 rfl) ?_
                                          refine x_Vi (As := [.int 0, .int 5]) (rest0 := [.long (d45 * 31)]) ⟨hx, hb, hml, hown, hts⟩ (c_X0_aboutChannel l D cA ad tr rest H.size τ 0 5) (cwV 2 hts gX0_digestLocksAndChannels_X0_aboutChannel rfl rfl rfl (by decide +kernel) ⟨Nat.le_of_ble_eq_true rfl, Nat.le_of_ble_eq_true rfl⟩) hK hP hD hS hA 101 w_an rfl hl.1 rfl rfl (Nat.le_of_ble_eq_true rfl) ⟨Nat.zero_le _, Nat.zero_le _⟩ dX0_digestLocksAndChannels_77 (fun r47 _ H locs hw hP hD hS => ?_)
                                          have er47 := hw
                                          refine lv_i2l (v := r47.toInt64) hx hb dX0_digestLocksAndChannels_80 rfl ?_
                                          refine lv_ladd hx hb dX0_digestLocksAndChannels_81 ?_
                                          refine lv_topl (fun d48 ed48 => ?_)
                                          refine lv_lstore_n (lv' := [(3, .long d48), (6, .int 5), (5, .int 0), (0, .ref (ad 101)), (1, .long d)]) hx hb dX0_digestLocksAndChannels_82 rfl hl (by decide) rfl (fun ls hl => ?_)
                                          refine lv_iinc (v := 6) (lv' := [(6, .int 6), (3, .long d48), (5, .int 0), (0, .ref (ad 101)), (1, .long d)]) hx hb dX0_digestLocksAndChannels_83 hl (k := 1) rfl (by decide) (by decide) rfl (fun ls hl => ?_)
                                          refine lv_goto (tgt := 60) hx hb dX0_digestLocksAndChannels_86 (by decide) ?_
                                          refine lv_iload hx hb dX0_digestLocksAndChannels_60 (lv_at hl 0 rfl) ?_
                                          refine lv_bipush (v := 6) hx hb dX0_digestLocksAndChannels_62 (by decide) ?_
                                          refine lv_icmp_gt (tgt := 89) hx hb dX0_digestLocksAndChannels_64 (by decide) (fun c_64_49 => ?_) (fun c_64_49 => ?_)
                                          -- 64 jumps
                                          · exact absurd c_64_49 (by decide)
                                          -- 64 goes on
                                          · skip
                                            refine lv_lload_n hx hb dX0_digestLocksAndChannels_67 rfl (lv_at hl 1 rfl) ?_
                                            refine lv_ldc2 (v := 31) hx hb hown (hts (.constantLong RX0 196 (31)) (by decide +kernel)) dX0_digestLocksAndChannels_68 ?_
                                            refine lv_lmul hx hb dX0_digestLocksAndChannels_71 ?_
                                            refine lv_aload_n hx hb dX0_digestLocksAndChannels_72 rfl (lv_at hl 3 rfl) ?_
                                            refine lv_iload hx hb dX0_digestLocksAndChannels_73 (lv_at hl 2 rfl) ?_
                                            refine lv_iload hx hb dX0_digestLocksAndChannels_75 (lv_at hl 0 rfl) ?_
                                            refine x_Vi (As := [.int 0, .int 6]) (rest0 := [.long (d48 * 31)]) ⟨hx, hb, hml, hown, hts⟩ (c_X0_aboutChannel l D cA ad tr rest H.size τ 0 6) (cwV 2 hts gX0_digestLocksAndChannels_X0_aboutChannel rfl rfl rfl (by decide +kernel) ⟨Nat.le_of_ble_eq_true rfl, Nat.le_of_ble_eq_true rfl⟩) hK hP hD hS hA 101 w_an rfl hl.1 rfl rfl (Nat.le_of_ble_eq_true rfl) ⟨Nat.zero_le _, Nat.zero_le _⟩ dX0_digestLocksAndChannels_77 (fun r50 _ H locs hw hP hD hS => ?_)
                                            have er50 := hw
                                            refine lv_i2l (v := r50.toInt64) hx hb dX0_digestLocksAndChannels_80 rfl ?_
                                            refine lv_ladd hx hb dX0_digestLocksAndChannels_81 ?_
                                            refine lv_topl (fun d51 ed51 => ?_)
                                            refine lv_lstore_n (lv' := [(3, .long d51), (6, .int 6), (5, .int 0), (0, .ref (ad 101)), (1, .long d)]) hx hb dX0_digestLocksAndChannels_82 rfl hl (by decide) rfl (fun ls hl => ?_)
                                            refine lv_iinc (v := 7) (lv' := [(6, .int 7), (3, .long d51), (5, .int 0), (0, .ref (ad 101)), (1, .long d)]) hx hb dX0_digestLocksAndChannels_83 hl (k := 1) rfl (by decide) (by decide) rfl (fun ls hl => ?_)
                                            refine lv_goto (tgt := 60) hx hb dX0_digestLocksAndChannels_86 (by decide) ?_
                                            refine lv_iload hx hb dX0_digestLocksAndChannels_60 (lv_at hl 0 rfl) ?_
                                            refine lv_bipush (v := 6) hx hb dX0_digestLocksAndChannels_62 (by decide) ?_
                                            refine lv_icmp_gt (tgt := 89) hx hb dX0_digestLocksAndChannels_64 (by decide) (fun c_64_52 => ?_) (fun c_64_52 => ?_)
                                            -- 64 jumps
                                            · skip
                                              refine lv_iinc (v := 1) (lv' := [(5, .int 1), (6, .int 7), (3, .long d51), (0, .ref (ad 101)), (1, .long d)]) hx hb dX0_digestLocksAndChannels_89 hl (k := 2) rfl (by decide) (by decide) rfl (fun ls hl => ?_)
                                              refine lv_goto (tgt := 51) hx hb dX0_digestLocksAndChannels_92 (by decide) ?_
                                              refine lv_iload hx hb dX0_digestLocksAndChannels_51 (lv_at hl 0 rfl) ?_
                                              refine lv_iconst (v := 2) hx hb dX0_digestLocksAndChannels_53 (by decide) ?_
                                              refine lv_icmp_ge (tgt := 95) hx hb dX0_digestLocksAndChannels_54 (by decide) (fun c_54_53 => ?_) (fun c_54_53 => ?_)
                                              -- 54 jumps
                                              · exact absurd c_54_53 (by decide)
                                              -- 54 goes on
                                              · skip
                                                refine lv_iconst (v := 0) hx hb dX0_digestLocksAndChannels_57 (by decide) ?_
                                                refine lv_istore (lv' := [(6, .int 0), (5, .int 1), (3, .long d51), (0, .ref (ad 101)), (1, .long d)]) hx hb dX0_digestLocksAndChannels_58 hl (by decide) rfl (fun ls hl => ?_)
                                                refine lv_iload hx hb dX0_digestLocksAndChannels_60 (lv_at hl 0 rfl) ?_
                                                refine lv_bipush (v := 6) hx hb dX0_digestLocksAndChannels_62 (by decide) ?_
                                                refine lv_icmp_gt (tgt := 89) hx hb dX0_digestLocksAndChannels_64 (by decide) (fun c_64_54 => ?_) (fun c_64_54 => ?_)
                                                -- 64 jumps
                                                · exact absurd c_64_54 (by decide)
                                                -- 64 goes on
                                                · skip
                                                  refine lv_lload_n hx hb dX0_digestLocksAndChannels_67 rfl (lv_at hl 2 rfl) ?_
                                                  refine lv_ldc2 (v := 31) hx hb hown (hts (.constantLong RX0 196 (31)) (by decide +kernel)) dX0_digestLocksAndChannels_68 ?_
                                                  refine lv_lmul hx hb dX0_digestLocksAndChannels_71 ?_
                                                  refine lv_aload_n hx hb dX0_digestLocksAndChannels_72 rfl (lv_at hl 3 rfl) ?_
                                                  refine lv_iload hx hb dX0_digestLocksAndChannels_73 (lv_at hl 1 rfl) ?_
                                                  refine lv_iload hx hb dX0_digestLocksAndChannels_75 (lv_at hl 0 rfl) ?_
                                                  refine x_Vi (As := [.int 1, .int 0]) (rest0 := [.long (d51 * 31)]) ⟨hx, hb, hml, hown, hts⟩ (c_X0_aboutChannel l D cA ad tr rest H.size τ 1 0) (cwV 2 hts gX0_digestLocksAndChannels_X0_aboutChannel rfl rfl rfl (by decide +kernel) ⟨Nat.le_of_ble_eq_true rfl, Nat.le_of_ble_eq_true rfl⟩) hK hP hD hS hA 101 w_an rfl hl.1 rfl rfl (Nat.le_of_ble_eq_true rfl) ⟨Nat.zero_le _, Nat.zero_le _⟩ dX0_digestLocksAndChannels_77 (fun r55 _ H locs hw hP hD hS => ?_)
                                                  have er55 := hw
                                                  refine lv_i2l (v := r55.toInt64) hx hb dX0_digestLocksAndChannels_80 rfl ?_
                                                  refine lv_ladd hx hb dX0_digestLocksAndChannels_81 ?_
                                                  refine lv_topl (fun d56 ed56 => ?_)
                                                  refine lv_lstore_n (lv' := [(3, .long d56), (6, .int 0), (5, .int 1), (0, .ref (ad 101)), (1, .long d)]) hx hb dX0_digestLocksAndChannels_82 rfl hl (by decide) rfl (fun ls hl => ?_)
                                                  refine lv_iinc (v := 1) (lv' := [(6, .int 1), (3, .long d56), (5, .int 1), (0, .ref (ad 101)), (1, .long d)]) hx hb dX0_digestLocksAndChannels_83 hl (k := 1) rfl (by decide) (by decide) rfl (fun ls hl => ?_)
                                                  refine lv_goto (tgt := 60) hx hb dX0_digestLocksAndChannels_86 (by decide) ?_
                                                  refine lv_iload hx hb dX0_digestLocksAndChannels_60 (lv_at hl 0 rfl) ?_
                                                  refine lv_bipush (v := 6) hx hb dX0_digestLocksAndChannels_62 (by decide) ?_
                                                  refine lv_icmp_gt (tgt := 89) hx hb dX0_digestLocksAndChannels_64 (by decide) (fun c_64_57 => ?_) (fun c_64_57 => ?_)
                                                  -- 64 jumps
                                                  · exact absurd c_64_57 (by decide)
                                                  -- 64 goes on
                                                  · skip
                                                    refine lv_lload_n hx hb dX0_digestLocksAndChannels_67 rfl (lv_at hl 1 rfl) ?_
                                                    refine lv_ldc2 (v := 31) hx hb hown (hts (.constantLong RX0 196 (31)) (by decide +kernel)) dX0_digestLocksAndChannels_68 ?_
                                                    refine lv_lmul hx hb dX0_digestLocksAndChannels_71 ?_
                                                    refine lv_aload_n hx hb dX0_digestLocksAndChannels_72 rfl (lv_at hl 3 rfl) ?_
                                                    refine lv_iload hx hb dX0_digestLocksAndChannels_73 (lv_at hl 2 rfl) ?_
                                                    refine lv_iload hx hb dX0_digestLocksAndChannels_75 (lv_at hl 0 rfl) ?_
                                                    refine x_Vi (As := [.int 1, .int 1]) (rest0 := [.long (d56 * 31)]) ⟨hx, hb, hml, hown, hts⟩ (c_X0_aboutChannel l D cA ad tr rest H.size τ 1 1) (cwV 2 hts gX0_digestLocksAndChannels_X0_aboutChannel rfl rfl rfl (by decide +kernel) ⟨Nat.le_of_ble_eq_true rfl, Nat.le_of_ble_eq_true rfl⟩) hK hP hD hS hA 101 w_an rfl hl.1 rfl rfl (Nat.le_of_ble_eq_true rfl) ⟨Nat.zero_le _, Nat.zero_le _⟩ dX0_digestLocksAndChannels_77 (fun r58 _ H locs hw hP hD hS => ?_)
                                                    have er58 := hw
                                                    refine lv_i2l (v := r58.toInt64) hx hb dX0_digestLocksAndChannels_80 rfl ?_
                                                    refine lv_ladd hx hb dX0_digestLocksAndChannels_81 ?_
                                                    refine lv_topl (fun d59 ed59 => ?_)
                                                    refine lv_lstore_n (lv' := [(3, .long d59), (6, .int 1), (5, .int 1), (0, .ref (ad 101)), (1, .long d)]) hx hb dX0_digestLocksAndChannels_82 rfl hl (by decide) rfl (fun ls hl => ?_)
                                                    refine lv_iinc (v := 2) (lv' := [(6, .int 2), (3, .long d59), (5, .int 1), (0, .ref (ad 101)), (1, .long d)]) hx hb dX0_digestLocksAndChannels_83 hl (k := 1) rfl (by decide) (by decide) rfl (fun ls hl => ?_)
                                                    refine lv_goto (tgt := 60) hx hb dX0_digestLocksAndChannels_86 (by decide) ?_
                                                    refine lv_iload hx hb dX0_digestLocksAndChannels_60 (lv_at hl 0 rfl) ?_
                                                    refine lv_bipush (v := 6) hx hb dX0_digestLocksAndChannels_62 (by decide) ?_
                                                    refine lv_icmp_gt (tgt := 89) hx hb dX0_digestLocksAndChannels_64 (by decide) (fun c_64_60 => ?_) (fun c_64_60 => ?_)
                                                    -- 64 jumps
                                                    · exact absurd c_64_60 (by decide)
                                                    -- 64 goes on
                                                    · skip
                                                      refine lv_lload_n hx hb dX0_digestLocksAndChannels_67 rfl (lv_at hl 1 rfl) ?_
                                                      refine lv_ldc2 (v := 31) hx hb hown (hts (.constantLong RX0 196 (31)) (by decide +kernel)) dX0_digestLocksAndChannels_68 ?_
                                                      refine lv_lmul hx hb dX0_digestLocksAndChannels_71 ?_
                                                      refine lv_aload_n hx hb dX0_digestLocksAndChannels_72 rfl (lv_at hl 3 rfl) ?_
                                                      refine lv_iload hx hb dX0_digestLocksAndChannels_73 (lv_at hl 2 rfl) ?_
                                                      refine lv_iload hx hb dX0_digestLocksAndChannels_75 (lv_at hl 0 rfl) ?_
                                                      refine x_Vi (As := [.int 1, .int 2]) (rest0 := [.long (d59 * 31)]) ⟨hx, hb, hml, hown, hts⟩ (c_X0_aboutChannel l D cA ad tr rest H.size τ 1 2) (cwV 2 hts gX0_digestLocksAndChannels_X0_aboutChannel rfl rfl rfl (by decide +kernel) ⟨Nat.le_of_ble_eq_true rfl, Nat.le_of_ble_eq_true rfl⟩) hK hP hD hS hA 101 w_an rfl hl.1 rfl rfl (Nat.le_of_ble_eq_true rfl) ⟨Nat.zero_le _, Nat.zero_le _⟩ dX0_digestLocksAndChannels_77 (fun r61 _ H locs hw hP hD hS => ?_)
                                                      have er61 := hw
                                                      refine lv_i2l (v := r61.toInt64) hx hb dX0_digestLocksAndChannels_80 rfl ?_
                                                      refine lv_ladd hx hb dX0_digestLocksAndChannels_81 ?_
                                                      refine lv_topl (fun d62 ed62 => ?_)
                                                      refine lv_lstore_n (lv' := [(3, .long d62), (6, .int 2), (5, .int 1), (0, .ref (ad 101)), (1, .long d)]) hx hb dX0_digestLocksAndChannels_82 rfl hl (by decide) rfl (fun ls hl => ?_)
                                                      refine lv_iinc (v := 3) (lv' := [(6, .int 3), (3, .long d62), (5, .int 1), (0, .ref (ad 101)), (1, .long d)]) hx hb dX0_digestLocksAndChannels_83 hl (k := 1) rfl (by decide) (by decide) rfl (fun ls hl => ?_)
                                                      refine lv_goto (tgt := 60) hx hb dX0_digestLocksAndChannels_86 (by decide) ?_
                                                      refine lv_iload hx hb dX0_digestLocksAndChannels_60 (lv_at hl 0 rfl) ?_
                                                      refine lv_bipush (v := 6) hx hb dX0_digestLocksAndChannels_62 (by decide) ?_
                                                      refine lv_icmp_gt (tgt := 89) hx hb dX0_digestLocksAndChannels_64 (by decide) (fun c_64_63 => ?_) (fun c_64_63 => ?_)
                                                      -- 64 jumps
                                                      · exact absurd c_64_63 (by decide)
                                                      -- 64 goes on
                                                      · skip
                                                        refine lv_lload_n hx hb dX0_digestLocksAndChannels_67 rfl (lv_at hl 1 rfl) ?_
                                                        refine lv_ldc2 (v := 31) hx hb hown (hts (.constantLong RX0 196 (31)) (by decide +kernel)) dX0_digestLocksAndChannels_68 ?_
                                                        refine lv_lmul hx hb dX0_digestLocksAndChannels_71 ?_
                                                        refine lv_aload_n hx hb dX0_digestLocksAndChannels_72 rfl (lv_at hl 3 rfl) ?_
                                                        refine lv_iload hx hb dX0_digestLocksAndChannels_73 (lv_at hl 2 rfl) ?_
                                                        refine lv_iload hx hb dX0_digestLocksAndChannels_75 (lv_at hl 0 rfl) ?_
                                                        refine x_Vi (As := [.int 1, .int 3]) (rest0 := [.long (d62 * 31)]) ⟨hx, hb, hml, hown, hts⟩ (c_X0_aboutChannel l D cA ad tr rest H.size τ 1 3) (cwV 2 hts gX0_digestLocksAndChannels_X0_aboutChannel rfl rfl rfl (by decide +kernel) ⟨Nat.le_of_ble_eq_true rfl, Nat.le_of_ble_eq_true rfl⟩) hK hP hD hS hA 101 w_an rfl hl.1 rfl rfl (Nat.le_of_ble_eq_true rfl) ⟨Nat.zero_le _, Nat.zero_le _⟩ dX0_digestLocksAndChannels_77 (fun r64 _ H locs hw hP hD hS => ?_)
                                                        have er64 := hw
                                                        refine lv_i2l (v := r64.toInt64) hx hb dX0_digestLocksAndChannels_80 rfl ?_
                                                        refine lv_ladd hx hb dX0_digestLocksAndChannels_81 ?_
                                                        refine lv_topl (fun d65 ed65 => ?_)
                                                        refine lv_lstore_n (lv' := [(3, .long d65), (6, .int 3), (5, .int 1), (0, .ref (ad 101)), (1, .long d)]) hx hb dX0_digestLocksAndChannels_82 rfl hl (by decide) rfl (fun ls hl => ?_)
                                                        refine lv_iinc (v := 4) (lv' := [(6, .int 4), (3, .long d65), (5, .int 1), (0, .ref (ad 101)), (1, .long d)]) hx hb dX0_digestLocksAndChannels_83 hl (k := 1) rfl (by decide) (by decide) rfl (fun ls hl => ?_)
                                                        refine lv_goto (tgt := 60) hx hb dX0_digestLocksAndChannels_86 (by decide) ?_
                                                        refine lv_iload hx hb dX0_digestLocksAndChannels_60 (lv_at hl 0 rfl) ?_
                                                        refine lv_bipush (v := 6) hx hb dX0_digestLocksAndChannels_62 (by decide) ?_
                                                        refine lv_icmp_gt (tgt := 89) hx hb dX0_digestLocksAndChannels_64 (by decide) (fun c_64_66 => ?_) (fun c_64_66 => ?_)
                                                        -- 64 jumps
                                                        · exact absurd c_64_66 (by decide)
                                                        -- 64 goes on
                                                        · skip
                                                          refine lv_lload_n hx hb dX0_digestLocksAndChannels_67 rfl (lv_at hl 1 rfl) ?_
                                                          refine lv_ldc2 (v := 31) hx hb hown (hts (.constantLong RX0 196 (31)) (by decide +kernel)) dX0_digestLocksAndChannels_68 ?_
                                                          refine lv_lmul hx hb dX0_digestLocksAndChannels_71 ?_
                                                          refine lv_aload_n hx hb dX0_digestLocksAndChannels_72 rfl (lv_at hl 3 rfl) ?_
                                                          refine lv_iload hx hb dX0_digestLocksAndChannels_73 (lv_at hl 2 rfl) ?_
                                                          refine lv_iload hx hb dX0_digestLocksAndChannels_75 (lv_at hl 0 rfl) ?_
                                                          refine x_Vi (As := [.int 1, .int 4]) (rest0 := [.long (d65 * 31)]) ⟨hx, hb, hml, hown, hts⟩ (c_X0_aboutChannel l D cA ad tr rest H.size τ 1 4) (cwV 2 hts gX0_digestLocksAndChannels_X0_aboutChannel rfl rfl rfl (by decide +kernel) ⟨Nat.le_of_ble_eq_true rfl, Nat.le_of_ble_eq_true rfl⟩) hK hP hD hS hA 101 w_an rfl hl.1 rfl rfl (Nat.le_of_ble_eq_true rfl) ⟨Nat.zero_le _, Nat.zero_le _⟩ dX0_digestLocksAndChannels_77 (fun r67 _ H locs hw hP hD hS => ?_)
                                                          have er67 := hw
                                                          refine lv_i2l (v := r67.toInt64) hx hb dX0_digestLocksAndChannels_80 rfl ?_
                                                          refine lv_ladd hx hb dX0_digestLocksAndChannels_81 ?_
                                                          refine lv_topl (fun d68 ed68 => ?_)
                                                          refine lv_lstore_n (lv' := [(3, .long d68), (6, .int 4), (5, .int 1), (0, .ref (ad 101)), (1, .long d)]) hx hb dX0_digestLocksAndChannels_82 rfl hl (by decide) rfl (fun ls hl => ?_)
                                                          refine lv_iinc (v := 5) (lv' := [(6, .int 5), (3, .long d68), (5, .int 1), (0, .ref (ad 101)), (1, .long d)]) hx hb dX0_digestLocksAndChannels_83 hl (k := 1) rfl (by decide) (by decide) rfl (fun ls hl => ?_)
                                                          refine lv_goto (tgt := 60) hx hb dX0_digestLocksAndChannels_86 (by decide) ?_
                                                          refine lv_iload hx hb dX0_digestLocksAndChannels_60 (lv_at hl 0 rfl) ?_
                                                          refine lv_bipush (v := 6) hx hb dX0_digestLocksAndChannels_62 (by decide) ?_
                                                          refine lv_icmp_gt (tgt := 89) hx hb dX0_digestLocksAndChannels_64 (by decide) (fun c_64_69 => ?_) (fun c_64_69 => ?_)
                                                          -- 64 jumps
                                                          · exact absurd c_64_69 (by decide)
                                                          -- 64 goes on
                                                          · skip
                                                            refine lv_lload_n hx hb dX0_digestLocksAndChannels_67 rfl (lv_at hl 1 rfl) ?_
                                                            refine lv_ldc2 (v := 31) hx hb hown (hts (.constantLong RX0 196 (31)) (by decide +kernel)) dX0_digestLocksAndChannels_68 ?_
                                                            refine lv_lmul hx hb dX0_digestLocksAndChannels_71 ?_
                                                            refine lv_aload_n hx hb dX0_digestLocksAndChannels_72 rfl (lv_at hl 3 rfl) ?_
                                                            refine lv_iload hx hb dX0_digestLocksAndChannels_73 (lv_at hl 2 rfl) ?_
                                                            refine lv_iload hx hb dX0_digestLocksAndChannels_75 (lv_at hl 0 rfl) ?_
                                                            refine x_Vi (As := [.int 1, .int 5]) (rest0 := [.long (d68 * 31)]) ⟨hx, hb, hml, hown, hts⟩ (c_X0_aboutChannel l D cA ad tr rest H.size τ 1 5) (cwV 2 hts gX0_digestLocksAndChannels_X0_aboutChannel rfl rfl rfl (by decide +kernel) ⟨Nat.le_of_ble_eq_true rfl, Nat.le_of_ble_eq_true rfl⟩) hK hP hD hS hA 101 w_an rfl hl.1 rfl rfl (Nat.le_of_ble_eq_true rfl) ⟨Nat.zero_le _, Nat.zero_le _⟩ dX0_digestLocksAndChannels_77 (fun r70 _ H locs hw hP hD hS => ?_)
                                                            have er70 := hw
                                                            refine lv_i2l (v := r70.toInt64) hx hb dX0_digestLocksAndChannels_80 rfl ?_
                                                            refine lv_ladd hx hb dX0_digestLocksAndChannels_81 ?_
                                                            refine lv_topl (fun d71 ed71 => ?_)
                                                            refine lv_lstore_n (lv' := [(3, .long d71), (6, .int 5), (5, .int 1), (0, .ref (ad 101)), (1, .long d)]) hx hb dX0_digestLocksAndChannels_82 rfl hl (by decide) rfl (fun ls hl => ?_)
                                                            refine lv_iinc (v := 6) (lv' := [(6, .int 6), (3, .long d71), (5, .int 1), (0, .ref (ad 101)), (1, .long d)]) hx hb dX0_digestLocksAndChannels_83 hl (k := 1) rfl (by decide) (by decide) rfl (fun ls hl => ?_)
                                                            refine lv_goto (tgt := 60) hx hb dX0_digestLocksAndChannels_86 (by decide) ?_
                                                            refine lv_iload hx hb dX0_digestLocksAndChannels_60 (lv_at hl 0 rfl) ?_
                                                            refine lv_bipush (v := 6) hx hb dX0_digestLocksAndChannels_62 (by decide) ?_
                                                            refine lv_icmp_gt (tgt := 89) hx hb dX0_digestLocksAndChannels_64 (by decide) (fun c_64_72 => ?_) (fun c_64_72 => ?_)
                                                            -- 64 jumps
                                                            · exact absurd c_64_72 (by decide)
                                                            -- 64 goes on
                                                            · skip
                                                              refine lv_lload_n hx hb dX0_digestLocksAndChannels_67 rfl (lv_at hl 1 rfl) ?_
                                                              refine lv_ldc2 (v := 31) hx hb hown (hts (.constantLong RX0 196 (31)) (by decide +kernel)) dX0_digestLocksAndChannels_68 ?_
                                                              refine lv_lmul hx hb dX0_digestLocksAndChannels_71 ?_
                                                              refine lv_aload_n hx hb dX0_digestLocksAndChannels_72 rfl (lv_at hl 3 rfl) ?_
                                                              refine lv_iload hx hb dX0_digestLocksAndChannels_73 (lv_at hl 2 rfl) ?_
                                                              refine lv_iload hx hb dX0_digestLocksAndChannels_75 (lv_at hl 0 rfl) ?_
                                                              refine x_Vi (As := [.int 1, .int 6]) (rest0 := [.long (d71 * 31)]) ⟨hx, hb, hml, hown, hts⟩ (c_X0_aboutChannel l D cA ad tr rest H.size τ 1 6) (cwV 2 hts gX0_digestLocksAndChannels_X0_aboutChannel rfl rfl rfl (by decide +kernel) ⟨Nat.le_of_ble_eq_true rfl, Nat.le_of_ble_eq_true rfl⟩) hK hP hD hS hA 101 w_an rfl hl.1 rfl rfl (Nat.le_of_ble_eq_true rfl) ⟨Nat.zero_le _, Nat.zero_le _⟩ dX0_digestLocksAndChannels_77 (fun r73 _ H locs hw hP hD hS => ?_)
                                                              have er73 := hw
                                                              refine lv_i2l (v := r73.toInt64) hx hb dX0_digestLocksAndChannels_80 rfl ?_
                                                              refine lv_ladd hx hb dX0_digestLocksAndChannels_81 ?_
                                                              refine lv_topl (fun d74 ed74 => ?_)
                                                              refine lv_lstore_n (lv' := [(3, .long d74), (6, .int 6), (5, .int 1), (0, .ref (ad 101)), (1, .long d)]) hx hb dX0_digestLocksAndChannels_82 rfl hl (by decide) rfl (fun ls hl => ?_)
                                                              refine lv_iinc (v := 7) (lv' := [(6, .int 7), (3, .long d74), (5, .int 1), (0, .ref (ad 101)), (1, .long d)]) hx hb dX0_digestLocksAndChannels_83 hl (k := 1) rfl (by decide) (by decide) rfl (fun ls hl => ?_)
                                                              refine lv_goto (tgt := 60) hx hb dX0_digestLocksAndChannels_86 (by decide) ?_
                                                              refine lv_iload hx hb dX0_digestLocksAndChannels_60 (lv_at hl 0 rfl) ?_
                                                              refine lv_bipush (v := 6) hx hb dX0_digestLocksAndChannels_62 (by decide) ?_
                                                              refine lv_icmp_gt (tgt := 89) hx hb dX0_digestLocksAndChannels_64 (by decide) (fun c_64_75 => ?_) (fun c_64_75 => ?_)
                                                              -- 64 jumps
                                                              · skip
                                                                refine lv_iinc (v := 2) (lv' := [(5, .int 2), (6, .int 7), (3, .long d74), (0, .ref (ad 101)), (1, .long d)]) hx hb dX0_digestLocksAndChannels_89 hl (k := 2) rfl (by decide) (by decide) rfl (fun ls hl => ?_)
                                                                refine lv_goto (tgt := 51) hx hb dX0_digestLocksAndChannels_92 (by decide) ?_
                                                                refine lv_iload hx hb dX0_digestLocksAndChannels_51 (lv_at hl 0 rfl) ?_
                                                                refine lv_iconst (v := 2) hx hb dX0_digestLocksAndChannels_53 (by decide) ?_
                                                                refine lv_icmp_ge (tgt := 95) hx hb dX0_digestLocksAndChannels_54 (by decide) (fun c_54_76 => ?_) (fun c_54_76 => ?_)
                                                                -- 54 jumps
                                                                · skip
                                                                  refine lv_lload_n hx hb dX0_digestLocksAndChannels_95 rfl (lv_at hl 2 rfl) ?_
                                                                  exact x_lret hx hb hr hlocks hK () hP hD hS dX0_digestLocksAndChannels_96 (by subst ed74 er73 ed71 er70 ed68 er67 ed65 er64 ed62 er61 ed59 er58 ed56 er55 ed51 er50 ed48 er47 ed45 er44 ed42 er41 ed39 er38 ed36 er35 ed33 er32 ed27 er26 ed24 er23 ed21 er20 ed18 er17 ed13 er12 ed10 er9 ed7 er6 ed4 er3; simp [m_dgLC, m_dg, m_fK, m_fC, z0, z1, z2, z3, z4, z5, z6])
                                                                -- 54 goes on
                                                                · exact absurd c_54_76 (by decide)
                                                              -- 64 goes on
                                                              · exact absurd c_64_75 (by decide)
                                            -- 64 goes on
                                            · exact absurd c_64_52 (by decide)
                          -- 8 goes on
                          · exact absurd c_8_29 (by decide)
                        -- 17 goes on
                        · exact absurd c_17_28 (by decide)
            -- 17 goes on
            · exact absurd c_17_14 (by decide)
