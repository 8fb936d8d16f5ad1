theorem bI_f {b : Bool} {r : Int32} (e : r = bI b) (h : r = 0) : b = false := by
  cases b with
  | false => rfl
  | true => rw [e] at h; exact absurd h (by decide)
theorem bI_t {b : Bool} {r : Int32} (e : r = bI b) (h : ¬ r = 0) : b = true := by
  cases b with
  | false => exact absurd (by rw [e]; rfl) h
  | true => rfl
theorem n24 : nI 24 = 24 := rfl
theorem n40 : nI 40 = 40 := rfl
theorem n2 : nI 2 = 2 := rfl
theorem n27 : nI 27 = 27 := rfl
theorem n4 : nI 4 = 4 := rfl
theorem lt_c {j : Nat} (h : ¬ (24 : Int32) ≤ nI j) (hj : j < 2 ^ 31) : j < 24 := Nat.not_le.mp (fun q => h ((nI_leI (a := 24) (b := j) (by decide) hj).mpr q))
theorem ge_c {j : Nat} (h : (24 : Int32) ≤ nI j) (hj : j < 2 ^ 31) : 24 ≤ j := (nI_leI (a := 24) (b := j) (by decide) hj).mp h
theorem lt_c40 {j : Nat} (h : ¬ (40 : Int32) ≤ nI j) (hj : j < 2 ^ 31) : j < 40 := Nat.not_le.mp (fun q => h ((nI_leI (a := 40) (b := j) (by decide) hj).mpr q))
theorem ge_c40 {j : Nat} (h : (40 : Int32) ≤ nI j) (hj : j < 2 ^ 31) : 40 ≤ j := (nI_leI (a := 40) (b := j) (by decide) hj).mp h
theorem m_fw_lt {τ : Sg} {what target : Int32} : ∀ (n j : Nat) (a : Option Nat), n + j = 24 → (∀ b, a = some b → b < 24) → ∀ i, m_fw τ what target n j a = some i → i < 24 := by
  intro n
  induction n with
  | zero => intro j a _ ha i h; exact ha i h
  | succ n ih =>
    intro j a hn ha i h
    refine ih (j + 1) _ (by omega) ?_ i h
    intro b hb
    by_cases hc : m_fwc τ j what target = true
    · rw [if_pos hc] at hb
      cases a with
      | none => cases hb; omega
      | some d =>
        unfold m_sel at hb
        dsimp only at hb
        by_cases hd : τ (d + 6) 16 ≤ τ (j + 6) 16
        · rw [if_pos hd] at hb; cases hb; exact ha _ rfl
        · rw [if_neg hd] at hb; cases hb; omega
    · rw [if_neg hc] at hb; exact ha b hb
theorem m_firstWaiting_lt {τ : Sg} {what target : Int32} {i : Nat} (h : m_firstWaiting τ what target = some i) : i < 24 := m_fw_lt 24 0 none rfl (fun b hb => by cases hb) i h

set_option maxHeartbeats 4000000 in
set_option maxRecDepth 100000 in
theorem c_X6_taskAt (l : Launch) (D : va_G) (cA : Nat → ClassId) (ad : Nat → Nat) (tr : List (ClassId × FieldType)) (rest : va_W) (sz : Nat) (τ : Sg) (x : Int32) : Met l yX6_taskAt wsX6_taskAt ({ frames := 0, cells := 0, slots := 0, locals := 0 }) (va_Pc [.ref (ad 0), .int x] (inW D (tyB cA ++ tr) (wB cA ad τ ++ rest) sz)) (va_Qq (fun (r : Option Nat) (_ : Unit) => r = (m_at x 24).map (fun a => ad (a + 6))) (fun _ : Unit => outW D (tyB cA ++ tr) (va_A (wB cA ad τ ++ rest) sz) (wB cA ad τ ++ rest)) (va_A (wB cA ad τ ++ rest) sz)) 0 0 (va_A (wB cA ad τ ++ rest) sz) := by
  refine Met.ofW (cc := cX6_taskAt) (maxL := 2) (ret := (some (.object "ScopeRow$Task"))) (by decide) rfl ?_
  intro p e s m args below meth c s₁ B hml hv
  obtain ⟨rfl, hsz, hP, hK, hD0⟩ := hv
  have hx := B.exec
  have hb := B.bytes
  have hr := B.returns
  have hts := atoms_spec (ws := wsX6_taskAt) B.pre
  have hown : s.vm.findClass RX6 = some m.cls := findClass_of_methodNamed B.named
  have hlocks := B.notSynchronized
  subst hsz
  have hD := hD0.self (sz := s.heap.size)
  clear hD0
  generalize hAe : va_A (wB cA ad τ ++ rest) s.heap.size = A at hD ⊢
  have hA : ∀ q : Nat, s.heap.size ≤ q → A q := fun q h => by rw [← hAe]; exact Or.inr h
  clear hAe
  have hS : va_S A s.heap s.heap [] := va_S.rf
  have hP : va_P D vwCl (wB cA ad τ ++ rest) s.heap := hP
  have hl := lv_entry ([.ref (ad 0), .int x]) (n := 2) (Nat.le_of_ble_eq_true rfl)
  rw [lg_entry_eq]
  generalize (lg_sl ([.ref (ad 0), .int x]) ++ List.replicate (2 - (lg_sl ([.ref (ad 0), .int x])).length) Slot.unset).toArray = ls at hl ⊢
  have hl : lv_has ls 2 [(0, .ref (ad 0)), (1, .int x)] := hl
  have nX6 : ∀ w ∈ u_ws RX6 TX6 12, w ∈ wsX6_taskAt := by decide +kernel
  have k11 := hts (.fieldLink RX6 11 "ScopeRow$State" "tasks" "[LScopeRow$Task;") (by decide +kernel)
  refine lv_iload_n hx hb dX6_taskAt_0 rfl (lv_at hl 1 rfl) ?_
  refine lv_if_lt (tgt := 22) hx hb dX6_taskAt_1 (by decide) (fun c_1_1 => ?_) (fun c_1_1 => ?_)
  -- 1 jumps
  · skip
    refine lv_null hx hb dX6_taskAt_22 ?_
    exact x_aret hx hb hr hlocks hK none rfl () hP hD hS dX6_taskAt_23 (by simp [m_at, n24, n40, n2, n27, n4, eq_true c_1_1])
  -- 1 goes on
  · skip
    refine lv_iload_n hx hb dX6_taskAt_4 rfl (lv_at hl 1 rfl) ?_
    refine lv_aload_n hx hb dX6_taskAt_5 rfl (lv_at hl 0 rfl) ?_
    refine va_get (D := D) (C := RX6) (T := TX6) (N := 12) (ci := 6) (v := .ref (ad 1)) hx hb hts nX6 hown hK hP 0 w_st rfl 0 (by decide) k11 (fun _ h9 => h9) rfl dX6_taskAt_6 ?_
    refine va_alen (v := 24) hx hb hK hP 1 1 w_a1 rfl rfl dX6_taskAt_9 ?_
    refine lv_icmp_ge (tgt := 22) hx hb dX6_taskAt_10 (by decide) (fun c_10_2 => ?_) (fun c_10_2 => ?_)
    -- 10 jumps
    · skip
      refine lv_null hx hb dX6_taskAt_22 ?_
      exact x_aret hx hb hr hlocks hK none rfl () hP hD hS dX6_taskAt_23 (by simp [m_at, n24, n40, n2, n27, n4, c_1_1, eq_true c_10_2])
    -- 10 goes on
    · skip
      refine lv_aload_n hx hb dX6_taskAt_13 rfl (lv_at hl 0 rfl) ?_
      refine va_get (D := D) (C := RX6) (T := TX6) (N := 12) (ci := 6) (v := .ref (ad 1)) hx hb hts nX6 hown hK hP 0 w_st rfl 0 (by decide) k11 (fun _ h9 => h9) rfl dX6_taskAt_14 ?_
      refine lv_iload_n hx hb dX6_taskAt_17 rfl (lv_at hl 1 rfl) ?_
      refine l_a1 hx hb hK hP (j := x.toNatClampNeg) rfl (in_of c_1_1 c_10_2 (by decide)) dX6_taskAt_18 ?_
      refine lv_goto (tgt := 23) hx hb dX6_taskAt_19 (by decide) ?_
      exact x_aret hx hb hr hlocks hK (some (ad (x.toNatClampNeg + 6))) rfl () hP hD hS dX6_taskAt_23 (by simp [m_at, n24, n40, n2, n27, n4, c_1_1, c_10_2])

set_option maxHeartbeats 4000000 in
set_option maxRecDepth 100000 in
theorem c_X7_isOver (l : Launch) (D : va_G) (cA : Nat → ClassId) (ad : Nat → Nat) (tr : List (ClassId × FieldType)) (rest : va_W) (sz : Nat) (τ : Sg) (i : Nat) (hi : i < 24) : Met l yX7_isOver wsX7_isOver ({ frames := 0, cells := 0, slots := 0, locals := 0 }) (va_Pc [.ref (ad (i + 6))] (inW D (tyB cA ++ tr) (wB cA ad τ ++ rest) sz)) (va_Qi (fun (r : Int32) (_ : Unit) => r = bI (m_isOver τ i)) (fun _ : Unit => outW D (tyB cA ++ tr) (va_A (wB cA ad τ ++ rest) sz) (wB cA ad τ ++ rest)) (va_A (wB cA ad τ ++ rest) sz)) 0 0 (va_A (wB cA ad τ ++ rest) sz) := by
  refine Met.ofW (cc := cX7_isOver) (maxL := 1) (ret := (some .boolean)) (by decide) rfl ?_
  intro p e s m args below meth c s₁ B hml hv
  obtain ⟨rfl, hsz, hP, hK, hD0⟩ := hv
  have hx := B.exec
  have hb := B.bytes
  have hr := B.returns
  have hts := atoms_spec (ws := wsX7_isOver) B.pre
  have hown : s.vm.findClass RX7 = some m.cls := findClass_of_methodNamed B.named
  have hlocks := B.notSynchronized
  subst hsz
  have hD := hD0.self (sz := s.heap.size)
  clear hD0
  generalize hAe : va_A (wB cA ad τ ++ rest) s.heap.size = A at hD ⊢
  have hA : ∀ q : Nat, s.heap.size ≤ q → A q := fun q h => by rw [← hAe]; exact Or.inr h
  clear hAe
  have hS : va_S A s.heap s.heap [] := va_S.rf
  have hP : va_P D vwCl (wB cA ad τ ++ rest) s.heap := hP
  have hl := lv_entry ([.ref (ad (i + 6))]) (n := 1) (Nat.le_of_ble_eq_true rfl)
  rw [lg_entry_eq]
  generalize (lg_sl ([.ref (ad (i + 6))]) ++ List.replicate (1 - (lg_sl ([.ref (ad (i + 6))])).length) Slot.unset).toArray = ls at hl ⊢
  have hl : lv_has ls 1 [(0, .ref (ad (i + 6)))] := hl
  have nX7 : ∀ w ∈ u_ws RX7 TX7 17, w ∈ wsX7_isOver := by decide +kernel
  have k15 := hts (.fieldLink RX7 15 "ScopeRow$Task" "state" "I") (by decide +kernel)
  refine lv_aload_n hx hb dX7_isOver_0 rfl (lv_at hl 0 rfl) ?_
  refine va_get (D := D) (C := RX7) (T := TX7) (N := 17) (ci := 7) (v := .int (τ (i + 6) 3)) hx hb hts nX7 hown hK hP (i + 6) (w_tk hi) rfl 3 (by decide) k15 (fun _ h9 => h9) rfl dX7_isOver_1 ?_
  refine lv_iconst (v := 2) hx hb dX7_isOver_4 (by decide) ?_
  refine lv_icmp_eq (tgt := 24) hx hb dX7_isOver_5 (by decide) (fun c_5_1 => ?_) (fun c_5_1 => ?_)
  -- 5 jumps
  · skip
    refine lv_iconst (v := 1) hx hb dX7_isOver_24 (by decide) ?_
    refine lv_goto (tgt := 29) hx hb dX7_isOver_25 (by decide) ?_
    exact x_zret hx hb hr rfl hlocks hK () hP hD hS dX7_isOver_29 (by simp [m_isOver, bI, n24, n40, n2, n27, n4, eq_true c_5_1])
  -- 5 goes on
  · skip
    refine lv_aload_n hx hb dX7_isOver_8 rfl (lv_at hl 0 rfl) ?_
    refine va_get (D := D) (C := RX7) (T := TX7) (N := 17) (ci := 7) (v := .int (τ (i + 6) 3)) hx hb hts nX7 hown hK hP (i + 6) (w_tk hi) rfl 3 (by decide) k15 (fun _ h9 => h9) rfl dX7_isOver_9 ?_
    refine lv_iconst (v := 3) hx hb dX7_isOver_12 (by decide) ?_
    refine lv_icmp_eq (tgt := 24) hx hb dX7_isOver_13 (by decide) (fun c_13_2 => ?_) (fun c_13_2 => ?_)
    -- 13 jumps
    · skip
      refine lv_iconst (v := 1) hx hb dX7_isOver_24 (by decide) ?_
      refine lv_goto (tgt := 29) hx hb dX7_isOver_25 (by decide) ?_
      exact x_zret hx hb hr rfl hlocks hK () hP hD hS dX7_isOver_29 (by simp [m_isOver, bI, n24, n40, n2, n27, n4, c_5_1, eq_true c_13_2])
    -- 13 goes on
    · skip
      refine lv_aload_n hx hb dX7_isOver_16 rfl (lv_at hl 0 rfl) ?_
      refine va_get (D := D) (C := RX7) (T := TX7) (N := 17) (ci := 7) (v := .int (τ (i + 6) 3)) hx hb hts nX7 hown hK hP (i + 6) (w_tk hi) rfl 3 (by decide) k15 (fun _ h9 => h9) rfl dX7_isOver_17 ?_
      refine lv_iconst (v := 4) hx hb dX7_isOver_20 (by decide) ?_
      refine lv_icmp_ne (tgt := 28) hx hb dX7_isOver_21 (by decide) (fun c_21_3 => ?_) (fun c_21_3 => ?_)
      -- 21 jumps
      · skip
        refine lv_iconst (v := 0) hx hb dX7_isOver_28 (by decide) ?_
        exact x_zret hx hb hr rfl hlocks hK () hP hD hS dX7_isOver_29 (by simp [m_isOver, bI, n24, n40, n2, n27, n4, c_5_1, c_13_2, c_21_3])
      -- 21 goes on
      · skip
        refine lv_iconst (v := 1) hx hb dX7_isOver_24 (by decide) ?_
        refine lv_goto (tgt := 29) hx hb dX7_isOver_25 (by decide) ?_
        exact x_zret hx hb hr rfl hlocks hK () hP hD hS dX7_isOver_29 (by simp [m_isOver, bI, n24, n40, n2, n27, n4, c_5_1, c_13_2, eq_true c_21_3])

set_option maxHeartbeats 4000000 in
set_option maxRecDepth 100000 in
theorem c_X7_waitsAt (l : Launch) (D : va_G) (cA : Nat → ClassId) (ad : Nat → Nat) (tr : List (ClassId × FieldType)) (rest : va_W) (sz : Nat) (τ : Sg) (i : Nat) (hi : i < 24) (what : Int32) : Met l yX7_waitsAt wsX7_waitsAt ({ frames := 0, cells := 0, slots := 0, locals := 0 }) (va_Pc [.ref (ad (i + 6)), .int what] (inW D (tyB cA ++ tr) (wB cA ad τ ++ rest) sz)) (va_Qi (fun (r : Int32) (_ : Unit) => r = bI (m_waitsAt τ i what)) (fun _ : Unit => outW D (tyB cA ++ tr) (va_A (wB cA ad τ ++ rest) sz) (wB cA ad τ ++ rest)) (va_A (wB cA ad τ ++ rest) sz)) 0 0 (va_A (wB cA ad τ ++ rest) sz) := by
  refine Met.ofW (cc := cX7_waitsAt) (maxL := 2) (ret := (some .boolean)) (by decide) rfl ?_
  intro p e s m args below meth c s₁ B hml hv
  obtain ⟨rfl, hsz, hP, hK, hD0⟩ := hv
  have hx := B.exec
  have hb := B.bytes
  have hr := B.returns
  have hts := atoms_spec (ws := wsX7_waitsAt) B.pre
  have hown : s.vm.findClass RX7 = some m.cls := findClass_of_methodNamed B.named
  have hlocks := B.notSynchronized
  subst hsz
  have hD := hD0.self (sz := s.heap.size)
  clear hD0
  generalize hAe : va_A (wB cA ad τ ++ rest) s.heap.size = A at hD ⊢
  have hA : ∀ q : Nat, s.heap.size ≤ q → A q := fun q h => by rw [← hAe]; exact Or.inr h
  clear hAe
  have hS : va_S A s.heap s.heap [] := va_S.rf
  have hP : va_P D vwCl (wB cA ad τ ++ rest) s.heap := hP
  have hl := lv_entry ([.ref (ad (i + 6)), .int what]) (n := 2) (Nat.le_of_ble_eq_true rfl)
  rw [lg_entry_eq]
  generalize (lg_sl ([.ref (ad (i + 6)), .int what]) ++ List.replicate (2 - (lg_sl ([.ref (ad (i + 6)), .int what])).length) Slot.unset).toArray = ls at hl ⊢
  have hl : lv_has ls 2 [(0, .ref (ad (i + 6))), (1, .int what)] := hl
  have nX7 : ∀ w ∈ u_ws RX7 TX7 17, w ∈ wsX7_waitsAt := by decide +kernel
  have k15 := hts (.fieldLink RX7 15 "ScopeRow$Task" "state" "I") (by decide +kernel)
  have k28 := hts (.fieldLink RX7 28 "ScopeRow$Task" "behind" "I") (by decide +kernel)
  refine lv_aload_n hx hb dX7_waitsAt_0 rfl (lv_at hl 0 rfl) ?_
  refine va_get (D := D) (C := RX7) (T := TX7) (N := 17) (ci := 7) (v := .int (τ (i + 6) 3)) hx hb hts nX7 hown hK hP (i + 6) (w_tk hi) rfl 3 (by decide) k15 (fun _ h9 => h9) rfl dX7_waitsAt_1 ?_
  refine lv_iconst (v := 1) hx hb dX7_waitsAt_4 (by decide) ?_
  refine lv_icmp_ne (tgt := 20) hx hb dX7_waitsAt_5 (by decide) (fun c_5_1 => ?_) (fun c_5_1 => ?_)
  -- 5 jumps
  · skip
    refine lv_iconst (v := 0) hx hb dX7_waitsAt_20 (by decide) ?_
    exact x_zret hx hb hr rfl hlocks hK () hP hD hS dX7_waitsAt_21 (by simp [m_waitsAt, bI, n24, n40, n2, n27, n4, c_5_1])
  -- 5 goes on
  · skip
    refine lv_aload_n hx hb dX7_waitsAt_8 rfl (lv_at hl 0 rfl) ?_
    refine va_get (D := D) (C := RX7) (T := TX7) (N := 17) (ci := 7) (v := .int (τ (i + 6) 9)) hx hb hts nX7 hown hK hP (i + 6) (w_tk hi) rfl 9 (by decide) k28 (fun _ h9 => h9) rfl dX7_waitsAt_9 ?_
    refine lv_iload_n hx hb dX7_waitsAt_12 rfl (lv_at hl 1 rfl) ?_
    refine lv_icmp_ne (tgt := 20) hx hb dX7_waitsAt_13 (by decide) (fun c_13_2 => ?_) (fun c_13_2 => ?_)
    -- 13 jumps
    · skip
      refine lv_iconst (v := 0) hx hb dX7_waitsAt_20 (by decide) ?_
      exact x_zret hx hb hr rfl hlocks hK () hP hD hS dX7_waitsAt_21 (by simp [m_waitsAt, bI, n24, n40, n2, n27, n4, eq_true c_5_1, c_13_2])
    -- 13 goes on
    · skip
      refine lv_iconst (v := 1) hx hb dX7_waitsAt_16 (by decide) ?_
      refine lv_goto (tgt := 21) hx hb dX7_waitsAt_17 (by decide) ?_
      exact x_zret hx hb hr rfl hlocks hK () hP hD hS dX7_waitsAt_21 (by simp [m_waitsAt, bI, n24, n40, n2, n27, n4, eq_true c_5_1, eq_true c_13_2])

set_option maxHeartbeats 4000000 in
set_option maxRecDepth 100000 in
theorem c_X7_localAt (l : Launch) (D : va_G) (cA : Nat → ClassId) (ad : Nat → Nat) (tr : List (ClassId × FieldType)) (rest : va_W) (sz : Nat) (τ : Sg) (i : Nat) (hi : i < 24) (x : Int32) : Met l yX7_localAt wsX7_localAt ({ frames := 0, cells := 0, slots := 0, locals := 0 }) (va_Pc [.ref (ad (i + 6)), .int x] (inW D (tyB cA ++ tr) (wB cA ad τ ++ rest) sz)) (va_Qi (fun (r : Int32) (_ : Unit) => r = m_localAt τ i x) (fun _ : Unit => outW D (tyB cA ++ tr) (va_A (wB cA ad τ ++ rest) sz) (wB cA ad τ ++ rest)) (va_A (wB cA ad τ ++ rest) sz)) 0 0 (va_A (wB cA ad τ ++ rest) sz) := by
  refine Met.ofW (cc := cX7_localAt) (maxL := 2) (ret := (some .int)) (by decide) rfl ?_
  intro p e s m args below meth c s₁ B hml hv
  obtain ⟨rfl, hsz, hP, hK, hD0⟩ := hv
  have hx := B.exec
  have hb := B.bytes
  have hr := B.returns
  have hts := atoms_spec (ws := wsX7_localAt) B.pre
  have hown : s.vm.findClass RX7 = some m.cls := findClass_of_methodNamed B.named
  have hlocks := B.notSynchronized
  subst hsz
  have hD := hD0.self (sz := s.heap.size)
  clear hD0
  generalize hAe : va_A (wB cA ad τ ++ rest) s.heap.size = A at hD ⊢
  have hA : ∀ q : Nat, s.heap.size ≤ q → A q := fun q h => by rw [← hAe]; exact Or.inr h
  clear hAe
  have hS : va_S A s.heap s.heap [] := va_S.rf
  have hP : va_P D vwCl (wB cA ad τ ++ rest) s.heap := hP
  have hl := lv_entry ([.ref (ad (i + 6)), .int x]) (n := 2) (Nat.le_of_ble_eq_true rfl)
  rw [lg_entry_eq]
  generalize (lg_sl ([.ref (ad (i + 6)), .int x]) ++ List.replicate (2 - (lg_sl ([.ref (ad (i + 6)), .int x])).length) Slot.unset).toArray = ls at hl ⊢
  have hl : lv_has ls 2 [(0, .ref (ad (i + 6))), (1, .int x)] := hl
  have nX7 : ∀ w ∈ u_ws RX7 TX7 17, w ∈ wsX7_localAt := by decide +kernel
  have k9 := hts (.fieldLink RX7 9 "ScopeRow$Task" "locals" "[I") (by decide +kernel)
  refine lv_iload_n hx hb dX7_localAt_0 rfl (lv_at hl 1 rfl) ?_
  refine lv_if_lt (tgt := 22) hx hb dX7_localAt_1 (by decide) (fun c_1_1 => ?_) (fun c_1_1 => ?_)
  -- 1 jumps
  · skip
    refine lv_iconst (v := 0) hx hb dX7_localAt_22 (by decide) ?_
    exact x_iret hx hb hr hlocks hK () hP hD hS dX7_localAt_23 (by simp [m_localAt, n24, n40, n2, n27, n4, eq_true c_1_1])
  -- 1 goes on
  · skip
    refine lv_iload_n hx hb dX7_localAt_4 rfl (lv_at hl 1 rfl) ?_
    refine lv_aload_n hx hb dX7_localAt_5 rfl (lv_at hl 0 rfl) ?_
    refine va_get (D := D) (C := RX7) (T := TX7) (N := 17) (ci := 7) (v := .ref (ad (i + 30))) hx hb hts nX7 hown hK hP (i + 6) (w_tk hi) rfl 1 (by decide) k9 (fun _ h9 => h9) rfl dX7_localAt_6 ?_
    refine va_alen (v := 4) hx hb hK hP (i + 30) 0 (w_lo hi) rfl rfl dX7_localAt_9 ?_
    refine lv_icmp_ge (tgt := 22) hx hb dX7_localAt_10 (by decide) (fun c_10_2 => ?_) (fun c_10_2 => ?_)
    -- 10 jumps
    · skip
      refine lv_iconst (v := 0) hx hb dX7_localAt_22 (by decide) ?_
      exact x_iret hx hb hr hlocks hK () hP hD hS dX7_localAt_23 (by simp [m_localAt, n24, n40, n2, n27, n4, c_1_1, eq_true c_10_2])
    -- 10 goes on
    · skip
      refine lv_aload_n hx hb dX7_localAt_13 rfl (lv_at hl 0 rfl) ?_
      refine va_get (D := D) (C := RX7) (T := TX7) (N := 17) (ci := 7) (v := .ref (ad (i + 30))) hx hb hts nX7 hown hK hP (i + 6) (w_tk hi) rfl 1 (by decide) k9 (fun _ h9 => h9) rfl dX7_localAt_14 ?_
      refine lv_iload_n hx hb dX7_localAt_17 rfl (lv_at hl 1 rfl) ?_
      refine l_lo hx hb hK hP hi (j := x.toNatClampNeg) rfl (in_of c_1_1 c_10_2 (by decide)) dX7_localAt_18 ?_
      refine lv_goto (tgt := 23) hx hb dX7_localAt_19 (by decide) ?_
      exact x_iret hx hb hr hlocks hK () hP hD hS dX7_localAt_23 (by simp [m_localAt, n24, n40, n2, n27, n4, c_1_1, c_10_2])

set_option maxHeartbeats 4000000 in
set_option maxRecDepth 100000 in
theorem c_X7_putLocal (l : Launch) (D : va_G) (cA : Nat → ClassId) (ad : Nat → Nat) (tr : List (ClassId × FieldType)) (rest : va_W) (sz : Nat) (τ : Sg) (i : Nat) (hi : i < 24) (x v : Int32) : Met l yX7_putLocal wsX7_putLocal ({ frames := 0, cells := 0, slots := 0, locals := 0 }) (va_Pc [.ref (ad (i + 6)), .int x, .int v] (inW D (tyB cA ++ tr) (wB cA ad τ ++ rest) sz)) (va_Qv (fun u : Sg => u = m_putLocal τ i x v) (fun u : Sg => outW D (tyB cA ++ tr) (va_A (wB cA ad τ ++ rest) sz) (wB cA ad u ++ rest)) (va_A (wB cA ad τ ++ rest) sz)) 0 0 (va_A (wB cA ad τ ++ rest) sz) := by
  refine Met.ofW (cc := cX7_putLocal) (maxL := 3) (ret := none) (by decide) rfl ?_
  intro p e s m args below meth c s₁ B hml hv
  obtain ⟨rfl, hsz, hP, hK, hD0⟩ := hv
  have hx := B.exec
  have hb := B.bytes
  have hr := B.returns
  have hts := atoms_spec (ws := wsX7_putLocal) B.pre
  have hown : s.vm.findClass RX7 = some m.cls := findClass_of_methodNamed B.named
  have hlocks := B.notSynchronized
  subst hsz
  have hD := hD0.self (sz := s.heap.size)
  clear hD0
  generalize hAe : va_A (wB cA ad τ ++ rest) s.heap.size = A at hD ⊢
  have hA : ∀ q : Nat, s.heap.size ≤ q → A q := fun q h => by rw [← hAe]; exact Or.inr h
  clear hAe
  have hS : va_S A s.heap s.heap [] := va_S.rf
  have hP : va_P D vwCl (wB cA ad τ ++ rest) s.heap := hP
  have hl := lv_entry ([.ref (ad (i + 6)), .int x, .int v]) (n := 3) (Nat.le_of_ble_eq_true rfl)
  rw [lg_entry_eq]
  generalize (lg_sl ([.ref (ad (i + 6)), .int x, .int v]) ++ List.replicate (3 - (lg_sl ([.ref (ad (i + 6)), .int x, .int v])).length) Slot.unset).toArray = ls at hl ⊢
  have hl : lv_has ls 3 [(0, .ref (ad (i + 6))), (1, .int x), (2, .int v)] := hl
  have nX7 : ∀ w ∈ u_ws RX7 TX7 17, w ∈ wsX7_putLocal := by decide +kernel
  have k9 := hts (.fieldLink RX7 9 "ScopeRow$Task" "locals" "[I") (by decide +kernel)
  refine lv_iload_n hx hb dX7_putLocal_0 rfl (lv_at hl 1 rfl) ?_
  refine lv_if_lt (tgt := 20) hx hb dX7_putLocal_1 (by decide) (fun c_1_1 => ?_) (fun c_1_1 => ?_)
  -- 1 jumps
  · skip
    exact x_vret hx hb hr hlocks hK τ hP hD hS dX7_putLocal_20 (by simp [m_putLocal, n24, n40, n2, n27, n4, eq_true c_1_1])
  -- 1 goes on
  · skip
    refine lv_iload_n hx hb dX7_putLocal_4 rfl (lv_at hl 1 rfl) ?_
    refine lv_aload_n hx hb dX7_putLocal_5 rfl (lv_at hl 0 rfl) ?_
    refine va_get (D := D) (C := RX7) (T := TX7) (N := 17) (ci := 7) (v := .ref (ad (i + 30))) hx hb hts nX7 hown hK hP (i + 6) (w_tk hi) rfl 1 (by decide) k9 (fun _ h9 => h9) rfl dX7_putLocal_6 ?_
    refine va_alen (v := 4) hx hb hK hP (i + 30) 0 (w_lo hi) rfl rfl dX7_putLocal_9 ?_
    refine lv_icmp_ge (tgt := 20) hx hb dX7_putLocal_10 (by decide) (fun c_10_2 => ?_) (fun c_10_2 => ?_)
    -- 10 jumps
    · skip
      exact x_vret hx hb hr hlocks hK τ hP hD hS dX7_putLocal_20 (by simp [m_putLocal, n24, n40, n2, n27, n4, c_1_1, eq_true c_10_2])
    -- 10 goes on
    · skip
      refine lv_aload_n hx hb dX7_putLocal_13 rfl (lv_at hl 0 rfl) ?_
      refine va_get (D := D) (C := RX7) (T := TX7) (N := 17) (ci := 7) (v := .ref (ad (i + 30))) hx hb hts nX7 hown hK hP (i + 6) (w_tk hi) rfl 1 (by decide) k9 (fun _ h9 => h9) rfl dX7_putLocal_14 ?_
      refine lv_iload_n hx hb dX7_putLocal_17 rfl (lv_at hl 1 rfl) ?_
      refine lv_iload_n hx hb dX7_putLocal_18 rfl (lv_at hl 2 rfl) ?_
      refine p_lo hx hb hK hP hD hS hi (j := x.toNatClampNeg) rfl (in_of c_1_1 c_10_2 (by decide)) dX7_putLocal_19 (fun τ3 H locs eτ3 hP hD hS => ?_)
      exact x_vret hx hb hr hlocks hK τ3 hP hD hS dX7_putLocal_20 (by subst eτ3; simp [m_putLocal, n24, n40, n2, n27, n4, c_1_1, c_10_2])

set_option maxHeartbeats 4000000 in
set_option maxRecDepth 100000 in
theorem c_X5_isLive (l : Launch) (D : va_G) (cA : Nat → ClassId) (ad : Nat → Nat) (tr : List (ClassId × FieldType)) (rest : va_W) (sz : Nat) (τ : Sg) (i : Nat) (hi : i < 40) : Met l yX5_isLive wsX5_isLive ({ frames := 0, cells := 0, slots := 0, locals := 0 }) (va_Pc [.ref (ad (i + 54))] (inW D (tyB cA ++ tr) (wB cA ad τ ++ rest) sz)) (va_Qi (fun (r : Int32) (_ : Unit) => r = bI (m_isLive τ i)) (fun _ : Unit => outW D (tyB cA ++ tr) (va_A (wB cA ad τ ++ rest) sz) (wB cA ad τ ++ rest)) (va_A (wB cA ad τ ++ rest) sz)) 0 0 (va_A (wB cA ad τ ++ rest) sz) := by
  refine Met.ofW (cc := cX5_isLive) (maxL := 1) (ret := (some .boolean)) (by decide) rfl ?_
  intro p e s m args below meth c s₁ B hml hv
  obtain ⟨rfl, hsz, hP, hK, hD0⟩ := hv
  have hx := B.exec
  have hb := B.bytes
  have hr := B.returns
  have hts := atoms_spec (ws := wsX5_isLive) B.pre
  have hown : s.vm.findClass RX5 = some m.cls := findClass_of_methodNamed B.named
  have hlocks := B.notSynchronized
  subst hsz
  have hD := hD0.self (sz := s.heap.size)
  clear hD0
  generalize hAe : va_A (wB cA ad τ ++ rest) s.heap.size = A at hD ⊢
  have hA : ∀ q : Nat, s.heap.size ≤ q → A q := fun q h => by rw [← hAe]; exact Or.inr h
  clear hAe
  have hS : va_S A s.heap s.heap [] := va_S.rf
  have hP : va_P D vwCl (wB cA ad τ ++ rest) s.heap := hP
  have hl := lv_entry ([.ref (ad (i + 54))]) (n := 1) (Nat.le_of_ble_eq_true rfl)
  rw [lg_entry_eq]
  generalize (lg_sl ([.ref (ad (i + 54))]) ++ List.replicate (1 - (lg_sl ([.ref (ad (i + 54))])).length) Slot.unset).toArray = ls at hl ⊢
  have hl : lv_has ls 1 [(0, .ref (ad (i + 54)))] := hl
  have nX5 : ∀ w ∈ u_ws RX5 TX5 14, w ∈ wsX5_isLive := by decide +kernel
  have k9 := hts (.fieldLink RX5 9 "ScopeRow$Scope" "state" "I") (by decide +kernel)
  refine lv_aload_n hx hb dX5_isLive_0 rfl (lv_at hl 0 rfl) ?_
  refine va_get (D := D) (C := RX5) (T := TX5) (N := 14) (ci := 5) (v := .int (τ (i + 54) 1)) hx hb hts nX5 hown hK hP (i + 54) (w_sc hi) rfl 1 (by decide) k9 (fun _ h9 => h9) rfl dX5_isLive_1 ?_
  refine lv_if_eq (tgt := 15) hx hb dX5_isLive_4 (by decide) (fun c_4_1 => ?_) (fun c_4_1 => ?_)
  -- 4 jumps
  · skip
    refine lv_iconst (v := 1) hx hb dX5_isLive_15 (by decide) ?_
    refine lv_goto (tgt := 20) hx hb dX5_isLive_16 (by decide) ?_
    exact x_zret hx hb hr rfl hlocks hK () hP hD hS dX5_isLive_20 (by simp [m_isLive, bI, n24, n40, n2, n27, n4, eq_true c_4_1])
  -- 4 goes on
  · skip
    refine lv_aload_n hx hb dX5_isLive_7 rfl (lv_at hl 0 rfl) ?_
    refine va_get (D := D) (C := RX5) (T := TX5) (N := 14) (ci := 5) (v := .int (τ (i + 54) 1)) hx hb hts nX5 hown hK hP (i + 54) (w_sc hi) rfl 1 (by decide) k9 (fun _ h9 => h9) rfl dX5_isLive_8 ?_
    refine lv_iconst (v := 1) hx hb dX5_isLive_11 (by decide) ?_
    refine lv_icmp_ne (tgt := 19) hx hb dX5_isLive_12 (by decide) (fun c_12_2 => ?_) (fun c_12_2 => ?_)
    -- 12 jumps
    · skip
      refine lv_iconst (v := 0) hx hb dX5_isLive_19 (by decide) ?_
      exact x_zret hx hb hr rfl hlocks hK () hP hD hS dX5_isLive_20 (by simp [m_isLive, bI, n24, n40, n2, n27, n4, c_4_1, c_12_2])
    -- 12 goes on
    · skip
      refine lv_iconst (v := 1) hx hb dX5_isLive_15 (by decide) ?_
      refine lv_goto (tgt := 20) hx hb dX5_isLive_16 (by decide) ?_
      exact x_zret hx hb hr rfl hlocks hK () hP hD hS dX5_isLive_20 (by simp [m_isLive, bI, n24, n40, n2, n27, n4, c_4_1, eq_true c_12_2])

set_option maxHeartbeats 4000000 in
set_option maxRecDepth 100000 in
theorem c_X5_begin (l : Launch) (D : va_G) (cA : Nat → ClassId) (ad : Nat → Nat) (tr : List (ClassId × FieldType)) (rest : va_W) (sz : Nat) (τ : Sg) (i : Nat) (hi : i < 40) (t : Nat) (ht : t < 24) (b dl ln : Int32) (hb01 : b = 0 ∨ b = 1) : Met l yX5_begin wsX5_begin ({ frames := 0, cells := 0, slots := 0, locals := 0 }) (va_Pc [.ref (ad (i + 54)), .ref (ad (t + 6)), .int b, .int dl, .int ln] (inW D (tyB cA ++ tr) (wB cA ad τ ++ rest) sz)) (va_Qv (fun u : Sg => u = m_begin τ i t b dl ln) (fun u : Sg => outW D (tyB cA ++ tr) (va_A (wB cA ad τ ++ rest) sz) (wB cA ad u ++ rest)) (va_A (wB cA ad τ ++ rest) sz)) 0 0 (va_A (wB cA ad τ ++ rest) sz) := by
  refine Met.ofW (cc := cX5_begin) (maxL := 5) (ret := none) (by decide) rfl ?_
  intro p e s m args below meth c s₁ B hml hv
  obtain ⟨rfl, hsz, hP, hK, hD0⟩ := hv
  have hx := B.exec
  have hb := B.bytes
  have hr := B.returns
  have hts := atoms_spec (ws := wsX5_begin) B.pre
  have hown : s.vm.findClass RX5 = some m.cls := findClass_of_methodNamed B.named
  have hlocks := B.notSynchronized
  subst hsz
  have hD := hD0.self (sz := s.heap.size)
  clear hD0
  generalize hAe : va_A (wB cA ad τ ++ rest) s.heap.size = A at hD ⊢
  have hA : ∀ q : Nat, s.heap.size ≤ q → A q := fun q h => by rw [← hAe]; exact Or.inr h
  clear hAe
  have hS : va_S A s.heap s.heap [] := va_S.rf
  have hP : va_P D vwCl (wB cA ad τ ++ rest) s.heap := hP
  have hl := lv_entry ([.ref (ad (i + 54)), .ref (ad (t + 6)), .int b, .int dl, .int ln]) (n := 5) (Nat.le_of_ble_eq_true rfl)
  rw [lg_entry_eq]
  generalize (lg_sl ([.ref (ad (i + 54)), .ref (ad (t + 6)), .int b, .int dl, .int ln]) ++ List.replicate (5 - (lg_sl ([.ref (ad (i + 54)), .ref (ad (t + 6)), .int b, .int dl, .int ln])).length) Slot.unset).toArray = ls at hl ⊢
  have hl : lv_has ls 5 [(0, .ref (ad (i + 54))), (1, .ref (ad (t + 6))), (2, .int b), (3, .int dl), (4, .int ln)] := hl
  have nX5 : ∀ w ∈ u_ws RX5 TX5 14, w ∈ wsX5_begin := by decide +kernel
  have nX7 : ∀ w ∈ u_ws RX7 TX7 17, w ∈ wsX5_begin := by decide +kernel
  have k9 := hts (.fieldLink RX5 9 "ScopeRow$Scope" "state" "I") (by decide +kernel)
  have k21 := hts (.fieldLink RX5 21 "ScopeRow$Task" "number" "I") (by decide +kernel)
  have k24 := hts (.fieldLink RX5 24 "ScopeRow$Scope" "opener" "I") (by decide +kernel)
  have k27 := hts (.fieldLink RX5 27 "ScopeRow$Task" "top" "I") (by decide +kernel)
  have k30 := hts (.fieldLink RX5 30 "ScopeRow$Scope" "below" "I") (by decide +kernel)
  have k33 := hts (.fieldLink RX5 33 "ScopeRow$Task" "in" "I") (by decide +kernel)
  have k36 := hts (.fieldLink RX5 36 "ScopeRow$Scope" "outer" "I") (by decide +kernel)
  have k39 := hts (.fieldLink RX5 39 "ScopeRow$Scope" "shield" "Z") (by decide +kernel)
  have k43 := hts (.fieldLink RX5 43 "ScopeRow$Scope" "deadline" "I") (by decide +kernel)
  have k46 := hts (.fieldLink RX5 46 "ScopeRow$Scope" "goesOnAt" "I") (by decide +kernel)
  refine lv_aload_n hx hb dX5_begin_0 rfl (lv_at hl 0 rfl) ?_
  refine lv_iconst (v := 0) hx hb dX5_begin_1 (by decide) ?_
  refine p_sc hx hb hts nX5 hown hK hP hD hS hi 1 (by decide) (by decide) k9 (fun _ h9 => h9) rfl rfl rfl dX5_begin_2 (fun τ1 H locs eτ1 hP hD hS => ?_)
  refine lv_aload_n hx hb dX5_begin_5 rfl (lv_at hl 0 rfl) ?_
  refine lv_aload_n hx hb dX5_begin_6 rfl (lv_at hl 1 rfl) ?_
  refine va_get (D := D) (C := RX7) (T := TX7) (N := 17) (ci := 7) (v := .int (nI t)) hx hb hts nX7 hown hK hP (t + 6) (w_tk ht) rfl 0 (by decide) k21 (fun _ h9 => h9) rfl dX5_begin_7 ?_
  refine p_sc hx hb hts nX5 hown hK hP hD hS hi 2 (by decide) (by decide) k24 (fun _ h9 => h9) rfl rfl rfl dX5_begin_10 (fun τ2 H locs eτ2 hP hD hS => ?_)
  refine lv_aload_n hx hb dX5_begin_13 rfl (lv_at hl 0 rfl) ?_
  refine lv_aload_n hx hb dX5_begin_14 rfl (lv_at hl 1 rfl) ?_
  refine va_get (D := D) (C := RX7) (T := TX7) (N := 17) (ci := 7) (v := .int (τ2 (t + 6) 7)) hx hb hts nX7 hown hK hP (t + 6) (w_tk ht) rfl 7 (by decide) k27 (fun _ h9 => h9) rfl dX5_begin_15 ?_
  refine p_sc hx hb hts nX5 hown hK hP hD hS hi 3 (by decide) (by decide) k30 (fun _ h9 => h9) rfl rfl rfl dX5_begin_18 (fun τ3 H locs eτ3 hP hD hS => ?_)
  refine lv_aload_n hx hb dX5_begin_21 rfl (lv_at hl 0 rfl) ?_
  refine lv_aload_n hx hb dX5_begin_22 rfl (lv_at hl 1 rfl) ?_
  refine va_get (D := D) (C := RX7) (T := TX7) (N := 17) (ci := 7) (v := .int (τ3 (t + 6) 7)) hx hb hts nX7 hown hK hP (t + 6) (w_tk ht) rfl 7 (by decide) k27 (fun _ h9 => h9) rfl dX5_begin_23 ?_
  refine lv_iconst (v := (-1)) hx hb dX5_begin_26 (by decide) ?_
  refine lv_icmp_eq (tgt := 37) hx hb dX5_begin_27 (by decide) (fun c_27_4 => ?_) (fun c_27_4 => ?_)
  -- 27 jumps
  · skip
    refine lv_aload_n hx hb dX5_begin_37 rfl (lv_at hl 1 rfl) ?_
    refine va_get (D := D) (C := RX7) (T := TX7) (N := 17) (ci := 7) (v := .int (τ3 (t + 6) 6)) hx hb hts nX7 hown hK hP (t + 6) (w_tk ht) rfl 6 (by decide) k33 (fun _ h9 => h9) rfl dX5_begin_38 ?_
    refine p_sc hx hb hts nX5 hown hK hP hD hS hi 4 (by decide) (by decide) k36 (fun _ h9 => h9) rfl rfl rfl dX5_begin_41 (fun τ5 H locs eτ5 hP hD hS => ?_)
    refine lv_aload_n hx hb dX5_begin_44 rfl (lv_at hl 0 rfl) ?_
    refine lv_iload_n hx hb dX5_begin_45 rfl (lv_at hl 2 rfl) ?_
    refine p_sc hx hb hts nX5 hown hK hP hD hS hi 6 (by decide) (by decide) k39 (fun _ h9 => h9) rfl (by rcases hb01 with rfl | rfl <;> rfl) (by rcases hb01 with rfl | rfl <;> rfl) dX5_begin_46 (fun τ6 H locs eτ6 hP hD hS => ?_)
    refine lv_aload_n hx hb dX5_begin_49 rfl (lv_at hl 0 rfl) ?_
    refine lv_iload_n hx hb dX5_begin_50 rfl (lv_at hl 3 rfl) ?_
    refine p_sc hx hb hts nX5 hown hK hP hD hS hi 7 (by decide) (by decide) k43 (fun _ h9 => h9) rfl rfl rfl dX5_begin_51 (fun τ7 H locs eτ7 hP hD hS => ?_)
    refine lv_aload_n hx hb dX5_begin_54 rfl (lv_at hl 0 rfl) ?_
    refine lv_iload hx hb dX5_begin_55 (lv_at hl 4 rfl) ?_
    refine p_sc hx hb hts nX5 hown hK hP hD hS hi 8 (by decide) (by decide) k46 (fun _ h9 => h9) rfl rfl rfl dX5_begin_57 (fun τ8 H locs eτ8 hP hD hS => ?_)
    exact x_vret hx hb hr hlocks hK τ8 hP hD hS dX5_begin_60 (by subst eτ8 eτ7 eτ6 eτ5 eτ3 eτ2 eτ1; simp [m_begin, n24, n40, n2, n27, n4, eq_true c_27_4])
  -- 27 goes on
  · skip
    refine lv_aload_n hx hb dX5_begin_30 rfl (lv_at hl 1 rfl) ?_
    refine va_get (D := D) (C := RX7) (T := TX7) (N := 17) (ci := 7) (v := .int (τ3 (t + 6) 7)) hx hb hts nX7 hown hK hP (t + 6) (w_tk ht) rfl 7 (by decide) k27 (fun _ h9 => h9) rfl dX5_begin_31 ?_
    refine lv_goto (tgt := 41) hx hb dX5_begin_34 (by decide) ?_
    refine p_sc hx hb hts nX5 hown hK hP hD hS hi 4 (by decide) (by decide) k36 (fun _ h9 => h9) rfl rfl rfl dX5_begin_41 (fun τ9 H locs eτ9 hP hD hS => ?_)
    refine lv_aload_n hx hb dX5_begin_44 rfl (lv_at hl 0 rfl) ?_
    refine lv_iload_n hx hb dX5_begin_45 rfl (lv_at hl 2 rfl) ?_
    refine p_sc hx hb hts nX5 hown hK hP hD hS hi 6 (by decide) (by decide) k39 (fun _ h9 => h9) rfl (by rcases hb01 with rfl | rfl <;> rfl) (by rcases hb01 with rfl | rfl <;> rfl) dX5_begin_46 (fun τ10 H locs eτ10 hP hD hS => ?_)
    refine lv_aload_n hx hb dX5_begin_49 rfl (lv_at hl 0 rfl) ?_
    refine lv_iload_n hx hb dX5_begin_50 rfl (lv_at hl 3 rfl) ?_
    refine p_sc hx hb hts nX5 hown hK hP hD hS hi 7 (by decide) (by decide) k43 (fun _ h9 => h9) rfl rfl rfl dX5_begin_51 (fun τ11 H locs eτ11 hP hD hS => ?_)
    refine lv_aload_n hx hb dX5_begin_54 rfl (lv_at hl 0 rfl) ?_
    refine lv_iload hx hb dX5_begin_55 (lv_at hl 4 rfl) ?_
    refine p_sc hx hb hts nX5 hown hK hP hD hS hi 8 (by decide) (by decide) k46 (fun _ h9 => h9) rfl rfl rfl dX5_begin_57 (fun τ12 H locs eτ12 hP hD hS => ?_)
    exact x_vret hx hb hr hlocks hK τ12 hP hD hS dX5_begin_60 (by subst eτ12 eτ11 eτ10 eτ9 eτ3 eτ2 eτ1; simp [m_begin, n24, n40, n2, n27, n4, c_27_4])

set_option maxHeartbeats 4000000 in
set_option maxRecDepth 100000 in
theorem c_X2_giveTo (l : Launch) (D : va_G) (cA : Nat → ClassId) (ad : Nat → Nat) (tr : List (ClassId × FieldType)) (rest : va_W) (sz : Nat) (τ : Sg) (i : Nat) (hi : i < 2) (t : Nat) (ht : t < 24) : Met l yX2_giveTo wsX2_giveTo ({ frames := 0, cells := 0, slots := 0, locals := 0 }) (va_Pc [.ref (ad (i + 94)), .ref (ad (t + 6))] (inW D (tyB cA ++ tr) (wB cA ad τ ++ rest) sz)) (va_Qv (fun u : Sg => u = m_giveTo τ i t) (fun u : Sg => outW D (tyB cA ++ tr) (va_A (wB cA ad τ ++ rest) sz) (wB cA ad u ++ rest)) (va_A (wB cA ad τ ++ rest) sz)) 0 0 (va_A (wB cA ad τ ++ rest) sz) := by
  refine Met.ofW (cc := cX2_giveTo) (maxL := 2) (ret := none) (by decide) rfl ?_
  intro p e s m args below meth c s₁ B hml hv
  obtain ⟨rfl, hsz, hP, hK, hD0⟩ := hv
  have hx := B.exec
  have hb := B.bytes
  have hr := B.returns
  have hts := atoms_spec (ws := wsX2_giveTo) B.pre
  have hown : s.vm.findClass RX2 = some m.cls := findClass_of_methodNamed B.named
  have hlocks := B.notSynchronized
  subst hsz
  have hD := hD0.self (sz := s.heap.size)
  clear hD0
  generalize hAe : va_A (wB cA ad τ ++ rest) s.heap.size = A at hD ⊢
  have hA : ∀ q : Nat, s.heap.size ≤ q → A q := fun q h => by rw [← hAe]; exact Or.inr h
  clear hAe
  have hS : va_S A s.heap s.heap [] := va_S.rf
  have hP : va_P D vwCl (wB cA ad τ ++ rest) s.heap := hP
  have hl := lv_entry ([.ref (ad (i + 94)), .ref (ad (t + 6))]) (n := 2) (Nat.le_of_ble_eq_true rfl)
  rw [lg_entry_eq]
  generalize (lg_sl ([.ref (ad (i + 94)), .ref (ad (t + 6))]) ++ List.replicate (2 - (lg_sl ([.ref (ad (i + 94)), .ref (ad (t + 6))])).length) Slot.unset).toArray = ls at hl ⊢
  have hl : lv_has ls 2 [(0, .ref (ad (i + 94))), (1, .ref (ad (t + 6)))] := hl
  have nX2 : ∀ w ∈ u_ws RX2 TX2 3, w ∈ wsX2_giveTo := by decide +kernel
  have nX7 : ∀ w ∈ u_ws RX7 TX7 17, w ∈ wsX2_giveTo := by decide +kernel
  have k18 := hts (.fieldLink RX2 18 "ScopeRow$Task" "number" "I") (by decide +kernel)
  have k9 := hts (.fieldLink RX2 9 "ScopeRow$Lock" "holder" "I") (by decide +kernel)
  have k21 := hts (.fieldLink RX2 21 "ScopeRow$Lock" "heldEver" "I") (by decide +kernel)
  refine lv_aload_n hx hb dX2_giveTo_0 rfl (lv_at hl 0 rfl) ?_
  refine lv_aload_n hx hb dX2_giveTo_1 rfl (lv_at hl 1 rfl) ?_
  refine va_get (D := D) (C := RX7) (T := TX7) (N := 17) (ci := 7) (v := .int (nI t)) hx hb hts nX7 hown hK hP (t + 6) (w_tk ht) rfl 0 (by decide) k18 (fun _ h9 => h9) rfl dX2_giveTo_2 ?_
  refine p_lk hx hb hts nX2 hown hK hP hD hS hi 1 (by decide) (by decide) k9 (fun _ h9 => h9) rfl rfl rfl dX2_giveTo_5 (fun τ1 H locs eτ1 hP hD hS => ?_)
  refine lv_aload_n hx hb dX2_giveTo_8 rfl (lv_at hl 0 rfl) ?_
  refine lv_dup hx hb dX2_giveTo_9 rfl ?_
  refine va_get (D := D) (C := RX2) (T := TX2) (N := 3) (ci := 2) (v := .int (τ1 (i + 94) 2)) hx hb hts nX2 hown hK hP (i + 94) (w_lk hi) rfl 2 (by decide) k21 (fun _ h9 => h9) rfl dX2_giveTo_10 ?_
  refine lv_iconst (v := 1) hx hb dX2_giveTo_13 (by decide) ?_
  refine lv_iadd hx hb dX2_giveTo_14 ?_
  refine p_lk hx hb hts nX2 hown hK hP hD hS hi 2 (by decide) (by decide) k21 (fun _ h9 => h9) rfl rfl rfl dX2_giveTo_15 (fun τ2 H locs eτ2 hP hD hS => ?_)
  exact x_vret hx hb hr hlocks hK τ2 hP hD hS dX2_giveTo_18 (by subst eτ2 eτ1; simp [m_giveTo, n24, n40, n2, n27, n4])

set_option maxHeartbeats 4000000 in
set_option maxRecDepth 100000 in
theorem c_X1_first (l : Launch) (D : va_G) (cA : Nat → ClassId) (ad : Nat → Nat) (tr : List (ClassId × FieldType)) (rest : va_W) (sz : Nat) (τ : Sg) (i : Nat) (hi : i < 2) : Met l yX1_first wsX1_first ({ frames := 0, cells := 0, slots := 0, locals := 0 }) (va_Pc [.ref (ad (i + 96))] (inW D (tyB cA ++ tr) (wB cA ad τ ++ rest) sz)) (va_Qi (fun (r : Int32) (_ : Unit) => r = m_first τ i) (fun _ : Unit => outW D (tyB cA ++ tr) (va_A (wB cA ad τ ++ rest) sz) (wB cA ad τ ++ rest)) (va_A (wB cA ad τ ++ rest) sz)) 0 0 (va_A (wB cA ad τ ++ rest) sz) := by
  refine Met.ofW (cc := cX1_first) (maxL := 1) (ret := (some .int)) (by decide) rfl ?_
  intro p e s m args below meth c s₁ B hml hv
  obtain ⟨rfl, hsz, hP, hK, hD0⟩ := hv
  have hx := B.exec
  have hb := B.bytes
  have hr := B.returns
  have hts := atoms_spec (ws := wsX1_first) B.pre
  have hown : s.vm.findClass RX1 = some m.cls := findClass_of_methodNamed B.named
  have hlocks := B.notSynchronized
  subst hsz
  have hD := hD0.self (sz := s.heap.size)
  clear hD0
  generalize hAe : va_A (wB cA ad τ ++ rest) s.heap.size = A at hD ⊢
  have hA : ∀ q : Nat, s.heap.size ≤ q → A q := fun q h => by rw [← hAe]; exact Or.inr h
  clear hAe
  have hS : va_S A s.heap s.heap [] := va_S.rf
  have hP : va_P D vwCl (wB cA ad τ ++ rest) s.heap := hP
  have hl := lv_entry ([.ref (ad (i + 96))]) (n := 1) (Nat.le_of_ble_eq_true rfl)
  rw [lg_entry_eq]
  generalize (lg_sl ([.ref (ad (i + 96))]) ++ List.replicate (1 - (lg_sl ([.ref (ad (i + 96))])).length) Slot.unset).toArray = ls at hl ⊢
  have hl : lv_has ls 1 [(0, .ref (ad (i + 96)))] := hl
  have nX1 : ∀ w ∈ u_ws RX1 TX1 5, w ∈ wsX1_first := by decide +kernel
  have k19 := hts (.fieldLink RX1 19 "ScopeRow$Channel" "count" "I") (by decide +kernel)
  have k15 := hts (.fieldLink RX1 15 "ScopeRow$Channel" "values" "[I") (by decide +kernel)
  refine lv_aload_n hx hb dX1_first_0 rfl (lv_at hl 0 rfl) ?_
  refine va_get (D := D) (C := RX1) (T := TX1) (N := 5) (ci := 1) (v := .int (τ (i + 96) 2)) hx hb hts nX1 hown hK hP (i + 96) (w_ch hi) rfl 2 (by decide) k19 (fun _ h9 => h9) rfl dX1_first_1 ?_
  refine lv_if_le (tgt := 16) hx hb dX1_first_4 (by decide) (fun c_4_1 => ?_) (fun c_4_1 => ?_)
  -- 4 jumps
  · skip
    refine lv_iconst (v := 0) hx hb dX1_first_16 (by decide) ?_
    exact x_iret hx hb hr hlocks hK () hP hD hS dX1_first_17 (by simp [m_first, n24, n40, n2, n27, n4, eq_true c_4_1])
  -- 4 goes on
  · skip
    refine lv_aload_n hx hb dX1_first_7 rfl (lv_at hl 0 rfl) ?_
    refine va_get (D := D) (C := RX1) (T := TX1) (N := 5) (ci := 1) (v := .ref (ad (i + 98))) hx hb hts nX1 hown hK hP (i + 96) (w_ch hi) rfl 1 (by decide) k15 (fun _ h9 => h9) rfl dX1_first_8 ?_
    refine lv_iconst (v := 0) hx hb dX1_first_11 (by decide) ?_
    refine l_va hx hb hK hP hi (j := 0) rfl (by unfold vp_in; decide) dX1_first_12 ?_
    refine lv_goto (tgt := 17) hx hb dX1_first_13 (by decide) ?_
    exact x_iret hx hb hr hlocks hK () hP hD hS dX1_first_17 (by simp [m_first, n24, n40, n2, n27, n4, c_4_1])

set_option maxHeartbeats 4000000 in
set_option maxRecDepth 100000 in
theorem c_X1_addLast (l : Launch) (D : va_G) (cA : Nat → ClassId) (ad : Nat → Nat) (tr : List (ClassId × FieldType)) (rest : va_W) (sz : Nat) (τ : Sg) (i : Nat) (hi : i < 2) (v : Int32) : Met l yX1_addLast wsX1_addLast ({ frames := 0, cells := 0, slots := 0, locals := 0 }) (va_Pc [.ref (ad (i + 96)), .int v] (inW D (tyB cA ++ tr) (wB cA ad τ ++ rest) sz)) (va_Qv (fun u : Sg => u = m_addLast τ i v) (fun u : Sg => outW D (tyB cA ++ tr) (va_A (wB cA ad τ ++ rest) sz) (wB cA ad u ++ rest)) (va_A (wB cA ad τ ++ rest) sz)) 0 0 (va_A (wB cA ad τ ++ rest) sz) := by
  refine Met.ofW (cc := cX1_addLast) (maxL := 2) (ret := none) (by decide) rfl ?_
  intro p e s m args below meth c s₁ B hml hv
  obtain ⟨rfl, hsz, hP, hK, hD0⟩ := hv
  have hx := B.exec
  have hb := B.bytes
  have hr := B.returns
  have hts := atoms_spec (ws := wsX1_addLast) B.pre
  have hown : s.vm.findClass RX1 = some m.cls := findClass_of_methodNamed B.named
  have hlocks := B.notSynchronized
  subst hsz
  have hD := hD0.self (sz := s.heap.size)
  clear hD0
  generalize hAe : va_A (wB cA ad τ ++ rest) s.heap.size = A at hD ⊢
  have hA : ∀ q : Nat, s.heap.size ≤ q → A q := fun q h => by rw [← hAe]; exact Or.inr h
  clear hAe
  have hS : va_S A s.heap s.heap [] := va_S.rf
  have hP : va_P D vwCl (wB cA ad τ ++ rest) s.heap := hP
  have hl := lv_entry ([.ref (ad (i + 96)), .int v]) (n := 2) (Nat.le_of_ble_eq_true rfl)
  rw [lg_entry_eq]
  generalize (lg_sl ([.ref (ad (i + 96)), .int v]) ++ List.replicate (2 - (lg_sl ([.ref (ad (i + 96)), .int v])).length) Slot.unset).toArray = ls at hl ⊢
  have hl : lv_has ls 2 [(0, .ref (ad (i + 96))), (1, .int v)] := hl
  have nX1 : ∀ w ∈ u_ws RX1 TX1 5, w ∈ wsX1_addLast := by decide +kernel
  have k19 := hts (.fieldLink RX1 19 "ScopeRow$Channel" "count" "I") (by decide +kernel)
  have k15 := hts (.fieldLink RX1 15 "ScopeRow$Channel" "values" "[I") (by decide +kernel)
  refine lv_aload_n hx hb dX1_addLast_0 rfl (lv_at hl 0 rfl) ?_
  refine va_get (D := D) (C := RX1) (T := TX1) (N := 5) (ci := 1) (v := .int (τ (i + 96) 2)) hx hb hts nX1 hown hK hP (i + 96) (w_ch hi) rfl 2 (by decide) k19 (fun _ h9 => h9) rfl dX1_addLast_1 ?_
  refine lv_if_lt (tgt := 39) hx hb dX1_addLast_4 (by decide) (fun c_4_1 => ?_) (fun c_4_1 => ?_)
  -- 4 jumps
  · skip
    exact x_vret hx hb hr hlocks hK τ hP hD hS dX1_addLast_39 (by simp [m_addLast, n24, n40, n2, n27, n4, eq_true c_4_1])
  -- 4 goes on
  · skip
    refine lv_aload_n hx hb dX1_addLast_7 rfl (lv_at hl 0 rfl) ?_
    refine va_get (D := D) (C := RX1) (T := TX1) (N := 5) (ci := 1) (v := .int (τ (i + 96) 2)) hx hb hts nX1 hown hK hP (i + 96) (w_ch hi) rfl 2 (by decide) k19 (fun _ h9 => h9) rfl dX1_addLast_8 ?_
    refine lv_aload_n hx hb dX1_addLast_11 rfl (lv_at hl 0 rfl) ?_
    refine va_get (D := D) (C := RX1) (T := TX1) (N := 5) (ci := 1) (v := .ref (ad (i + 98))) hx hb hts nX1 hown hK hP (i + 96) (w_ch hi) rfl 1 (by decide) k15 (fun _ h9 => h9) rfl dX1_addLast_12 ?_
    refine va_alen (v := 27) hx hb hK hP (i + 98) 0 (w_va hi) rfl rfl dX1_addLast_15 ?_
    refine lv_icmp_ge (tgt := 39) hx hb dX1_addLast_16 (by decide) (fun c_16_2 => ?_) (fun c_16_2 => ?_)
    -- 16 jumps
    · skip
      exact x_vret hx hb hr hlocks hK τ hP hD hS dX1_addLast_39 (by simp [m_addLast, n24, n40, n2, n27, n4, c_4_1, eq_true c_16_2])
    -- 16 goes on
    · skip
      refine lv_aload_n hx hb dX1_addLast_19 rfl (lv_at hl 0 rfl) ?_
      refine va_get (D := D) (C := RX1) (T := TX1) (N := 5) (ci := 1) (v := .ref (ad (i + 98))) hx hb hts nX1 hown hK hP (i + 96) (w_ch hi) rfl 1 (by decide) k15 (fun _ h9 => h9) rfl dX1_addLast_20 ?_
      refine lv_aload_n hx hb dX1_addLast_23 rfl (lv_at hl 0 rfl) ?_
      refine va_get (D := D) (C := RX1) (T := TX1) (N := 5) (ci := 1) (v := .int (τ (i + 96) 2)) hx hb hts nX1 hown hK hP (i + 96) (w_ch hi) rfl 2 (by decide) k19 (fun _ h9 => h9) rfl dX1_addLast_24 ?_
      refine lv_iload_n hx hb dX1_addLast_27 rfl (lv_at hl 1 rfl) ?_
      refine p_va hx hb hK hP hD hS hi (j := (τ (i + 96) 2).toNatClampNeg) rfl (in_of c_4_1 c_16_2 (by decide)) dX1_addLast_28 (fun τ3 H locs eτ3 hP hD hS => ?_)
      refine lv_aload_n hx hb dX1_addLast_29 rfl (lv_at hl 0 rfl) ?_
      refine lv_dup hx hb dX1_addLast_30 rfl ?_
      refine va_get (D := D) (C := RX1) (T := TX1) (N := 5) (ci := 1) (v := .int (τ3 (i + 96) 2)) hx hb hts nX1 hown hK hP (i + 96) (w_ch hi) rfl 2 (by decide) k19 (fun _ h9 => h9) rfl dX1_addLast_31 ?_
      refine lv_iconst (v := 1) hx hb dX1_addLast_34 (by decide) ?_
      refine lv_iadd hx hb dX1_addLast_35 ?_
      refine p_ch hx hb hts nX1 hown hK hP hD hS hi 2 (by decide) (by decide) k19 (fun _ h9 => h9) rfl rfl rfl dX1_addLast_36 (fun τ4 H locs eτ4 hP hD hS => ?_)
      exact x_vret hx hb hr hlocks hK τ4 hP hD hS dX1_addLast_39 (by subst eτ4 eτ3; simp [m_addLast, n24, n40, n2, n27, n4, c_4_1, c_16_2])

set_option maxHeartbeats 4000000 in
set_option maxRecDepth 100000 in
theorem c_X6_scopeAt (l : Launch) (D : va_G) (cA : Nat → ClassId) (ad : Nat → Nat) (tr : List (ClassId × FieldType)) (rest : va_W) (sz : Nat) (τ : Sg) (x : Int32) : Met l yX6_scopeAt wsX6_scopeAt ({ frames := 0, cells := 0, slots := 0, locals := 0 }) (va_Pc [.ref (ad 0), .int x] (inW D (tyB cA ++ tr) (wB cA ad τ ++ rest) sz)) (va_Qq (fun (r : Option Nat) (_ : Unit) => r = (m_at x 40).map (fun a => ad (a + 54))) (fun _ : Unit => outW D (tyB cA ++ tr) (va_A (wB cA ad τ ++ rest) sz) (wB cA ad τ ++ rest)) (va_A (wB cA ad τ ++ rest) sz)) 0 0 (va_A (wB cA ad τ ++ rest) sz) := by
  refine Met.ofW (cc := cX6_scopeAt) (maxL := 2) (ret := (some (.object "ScopeRow$Scope"))) (by decide) rfl ?_
  intro p e s m args below meth c s₁ B hml hv
  obtain ⟨rfl, hsz, hP, hK, hD0⟩ := hv
  have hx := B.exec
  have hb := B.bytes
  have hr := B.returns
  have hts := atoms_spec (ws := wsX6_scopeAt) B.pre
  have hown : s.vm.findClass RX6 = some m.cls := findClass_of_methodNamed B.named
  have hlocks := B.notSynchronized
  subst hsz
  have hD := hD0.self (sz := s.heap.size)
  clear hD0
  generalize hAe : va_A (wB cA ad τ ++ rest) s.heap.size = A at hD ⊢
  have hA : ∀ q : Nat, s.heap.size ≤ q → A q := fun q h => by rw [← hAe]; exact Or.inr h
  clear hAe
  have hS : va_S A s.heap s.heap [] := va_S.rf
  have hP : va_P D vwCl (wB cA ad τ ++ rest) s.heap := hP
  have hl := lv_entry ([.ref (ad 0), .int x]) (n := 2) (Nat.le_of_ble_eq_true rfl)
  rw [lg_entry_eq]
  generalize (lg_sl ([.ref (ad 0), .int x]) ++ List.replicate (2 - (lg_sl ([.ref (ad 0), .int x])).length) Slot.unset).toArray = ls at hl ⊢
  have hl : lv_has ls 2 [(0, .ref (ad 0)), (1, .int x)] := hl
  have nX6 : ∀ w ∈ u_ws RX6 TX6 12, w ∈ wsX6_scopeAt := by decide +kernel
  have k19 := hts (.fieldLink RX6 19 "ScopeRow$State" "scopes" "[LScopeRow$Scope;") (by decide +kernel)
  refine lv_iload_n hx hb dX6_scopeAt_0 rfl (lv_at hl 1 rfl) ?_
  refine lv_if_lt (tgt := 22) hx hb dX6_scopeAt_1 (by decide) (fun c_1_1 => ?_) (fun c_1_1 => ?_)
  -- 1 jumps
  · skip
    refine lv_null hx hb dX6_scopeAt_22 ?_
    exact x_aret hx hb hr hlocks hK none rfl () hP hD hS dX6_scopeAt_23 (by simp [m_at, n24, n40, n2, n27, n4, eq_true c_1_1])
  -- 1 goes on
  · skip
    refine lv_iload_n hx hb dX6_scopeAt_4 rfl (lv_at hl 1 rfl) ?_
    refine lv_aload_n hx hb dX6_scopeAt_5 rfl (lv_at hl 0 rfl) ?_
    refine va_get (D := D) (C := RX6) (T := TX6) (N := 12) (ci := 6) (v := .ref (ad 2)) hx hb hts nX6 hown hK hP 0 w_st rfl 2 (by decide) k19 (fun _ h9 => h9) rfl dX6_scopeAt_6 ?_
    refine va_alen (v := 40) hx hb hK hP 2 2 w_a2 rfl rfl dX6_scopeAt_9 ?_
    refine lv_icmp_ge (tgt := 22) hx hb dX6_scopeAt_10 (by decide) (fun c_10_2 => ?_) (fun c_10_2 => ?_)
    -- 10 jumps
    · skip
      refine lv_null hx hb dX6_scopeAt_22 ?_
      exact x_aret hx hb hr hlocks hK none rfl () hP hD hS dX6_scopeAt_23 (by simp [m_at, n24, n40, n2, n27, n4, c_1_1, eq_true c_10_2])
    -- 10 goes on
    · skip
      refine lv_aload_n hx hb dX6_scopeAt_13 rfl (lv_at hl 0 rfl) ?_
      refine va_get (D := D) (C := RX6) (T := TX6) (N := 12) (ci := 6) (v := .ref (ad 2)) hx hb hts nX6 hown hK hP 0 w_st rfl 2 (by decide) k19 (fun _ h9 => h9) rfl dX6_scopeAt_14 ?_
      refine lv_iload_n hx hb dX6_scopeAt_17 rfl (lv_at hl 1 rfl) ?_
      refine l_a2 hx hb hK hP (j := x.toNatClampNeg) rfl (in_of c_1_1 c_10_2 (by decide)) dX6_scopeAt_18 ?_
      refine lv_goto (tgt := 23) hx hb dX6_scopeAt_19 (by decide) ?_
      exact x_aret hx hb hr hlocks hK (some (ad (x.toNatClampNeg + 54))) rfl () hP hD hS dX6_scopeAt_23 (by simp [m_at, n24, n40, n2, n27, n4, c_1_1, c_10_2])

set_option maxHeartbeats 4000000 in
set_option maxRecDepth 100000 in
theorem c_X6_lockAt (l : Launch) (D : va_G) (cA : Nat → ClassId) (ad : Nat → Nat) (tr : List (ClassId × FieldType)) (rest : va_W) (sz : Nat) (τ : Sg) (x : Int32) : Met l yX6_lockAt wsX6_lockAt ({ frames := 0, cells := 0, slots := 0, locals := 0 }) (va_Pc [.ref (ad 0), .int x] (inW D (tyB cA ++ tr) (wB cA ad τ ++ rest) sz)) (va_Qq (fun (r : Option Nat) (_ : Unit) => r = (m_at x 2).map (fun a => ad (a + 94))) (fun _ : Unit => outW D (tyB cA ++ tr) (va_A (wB cA ad τ ++ rest) sz) (wB cA ad τ ++ rest)) (va_A (wB cA ad τ ++ rest) sz)) 0 0 (va_A (wB cA ad τ ++ rest) sz) := by
  refine Met.ofW (cc := cX6_lockAt) (maxL := 2) (ret := (some (.object "ScopeRow$Lock"))) (by decide) rfl ?_
  intro p e s m args below meth c s₁ B hml hv
  obtain ⟨rfl, hsz, hP, hK, hD0⟩ := hv
  have hx := B.exec
  have hb := B.bytes
  have hr := B.returns
  have hts := atoms_spec (ws := wsX6_lockAt) B.pre
  have hown : s.vm.findClass RX6 = some m.cls := findClass_of_methodNamed B.named
  have hlocks := B.notSynchronized
  subst hsz
  have hD := hD0.self (sz := s.heap.size)
  clear hD0
  generalize hAe : va_A (wB cA ad τ ++ rest) s.heap.size = A at hD ⊢
  have hA : ∀ q : Nat, s.heap.size ≤ q → A q := fun q h => by rw [← hAe]; exact Or.inr h
  clear hAe
  have hS : va_S A s.heap s.heap [] := va_S.rf
  have hP : va_P D vwCl (wB cA ad τ ++ rest) s.heap := hP
  have hl := lv_entry ([.ref (ad 0), .int x]) (n := 2) (Nat.le_of_ble_eq_true rfl)
  rw [lg_entry_eq]
  generalize (lg_sl ([.ref (ad 0), .int x]) ++ List.replicate (2 - (lg_sl ([.ref (ad 0), .int x])).length) Slot.unset).toArray = ls at hl ⊢
  have hl : lv_has ls 2 [(0, .ref (ad 0)), (1, .int x)] := hl
  have nX6 : ∀ w ∈ u_ws RX6 TX6 12, w ∈ wsX6_lockAt := by decide +kernel
  have k25 := hts (.fieldLink RX6 25 "ScopeRow$State" "locks" "[LScopeRow$Lock;") (by decide +kernel)
  refine lv_iload_n hx hb dX6_lockAt_0 rfl (lv_at hl 1 rfl) ?_
  refine lv_if_lt (tgt := 22) hx hb dX6_lockAt_1 (by decide) (fun c_1_1 => ?_) (fun c_1_1 => ?_)
  -- 1 jumps
  · skip
    refine lv_null hx hb dX6_lockAt_22 ?_
    exact x_aret hx hb hr hlocks hK none rfl () hP hD hS dX6_lockAt_23 (by simp [m_at, n24, n40, n2, n27, n4, eq_true c_1_1])
  -- 1 goes on
  · skip
    refine lv_iload_n hx hb dX6_lockAt_4 rfl (lv_at hl 1 rfl) ?_
    refine lv_aload_n hx hb dX6_lockAt_5 rfl (lv_at hl 0 rfl) ?_
    refine va_get (D := D) (C := RX6) (T := TX6) (N := 12) (ci := 6) (v := .ref (ad 3)) hx hb hts nX6 hown hK hP 0 w_st rfl 4 (by decide) k25 (fun _ h9 => h9) rfl dX6_lockAt_6 ?_
    refine va_alen (v := 2) hx hb hK hP 3 3 w_a3 rfl rfl dX6_lockAt_9 ?_
    refine lv_icmp_ge (tgt := 22) hx hb dX6_lockAt_10 (by decide) (fun c_10_2 => ?_) (fun c_10_2 => ?_)
    -- 10 jumps
    · skip
      refine lv_null hx hb dX6_lockAt_22 ?_
      exact x_aret hx hb hr hlocks hK none rfl () hP hD hS dX6_lockAt_23 (by simp [m_at, n24, n40, n2, n27, n4, c_1_1, eq_true c_10_2])
    -- 10 goes on
    · skip
      refine lv_aload_n hx hb dX6_lockAt_13 rfl (lv_at hl 0 rfl) ?_
      refine va_get (D := D) (C := RX6) (T := TX6) (N := 12) (ci := 6) (v := .ref (ad 3)) hx hb hts nX6 hown hK hP 0 w_st rfl 4 (by decide) k25 (fun _ h9 => h9) rfl dX6_lockAt_14 ?_
      refine lv_iload_n hx hb dX6_lockAt_17 rfl (lv_at hl 1 rfl) ?_
      refine l_a3 hx hb hK hP (j := x.toNatClampNeg) rfl (in_of c_1_1 c_10_2 (by decide)) dX6_lockAt_18 ?_
      refine lv_goto (tgt := 23) hx hb dX6_lockAt_19 (by decide) ?_
      exact x_aret hx hb hr hlocks hK (some (ad (x.toNatClampNeg + 94))) rfl () hP hD hS dX6_lockAt_23 (by simp [m_at, n24, n40, n2, n27, n4, c_1_1, c_10_2])

set_option maxHeartbeats 4000000 in
set_option maxRecDepth 100000 in
theorem c_X6_channelAt (l : Launch) (D : va_G) (cA : Nat → ClassId) (ad : Nat → Nat) (tr : List (ClassId × FieldType)) (rest : va_W) (sz : Nat) (τ : Sg) (x : Int32) : Met l yX6_channelAt wsX6_channelAt ({ frames := 0, cells := 0, slots := 0, locals := 0 }) (va_Pc [.ref (ad 0), .int x] (inW D (tyB cA ++ tr) (wB cA ad τ ++ rest) sz)) (va_Qq (fun (r : Option Nat) (_ : Unit) => r = (m_at x 2).map (fun a => ad (a + 96))) (fun _ : Unit => outW D (tyB cA ++ tr) (va_A (wB cA ad τ ++ rest) sz) (wB cA ad τ ++ rest)) (va_A (wB cA ad τ ++ rest) sz)) 0 0 (va_A (wB cA ad τ ++ rest) sz) := by
  refine Met.ofW (cc := cX6_channelAt) (maxL := 2) (ret := (some (.object "ScopeRow$Channel"))) (by decide) rfl ?_
  intro p e s m args below meth c s₁ B hml hv
  obtain ⟨rfl, hsz, hP, hK, hD0⟩ := hv
  have hx := B.exec
  have hb := B.bytes
  have hr := B.returns
  have hts := atoms_spec (ws := wsX6_channelAt) B.pre
  have hown : s.vm.findClass RX6 = some m.cls := findClass_of_methodNamed B.named
  have hlocks := B.notSynchronized
  subst hsz
  have hD := hD0.self (sz := s.heap.size)
  clear hD0
  generalize hAe : va_A (wB cA ad τ ++ rest) s.heap.size = A at hD ⊢
  have hA : ∀ q : Nat, s.heap.size ≤ q → A q := fun q h => by rw [← hAe]; exact Or.inr h
  clear hAe
  have hS : va_S A s.heap s.heap [] := va_S.rf
  have hP : va_P D vwCl (wB cA ad τ ++ rest) s.heap := hP
  have hl := lv_entry ([.ref (ad 0), .int x]) (n := 2) (Nat.le_of_ble_eq_true rfl)
  rw [lg_entry_eq]
  generalize (lg_sl ([.ref (ad 0), .int x]) ++ List.replicate (2 - (lg_sl ([.ref (ad 0), .int x])).length) Slot.unset).toArray = ls at hl ⊢
  have hl : lv_has ls 2 [(0, .ref (ad 0)), (1, .int x)] := hl
  have nX6 : ∀ w ∈ u_ws RX6 TX6 12, w ∈ wsX6_channelAt := by decide +kernel
  have k31 := hts (.fieldLink RX6 31 "ScopeRow$State" "channels" "[LScopeRow$Channel;") (by decide +kernel)
  refine lv_iload_n hx hb dX6_channelAt_0 rfl (lv_at hl 1 rfl) ?_
  refine lv_if_lt (tgt := 22) hx hb dX6_channelAt_1 (by decide) (fun c_1_1 => ?_) (fun c_1_1 => ?_)
  -- 1 jumps
  · skip
    refine lv_null hx hb dX6_channelAt_22 ?_
    exact x_aret hx hb hr hlocks hK none rfl () hP hD hS dX6_channelAt_23 (by simp [m_at, n24, n40, n2, n27, n4, eq_true c_1_1])
  -- 1 goes on
  · skip
    refine lv_iload_n hx hb dX6_channelAt_4 rfl (lv_at hl 1 rfl) ?_
    refine lv_aload_n hx hb dX6_channelAt_5 rfl (lv_at hl 0 rfl) ?_
    refine va_get (D := D) (C := RX6) (T := TX6) (N := 12) (ci := 6) (v := .ref (ad 4)) hx hb hts nX6 hown hK hP 0 w_st rfl 5 (by decide) k31 (fun _ h9 => h9) rfl dX6_channelAt_6 ?_
    refine va_alen (v := 2) hx hb hK hP 4 4 w_a4 rfl rfl dX6_channelAt_9 ?_
    refine lv_icmp_ge (tgt := 22) hx hb dX6_channelAt_10 (by decide) (fun c_10_2 => ?_) (fun c_10_2 => ?_)
    -- 10 jumps
    · skip
      refine lv_null hx hb dX6_channelAt_22 ?_
      exact x_aret hx hb hr hlocks hK none rfl () hP hD hS dX6_channelAt_23 (by simp [m_at, n24, n40, n2, n27, n4, c_1_1, eq_true c_10_2])
    -- 10 goes on
    · skip
      refine lv_aload_n hx hb dX6_channelAt_13 rfl (lv_at hl 0 rfl) ?_
      refine va_get (D := D) (C := RX6) (T := TX6) (N := 12) (ci := 6) (v := .ref (ad 4)) hx hb hts nX6 hown hK hP 0 w_st rfl 5 (by decide) k31 (fun _ h9 => h9) rfl dX6_channelAt_14 ?_
      refine lv_iload_n hx hb dX6_channelAt_17 rfl (lv_at hl 1 rfl) ?_
      refine l_a4 hx hb hK hP (j := x.toNatClampNeg) rfl (in_of c_1_1 c_10_2 (by decide)) dX6_channelAt_18 ?_
      refine lv_goto (tgt := 23) hx hb dX6_channelAt_19 (by decide) ?_
      exact x_aret hx hb hr hlocks hK (some (ad (x.toNatClampNeg + 96))) rfl () hP hD hS dX6_channelAt_23 (by simp [m_at, n24, n40, n2, n27, n4, c_1_1, c_10_2])

set_option maxHeartbeats 4000000 in
set_option maxRecDepth 100000 in
theorem c_X6_makeReady (l : Launch) (D : va_G) (cA : Nat → ClassId) (ad : Nat → Nat) (tr : List (ClassId × FieldType)) (rest : va_W) (sz : Nat) (τ : Sg) (i : Nat) (hi : i < 24) : Met l yX6_makeReady wsX6_makeReady ({ frames := 0, cells := 0, slots := 0, locals := 0 }) (va_Pc [.ref (ad 0), .ref (ad (i + 6))] (inW D (tyB cA ++ tr) (wB cA ad τ ++ rest) sz)) (va_Qv (fun u : Sg => u = m_makeReady τ i) (fun u : Sg => outW D (tyB cA ++ tr) (va_A (wB cA ad τ ++ rest) sz) (wB cA ad u ++ rest)) (va_A (wB cA ad τ ++ rest) sz)) 0 0 (va_A (wB cA ad τ ++ rest) sz) := by
  refine Met.ofW (cc := cX6_makeReady) (maxL := 2) (ret := none) (by decide) rfl ?_
  intro p e s m args below meth c s₁ B hml hv
  obtain ⟨rfl, hsz, hP, hK, hD0⟩ := hv
  have hx := B.exec
  have hb := B.bytes
  have hr := B.returns
  have hts := atoms_spec (ws := wsX6_makeReady) B.pre
  have hown : s.vm.findClass RX6 = some m.cls := findClass_of_methodNamed B.named
  have hlocks := B.notSynchronized
  subst hsz
  have hD := hD0.self (sz := s.heap.size)
  clear hD0
  generalize hAe : va_A (wB cA ad τ ++ rest) s.heap.size = A at hD ⊢
  have hA : ∀ q : Nat, s.heap.size ≤ q → A q := fun q h => by rw [← hAe]; exact Or.inr h
  clear hAe
  have hS : va_S A s.heap s.heap [] := va_S.rf
  have hP : va_P D vwCl (wB cA ad τ ++ rest) s.heap := hP
  have hl := lv_entry ([.ref (ad 0), .ref (ad (i + 6))]) (n := 2) (Nat.le_of_ble_eq_true rfl)
  rw [lg_entry_eq]
  generalize (lg_sl ([.ref (ad 0), .ref (ad (i + 6))]) ++ List.replicate (2 - (lg_sl ([.ref (ad 0), .ref (ad (i + 6))])).length) Slot.unset).toArray = ls at hl ⊢
  have hl : lv_has ls 2 [(0, .ref (ad 0)), (1, .ref (ad (i + 6)))] := hl
  have nX6 : ∀ w ∈ u_ws RX6 TX6 12, w ∈ wsX6_makeReady := by decide +kernel
  have nX7 : ∀ w ∈ u_ws RX7 TX7 17, w ∈ wsX6_makeReady := by decide +kernel
  have k80 := hts (.fieldLink RX6 80 "ScopeRow$Task" "state" "I") (by decide +kernel)
  have k65 := hts (.fieldLink RX6 65 "ScopeRow$State" "rowCount" "I") (by decide +kernel)
  have k35 := hts (.fieldLink RX6 35 "ScopeRow$State" "row" "[I") (by decide +kernel)
  have k103 := hts (.fieldLink RX6 103 "ScopeRow$Task" "number" "I") (by decide +kernel)
  refine lv_aload_n hx hb dX6_makeReady_0 rfl (lv_at hl 1 rfl) ?_
  refine lv_iconst (v := 0) hx hb dX6_makeReady_1 (by decide) ?_
  refine p_tk hx hb hts nX7 hown hK hP hD hS hi 3 (by decide) (by decide) k80 (fun _ h9 => h9) rfl rfl rfl dX6_makeReady_2 (fun τ1 H locs eτ1 hP hD hS => ?_)
  refine lv_aload_n hx hb dX6_makeReady_5 rfl (lv_at hl 0 rfl) ?_
  refine va_get (D := D) (C := RX6) (T := TX6) (N := 12) (ci := 6) (v := .int (τ1 0 7)) hx hb hts nX6 hown hK hP 0 w_st rfl 7 (by decide) k65 (fun _ h9 => h9) rfl dX6_makeReady_6 ?_
  refine lv_if_lt (tgt := 47) hx hb dX6_makeReady_9 (by decide) (fun c_9_2 => ?_) (fun c_9_2 => ?_)
  -- 9 jumps
  · skip
    exact x_vret hx hb hr hlocks hK τ1 hP hD hS dX6_makeReady_47 (by subst eτ1; simp [m_makeReady, n24, n40, n2, n27, n4, eq_true c_9_2])
  -- 9 goes on
  · skip
    refine lv_aload_n hx hb dX6_makeReady_12 rfl (lv_at hl 0 rfl) ?_
    refine va_get (D := D) (C := RX6) (T := TX6) (N := 12) (ci := 6) (v := .int (τ1 0 7)) hx hb hts nX6 hown hK hP 0 w_st rfl 7 (by decide) k65 (fun _ h9 => h9) rfl dX6_makeReady_13 ?_
    refine lv_aload_n hx hb dX6_makeReady_16 rfl (lv_at hl 0 rfl) ?_
    refine va_get (D := D) (C := RX6) (T := TX6) (N := 12) (ci := 6) (v := .ref (ad 5)) hx hb hts nX6 hown hK hP 0 w_st rfl 6 (by decide) k35 (fun _ h9 => h9) rfl dX6_makeReady_17 ?_
    refine va_alen (v := 24) hx hb hK hP 5 0 w_a5 rfl rfl dX6_makeReady_20 ?_
    refine lv_icmp_ge (tgt := 47) hx hb dX6_makeReady_21 (by decide) (fun c_21_3 => ?_) (fun c_21_3 => ?_)
    -- 21 jumps
    · skip
      exact x_vret hx hb hr hlocks hK τ1 hP hD hS dX6_makeReady_47 (by subst eτ1; simp [m_makeReady, n24, n40, n2, n27, n4, c_9_2, eq_true c_21_3])
    -- 21 goes on
    · skip
      refine lv_aload_n hx hb dX6_makeReady_24 rfl (lv_at hl 0 rfl) ?_
      refine va_get (D := D) (C := RX6) (T := TX6) (N := 12) (ci := 6) (v := .ref (ad 5)) hx hb hts nX6 hown hK hP 0 w_st rfl 6 (by decide) k35 (fun _ h9 => h9) rfl dX6_makeReady_25 ?_
      refine lv_aload_n hx hb dX6_makeReady_28 rfl (lv_at hl 0 rfl) ?_
      refine va_get (D := D) (C := RX6) (T := TX6) (N := 12) (ci := 6) (v := .int (τ1 0 7)) hx hb hts nX6 hown hK hP 0 w_st rfl 7 (by decide) k65 (fun _ h9 => h9) rfl dX6_makeReady_29 ?_
      refine lv_aload_n hx hb dX6_makeReady_32 rfl (lv_at hl 1 rfl) ?_
      refine va_get (D := D) (C := RX7) (T := TX7) (N := 17) (ci := 7) (v := .int (nI i)) hx hb hts nX7 hown hK hP (i + 6) (w_tk hi) rfl 0 (by decide) k103 (fun _ h9 => h9) rfl dX6_makeReady_33 ?_
      refine p_a5 hx hb hK hP hD hS (j := (τ1 0 7).toNatClampNeg) rfl (in_of c_9_2 c_21_3 (by decide)) dX6_makeReady_36 (fun τ4 H locs eτ4 hP hD hS => ?_)
      refine lv_aload_n hx hb dX6_makeReady_37 rfl (lv_at hl 0 rfl) ?_
      refine lv_dup hx hb dX6_makeReady_38 rfl ?_
      refine va_get (D := D) (C := RX6) (T := TX6) (N := 12) (ci := 6) (v := .int (τ4 0 7)) hx hb hts nX6 hown hK hP 0 w_st rfl 7 (by decide) k65 (fun _ h9 => h9) rfl dX6_makeReady_39 ?_
      refine lv_iconst (v := 1) hx hb dX6_makeReady_42 (by decide) ?_
      refine lv_iadd hx hb dX6_makeReady_43 ?_
      refine p_st hx hb hts nX6 hown hK hP hD hS 7 (by decide) (by decide) k65 (fun _ h9 => h9) rfl rfl rfl dX6_makeReady_44 (fun τ5 H locs eτ5 hP hD hS => ?_)
      exact x_vret hx hb hr hlocks hK τ5 hP hD hS dX6_makeReady_47 (by subst eτ5 eτ4 eτ1; simp [m_makeReady, n24, n40, n2, n27, n4, c_9_2, c_21_3])

set_option maxHeartbeats 4000000 in
set_option maxRecDepth 100000 in
theorem c_X6_beginWait (l : Launch) (D : va_G) (cA : Nat → ClassId) (ad : Nat → Nat) (tr : List (ClassId × FieldType)) (rest : va_W) (sz : Nat) (τ : Sg) (i : Nat) (hi : i < 24) (what target : Int32) : Met l yX6_beginWait wsX6_beginWait ({ frames := 0, cells := 0, slots := 0, locals := 0 }) (va_Pc [.ref (ad 0), .ref (ad (i + 6)), .int what, .int target] (inW D (tyB cA ++ tr) (wB cA ad τ ++ rest) sz)) (va_Qv (fun u : Sg => u = m_beginWait τ i what target) (fun u : Sg => outW D (tyB cA ++ tr) (va_A (wB cA ad τ ++ rest) sz) (wB cA ad u ++ rest)) (va_A (wB cA ad τ ++ rest) sz)) 0 0 (va_A (wB cA ad τ ++ rest) sz) := by
  refine Met.ofW (cc := cX6_beginWait) (maxL := 4) (ret := none) (by decide) rfl ?_
  intro p e s m args below meth c s₁ B hml hv
  obtain ⟨rfl, hsz, hP, hK, hD0⟩ := hv
  have hx := B.exec
  have hb := B.bytes
  have hr := B.returns
  have hts := atoms_spec (ws := wsX6_beginWait) B.pre
  have hown : s.vm.findClass RX6 = some m.cls := findClass_of_methodNamed B.named
  have hlocks := B.notSynchronized
  subst hsz
  have hD := hD0.self (sz := s.heap.size)
  clear hD0
  generalize hAe : va_A (wB cA ad τ ++ rest) s.heap.size = A at hD ⊢
  have hA : ∀ q : Nat, s.heap.size ≤ q → A q := fun q h => by rw [← hAe]; exact Or.inr h
  clear hAe
  have hS : va_S A s.heap s.heap [] := va_S.rf
  have hP : va_P D vwCl (wB cA ad τ ++ rest) s.heap := hP
  have hl := lv_entry ([.ref (ad 0), .ref (ad (i + 6)), .int what, .int target]) (n := 4) (Nat.le_of_ble_eq_true rfl)
  rw [lg_entry_eq]
  generalize (lg_sl ([.ref (ad 0), .ref (ad (i + 6)), .int what, .int target]) ++ List.replicate (4 - (lg_sl ([.ref (ad 0), .ref (ad (i + 6)), .int what, .int target])).length) Slot.unset).toArray = ls at hl ⊢
  have hl : lv_has ls 4 [(0, .ref (ad 0)), (1, .ref (ad (i + 6))), (2, .int what), (3, .int target)] := hl
  have nX6 : ∀ w ∈ u_ws RX6 TX6 12, w ∈ wsX6_beginWait := by decide +kernel
  have nX7 : ∀ w ∈ u_ws RX7 TX7 17, w ∈ wsX6_beginWait := by decide +kernel
  have k80 := hts (.fieldLink RX6 80 "ScopeRow$Task" "state" "I") (by decide +kernel)
  have k106 := hts (.fieldLink RX6 106 "ScopeRow$Task" "behind" "I") (by decide +kernel)
  have k109 := hts (.fieldLink RX6 109 "ScopeRow$Task" "target" "I") (by decide +kernel)
  have k112 := hts (.fieldLink RX6 112 "ScopeRow$Task" "picks" "Z") (by decide +kernel)
  have k116 := hts (.fieldLink RX6 116 "ScopeRow$Task" "given" "Z") (by decide +kernel)
  have k119 := hts (.fieldLink RX6 119 "ScopeRow$Task" "fault" "I") (by decide +kernel)
  have k77 := hts (.fieldLink RX6 77 "ScopeRow$State" "waits" "I") (by decide +kernel)
  have k122 := hts (.fieldLink RX6 122 "ScopeRow$Task" "since" "I") (by decide +kernel)
  refine lv_aload_n hx hb dX6_beginWait_0 rfl (lv_at hl 1 rfl) ?_
  refine lv_iconst (v := 1) hx hb dX6_beginWait_1 (by decide) ?_
  refine p_tk hx hb hts nX7 hown hK hP hD hS hi 3 (by decide) (by decide) k80 (fun _ h9 => h9) rfl rfl rfl dX6_beginWait_2 (fun τ1 H locs eτ1 hP hD hS => ?_)
  refine lv_aload_n hx hb dX6_beginWait_5 rfl (lv_at hl 1 rfl) ?_
  refine lv_iload_n hx hb dX6_beginWait_6 rfl (lv_at hl 2 rfl) ?_
  refine p_tk hx hb hts nX7 hown hK hP hD hS hi 9 (by decide) (by decide) k106 (fun _ h9 => h9) rfl rfl rfl dX6_beginWait_7 (fun τ2 H locs eτ2 hP hD hS => ?_)
  refine lv_aload_n hx hb dX6_beginWait_10 rfl (lv_at hl 1 rfl) ?_
  refine lv_iload_n hx hb dX6_beginWait_11 rfl (lv_at hl 3 rfl) ?_
  refine p_tk hx hb hts nX7 hown hK hP hD hS hi 10 (by decide) (by decide) k109 (fun _ h9 => h9) rfl rfl rfl dX6_beginWait_12 (fun τ3 H locs eτ3 hP hD hS => ?_)
  refine lv_aload_n hx hb dX6_beginWait_15 rfl (lv_at hl 1 rfl) ?_
  refine lv_iconst (v := 0) hx hb dX6_beginWait_16 (by decide) ?_
  refine p_tk hx hb hts nX7 hown hK hP hD hS hi 11 (by decide) (by decide) k112 (fun _ h9 => h9) rfl rfl rfl dX6_beginWait_17 (fun τ4 H locs eτ4 hP hD hS => ?_)
  refine lv_aload_n hx hb dX6_beginWait_20 rfl (lv_at hl 1 rfl) ?_
  refine lv_iconst (v := 0) hx hb dX6_beginWait_21 (by decide) ?_
  refine p_tk hx hb hts nX7 hown hK hP hD hS hi 14 (by decide) (by decide) k116 (fun _ h9 => h9) rfl rfl rfl dX6_beginWait_22 (fun τ5 H locs eτ5 hP hD hS => ?_)
  refine lv_aload_n hx hb dX6_beginWait_25 rfl (lv_at hl 1 rfl) ?_
  refine lv_iconst (v := 0) hx hb dX6_beginWait_26 (by decide) ?_
  refine p_tk hx hb hts nX7 hown hK hP hD hS hi 15 (by decide) (by decide) k119 (fun _ h9 => h9) rfl rfl rfl dX6_beginWait_27 (fun τ6 H locs eτ6 hP hD hS => ?_)
  refine lv_aload_n hx hb dX6_beginWait_30 rfl (lv_at hl 1 rfl) ?_
  refine lv_aload_n hx hb dX6_beginWait_31 rfl (lv_at hl 0 rfl) ?_
  refine va_get (D := D) (C := RX6) (T := TX6) (N := 12) (ci := 6) (v := .int (τ6 0 11)) hx hb hts nX6 hown hK hP 0 w_st rfl 11 (by decide) k77 (fun _ h9 => h9) rfl dX6_beginWait_32 ?_
  refine p_tk hx hb hts nX7 hown hK hP hD hS hi 16 (by decide) (by decide) k122 (fun _ h9 => h9) rfl rfl rfl dX6_beginWait_35 (fun τ7 H locs eτ7 hP hD hS => ?_)
  refine lv_aload_n hx hb dX6_beginWait_38 rfl (lv_at hl 0 rfl) ?_
  refine lv_dup hx hb dX6_beginWait_39 rfl ?_
  refine va_get (D := D) (C := RX6) (T := TX6) (N := 12) (ci := 6) (v := .int (τ7 0 11)) hx hb hts nX6 hown hK hP 0 w_st rfl 11 (by decide) k77 (fun _ h9 => h9) rfl dX6_beginWait_40 ?_
  refine lv_iconst (v := 1) hx hb dX6_beginWait_43 (by decide) ?_
  refine lv_iadd hx hb dX6_beginWait_44 ?_
  refine p_st hx hb hts nX6 hown hK hP hD hS 11 (by decide) (by decide) k77 (fun _ h9 => h9) rfl rfl rfl dX6_beginWait_45 (fun τ8 H locs eτ8 hP hD hS => ?_)
  exact x_vret hx hb hr hlocks hK τ8 hP hD hS dX6_beginWait_48 (by subst eτ8 eτ7 eτ6 eτ5 eτ4 eτ3 eτ2 eτ1; simp [m_beginWait, n24, n40, n2, n27, n4])

set_option maxHeartbeats 4000000 in
set_option maxRecDepth 100000 in
theorem c_X6_waitsFor (l : Launch) (D : va_G) (cA : Nat → ClassId) (ad : Nat → Nat) (tr : List (ClassId × FieldType)) (rest : va_W) (sz : Nat) (τ : Sg) (i : Nat) (hi : i < 24) (what target : Int32) : Met l yX6_waitsFor wsX6_waitsFor ({ frames := 1, cells := 0, slots := 0, locals := 21 }) (va_Pc [.ref (ad 0), .ref (ad (i + 6)), .int what, .int target] (inW D (tyB cA ++ tr) (wB cA ad τ ++ rest) sz)) (va_Qi (fun (r : Int32) (_ : Unit) => r = bI (m_waitsFor τ i what target)) (fun _ : Unit => outW D (tyB cA ++ tr) (va_A (wB cA ad τ ++ rest) sz) (wB cA ad τ ++ rest)) (va_A (wB cA ad τ ++ rest) sz)) 0 0 (va_A (wB cA ad τ ++ rest) sz) := by
  refine Met.ofW (cc := cX6_waitsFor) (maxL := 4) (ret := (some .boolean)) (by decide) rfl ?_
  intro p e s m args below meth c s₁ B hml hv
  obtain ⟨rfl, hsz, hP, hK, hD0⟩ := hv
  have hx := B.exec
  have hb := B.bytes
  have hr := B.returns
  have hts := atoms_spec (ws := wsX6_waitsFor) B.pre
  have hown : s.vm.findClass RX6 = some m.cls := findClass_of_methodNamed B.named
  have hlocks := B.notSynchronized
  subst hsz
  have hD := hD0.self (sz := s.heap.size)
  clear hD0
  generalize hAe : va_A (wB cA ad τ ++ rest) s.heap.size = A at hD ⊢
  have hA : ∀ q : Nat, s.heap.size ≤ q → A q := fun q h => by rw [← hAe]; exact Or.inr h
  clear hAe
  have hS : va_S A s.heap s.heap [] := va_S.rf
  have hP : va_P D vwCl (wB cA ad τ ++ rest) s.heap := hP
  have hl := lv_entry ([.ref (ad 0), .ref (ad (i + 6)), .int what, .int target]) (n := 4) (Nat.le_of_ble_eq_true rfl)
  rw [lg_entry_eq]
  generalize (lg_sl ([.ref (ad 0), .ref (ad (i + 6)), .int what, .int target]) ++ List.replicate (4 - (lg_sl ([.ref (ad 0), .ref (ad (i + 6)), .int what, .int target])).length) Slot.unset).toArray = ls at hl ⊢
  have hl : lv_has ls 4 [(0, .ref (ad 0)), (1, .ref (ad (i + 6))), (2, .int what), (3, .int target)] := hl
  have nX7 : ∀ w ∈ u_ws RX7 TX7 17, w ∈ wsX6_waitsFor := by decide +kernel
  have k109 := hts (.fieldLink RX6 109 "ScopeRow$Task" "target" "I") (by decide +kernel)
  have k112 := hts (.fieldLink RX6 112 "ScopeRow$Task" "picks" "Z") (by decide +kernel)
  refine lv_aload_n hx hb dX6_waitsFor_0 rfl (lv_at hl 1 rfl) ?_
  refine lv_iload_n hx hb dX6_waitsFor_1 rfl (lv_at hl 2 rfl) ?_
  refine x_Vi (As := [.int what]) (rest0 := []) ⟨hx, hb, hml, hown, hts⟩ (c_X7_waitsAt l D cA ad tr rest s.heap.size τ i hi what) (cwV 1 hts gX6_waitsFor_X7_waitsAt rfl rfl rfl (by decide +kernel) ⟨Nat.le_of_ble_eq_true rfl, Nat.le_of_ble_eq_true rfl⟩) hK hP hD hS hA (i + 6) (w_tk hi) rfl hl.1 rfl rfl (by decide) ⟨Nat.zero_le _, Nat.zero_le _⟩ dX6_waitsFor_2 (fun r1 _ H locs hw hP hD hS => ?_)
  have er1 := hw
  refine lv_if_eq (tgt := 27) hx hb dX6_waitsFor_5 (by decide) (fun c_5_2 => ?_) (fun c_5_2 => ?_)
  -- 5 jumps
  · skip
    have dc_5_2 := bI_f er1 c_5_2
    refine lv_iconst (v := 0) hx hb dX6_waitsFor_27 (by decide) ?_
    exact x_zret hx hb hr rfl hlocks hK () hP hD hS dX6_waitsFor_28 (by subst er1; simp [bI, m_waitsFor] at *; simp [m_waitsFor, bI, dc_5_2])
  -- 5 goes on
  · skip
    have dc_5_2 := bI_t er1 c_5_2
    refine lv_aload_n hx hb dX6_waitsFor_8 rfl (lv_at hl 1 rfl) ?_
    refine va_get (D := D) (C := RX7) (T := TX7) (N := 17) (ci := 7) (v := .int (τ (i + 6) 10)) hx hb hts nX7 hown hK hP (i + 6) (w_tk hi) rfl 10 (by decide) k109 (fun _ h9 => h9) rfl dX6_waitsFor_9 ?_
    refine lv_iload_n hx hb dX6_waitsFor_12 rfl (lv_at hl 3 rfl) ?_
    refine lv_icmp_eq (tgt := 23) hx hb dX6_waitsFor_13 (by decide) (fun c_13_3 => ?_) (fun c_13_3 => ?_)
    -- 13 jumps
    · skip
      refine lv_iconst (v := 1) hx hb dX6_waitsFor_23 (by decide) ?_
      refine lv_goto (tgt := 28) hx hb dX6_waitsFor_24 (by decide) ?_
      exact x_zret hx hb hr rfl hlocks hK () hP hD hS dX6_waitsFor_28 (by subst er1; simp [bI, m_waitsFor] at *; simp [m_waitsFor, bI, dc_5_2, eq_true c_13_3])
    -- 13 goes on
    · skip
      refine lv_aload_n hx hb dX6_waitsFor_16 rfl (lv_at hl 1 rfl) ?_
      refine va_get (D := D) (C := RX7) (T := TX7) (N := 17) (ci := 7) (v := .int (τ (i + 6) 11)) hx hb hts nX7 hown hK hP (i + 6) (w_tk hi) rfl 11 (by decide) k112 (fun _ h9 => h9) rfl dX6_waitsFor_17 ?_
      refine lv_if_eq (tgt := 27) hx hb dX6_waitsFor_20 (by decide) (fun c_20_4 => ?_) (fun c_20_4 => ?_)
      -- 20 jumps
      · skip
        refine lv_iconst (v := 0) hx hb dX6_waitsFor_27 (by decide) ?_
        exact x_zret hx hb hr rfl hlocks hK () hP hD hS dX6_waitsFor_28 (by subst er1; simp [bI, m_waitsFor] at *; simp [m_waitsFor, bI, dc_5_2, c_13_3, eq_true c_20_4])
      -- 20 goes on
      · skip
        refine lv_iconst (v := 1) hx hb dX6_waitsFor_23 (by decide) ?_
        refine lv_goto (tgt := 28) hx hb dX6_waitsFor_24 (by decide) ?_
        exact x_zret hx hb hr rfl hlocks hK () hP hD hS dX6_waitsFor_28 (by subst er1; simp [bI, m_waitsFor] at *; simp [m_waitsFor, bI, dc_5_2, c_13_3, c_20_4])

set_option maxHeartbeats 4000000 in
set_option maxRecDepth 100000 in
theorem c_X6_firstWaiting (l : Launch) (D : va_G) (cA : Nat → ClassId) (ad : Nat → Nat) (tr : List (ClassId × FieldType)) (rest : va_W) (sz : Nat) (τ : Sg) (what target : Int32) : Met l yX6_firstWaiting wsX6_firstWaiting ({ frames := 0, cells := 0, slots := 0, locals := 0 }) (va_Pc [.ref (ad 0), .int what, .int target] (inW D (tyB cA ++ tr) (wB cA ad τ ++ rest) sz)) (va_Qq (fun (r : Option Nat) (_ : Unit) => r = (m_firstWaiting τ what target).map (fun a => ad (a + 6))) (fun _ : Unit => outW D (tyB cA ++ tr) (va_A (wB cA ad τ ++ rest) sz) (wB cA ad τ ++ rest)) (va_A (wB cA ad τ ++ rest) sz)) 0 0 (va_A (wB cA ad τ ++ rest) sz) := by
  refine Met.ofW (cc := cX6_firstWaiting) (maxL := 9) (ret := (some (.object "ScopeRow$Task"))) (by decide) rfl ?_
  intro p e s m args below meth c s₁ B hml hv
  obtain ⟨rfl, hsz, hP, hK, hD0⟩ := hv
  have hx := B.exec
  have hb := B.bytes
  have hr := B.returns
  have hts := atoms_spec (ws := wsX6_firstWaiting) B.pre
  have hown : s.vm.findClass RX6 = some m.cls := findClass_of_methodNamed B.named
  have hlocks := B.notSynchronized
  subst hsz
  have hD := hD0.self (sz := s.heap.size)
  clear hD0
  generalize hAe : va_A (wB cA ad τ ++ rest) s.heap.size = A at hD ⊢
  have hA : ∀ q : Nat, s.heap.size ≤ q → A q := fun q h => by rw [← hAe]; exact Or.inr h
  clear hAe
  have hS : va_S A s.heap s.heap [] := va_S.rf
  have hP : va_P D vwCl (wB cA ad τ ++ rest) s.heap := hP
  have hl := lv_entry ([.ref (ad 0), .int what, .int target]) (n := 9) (Nat.le_of_ble_eq_true rfl)
  rw [lg_entry_eq]
  generalize (lg_sl ([.ref (ad 0), .int what, .int target]) ++ List.replicate (9 - (lg_sl ([.ref (ad 0), .int what, .int target])).length) Slot.unset).toArray = ls at hl ⊢
  have hl : lv_has ls 9 [(0, .ref (ad 0)), (1, .int what), (2, .int target)] := hl
  have nX6 : ∀ w ∈ u_ws RX6 TX6 12, w ∈ wsX6_firstWaiting := by decide +kernel
  have nX7 : ∀ w ∈ u_ws RX7 TX7 17, w ∈ wsX6_firstWaiting := by decide +kernel
  have k11 := hts (.fieldLink RX6 11 "ScopeRow$State" "tasks" "[LScopeRow$Task;") (by decide +kernel)
  have k80 := hts (.fieldLink RX6 80 "ScopeRow$Task" "state" "I") (by decide +kernel)
  have k106 := hts (.fieldLink RX6 106 "ScopeRow$Task" "behind" "I") (by decide +kernel)
  have k109 := hts (.fieldLink RX6 109 "ScopeRow$Task" "target" "I") (by decide +kernel)
  have k112 := hts (.fieldLink RX6 112 "ScopeRow$Task" "picks" "Z") (by decide +kernel)
  have k122 := hts (.fieldLink RX6 122 "ScopeRow$Task" "since" "I") (by decide +kernel)
  refine lv_null hx hb dX6_firstWaiting_0 ?_
  refine lv_astore_nN (lv' := [(3, .null), (0, .ref (ad 0)), (1, .int what), (2, .int target)]) hx hb dX6_firstWaiting_1 rfl hl (by decide) rfl (fun ls hl => ?_)
  refine lv_aload_n hx hb dX6_firstWaiting_2 rfl (lv_at hl 1 rfl) ?_
  refine va_get (D := D) (C := RX6) (T := TX6) (N := 12) (ci := 6) (v := .ref (ad 1)) hx hb hts nX6 hown hK hP 0 w_st rfl 0 (by decide) k11 (fun _ h9 => h9) rfl dX6_firstWaiting_3 ?_
  refine lv_astore (lv' := [(4, .ref (ad 1)), (3, .null), (0, .ref (ad 0)), (1, .int what), (2, .int target)]) hx hb dX6_firstWaiting_6 hl (by decide) rfl (fun ls hl => ?_)
  refine lv_aload hx hb dX6_firstWaiting_8 (lv_at hl 0 rfl) ?_
  refine va_alen (v := 24) hx hb hK hP 1 1 w_a1 rfl rfl dX6_firstWaiting_10 ?_
  refine lv_istore (lv' := [(5, .int 24), (4, .ref (ad 1)), (3, .null), (0, .ref (ad 0)), (1, .int what), (2, .int target)]) hx hb dX6_firstWaiting_11 hl (by decide) rfl (fun ls hl => ?_)
  refine lv_iconst (v := 0) hx hb dX6_firstWaiting_13 (by decide) ?_
  refine lv_istore (lv' := [(6, .int 0), (5, .int 24), (4, .ref (ad 1)), (3, .null), (0, .ref (ad 0)), (1, .int what), (2, .int target)]) hx hb dX6_firstWaiting_14 hl (by decide) rfl (fun ls hl => ?_)
  refine W_meas (I := fun (n : Nat) (H : Heap) (locs : List Loc) (ls : Array Slot) => ∃ (j : Nat) (acc : Option Nat), ((n + j = 24) ∧ (m_fw τ what target n j acc = m_firstWaiting τ what target) ∧ (∀ b, acc = some b → b < 24)) ∧ va_P D vwCl (wB cA ad τ ++ rest) H ∧ va_D A (wB cA ad τ ++ rest) ∧ va_S A s.heap H locs ∧ lv_has ls 9 [(0, .ref (ad 0)), (1, .int what), (2, .int target), (3, va_rf (Option.map (fun a => ad (a + 6)) acc)), (4, .ref (ad 1)), (5, .int 24), (6, .int (nI j))]) 24 ⟨0, none, ⟨by omega, rfl, by intro b h; cases h⟩, hP, hD, hS, lv_sub hl [4, 5, 6, 3, 2, 1, 0] rfl⟩ ?_
  clear hP hD hS hl
  intro n ih H locs ls hI
  obtain ⟨j, acc, ⟨hn, hf, hacc⟩, hP, hD, hS, hl⟩ := hI
  rcases acc with _ | b
  · skip
    have hl : lv_has ls 9 [(0, .ref (ad 0)), (1, .int what), (2, .int target), (3, .null), (4, .ref (ad 1)), (5, .int 24), (6, .int (nI j))] := hl
    refine lv_iload hx hb dX6_firstWaiting_16 (lv_at hl 6 rfl) ?_
    refine lv_iload hx hb dX6_firstWaiting_18 (lv_at hl 5 rfl) ?_
    refine lv_icmp_ge (tgt := 102) hx hb dX6_firstWaiting_20 (by decide) (fun c_20_1 => ?_) (fun c_20_1 => ?_)
    -- 20 jumps
    · skip
      obtain rfl : n = 0 := by have := ge_c c_20_1 (by omega); omega
      refine lv_aload_nN hx hb dX6_firstWaiting_102 rfl (lv_at hl 3 rfl) ?_
      exact x_aret hx hb hr hlocks hK none rfl () hP hD hS dX6_firstWaiting_103 (by rw [← hf]; simp [m_fw])
    -- 20 goes on
    · skip
      have hj : j < 24 := lt_c c_20_1 (by omega)
      obtain ⟨n, rfl⟩ : ∃ k, n = k + 1 := ⟨n - 1, by omega⟩
      refine lv_aload hx hb dX6_firstWaiting_23 (lv_at hl 4 rfl) ?_
      refine lv_iload hx hb dX6_firstWaiting_25 (lv_at hl 6 rfl) ?_
      refine l_a1 hx hb hK hP (j := j) (nI_clamp (by omega)) (vp_in_nI hj (by omega)) dX6_firstWaiting_27 ?_
      refine lv_astore (lv' := [(7, .ref (ad (j + 6))), (0, .ref (ad 0)), (1, .int what), (2, .int target), (3, .null), (4, .ref (ad 1)), (5, .int 24), (6, .int (nI j))]) hx hb dX6_firstWaiting_28 hl (by decide) rfl (fun ls hl => ?_)
      refine lv_aload hx hb dX6_firstWaiting_30 (lv_at hl 0 rfl) ?_
      refine va_get (D := D) (C := RX7) (T := TX7) (N := 17) (ci := 7) (v := .int (τ (j + 6) 3)) hx hb hts nX7 hown hK hP (j + 6) (w_tk hj) rfl 3 (by decide) k80 (fun _ h9 => h9) rfl dX6_firstWaiting_32 ?_
      refine lv_iconst (v := 1) hx hb dX6_firstWaiting_35 (by decide) ?_
      refine lv_icmp_ne (tgt := 69) hx hb dX6_firstWaiting_36 (by decide) (fun c_36_2 => ?_) (fun c_36_2 => ?_)
      -- 36 jumps
      · skip
        refine lv_iconst (v := 0) hx hb dX6_firstWaiting_69 (by decide) ?_
        refine lv_istore (lv' := [(8, .int 0), (7, .ref (ad (j + 6))), (0, .ref (ad 0)), (1, .int what), (2, .int target), (3, .null), (4, .ref (ad 1)), (5, .int 24), (6, .int (nI j))]) hx hb dX6_firstWaiting_70 hl (by decide) rfl (fun ls hl => ?_)
        refine lv_iload hx hb dX6_firstWaiting_72 (lv_at hl 0 rfl) ?_
        refine lv_if_eq (tgt := 96) hx hb dX6_firstWaiting_74 (by decide) (fun c_74_3 => ?_) (fun c_74_3 => ?_)
        -- 74 jumps
        · skip
          refine lv_iinc (v := (nI (j + 1))) (lv' := [(6, .int (nI (j + 1))), (8, .int 0), (7, .ref (ad (j + 6))), (0, .ref (ad 0)), (1, .int what), (2, .int target), (3, .null), (4, .ref (ad 1)), (5, .int 24)]) hx hb dX6_firstWaiting_96 hl (k := 8) rfl (show nI j + 1 = nI (j + 1) from nI_1 j) (by decide) rfl (fun ls hl => ?_)
          refine lv_goto (tgt := 16) hx hb dX6_firstWaiting_99 (by decide) ?_
          exact ih n (Nat.lt_succ_self n) H locs ls ⟨j + 1, (none), ⟨by omega, by rw [← hf]; simp [m_fw, m_fwc, m_sel, c_20_1, c_36_2, eq_true c_74_3], by intro b h; cases h⟩, hP, hD, hS, lv_sub hl [3, 4, 5, 6, 7, 8, 0] rfl⟩
        -- 74 goes on
        · exact absurd c_74_3 (by decide)
      -- 36 goes on
      · skip
        refine lv_aload hx hb dX6_firstWaiting_39 (lv_at hl 0 rfl) ?_
        refine va_get (D := D) (C := RX7) (T := TX7) (N := 17) (ci := 7) (v := .int (τ (j + 6) 9)) hx hb hts nX7 hown hK hP (j + 6) (w_tk hj) rfl 9 (by decide) k106 (fun _ h9 => h9) rfl dX6_firstWaiting_41 ?_
        refine lv_iload_n hx hb dX6_firstWaiting_44 rfl (lv_at hl 2 rfl) ?_
        refine lv_icmp_ne (tgt := 69) hx hb dX6_firstWaiting_45 (by decide) (fun c_45_4 => ?_) (fun c_45_4 => ?_)
        -- 45 jumps
        · skip
          refine lv_iconst (v := 0) hx hb dX6_firstWaiting_69 (by decide) ?_
          refine lv_istore (lv' := [(8, .int 0), (7, .ref (ad (j + 6))), (0, .ref (ad 0)), (1, .int what), (2, .int target), (3, .null), (4, .ref (ad 1)), (5, .int 24), (6, .int (nI j))]) hx hb dX6_firstWaiting_70 hl (by decide) rfl (fun ls hl => ?_)
          refine lv_iload hx hb dX6_firstWaiting_72 (lv_at hl 0 rfl) ?_
          refine lv_if_eq (tgt := 96) hx hb dX6_firstWaiting_74 (by decide) (fun c_74_5 => ?_) (fun c_74_5 => ?_)
          -- 74 jumps
          · skip
            refine lv_iinc (v := (nI (j + 1))) (lv' := [(6, .int (nI (j + 1))), (8, .int 0), (7, .ref (ad (j + 6))), (0, .ref (ad 0)), (1, .int what), (2, .int target), (3, .null), (4, .ref (ad 1)), (5, .int 24)]) hx hb dX6_firstWaiting_96 hl (k := 8) rfl (show nI j + 1 = nI (j + 1) from nI_1 j) (by decide) rfl (fun ls hl => ?_)
            refine lv_goto (tgt := 16) hx hb dX6_firstWaiting_99 (by decide) ?_
            exact ih n (Nat.lt_succ_self n) H locs ls ⟨j + 1, (none), ⟨by omega, by rw [← hf]; simp [m_fw, m_fwc, m_sel, c_20_1, eq_true c_36_2, c_45_4, eq_true c_74_5], by intro b h; cases h⟩, hP, hD, hS, lv_sub hl [3, 4, 5, 6, 7, 8, 0] rfl⟩
          -- 74 goes on
          · exact absurd c_74_5 (by decide)
        -- 45 goes on
        · skip
          refine lv_aload hx hb dX6_firstWaiting_48 (lv_at hl 0 rfl) ?_
          refine va_get (D := D) (C := RX7) (T := TX7) (N := 17) (ci := 7) (v := .int (τ (j + 6) 10)) hx hb hts nX7 hown hK hP (j + 6) (w_tk hj) rfl 10 (by decide) k109 (fun _ h9 => h9) rfl dX6_firstWaiting_50 ?_
          refine lv_iload_n hx hb dX6_firstWaiting_53 rfl (lv_at hl 3 rfl) ?_
          refine lv_icmp_eq (tgt := 65) hx hb dX6_firstWaiting_54 (by decide) (fun c_54_6 => ?_) (fun c_54_6 => ?_)
          -- 54 jumps
          · skip
            refine lv_iconst (v := 1) hx hb dX6_firstWaiting_65 (by decide) ?_
            refine lv_goto (tgt := 70) hx hb dX6_firstWaiting_66 (by decide) ?_
            refine lv_istore (lv' := [(8, .int 1), (7, .ref (ad (j + 6))), (0, .ref (ad 0)), (1, .int what), (2, .int target), (3, .null), (4, .ref (ad 1)), (5, .int 24), (6, .int (nI j))]) hx hb dX6_firstWaiting_70 hl (by decide) rfl (fun ls hl => ?_)
            refine lv_iload hx hb dX6_firstWaiting_72 (lv_at hl 0 rfl) ?_
            refine lv_if_eq (tgt := 96) hx hb dX6_firstWaiting_74 (by decide) (fun c_74_7 => ?_) (fun c_74_7 => ?_)
            -- 74 jumps
            · exact absurd c_74_7 (by decide)
            -- 74 goes on
            · skip
              refine lv_aload_nN hx hb dX6_firstWaiting_77 rfl (lv_at hl 5 rfl) ?_
              refine lv_ifnullN (tgt := 93) hx hb dX6_firstWaiting_78 (by decide) ?_
              refine lv_aload hx hb dX6_firstWaiting_93 (lv_at hl 1 rfl) ?_
              refine lv_astore_n (lv' := [(3, .ref (ad (j + 6))), (8, .int 1), (7, .ref (ad (j + 6))), (0, .ref (ad 0)), (1, .int what), (2, .int target), (4, .ref (ad 1)), (5, .int 24), (6, .int (nI j))]) hx hb dX6_firstWaiting_95 rfl hl (by decide) rfl (fun ls hl => ?_)
              refine lv_iinc (v := (nI (j + 1))) (lv' := [(6, .int (nI (j + 1))), (3, .ref (ad (j + 6))), (8, .int 1), (7, .ref (ad (j + 6))), (0, .ref (ad 0)), (1, .int what), (2, .int target), (4, .ref (ad 1)), (5, .int 24)]) hx hb dX6_firstWaiting_96 hl (k := 8) rfl (show nI j + 1 = nI (j + 1) from nI_1 j) (by decide) rfl (fun ls hl => ?_)
              refine lv_goto (tgt := 16) hx hb dX6_firstWaiting_99 (by decide) ?_
              exact ih n (Nat.lt_succ_self n) H locs ls ⟨j + 1, (some j), ⟨by omega, by rw [← hf]; simp [m_fw, m_fwc, m_sel, c_20_1, eq_true c_36_2, eq_true c_45_4, eq_true c_54_6, c_74_7], by intro b h; cases h; exact hj⟩, hP, hD, hS, lv_sub hl [4, 5, 6, 1, 7, 8, 0] rfl⟩
          -- 54 goes on
          · skip
            refine lv_aload hx hb dX6_firstWaiting_57 (lv_at hl 0 rfl) ?_
            refine va_get (D := D) (C := RX7) (T := TX7) (N := 17) (ci := 7) (v := .int (τ (j + 6) 11)) hx hb hts nX7 hown hK hP (j + 6) (w_tk hj) rfl 11 (by decide) k112 (fun _ h9 => h9) rfl dX6_firstWaiting_59 ?_
            refine lv_if_eq (tgt := 69) hx hb dX6_firstWaiting_62 (by decide) (fun c_62_8 => ?_) (fun c_62_8 => ?_)
            -- 62 jumps
            · skip
              refine lv_iconst (v := 0) hx hb dX6_firstWaiting_69 (by decide) ?_
              refine lv_istore (lv' := [(8, .int 0), (7, .ref (ad (j + 6))), (0, .ref (ad 0)), (1, .int what), (2, .int target), (3, .null), (4, .ref (ad 1)), (5, .int 24), (6, .int (nI j))]) hx hb dX6_firstWaiting_70 hl (by decide) rfl (fun ls hl => ?_)
              refine lv_iload hx hb dX6_firstWaiting_72 (lv_at hl 0 rfl) ?_
              refine lv_if_eq (tgt := 96) hx hb dX6_firstWaiting_74 (by decide) (fun c_74_9 => ?_) (fun c_74_9 => ?_)
              -- 74 jumps
              · skip
                refine lv_iinc (v := (nI (j + 1))) (lv' := [(6, .int (nI (j + 1))), (8, .int 0), (7, .ref (ad (j + 6))), (0, .ref (ad 0)), (1, .int what), (2, .int target), (3, .null), (4, .ref (ad 1)), (5, .int 24)]) hx hb dX6_firstWaiting_96 hl (k := 8) rfl (show nI j + 1 = nI (j + 1) from nI_1 j) (by decide) rfl (fun ls hl => ?_)
                refine lv_goto (tgt := 16) hx hb dX6_firstWaiting_99 (by decide) ?_
                exact ih n (Nat.lt_succ_self n) H locs ls ⟨j + 1, (none), ⟨by omega, by rw [← hf]; simp [m_fw, m_fwc, m_sel, c_20_1, eq_true c_36_2, eq_true c_45_4, c_54_6, eq_true c_62_8, eq_true c_74_9], by intro b h; cases h⟩, hP, hD, hS, lv_sub hl [3, 4, 5, 6, 7, 8, 0] rfl⟩
              -- 74 goes on
              · exact absurd c_74_9 (by decide)
            -- 62 goes on
            · skip
              refine lv_iconst (v := 1) hx hb dX6_firstWaiting_65 (by decide) ?_
              refine lv_goto (tgt := 70) hx hb dX6_firstWaiting_66 (by decide) ?_
              refine lv_istore (lv' := [(8, .int 1), (7, .ref (ad (j + 6))), (0, .ref (ad 0)), (1, .int what), (2, .int target), (3, .null), (4, .ref (ad 1)), (5, .int 24), (6, .int (nI j))]) hx hb dX6_firstWaiting_70 hl (by decide) rfl (fun ls hl => ?_)
              refine lv_iload hx hb dX6_firstWaiting_72 (lv_at hl 0 rfl) ?_
              refine lv_if_eq (tgt := 96) hx hb dX6_firstWaiting_74 (by decide) (fun c_74_10 => ?_) (fun c_74_10 => ?_)
              -- 74 jumps
              · exact absurd c_74_10 (by decide)
              -- 74 goes on
              · skip
                refine lv_aload_nN hx hb dX6_firstWaiting_77 rfl (lv_at hl 5 rfl) ?_
                refine lv_ifnullN (tgt := 93) hx hb dX6_firstWaiting_78 (by decide) ?_
                refine lv_aload hx hb dX6_firstWaiting_93 (lv_at hl 1 rfl) ?_
                refine lv_astore_n (lv' := [(3, .ref (ad (j + 6))), (8, .int 1), (7, .ref (ad (j + 6))), (0, .ref (ad 0)), (1, .int what), (2, .int target), (4, .ref (ad 1)), (5, .int 24), (6, .int (nI j))]) hx hb dX6_firstWaiting_95 rfl hl (by decide) rfl (fun ls hl => ?_)
                refine lv_iinc (v := (nI (j + 1))) (lv' := [(6, .int (nI (j + 1))), (3, .ref (ad (j + 6))), (8, .int 1), (7, .ref (ad (j + 6))), (0, .ref (ad 0)), (1, .int what), (2, .int target), (4, .ref (ad 1)), (5, .int 24)]) hx hb dX6_firstWaiting_96 hl (k := 8) rfl (show nI j + 1 = nI (j + 1) from nI_1 j) (by decide) rfl (fun ls hl => ?_)
                refine lv_goto (tgt := 16) hx hb dX6_firstWaiting_99 (by decide) ?_
                exact ih n (Nat.lt_succ_self n) H locs ls ⟨j + 1, (some j), ⟨by omega, by rw [← hf]; simp [m_fw, m_fwc, m_sel, c_20_1, eq_true c_36_2, eq_true c_45_4, c_54_6, c_62_8, c_74_10], by intro b h; cases h; exact hj⟩, hP, hD, hS, lv_sub hl [4, 5, 6, 1, 7, 8, 0] rfl⟩
  · skip
    have hb0 : b < 24 := hacc b rfl
    have hl : lv_has ls 9 [(0, .ref (ad 0)), (1, .int what), (2, .int target), (3, .ref (ad (b + 6))), (4, .ref (ad 1)), (5, .int 24), (6, .int (nI j))] := hl
    refine lv_iload hx hb dX6_firstWaiting_16 (lv_at hl 6 rfl) ?_
    refine lv_iload hx hb dX6_firstWaiting_18 (lv_at hl 5 rfl) ?_
    refine lv_icmp_ge (tgt := 102) hx hb dX6_firstWaiting_20 (by decide) (fun c_20_11 => ?_) (fun c_20_11 => ?_)
    -- 20 jumps
    · skip
      obtain rfl : n = 0 := by have := ge_c c_20_11 (by omega); omega
      refine lv_aload_n hx hb dX6_firstWaiting_102 rfl (lv_at hl 3 rfl) ?_
      exact x_aret hx hb hr hlocks hK (some (ad (b + 6))) rfl () hP hD hS dX6_firstWaiting_103 (by rw [← hf]; simp [m_fw])
    -- 20 goes on
    · skip
      have hj : j < 24 := lt_c c_20_11 (by omega)
      obtain ⟨n, rfl⟩ : ∃ k, n = k + 1 := ⟨n - 1, by omega⟩
      refine lv_aload hx hb dX6_firstWaiting_23 (lv_at hl 4 rfl) ?_
      refine lv_iload hx hb dX6_firstWaiting_25 (lv_at hl 6 rfl) ?_
      refine l_a1 hx hb hK hP (j := j) (nI_clamp (by omega)) (vp_in_nI hj (by omega)) dX6_firstWaiting_27 ?_
      refine lv_astore (lv' := [(7, .ref (ad (j + 6))), (0, .ref (ad 0)), (1, .int what), (2, .int target), (3, .ref (ad (b + 6))), (4, .ref (ad 1)), (5, .int 24), (6, .int (nI j))]) hx hb dX6_firstWaiting_28 hl (by decide) rfl (fun ls hl => ?_)
      refine lv_aload hx hb dX6_firstWaiting_30 (lv_at hl 0 rfl) ?_
      refine va_get (D := D) (C := RX7) (T := TX7) (N := 17) (ci := 7) (v := .int (τ (j + 6) 3)) hx hb hts nX7 hown hK hP (j + 6) (w_tk hj) rfl 3 (by decide) k80 (fun _ h9 => h9) rfl dX6_firstWaiting_32 ?_
      refine lv_iconst (v := 1) hx hb dX6_firstWaiting_35 (by decide) ?_
      refine lv_icmp_ne (tgt := 69) hx hb dX6_firstWaiting_36 (by decide) (fun c_36_12 => ?_) (fun c_36_12 => ?_)
      -- 36 jumps
      · skip
        refine lv_iconst (v := 0) hx hb dX6_firstWaiting_69 (by decide) ?_
        refine lv_istore (lv' := [(8, .int 0), (7, .ref (ad (j + 6))), (0, .ref (ad 0)), (1, .int what), (2, .int target), (3, .ref (ad (b + 6))), (4, .ref (ad 1)), (5, .int 24), (6, .int (nI j))]) hx hb dX6_firstWaiting_70 hl (by decide) rfl (fun ls hl => ?_)
        refine lv_iload hx hb dX6_firstWaiting_72 (lv_at hl 0 rfl) ?_
        refine lv_if_eq (tgt := 96) hx hb dX6_firstWaiting_74 (by decide) (fun c_74_13 => ?_) (fun c_74_13 => ?_)
        -- 74 jumps
        · skip
          refine lv_iinc (v := (nI (j + 1))) (lv' := [(6, .int (nI (j + 1))), (8, .int 0), (7, .ref (ad (j + 6))), (0, .ref (ad 0)), (1, .int what), (2, .int target), (3, .ref (ad (b + 6))), (4, .ref (ad 1)), (5, .int 24)]) hx hb dX6_firstWaiting_96 hl (k := 8) rfl (show nI j + 1 = nI (j + 1) from nI_1 j) (by decide) rfl (fun ls hl => ?_)
          refine lv_goto (tgt := 16) hx hb dX6_firstWaiting_99 (by decide) ?_
          exact ih n (Nat.lt_succ_self n) H locs ls ⟨j + 1, (some b), ⟨by omega, by rw [← hf]; simp [m_fw, m_fwc, m_sel, c_20_11, c_36_12, eq_true c_74_13], by intro b h; cases h; exact hb0⟩, hP, hD, hS, lv_sub hl [3, 4, 5, 6, 7, 8, 0] rfl⟩
        -- 74 goes on
        · exact absurd c_74_13 (by decide)
      -- 36 goes on
      · skip
        refine lv_aload hx hb dX6_firstWaiting_39 (lv_at hl 0 rfl) ?_
        refine va_get (D := D) (C := RX7) (T := TX7) (N := 17) (ci := 7) (v := .int (τ (j + 6) 9)) hx hb hts nX7 hown hK hP (j + 6) (w_tk hj) rfl 9 (by decide) k106 (fun _ h9 => h9) rfl dX6_firstWaiting_41 ?_
        refine lv_iload_n hx hb dX6_firstWaiting_44 rfl (lv_at hl 2 rfl) ?_
        refine lv_icmp_ne (tgt := 69) hx hb dX6_firstWaiting_45 (by decide) (fun c_45_14 => ?_) (fun c_45_14 => ?_)
        -- 45 jumps
        · skip
          refine lv_iconst (v := 0) hx hb dX6_firstWaiting_69 (by decide) ?_
          refine lv_istore (lv' := [(8, .int 0), (7, .ref (ad (j + 6))), (0, .ref (ad 0)), (1, .int what), (2, .int target), (3, .ref (ad (b + 6))), (4, .ref (ad 1)), (5, .int 24), (6, .int (nI j))]) hx hb dX6_firstWaiting_70 hl (by decide) rfl (fun ls hl => ?_)
          refine lv_iload hx hb dX6_firstWaiting_72 (lv_at hl 0 rfl) ?_
          refine lv_if_eq (tgt := 96) hx hb dX6_firstWaiting_74 (by decide) (fun c_74_15 => ?_) (fun c_74_15 => ?_)
          -- 74 jumps
          · skip
            refine lv_iinc (v := (nI (j + 1))) (lv' := [(6, .int (nI (j + 1))), (8, .int 0), (7, .ref (ad (j + 6))), (0, .ref (ad 0)), (1, .int what), (2, .int target), (3, .ref (ad (b + 6))), (4, .ref (ad 1)), (5, .int 24)]) hx hb dX6_firstWaiting_96 hl (k := 8) rfl (show nI j + 1 = nI (j + 1) from nI_1 j) (by decide) rfl (fun ls hl => ?_)
            refine lv_goto (tgt := 16) hx hb dX6_firstWaiting_99 (by decide) ?_
            exact ih n (Nat.lt_succ_self n) H locs ls ⟨j + 1, (some b), ⟨by omega, by rw [← hf]; simp [m_fw, m_fwc, m_sel, c_20_11, eq_true c_36_12, c_45_14, eq_true c_74_15], by intro b h; cases h; exact hb0⟩, hP, hD, hS, lv_sub hl [3, 4, 5, 6, 7, 8, 0] rfl⟩
          -- 74 goes on
          · exact absurd c_74_15 (by decide)
        -- 45 goes on
        · skip
          refine lv_aload hx hb dX6_firstWaiting_48 (lv_at hl 0 rfl) ?_
          refine va_get (D := D) (C := RX7) (T := TX7) (N := 17) (ci := 7) (v := .int (τ (j + 6) 10)) hx hb hts nX7 hown hK hP (j + 6) (w_tk hj) rfl 10 (by decide) k109 (fun _ h9 => h9) rfl dX6_firstWaiting_50 ?_
          refine lv_iload_n hx hb dX6_firstWaiting_53 rfl (lv_at hl 3 rfl) ?_
          refine lv_icmp_eq (tgt := 65) hx hb dX6_firstWaiting_54 (by decide) (fun c_54_16 => ?_) (fun c_54_16 => ?_)
          -- 54 jumps
          · skip
            refine lv_iconst (v := 1) hx hb dX6_firstWaiting_65 (by decide) ?_
            refine lv_goto (tgt := 70) hx hb dX6_firstWaiting_66 (by decide) ?_
            refine lv_istore (lv' := [(8, .int 1), (7, .ref (ad (j + 6))), (0, .ref (ad 0)), (1, .int what), (2, .int target), (3, .ref (ad (b + 6))), (4, .ref (ad 1)), (5, .int 24), (6, .int (nI j))]) hx hb dX6_firstWaiting_70 hl (by decide) rfl (fun ls hl => ?_)
            refine lv_iload hx hb dX6_firstWaiting_72 (lv_at hl 0 rfl) ?_
            refine lv_if_eq (tgt := 96) hx hb dX6_firstWaiting_74 (by decide) (fun c_74_17 => ?_) (fun c_74_17 => ?_)
            -- 74 jumps
            · exact absurd c_74_17 (by decide)
            -- 74 goes on
            · skip
              refine lv_aload_n hx hb dX6_firstWaiting_77 rfl (lv_at hl 5 rfl) ?_
              refine lv_ifnull hx hb dX6_firstWaiting_78 ?_
              refine lv_aload hx hb dX6_firstWaiting_81 (lv_at hl 1 rfl) ?_
              refine va_get (D := D) (C := RX7) (T := TX7) (N := 17) (ci := 7) (v := .int (τ (j + 6) 16)) hx hb hts nX7 hown hK hP (j + 6) (w_tk hj) rfl 16 (by decide) k122 (fun _ h9 => h9) rfl dX6_firstWaiting_83 ?_
              refine lv_aload_n hx hb dX6_firstWaiting_86 rfl (lv_at hl 5 rfl) ?_
              refine va_get (D := D) (C := RX7) (T := TX7) (N := 17) (ci := 7) (v := .int (τ (b + 6) 16)) hx hb hts nX7 hown hK hP (b + 6) (w_tk hb0) rfl 16 (by decide) k122 (fun _ h9 => h9) rfl dX6_firstWaiting_87 ?_
              refine lv_icmp_ge (tgt := 96) hx hb dX6_firstWaiting_90 (by decide) (fun c_90_18 => ?_) (fun c_90_18 => ?_)
              -- 90 jumps
              · skip
                refine lv_iinc (v := (nI (j + 1))) (lv' := [(6, .int (nI (j + 1))), (8, .int 1), (7, .ref (ad (j + 6))), (0, .ref (ad 0)), (1, .int what), (2, .int target), (3, .ref (ad (b + 6))), (4, .ref (ad 1)), (5, .int 24)]) hx hb dX6_firstWaiting_96 hl (k := 8) rfl (show nI j + 1 = nI (j + 1) from nI_1 j) (by decide) rfl (fun ls hl => ?_)
                refine lv_goto (tgt := 16) hx hb dX6_firstWaiting_99 (by decide) ?_
                exact ih n (Nat.lt_succ_self n) H locs ls ⟨j + 1, (some b), ⟨by omega, by rw [← hf]; simp [m_fw, m_fwc, m_sel, c_20_11, eq_true c_36_12, eq_true c_45_14, eq_true c_54_16, c_74_17, eq_true c_90_18], by intro b h; cases h; exact hb0⟩, hP, hD, hS, lv_sub hl [3, 4, 5, 6, 7, 8, 0] rfl⟩
              -- 90 goes on
              · skip
                refine lv_aload hx hb dX6_firstWaiting_93 (lv_at hl 1 rfl) ?_
                refine lv_astore_n (lv' := [(3, .ref (ad (j + 6))), (8, .int 1), (7, .ref (ad (j + 6))), (0, .ref (ad 0)), (1, .int what), (2, .int target), (4, .ref (ad 1)), (5, .int 24), (6, .int (nI j))]) hx hb dX6_firstWaiting_95 rfl hl (by decide) rfl (fun ls hl => ?_)
                refine lv_iinc (v := (nI (j + 1))) (lv' := [(6, .int (nI (j + 1))), (3, .ref (ad (j + 6))), (8, .int 1), (7, .ref (ad (j + 6))), (0, .ref (ad 0)), (1, .int what), (2, .int target), (4, .ref (ad 1)), (5, .int 24)]) hx hb dX6_firstWaiting_96 hl (k := 8) rfl (show nI j + 1 = nI (j + 1) from nI_1 j) (by decide) rfl (fun ls hl => ?_)
                refine lv_goto (tgt := 16) hx hb dX6_firstWaiting_99 (by decide) ?_
                exact ih n (Nat.lt_succ_self n) H locs ls ⟨j + 1, (some j), ⟨by omega, by rw [← hf]; simp [m_fw, m_fwc, m_sel, c_20_11, eq_true c_36_12, eq_true c_45_14, eq_true c_54_16, c_74_17, c_90_18], by intro b h; cases h; exact hj⟩, hP, hD, hS, lv_sub hl [4, 5, 6, 1, 7, 8, 0] rfl⟩
          -- 54 goes on
          · skip
            refine lv_aload hx hb dX6_firstWaiting_57 (lv_at hl 0 rfl) ?_
            refine va_get (D := D) (C := RX7) (T := TX7) (N := 17) (ci := 7) (v := .int (τ (j + 6) 11)) hx hb hts nX7 hown hK hP (j + 6) (w_tk hj) rfl 11 (by decide) k112 (fun _ h9 => h9) rfl dX6_firstWaiting_59 ?_
            refine lv_if_eq (tgt := 69) hx hb dX6_firstWaiting_62 (by decide) (fun c_62_19 => ?_) (fun c_62_19 => ?_)
            -- 62 jumps
            · skip
              refine lv_iconst (v := 0) hx hb dX6_firstWaiting_69 (by decide) ?_
              refine lv_istore (lv' := [(8, .int 0), (7, .ref (ad (j + 6))), (0, .ref (ad 0)), (1, .int what), (2, .int target), (3, .ref (ad (b + 6))), (4, .ref (ad 1)), (5, .int 24), (6, .int (nI j))]) hx hb dX6_firstWaiting_70 hl (by decide) rfl (fun ls hl => ?_)
              refine lv_iload hx hb dX6_firstWaiting_72 (lv_at hl 0 rfl) ?_
              refine lv_if_eq (tgt := 96) hx hb dX6_firstWaiting_74 (by decide) (fun c_74_20 => ?_) (fun c_74_20 => ?_)
              -- 74 jumps
              · skip
                refine lv_iinc (v := (nI (j + 1))) (lv' := [(6, .int (nI (j + 1))), (8, .int 0), (7, .ref (ad (j + 6))), (0, .ref (ad 0)), (1, .int what), (2, .int target), (3, .ref (ad (b + 6))), (4, .ref (ad 1)), (5, .int 24)]) hx hb dX6_firstWaiting_96 hl (k := 8) rfl (show nI j + 1 = nI (j + 1) from nI_1 j) (by decide) rfl (fun ls hl => ?_)
                refine lv_goto (tgt := 16) hx hb dX6_firstWaiting_99 (by decide) ?_
                exact ih n (Nat.lt_succ_self n) H locs ls ⟨j + 1, (some b), ⟨by omega, by rw [← hf]; simp [m_fw, m_fwc, m_sel, c_20_11, eq_true c_36_12, eq_true c_45_14, c_54_16, eq_true c_62_19, eq_true c_74_20], by intro b h; cases h; exact hb0⟩, hP, hD, hS, lv_sub hl [3, 4, 5, 6, 7, 8, 0] rfl⟩
              -- 74 goes on
              · exact absurd c_74_20 (by decide)
            -- 62 goes on
            · skip
              refine lv_iconst (v := 1) hx hb dX6_firstWaiting_65 (by decide) ?_
              refine lv_goto (tgt := 70) hx hb dX6_firstWaiting_66 (by decide) ?_
              refine lv_istore (lv' := [(8, .int 1), (7, .ref (ad (j + 6))), (0, .ref (ad 0)), (1, .int what), (2, .int target), (3, .ref (ad (b + 6))), (4, .ref (ad 1)), (5, .int 24), (6, .int (nI j))]) hx hb dX6_firstWaiting_70 hl (by decide) rfl (fun ls hl => ?_)
              refine lv_iload hx hb dX6_firstWaiting_72 (lv_at hl 0 rfl) ?_
              refine lv_if_eq (tgt := 96) hx hb dX6_firstWaiting_74 (by decide) (fun c_74_21 => ?_) (fun c_74_21 => ?_)
              -- 74 jumps
              · exact absurd c_74_21 (by decide)
              -- 74 goes on
              · skip
                refine lv_aload_n hx hb dX6_firstWaiting_77 rfl (lv_at hl 5 rfl) ?_
                refine lv_ifnull hx hb dX6_firstWaiting_78 ?_
                refine lv_aload hx hb dX6_firstWaiting_81 (lv_at hl 1 rfl) ?_
                refine va_get (D := D) (C := RX7) (T := TX7) (N := 17) (ci := 7) (v := .int (τ (j + 6) 16)) hx hb hts nX7 hown hK hP (j + 6) (w_tk hj) rfl 16 (by decide) k122 (fun _ h9 => h9) rfl dX6_firstWaiting_83 ?_
                refine lv_aload_n hx hb dX6_firstWaiting_86 rfl (lv_at hl 5 rfl) ?_
                refine va_get (D := D) (C := RX7) (T := TX7) (N := 17) (ci := 7) (v := .int (τ (b + 6) 16)) hx hb hts nX7 hown hK hP (b + 6) (w_tk hb0) rfl 16 (by decide) k122 (fun _ h9 => h9) rfl dX6_firstWaiting_87 ?_
                refine lv_icmp_ge (tgt := 96) hx hb dX6_firstWaiting_90 (by decide) (fun c_90_22 => ?_) (fun c_90_22 => ?_)
                -- 90 jumps
                · skip
                  refine lv_iinc (v := (nI (j + 1))) (lv' := [(6, .int (nI (j + 1))), (8, .int 1), (7, .ref (ad (j + 6))), (0, .ref (ad 0)), (1, .int what), (2, .int target), (3, .ref (ad (b + 6))), (4, .ref (ad 1)), (5, .int 24)]) hx hb dX6_firstWaiting_96 hl (k := 8) rfl (show nI j + 1 = nI (j + 1) from nI_1 j) (by decide) rfl (fun ls hl => ?_)
                  refine lv_goto (tgt := 16) hx hb dX6_firstWaiting_99 (by decide) ?_
                  exact ih n (Nat.lt_succ_self n) H locs ls ⟨j + 1, (some b), ⟨by omega, by rw [← hf]; simp [m_fw, m_fwc, m_sel, c_20_11, eq_true c_36_12, eq_true c_45_14, c_54_16, c_62_19, c_74_21, eq_true c_90_22], by intro b h; cases h; exact hb0⟩, hP, hD, hS, lv_sub hl [3, 4, 5, 6, 7, 8, 0] rfl⟩
                -- 90 goes on
                · skip
                  refine lv_aload hx hb dX6_firstWaiting_93 (lv_at hl 1 rfl) ?_
                  refine lv_astore_n (lv' := [(3, .ref (ad (j + 6))), (8, .int 1), (7, .ref (ad (j + 6))), (0, .ref (ad 0)), (1, .int what), (2, .int target), (4, .ref (ad 1)), (5, .int 24), (6, .int (nI j))]) hx hb dX6_firstWaiting_95 rfl hl (by decide) rfl (fun ls hl => ?_)
                  refine lv_iinc (v := (nI (j + 1))) (lv' := [(6, .int (nI (j + 1))), (3, .ref (ad (j + 6))), (8, .int 1), (7, .ref (ad (j + 6))), (0, .ref (ad 0)), (1, .int what), (2, .int target), (4, .ref (ad 1)), (5, .int 24)]) hx hb dX6_firstWaiting_96 hl (k := 8) rfl (show nI j + 1 = nI (j + 1) from nI_1 j) (by decide) rfl (fun ls hl => ?_)
                  refine lv_goto (tgt := 16) hx hb dX6_firstWaiting_99 (by decide) ?_
                  exact ih n (Nat.lt_succ_self n) H locs ls ⟨j + 1, (some j), ⟨by omega, by rw [← hf]; simp [m_fw, m_fwc, m_sel, c_20_11, eq_true c_36_12, eq_true c_45_14, c_54_16, c_62_19, c_74_21, c_90_22], by intro b h; cases h; exact hj⟩, hP, hD, hS, lv_sub hl [4, 5, 6, 1, 7, 8, 0] rfl⟩

set_option maxHeartbeats 4000000 in
set_option maxRecDepth 100000 in
theorem c_X6_isHit (l : Launch) (D : va_G) (cA : Nat → ClassId) (ad : Nat → Nat) (tr : List (ClassId × FieldType)) (rest : va_W) (sz : Nat) (τ : Sg) (i : Nat) (hi : i < 24) (also : Int32) : Met l yX6_isHit wsX6_isHit ({ frames := 0, cells := 0, slots := 0, locals := 0 }) (va_Pc [.ref (ad 0), .ref (ad (i + 6)), .int also] (inW D (tyB cA ++ tr) (wB cA ad τ ++ rest) sz)) (va_Qi (fun (r : Int32) (_ : Unit) => r = bI (m_isHit τ i also)) (fun _ : Unit => outW D (tyB cA ++ tr) (va_A (wB cA ad τ ++ rest) sz) (wB cA ad τ ++ rest)) (va_A (wB cA ad τ ++ rest) sz)) 0 0 (va_A (wB cA ad τ ++ rest) sz) := by
  refine Met.ofW (cc := cX6_isHit) (maxL := 6) (ret := (some .boolean)) (by decide) rfl ?_
  intro p e s m args below meth c s₁ B hml hv
  obtain ⟨rfl, hsz, hP, hK, hD0⟩ := hv
  have hx := B.exec
  have hb := B.bytes
  have hr := B.returns
  have hts := atoms_spec (ws := wsX6_isHit) B.pre
  have hown : s.vm.findClass RX6 = some m.cls := findClass_of_methodNamed B.named
  have hlocks := B.notSynchronized
  subst hsz
  have hD := hD0.self (sz := s.heap.size)
  clear hD0
  generalize hAe : va_A (wB cA ad τ ++ rest) s.heap.size = A at hD ⊢
  have hA : ∀ q : Nat, s.heap.size ≤ q → A q := fun q h => by rw [← hAe]; exact Or.inr h
  clear hAe
  have hS : va_S A s.heap s.heap [] := va_S.rf
  have hP : va_P D vwCl (wB cA ad τ ++ rest) s.heap := hP
  have hl := lv_entry ([.ref (ad 0), .ref (ad (i + 6)), .int also]) (n := 6) (Nat.le_of_ble_eq_true rfl)
  rw [lg_entry_eq]
  generalize (lg_sl ([.ref (ad 0), .ref (ad (i + 6)), .int also]) ++ List.replicate (6 - (lg_sl ([.ref (ad 0), .ref (ad (i + 6)), .int also])).length) Slot.unset).toArray = ls at hl ⊢
  have hl : lv_has ls 6 [(0, .ref (ad 0)), (1, .ref (ad (i + 6))), (2, .int also)] := hl
  have nX5 : ∀ w ∈ u_ws RX5 TX5 14, w ∈ wsX6_isHit := by decide +kernel
  have nX6 : ∀ w ∈ u_ws RX6 TX6 12, w ∈ wsX6_isHit := by decide +kernel
  have nX7 : ∀ w ∈ u_ws RX7 TX7 17, w ∈ wsX6_isHit := by decide +kernel
  have k129 := hts (.fieldLink RX6 129 "ScopeRow$Task" "top" "I") (by decide +kernel)
  have k97 := hts (.fieldLink RX6 97 "ScopeRow$Task" "in" "I") (by decide +kernel)
  have k19 := hts (.fieldLink RX6 19 "ScopeRow$State" "scopes" "[LScopeRow$Scope;") (by decide +kernel)
  have k132 := hts (.fieldLink RX6 132 "ScopeRow$Scope" "state" "I") (by decide +kernel)
  have k139 := hts (.fieldLink RX6 139 "ScopeRow$Scope" "outer" "I") (by decide +kernel)
  have k133 := hts (.fieldLink RX6 133 "ScopeRow$Scope" "cancelled" "Z") (by decide +kernel)
  have k136 := hts (.fieldLink RX6 136 "ScopeRow$Scope" "shield" "Z") (by decide +kernel)
  refine lv_aload_n hx hb dX6_isHit_0 rfl (lv_at hl 1 rfl) ?_
  refine va_get (D := D) (C := RX7) (T := TX7) (N := 17) (ci := 7) (v := .int (τ (i + 6) 7)) hx hb hts nX7 hown hK hP (i + 6) (w_tk hi) rfl 7 (by decide) k129 (fun _ h9 => h9) rfl dX6_isHit_1 ?_
  refine lv_iconst (v := (-1)) hx hb dX6_isHit_4 (by decide) ?_
  refine lv_icmp_eq (tgt := 15) hx hb dX6_isHit_5 (by decide) (fun c_5_1 => ?_) (fun c_5_1 => ?_)
  -- 5 jumps
  · skip
    refine lv_aload_n hx hb dX6_isHit_15 rfl (lv_at hl 1 rfl) ?_
    refine va_get (D := D) (C := RX7) (T := TX7) (N := 17) (ci := 7) (v := .int (τ (i + 6) 6)) hx hb hts nX7 hown hK hP (i + 6) (w_tk hi) rfl 6 (by decide) k97 (fun _ h9 => h9) rfl dX6_isHit_16 ?_
    refine lv_topi (fun x2 ex2 => ?_)
    refine lv_istore_n (lv' := [(3, .int x2), (0, .ref (ad 0)), (1, .ref (ad (i + 6))), (2, .int also)]) hx hb dX6_isHit_19 rfl hl (by decide) rfl (fun ls hl => ?_)
    refine lv_iconst (v := 0) hx hb dX6_isHit_20 (by decide) ?_
    refine lv_istore (lv' := [(4, .int 0), (3, .int x2), (0, .ref (ad 0)), (1, .ref (ad (i + 6))), (2, .int also)]) hx hb dX6_isHit_21 hl (by decide) rfl (fun ls hl => ?_)
    refine W_meas (I := fun (n : Nat) (H : Heap) (locs : List Loc) (ls : Array Slot) => ∃ (k : Nat) (x : Int32), ((n + k = 40) ∧ (m_hit τ also n x = m_isHit τ i also)) ∧ va_P D vwCl (wB cA ad τ ++ rest) H ∧ va_D A (wB cA ad τ ++ rest) ∧ va_S A s.heap H locs ∧ lv_has ls 6 [(0, .ref (ad 0)), (1, .ref (ad (i + 6))), (2, .int also), (3, .int x), (4, .int (nI k))]) 40 ⟨0, x2, ⟨by omega, by subst ex2; simp [m_isHit, eq_true c_5_1]⟩, hP, hD, hS, lv_sub hl [2, 3, 4, 1, 0] rfl⟩ ?_
    clear hP hD hS hl
    intro n ih H locs ls hI
    obtain ⟨k, x, ⟨hn, hf⟩, hP, hD, hS, hl⟩ := hI
    refine lv_iload hx hb dX6_isHit_23 (lv_at hl 4 rfl) ?_
    refine lv_bipush (v := 40) hx hb dX6_isHit_25 (by decide) ?_
    refine lv_icmp_ge (tgt := 97) hx hb dX6_isHit_27 (by decide) (fun c_27_3 => ?_) (fun c_27_3 => ?_)
    -- 27 jumps
    · skip
      obtain rfl : n = 0 := by have := ge_c40 c_27_3 (by omega); omega
      refine lv_iconst (v := 0) hx hb dX6_isHit_97 (by decide) ?_
      exact x_zret hx hb hr rfl hlocks hK () hP hD hS dX6_isHit_98 (by subst ex2; rw [← hf]; simp [m_hit, bI, n40, eq_true c_27_3])
    -- 27 goes on
    · skip
      have hk : k < 40 := lt_c40 c_27_3 (by omega)
      obtain ⟨n, rfl⟩ : ∃ q, n = q + 1 := ⟨n - 1, by omega⟩
      refine lv_iload_n hx hb dX6_isHit_30 rfl (lv_at hl 3 rfl) ?_
      refine lv_if_lt (tgt := 97) hx hb dX6_isHit_31 (by decide) (fun c_31_4 => ?_) (fun c_31_4 => ?_)
      -- 31 jumps
      · skip
        refine lv_iconst (v := 0) hx hb dX6_isHit_97 (by decide) ?_
        exact x_zret hx hb hr rfl hlocks hK () hP hD hS dX6_isHit_98 (by subst ex2; rw [← hf]; simp [m_hit, bI, n40, c_27_3, eq_true c_31_4])
      -- 31 goes on
      · skip
        refine lv_iload_n hx hb dX6_isHit_34 rfl (lv_at hl 3 rfl) ?_
        refine lv_aload_n hx hb dX6_isHit_35 rfl (lv_at hl 0 rfl) ?_
        refine va_get (D := D) (C := RX6) (T := TX6) (N := 12) (ci := 6) (v := .ref (ad 2)) hx hb hts nX6 hown hK hP 0 w_st rfl 2 (by decide) k19 (fun _ h9 => h9) rfl dX6_isHit_36 ?_
        refine va_alen (v := 40) hx hb hK hP 2 2 w_a2 rfl rfl dX6_isHit_39 ?_
        refine lv_icmp_ge (tgt := 97) hx hb dX6_isHit_40 (by decide) (fun c_40_5 => ?_) (fun c_40_5 => ?_)
        -- 40 jumps
        · skip
          refine lv_iconst (v := 0) hx hb dX6_isHit_97 (by decide) ?_
          exact x_zret hx hb hr rfl hlocks hK () hP hD hS dX6_isHit_98 (by subst ex2; rw [← hf]; simp [m_hit, bI, n40, c_27_3, c_31_4, eq_true c_40_5])
        -- 40 goes on
        · skip
          refine lv_aload_n hx hb dX6_isHit_43 rfl (lv_at hl 0 rfl) ?_
          refine va_get (D := D) (C := RX6) (T := TX6) (N := 12) (ci := 6) (v := .ref (ad 2)) hx hb hts nX6 hown hK hP 0 w_st rfl 2 (by decide) k19 (fun _ h9 => h9) rfl dX6_isHit_44 ?_
          refine lv_iload_n hx hb dX6_isHit_47 rfl (lv_at hl 3 rfl) ?_
          refine l_a2 hx hb hK hP (j := x.toNatClampNeg) rfl (in_of c_31_4 c_40_5 (by decide)) dX6_isHit_48 ?_
          refine lv_astore (lv' := [(5, .ref (ad (x.toNatClampNeg + 54))), (0, .ref (ad 0)), (1, .ref (ad (i + 6))), (2, .int also), (3, .int x), (4, .int (nI k))]) hx hb dX6_isHit_49 hl (by decide) rfl (fun ls hl => ?_)
          refine lv_aload hx hb dX6_isHit_51 (lv_at hl 0 rfl) ?_
          refine va_get (D := D) (C := RX5) (T := TX5) (N := 14) (ci := 5) (v := .int (τ (x.toNatClampNeg + 54) 1)) hx hb hts nX5 hown hK hP (x.toNatClampNeg + 54) (w_sc (in_lt (in_of c_31_4 c_40_5 (by decide)))) rfl 1 (by decide) k132 (fun _ h9 => h9) rfl dX6_isHit_53 ?_
          refine lv_iconst (v := 2) hx hb dX6_isHit_56 (by decide) ?_
          refine lv_icmp_eq (tgt := 85) hx hb dX6_isHit_57 (by decide) (fun c_57_6 => ?_) (fun c_57_6 => ?_)
          -- 57 jumps
          · skip
            refine lv_aload hx hb dX6_isHit_85 (lv_at hl 0 rfl) ?_
            refine va_get (D := D) (C := RX5) (T := TX5) (N := 14) (ci := 5) (v := .int (τ (x.toNatClampNeg + 54) 4)) hx hb hts nX5 hown hK hP (x.toNatClampNeg + 54) (w_sc (in_lt (in_of c_31_4 c_40_5 (by decide)))) rfl 4 (by decide) k139 (fun _ h9 => h9) rfl dX6_isHit_87 ?_
            refine lv_topi (fun x7 ex7 => ?_)
            refine lv_istore_n (lv' := [(3, .int x7), (5, .ref (ad (x.toNatClampNeg + 54))), (0, .ref (ad 0)), (1, .ref (ad (i + 6))), (2, .int also), (4, .int (nI k))]) hx hb dX6_isHit_90 rfl hl (by decide) rfl (fun ls hl => ?_)
            refine lv_iinc (v := (nI (k + 1))) (lv' := [(4, .int (nI (k + 1))), (3, .int x7), (5, .ref (ad (x.toNatClampNeg + 54))), (0, .ref (ad 0)), (1, .ref (ad (i + 6))), (2, .int also)]) hx hb dX6_isHit_91 hl (k := 5) rfl (show nI k + 1 = nI (k + 1) from nI_1 k) (by decide) rfl (fun ls hl => ?_)
            refine lv_goto (tgt := 23) hx hb dX6_isHit_94 (by decide) ?_
            exact ih n (Nat.lt_succ_self n) H locs ls ⟨(k + 1), x7, ⟨by omega, by subst ex7 ex2; rw [← hf]; simp [m_hit, n40, c_27_3, c_31_4, c_40_5, eq_true c_57_6]⟩, hP, hD, hS, lv_sub hl [3, 4, 5, 1, 0] rfl⟩
          -- 57 goes on
          · skip
            refine lv_aload hx hb dX6_isHit_60 (lv_at hl 0 rfl) ?_
            refine va_get (D := D) (C := RX5) (T := TX5) (N := 14) (ci := 5) (v := .int (τ (x.toNatClampNeg + 54) 5)) hx hb hts nX5 hown hK hP (x.toNatClampNeg + 54) (w_sc (in_lt (in_of c_31_4 c_40_5 (by decide)))) rfl 5 (by decide) k133 (fun _ h9 => h9) rfl dX6_isHit_62 ?_
            refine lv_if_ne (tgt := 73) hx hb dX6_isHit_65 (by decide) (fun c_65_8 => ?_) (fun c_65_8 => ?_)
            -- 65 jumps
            · skip
              refine lv_iconst (v := 1) hx hb dX6_isHit_73 (by decide) ?_
              exact x_zret hx hb hr rfl hlocks hK () hP hD hS dX6_isHit_74 (by subst ex2; rw [← hf]; simp [m_hit, bI, n40, c_27_3, c_31_4, c_40_5, c_57_6, c_65_8])
            -- 65 goes on
            · skip
              refine lv_iload_n hx hb dX6_isHit_68 rfl (lv_at hl 4 rfl) ?_
              refine lv_iload_n hx hb dX6_isHit_69 rfl (lv_at hl 3 rfl) ?_
              refine lv_icmp_ne (tgt := 75) hx hb dX6_isHit_70 (by decide) (fun c_70_9 => ?_) (fun c_70_9 => ?_)
              -- 70 jumps
              · skip
                refine lv_aload hx hb dX6_isHit_75 (lv_at hl 0 rfl) ?_
                refine va_get (D := D) (C := RX5) (T := TX5) (N := 14) (ci := 5) (v := .int (τ (x.toNatClampNeg + 54) 6)) hx hb hts nX5 hown hK hP (x.toNatClampNeg + 54) (w_sc (in_lt (in_of c_31_4 c_40_5 (by decide)))) rfl 6 (by decide) k136 (fun _ h9 => h9) rfl dX6_isHit_77 ?_
                refine lv_if_eq (tgt := 85) hx hb dX6_isHit_80 (by decide) (fun c_80_10 => ?_) (fun c_80_10 => ?_)
                -- 80 jumps
                · skip
                  refine lv_aload hx hb dX6_isHit_85 (lv_at hl 0 rfl) ?_
                  refine va_get (D := D) (C := RX5) (T := TX5) (N := 14) (ci := 5) (v := .int (τ (x.toNatClampNeg + 54) 4)) hx hb hts nX5 hown hK hP (x.toNatClampNeg + 54) (w_sc (in_lt (in_of c_31_4 c_40_5 (by decide)))) rfl 4 (by decide) k139 (fun _ h9 => h9) rfl dX6_isHit_87 ?_
                  refine lv_topi (fun x11 ex11 => ?_)
                  refine lv_istore_n (lv' := [(3, .int x11), (5, .ref (ad (x.toNatClampNeg + 54))), (0, .ref (ad 0)), (1, .ref (ad (i + 6))), (2, .int also), (4, .int (nI k))]) hx hb dX6_isHit_90 rfl hl (by decide) rfl (fun ls hl => ?_)
                  refine lv_iinc (v := (nI (k + 1))) (lv' := [(4, .int (nI (k + 1))), (3, .int x11), (5, .ref (ad (x.toNatClampNeg + 54))), (0, .ref (ad 0)), (1, .ref (ad (i + 6))), (2, .int also)]) hx hb dX6_isHit_91 hl (k := 5) rfl (show nI k + 1 = nI (k + 1) from nI_1 k) (by decide) rfl (fun ls hl => ?_)
                  refine lv_goto (tgt := 23) hx hb dX6_isHit_94 (by decide) ?_
                  exact ih n (Nat.lt_succ_self n) H locs ls ⟨(k + 1), x11, ⟨by omega, by subst ex11 ex2; rw [← hf]; simp [m_hit, n40, c_27_3, c_31_4, c_40_5, c_57_6, eq_true c_65_8, c_70_9, eq_true c_80_10]⟩, hP, hD, hS, lv_sub hl [3, 4, 5, 1, 0] rfl⟩
                -- 80 goes on
                · skip
                  refine lv_iconst (v := 0) hx hb dX6_isHit_83 (by decide) ?_
                  exact x_zret hx hb hr rfl hlocks hK () hP hD hS dX6_isHit_84 (by subst ex2; rw [← hf]; simp [m_hit, bI, n40, c_27_3, c_31_4, c_40_5, c_57_6, eq_true c_65_8, c_70_9, c_80_10])
              -- 70 goes on
              · skip
                refine lv_iconst (v := 1) hx hb dX6_isHit_73 (by decide) ?_
                exact x_zret hx hb hr rfl hlocks hK () hP hD hS dX6_isHit_74 (by subst ex2; rw [← hf]; simp [m_hit, bI, n40, c_27_3, c_31_4, c_40_5, c_57_6, eq_true c_65_8, eq_true c_70_9])
  -- 5 goes on
  · skip
    refine lv_aload_n hx hb dX6_isHit_8 rfl (lv_at hl 1 rfl) ?_
    refine va_get (D := D) (C := RX7) (T := TX7) (N := 17) (ci := 7) (v := .int (τ (i + 6) 7)) hx hb hts nX7 hown hK hP (i + 6) (w_tk hi) rfl 7 (by decide) k129 (fun _ h9 => h9) rfl dX6_isHit_9 ?_
    refine lv_goto (tgt := 19) hx hb dX6_isHit_12 (by decide) ?_
    refine lv_topi (fun x12 ex12 => ?_)
    refine lv_istore_n (lv' := [(3, .int x12), (0, .ref (ad 0)), (1, .ref (ad (i + 6))), (2, .int also)]) hx hb dX6_isHit_19 rfl hl (by decide) rfl (fun ls hl => ?_)
    refine lv_iconst (v := 0) hx hb dX6_isHit_20 (by decide) ?_
    refine lv_istore (lv' := [(4, .int 0), (3, .int x12), (0, .ref (ad 0)), (1, .ref (ad (i + 6))), (2, .int also)]) hx hb dX6_isHit_21 hl (by decide) rfl (fun ls hl => ?_)
    refine W_meas (I := fun (n : Nat) (H : Heap) (locs : List Loc) (ls : Array Slot) => ∃ (k : Nat) (x : Int32), ((n + k = 40) ∧ (m_hit τ also n x = m_isHit τ i also)) ∧ va_P D vwCl (wB cA ad τ ++ rest) H ∧ va_D A (wB cA ad τ ++ rest) ∧ va_S A s.heap H locs ∧ lv_has ls 6 [(0, .ref (ad 0)), (1, .ref (ad (i + 6))), (2, .int also), (3, .int x), (4, .int (nI k))]) 40 ⟨0, x12, ⟨by omega, by subst ex12; simp [m_isHit, c_5_1]⟩, hP, hD, hS, lv_sub hl [2, 3, 4, 1, 0] rfl⟩ ?_
    clear hP hD hS hl
    intro n ih H locs ls hI
    obtain ⟨k, x, ⟨hn, hf⟩, hP, hD, hS, hl⟩ := hI
    refine lv_iload hx hb dX6_isHit_23 (lv_at hl 4 rfl) ?_
    refine lv_bipush (v := 40) hx hb dX6_isHit_25 (by decide) ?_
    refine lv_icmp_ge (tgt := 97) hx hb dX6_isHit_27 (by decide) (fun c_27_13 => ?_) (fun c_27_13 => ?_)
    -- 27 jumps
    · skip
      obtain rfl : n = 0 := by have := ge_c40 c_27_13 (by omega); omega
      refine lv_iconst (v := 0) hx hb dX6_isHit_97 (by decide) ?_
      exact x_zret hx hb hr rfl hlocks hK () hP hD hS dX6_isHit_98 (by subst ex12; rw [← hf]; simp [m_hit, bI, n40, eq_true c_27_13])
    -- 27 goes on
    · skip
      have hk : k < 40 := lt_c40 c_27_13 (by omega)
      obtain ⟨n, rfl⟩ : ∃ q, n = q + 1 := ⟨n - 1, by omega⟩
      refine lv_iload_n hx hb dX6_isHit_30 rfl (lv_at hl 3 rfl) ?_
      refine lv_if_lt (tgt := 97) hx hb dX6_isHit_31 (by decide) (fun c_31_14 => ?_) (fun c_31_14 => ?_)
      -- 31 jumps
      · skip
        refine lv_iconst (v := 0) hx hb dX6_isHit_97 (by decide) ?_
        exact x_zret hx hb hr rfl hlocks hK () hP hD hS dX6_isHit_98 (by subst ex12; rw [← hf]; simp [m_hit, bI, n40, c_27_13, eq_true c_31_14])
      -- 31 goes on
      · skip
        refine lv_iload_n hx hb dX6_isHit_34 rfl (lv_at hl 3 rfl) ?_
        refine lv_aload_n hx hb dX6_isHit_35 rfl (lv_at hl 0 rfl) ?_
        refine va_get (D := D) (C := RX6) (T := TX6) (N := 12) (ci := 6) (v := .ref (ad 2)) hx hb hts nX6 hown hK hP 0 w_st rfl 2 (by decide) k19 (fun _ h9 => h9) rfl dX6_isHit_36 ?_
        refine va_alen (v := 40) hx hb hK hP 2 2 w_a2 rfl rfl dX6_isHit_39 ?_
        refine lv_icmp_ge (tgt := 97) hx hb dX6_isHit_40 (by decide) (fun c_40_15 => ?_) (fun c_40_15 => ?_)
        -- 40 jumps
        · skip
          refine lv_iconst (v := 0) hx hb dX6_isHit_97 (by decide) ?_
          exact x_zret hx hb hr rfl hlocks hK () hP hD hS dX6_isHit_98 (by subst ex12; rw [← hf]; simp [m_hit, bI, n40, c_27_13, c_31_14, eq_true c_40_15])
        -- 40 goes on
        · skip
          refine lv_aload_n hx hb dX6_isHit_43 rfl (lv_at hl 0 rfl) ?_
          refine va_get (D := D) (C := RX6) (T := TX6) (N := 12) (ci := 6) (v := .ref (ad 2)) hx hb hts nX6 hown hK hP 0 w_st rfl 2 (by decide) k19 (fun _ h9 => h9) rfl dX6_isHit_44 ?_
          refine lv_iload_n hx hb dX6_isHit_47 rfl (lv_at hl 3 rfl) ?_
          refine l_a2 hx hb hK hP (j := x.toNatClampNeg) rfl (in_of c_31_14 c_40_15 (by decide)) dX6_isHit_48 ?_
          refine lv_astore (lv' := [(5, .ref (ad (x.toNatClampNeg + 54))), (0, .ref (ad 0)), (1, .ref (ad (i + 6))), (2, .int also), (3, .int x), (4, .int (nI k))]) hx hb dX6_isHit_49 hl (by decide) rfl (fun ls hl => ?_)
          refine lv_aload hx hb dX6_isHit_51 (lv_at hl 0 rfl) ?_
          refine va_get (D := D) (C := RX5) (T := TX5) (N := 14) (ci := 5) (v := .int (τ (x.toNatClampNeg + 54) 1)) hx hb hts nX5 hown hK hP (x.toNatClampNeg + 54) (w_sc (in_lt (in_of c_31_14 c_40_15 (by decide)))) rfl 1 (by decide) k132 (fun _ h9 => h9) rfl dX6_isHit_53 ?_
          refine lv_iconst (v := 2) hx hb dX6_isHit_56 (by decide) ?_
          refine lv_icmp_eq (tgt := 85) hx hb dX6_isHit_57 (by decide) (fun c_57_16 => ?_) (fun c_57_16 => ?_)
          -- 57 jumps
          · skip
            refine lv_aload hx hb dX6_isHit_85 (lv_at hl 0 rfl) ?_
            refine va_get (D := D) (C := RX5) (T := TX5) (N := 14) (ci := 5) (v := .int (τ (x.toNatClampNeg + 54) 4)) hx hb hts nX5 hown hK hP (x.toNatClampNeg + 54) (w_sc (in_lt (in_of c_31_14 c_40_15 (by decide)))) rfl 4 (by decide) k139 (fun _ h9 => h9) rfl dX6_isHit_87 ?_
            refine lv_topi (fun x17 ex17 => ?_)
            refine lv_istore_n (lv' := [(3, .int x17), (5, .ref (ad (x.toNatClampNeg + 54))), (0, .ref (ad 0)), (1, .ref (ad (i + 6))), (2, .int also), (4, .int (nI k))]) hx hb dX6_isHit_90 rfl hl (by decide) rfl (fun ls hl => ?_)
            refine lv_iinc (v := (nI (k + 1))) (lv' := [(4, .int (nI (k + 1))), (3, .int x17), (5, .ref (ad (x.toNatClampNeg + 54))), (0, .ref (ad 0)), (1, .ref (ad (i + 6))), (2, .int also)]) hx hb dX6_isHit_91 hl (k := 5) rfl (show nI k + 1 = nI (k + 1) from nI_1 k) (by decide) rfl (fun ls hl => ?_)
            refine lv_goto (tgt := 23) hx hb dX6_isHit_94 (by decide) ?_
            exact ih n (Nat.lt_succ_self n) H locs ls ⟨(k + 1), x17, ⟨by omega, by subst ex17 ex12; rw [← hf]; simp [m_hit, n40, c_27_13, c_31_14, c_40_15, eq_true c_57_16]⟩, hP, hD, hS, lv_sub hl [3, 4, 5, 1, 0] rfl⟩
          -- 57 goes on
          · skip
            refine lv_aload hx hb dX6_isHit_60 (lv_at hl 0 rfl) ?_
            refine va_get (D := D) (C := RX5) (T := TX5) (N := 14) (ci := 5) (v := .int (τ (x.toNatClampNeg + 54) 5)) hx hb hts nX5 hown hK hP (x.toNatClampNeg + 54) (w_sc (in_lt (in_of c_31_14 c_40_15 (by decide)))) rfl 5 (by decide) k133 (fun _ h9 => h9) rfl dX6_isHit_62 ?_
            refine lv_if_ne (tgt := 73) hx hb dX6_isHit_65 (by decide) (fun c_65_18 => ?_) (fun c_65_18 => ?_)
            -- 65 jumps
            · skip
              refine lv_iconst (v := 1) hx hb dX6_isHit_73 (by decide) ?_
              exact x_zret hx hb hr rfl hlocks hK () hP hD hS dX6_isHit_74 (by subst ex12; rw [← hf]; simp [m_hit, bI, n40, c_27_13, c_31_14, c_40_15, c_57_16, c_65_18])
            -- 65 goes on
            · skip
              refine lv_iload_n hx hb dX6_isHit_68 rfl (lv_at hl 4 rfl) ?_
              refine lv_iload_n hx hb dX6_isHit_69 rfl (lv_at hl 3 rfl) ?_
              refine lv_icmp_ne (tgt := 75) hx hb dX6_isHit_70 (by decide) (fun c_70_19 => ?_) (fun c_70_19 => ?_)
              -- 70 jumps
              · skip
                refine lv_aload hx hb dX6_isHit_75 (lv_at hl 0 rfl) ?_
                refine va_get (D := D) (C := RX5) (T := TX5) (N := 14) (ci := 5) (v := .int (τ (x.toNatClampNeg + 54) 6)) hx hb hts nX5 hown hK hP (x.toNatClampNeg + 54) (w_sc (in_lt (in_of c_31_14 c_40_15 (by decide)))) rfl 6 (by decide) k136 (fun _ h9 => h9) rfl dX6_isHit_77 ?_
                refine lv_if_eq (tgt := 85) hx hb dX6_isHit_80 (by decide) (fun c_80_20 => ?_) (fun c_80_20 => ?_)
                -- 80 jumps
                · skip
                  refine lv_aload hx hb dX6_isHit_85 (lv_at hl 0 rfl) ?_
                  refine va_get (D := D) (C := RX5) (T := TX5) (N := 14) (ci := 5) (v := .int (τ (x.toNatClampNeg + 54) 4)) hx hb hts nX5 hown hK hP (x.toNatClampNeg + 54) (w_sc (in_lt (in_of c_31_14 c_40_15 (by decide)))) rfl 4 (by decide) k139 (fun _ h9 => h9) rfl dX6_isHit_87 ?_
                  refine lv_topi (fun x21 ex21 => ?_)
                  refine lv_istore_n (lv' := [(3, .int x21), (5, .ref (ad (x.toNatClampNeg + 54))), (0, .ref (ad 0)), (1, .ref (ad (i + 6))), (2, .int also), (4, .int (nI k))]) hx hb dX6_isHit_90 rfl hl (by decide) rfl (fun ls hl => ?_)
                  refine lv_iinc (v := (nI (k + 1))) (lv' := [(4, .int (nI (k + 1))), (3, .int x21), (5, .ref (ad (x.toNatClampNeg + 54))), (0, .ref (ad 0)), (1, .ref (ad (i + 6))), (2, .int also)]) hx hb dX6_isHit_91 hl (k := 5) rfl (show nI k + 1 = nI (k + 1) from nI_1 k) (by decide) rfl (fun ls hl => ?_)
                  refine lv_goto (tgt := 23) hx hb dX6_isHit_94 (by decide) ?_
                  exact ih n (Nat.lt_succ_self n) H locs ls ⟨(k + 1), x21, ⟨by omega, by subst ex21 ex12; rw [← hf]; simp [m_hit, n40, c_27_13, c_31_14, c_40_15, c_57_16, eq_true c_65_18, c_70_19, eq_true c_80_20]⟩, hP, hD, hS, lv_sub hl [3, 4, 5, 1, 0] rfl⟩
                -- 80 goes on
                · skip
                  refine lv_iconst (v := 0) hx hb dX6_isHit_83 (by decide) ?_
                  exact x_zret hx hb hr rfl hlocks hK () hP hD hS dX6_isHit_84 (by subst ex12; rw [← hf]; simp [m_hit, bI, n40, c_27_13, c_31_14, c_40_15, c_57_16, eq_true c_65_18, c_70_19, c_80_20])
              -- 70 goes on
              · skip
                refine lv_iconst (v := 1) hx hb dX6_isHit_73 (by decide) ?_
                exact x_zret hx hb hr rfl hlocks hK () hP hD hS dX6_isHit_74 (by subst ex12; rw [← hf]; simp [m_hit, bI, n40, c_27_13, c_31_14, c_40_15, c_57_16, eq_true c_65_18, eq_true c_70_19])
