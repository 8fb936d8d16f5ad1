theorem lt_cN (N : Nat) {j : Nat} (h : ¬ nI N ≤ nI j) (hN : N < 2 ^ 31) (hj : j < 2 ^ 31) : j < N := Nat.not_le.mp (fun q => h ((nI_leI hN hj).mpr q))
theorem ge_cN (N : Nat) {j : Nat} (h : nI N ≤ nI j) (hN : N < 2 ^ 31) (hj : j < 2 ^ 31) : N ≤ j := (nI_leI hN hj).mp h
theorem nI_dec (k : Nat) : nI (k + 1) + Int32.ofInt (-1) = nI k := by
  rw [← nI_pred k, Int32.sub_eq_add_neg]; rfl
theorem nI_cl {x : Int32} (h : ¬ x < 0) : x = nI x.toNatClampNeg := by
  have h2 : 0 ≤ x.toInt := by rw [Int32.lt_iff_toInt_lt, Int32.toInt_zero] at h; omega
  have h3 : x.toNatClampNeg = x.toInt.toNat := rfl
  have h4 : x.toInt < 2 ^ 31 := Int32.toInt_lt x
  rw [← Int32.toInt_inj, nI_toInt (by omega)]
  omega
def m_fic (τ : Sg) (i : Nat) (x p0 : Int32) : Bool := if τ (i + 6) 3 = 1 then
  (if τ (i + 6) 9 = 3 then (if τ (i + 6) 11 = 0 then (if τ (i + 6) 10 = x then true else false) else if p0 = 0 then false else true)
   else if τ (i + 6) 9 = 4 then (if τ (i + 6) 11 = 0 then (if τ (i + 6) 10 = x then true else false) else if p0 = 0 then false else true) else false) else false
def m_fi (τ : Sg) (x p0 : Int32) : Nat → Nat → Option Nat → Option Nat
  | 0, _, a => a
  | n + 1, j, a => m_fi τ x p0 n (j + 1) (if m_fic τ j x p0 = true then m_sel τ j a else a)
def m_firstInVain (τ : Sg) (x p0 : Int32) : Option Nat := m_fi τ x p0 24 0 none
theorem m_fi_lt {τ : Sg} {x p0 : Int32} : ∀ (n j : Nat) (a : Option Nat), n + j = 24 → (∀ b, a = some b → b < 24) → ∀ i, m_fi τ x p0 n j a = some i → i < 24 := by
  intro n
  induction n with
  | zero => intro j a _ ha i h; exact ha i h
  | succ n ih =>
    intro j a hn ha i h
    refine ih (j + 1) _ (by omega) ?_ i h
    intro b hb
    by_cases hc : m_fic τ j x p0 = true
    · rw [if_pos hc] at hb
      cases a with
      | none => cases hb; omega
      | some d =>
        unfold m_sel at hb
        dsimp only at hb
        by_cases hd : τ (d + 6) 16 ≤ τ (j + 6) 16
        · rw [if_pos hd] at hb; cases hb; exact ha _ rfl
        · rw [if_neg hd] at hb; cases hb; omega
    · rw [if_neg hc] at hb; exact ha b hb
theorem m_firstInVain_lt {τ : Sg} {x p0 : Int32} {i : Nat} (h : m_firstInVain τ x p0 = some i) : i < 24 := m_fi_lt 24 0 none rfl (fun b hb => by cases hb) i h
def m_dshift (i : Nat) : Nat → Nat → Sg → Sg
  | 0, _, τ => τ
  | n + 1, j, τ => if τ (i + 96) 2 ≤ nI (j + 1) then τ else if 27 ≤ nI (j + 1) then τ else m_dshift i n (j + 1) (up2 τ (i + 98) j (τ (i + 98) (j + 1)))
def m_dropFirst (τ : Sg) (i : Nat) : Sg :=
  let τ1 := m_dshift i 27 0 τ
  up2 τ1 (i + 96) 2 (if τ1 (i + 96) 2 ≤ 0 then 0 else τ1 (i + 96) 2 - 1)
def m_ushift (i : Nat) : Nat → Sg → Sg
  | 0, τ => τ
  | k + 1, τ => m_ushift i k (up2 τ (i + 98) (k + 1) (τ (i + 98) k))
def m_addFirst (τ : Sg) (i : Nat) (v : Int32) : Sg := if τ (i + 96) 2 < 0 then τ else if τ (i + 96) 2 < 27 then
    (let τ1 := m_ushift i (τ (i + 96) 2).toNatClampNeg τ
    let τ2 := up2 τ1 (i + 98) 0 v
    up2 τ2 (i + 96) 2 (τ2 (i + 96) 2 + 1)) else τ
def m_used (τ : Sg) (b : Int32) : Nat → Nat → Bool
  | 0, _ => false
  | n + 1, j => if τ (j + 6) 3 = -1 then m_used τ b n (j + 1) else if τ (j + 6) 2 = b then true else m_used τ b n (j + 1)
def m_isUsed (τ : Sg) (b : Int32) : Bool := m_used τ b 24 0
def m_takeValueW (τ : Sg) (x : Int32) : Sg := match m_at x 2 with
  | none => τ
  | some k => match m_firstWaiting τ 3 x with
    | none => let τ1 := m_dropFirst τ k
      up2 τ1 (k + 96) 4 (τ1 (k + 96) 4 + 1)
    | some q =>
      let τ1 := if τ (k + 96) 2 = 0 then τ else m_addLast (m_dropFirst τ k) k (m_dropFirst τ k (q + 6) 13)
      let τ2 := m_makeReady τ1 q
      up2 τ2 (k + 96) 4 (τ2 (k + 96) 4 + 1)
def m_takeValue (τ : Sg) (x : Int32) : Int32 := match m_at x 2 with
  | none => 0
  | some k => match m_firstWaiting τ 3 x with
    | none => m_first τ k
    | some q => if τ (k + 96) 2 = 0 then τ (q + 6) 13 else m_first τ k
def m_giveBackL (τ : Sg) (t : Nat) (behind : Int32) : Sg := if behind = 2 then (match m_at (τ (t + 6) 10) 2 with
  | none => τ
  | some k => m_freeLock τ k) else τ
def m_giveBackC (τ : Sg) (t : Nat) (behind : Int32) : Sg := if behind = 4 then (match m_at (τ (t + 6) 10) 2 with
  | none => τ
  | some k =>
    let τ1 := up2 τ (k + 96) 4 (τ (k + 96) 4 - 1)
    match m_firstWaiting τ1 4 (τ1 (t + 6) 10) with
    | none => m_addFirst τ1 k (τ1 (t + 6) 13)
    | some q => m_giveValue τ1 q (τ1 (t + 6) 10) (τ1 (t + 6) 13)) else τ
def m_giveBack (τ : Sg) (t : Nat) (behind : Int32) : Sg := if τ (t + 6) 14 = 0 then τ else m_giveBackC (m_giveBackL τ t behind) t behind
def m_endLoop (x p0 : Int32) : Nat → Sg → Sg
  | 0, τ => τ
  | n + 1, τ => match m_firstInVain τ x p0 with
    | none => τ
    | some q => m_endLoop x p0 n (m_makeReady (up2 τ (q + 6) 15 (if τ (q + 6) 9 = 3 then 5 else 6)) q)
def m_putEnd (τ : Sg) (x : Int32) : Sg := match m_at x 2 with
  | none => τ
  | some k => m_endLoop x (bI (m_allEnded (up2 τ (k + 96) 3 1))) 24 (up2 τ (k + 96) 3 1)
theorem cl_lt {x : Int32} {N : Nat} (h0 : ¬ x < 0) (h1 : x < nI N) (hN : N < 2 ^ 31) : x.toNatClampNeg < N := by
  rw [nI_cl h0] at h1
  have h4 : x.toInt < 2 ^ 31 := Int32.toInt_lt x
  have h3 : x.toNatClampNeg = x.toInt.toNat := rfl
  exact (nI_ltI (by omega) hN).mp h1
theorem le0_c {k : Nat} (h : nI k ≤ 0) (hk : k < 2 ^ 31) : k = 0 := by
  have := (nI_leI (a := k) (b := 0) hk (by decide)).mp h
  omega
theorem gt0_c {k : Nat} (h : ¬ nI k ≤ 0) : 0 < k := by
  rcases Nat.eq_zero_or_pos k with e | e
  · subst e; exact absurd (by decide) h
  · exact e
theorem m_takeReady_lt {τ : Sg} {i : Nat} (h : m_takeReady τ = some i) : i < 24 := by
  unfold m_takeReady at h
  by_cases h0 : ¬ 0 < τ 0 7
  · rw [if_pos h0] at h; cases h
  · rw [if_neg h0] at h; exact m_at_lt h (by decide)

set_option maxHeartbeats 4000000 in
set_option maxRecDepth 100000 in
theorem c_X1_dropFirst (l : Launch) (D : va_G) (cA : Nat → ClassId) (ad : Nat → Nat) (tr : List (ClassId × FieldType)) (rest : va_W) (sz : Nat) (τ : Sg) (i : Nat) (hi : i < 2) : Met l yX1_dropFirst wsX1_dropFirst ({ frames := 0, cells := 0, slots := 0, locals := 0 }) (va_Pc [.ref (ad (i + 96))] (inW D (tyB cA ++ tr) (wB cA ad τ ++ rest) sz)) (va_Qv (fun u : Sg => u = m_dropFirst τ i) (fun u : Sg => outW D (tyB cA ++ tr) (va_A (wB cA ad τ ++ rest) sz) (wB cA ad u ++ rest)) (va_A (wB cA ad τ ++ rest) sz)) 0 0 (va_A (wB cA ad τ ++ rest) sz) := by
  refine Met.ofW (cc := cX1_dropFirst) (maxL := 2) (ret := none) (by decide) rfl ?_
  intro p e s m args below meth c s₁ B hml hv
  obtain ⟨rfl, hsz, hP, hK, hD0⟩ := hv
  have hx := B.exec
  have hb := B.bytes
  have hr := B.returns
  have hts := atoms_spec (ws := wsX1_dropFirst) B.pre
  have hown : s.vm.findClass RX1 = some m.cls := findClass_of_methodNamed B.named
  have hlocks := B.notSynchronized
  subst hsz
  have hD := hD0.self (sz := s.heap.size)
  clear hD0
  generalize hAe : va_A (wB cA ad τ ++ rest) s.heap.size = A at hD ⊢
  have hA : ∀ q : Nat, s.heap.size ≤ q → A q := fun q h => by rw [← hAe]; exact Or.inr h
  clear hAe
  have hS : va_S A s.heap s.heap [] := va_S.rf
  have hP : va_P D vwCl (wB cA ad τ ++ rest) s.heap := hP
  have hl := lv_entry ([.ref (ad (i + 96))]) (n := 2) (Nat.le_of_ble_eq_true rfl)
  rw [lg_entry_eq]
  generalize (lg_sl ([.ref (ad (i + 96))]) ++ List.replicate (2 - (lg_sl ([.ref (ad (i + 96))])).length) Slot.unset).toArray = ls at hl ⊢
  have hl : lv_has ls 2 [(0, .ref (ad (i + 96)))] := hl
  have nX1 : ∀ w ∈ u_ws RX1 TX1 5, w ∈ wsX1_dropFirst := by decide +kernel
  have k19 := hts (.fieldLink RX1 19 "ScopeRow$Channel" "count" "I") (by decide +kernel)
  have k15 := hts (.fieldLink RX1 15 "ScopeRow$Channel" "values" "[I") (by decide +kernel)
  refine lv_iconst (v := 1) hx hb dX1_dropFirst_0 (by decide) ?_
  refine lv_istore_n (lv' := [(1, .int 1), (0, .ref (ad (i + 96)))]) hx hb dX1_dropFirst_1 rfl hl (by decide) rfl (fun ls hl => ?_)
  refine W_meas (I := fun (n : Nat) (H : Heap) (locs : List Loc) (ls : Array Slot) => ∃ (σ : Sg) (j : Nat), ((n + j = 27) ∧ (m_dshift i n j σ = m_dshift i 27 0 τ)) ∧ va_P D vwCl (wB cA ad σ ++ rest) H ∧ va_D A (wB cA ad σ ++ rest) ∧ va_S A s.heap H locs ∧ lv_has ls 2 [(0, .ref (ad (i + 96))), (1, .int (nI (j + 1)))]) 27 ⟨τ, 0, ⟨by omega, rfl⟩, hP, hD, hS, lv_sub hl [1, 0] rfl⟩ ?_
  clear hP hD hS hl
  intro n ih H locs ls hI
  obtain ⟨σ, j, ⟨hn, hf⟩, hP, hD, hS, hl⟩ := hI
  refine lv_iload_n hx hb dX1_dropFirst_2 rfl (lv_at hl 1 rfl) ?_
  refine lv_aload_n hx hb dX1_dropFirst_3 rfl (lv_at hl 0 rfl) ?_
  refine va_get (D := D) (C := RX1) (T := TX1) (N := 5) (ci := 1) (v := .int (σ (i + 96) 2)) hx hb hts nX1 hown hK hP (i + 96) (w_ch hi) rfl 2 (by decide) k19 (fun _ h9 => h9) rfl dX1_dropFirst_4 ?_
  refine lv_icmp_ge (tgt := 39) hx hb dX1_dropFirst_7 (by decide) (fun c_7_1 => ?_) (fun c_7_1 => ?_)
  -- 7 jumps
  · skip
    have hs : σ = m_dshift i 27 0 τ := by (rw [← hf]; cases n <;> simp [m_dshift, c_7_1])
    refine lv_aload_n hx hb dX1_dropFirst_39 rfl (lv_at hl 0 rfl) ?_
    refine lv_aload_n hx hb dX1_dropFirst_40 rfl (lv_at hl 0 rfl) ?_
    refine va_get (D := D) (C := RX1) (T := TX1) (N := 5) (ci := 1) (v := .int (σ (i + 96) 2)) hx hb hts nX1 hown hK hP (i + 96) (w_ch hi) rfl 2 (by decide) k19 (fun _ h9 => h9) rfl dX1_dropFirst_41 ?_
    refine lv_if_le (tgt := 56) hx hb dX1_dropFirst_44 (by decide) (fun c_44_2 => ?_) (fun c_44_2 => ?_)
    -- 44 jumps
    · skip
      refine lv_iconst (v := 0) hx hb dX1_dropFirst_56 (by decide) ?_
      refine p_ch hx hb hts nX1 hown hK hP hD hS hi 2 (by decide) (by decide) k19 (fun _ h9 => h9) rfl rfl rfl dX1_dropFirst_57 (fun τ3 H locs eτ3 hP hD hS => ?_)
      exact x_vret hx hb hr hlocks hK τ3 hP hD hS dX1_dropFirst_60 (by subst eτ3; simp only [m_dropFirst, ← hs]; simp [eq_true c_7_1, eq_true c_44_2])
    -- 44 goes on
    · skip
      refine lv_aload_n hx hb dX1_dropFirst_47 rfl (lv_at hl 0 rfl) ?_
      refine va_get (D := D) (C := RX1) (T := TX1) (N := 5) (ci := 1) (v := .int (σ (i + 96) 2)) hx hb hts nX1 hown hK hP (i + 96) (w_ch hi) rfl 2 (by decide) k19 (fun _ h9 => h9) rfl dX1_dropFirst_48 ?_
      refine lv_iconst (v := 1) hx hb dX1_dropFirst_51 (by decide) ?_
      refine lv_isub hx hb dX1_dropFirst_52 ?_
      refine lv_goto (tgt := 57) hx hb dX1_dropFirst_53 (by decide) ?_
      refine p_ch hx hb hts nX1 hown hK hP hD hS hi 2 (by decide) (by decide) k19 (fun _ h9 => h9) rfl rfl rfl dX1_dropFirst_57 (fun τ4 H locs eτ4 hP hD hS => ?_)
      exact x_vret hx hb hr hlocks hK τ4 hP hD hS dX1_dropFirst_60 (by subst eτ4; simp only [m_dropFirst, ← hs]; simp [eq_true c_7_1, c_44_2])
  -- 7 goes on
  · skip
    refine lv_iload_n hx hb dX1_dropFirst_10 rfl (lv_at hl 1 rfl) ?_
    refine lv_aload_n hx hb dX1_dropFirst_11 rfl (lv_at hl 0 rfl) ?_
    refine va_get (D := D) (C := RX1) (T := TX1) (N := 5) (ci := 1) (v := .ref (ad (i + 98))) hx hb hts nX1 hown hK hP (i + 96) (w_ch hi) rfl 1 (by decide) k15 (fun _ h9 => h9) rfl dX1_dropFirst_12 ?_
    refine va_alen (v := 27) hx hb hK hP (i + 98) 0 (w_va hi) rfl rfl dX1_dropFirst_15 ?_
    refine lv_icmp_ge (tgt := 39) hx hb dX1_dropFirst_16 (by decide) (fun c_16_5 => ?_) (fun c_16_5 => ?_)
    -- 16 jumps
    · skip
      have hs : σ = m_dshift i 27 0 τ := by (rw [← hf]; cases n <;> simp [m_dshift, c_16_5])
      refine lv_aload_n hx hb dX1_dropFirst_39 rfl (lv_at hl 0 rfl) ?_
      refine lv_aload_n hx hb dX1_dropFirst_40 rfl (lv_at hl 0 rfl) ?_
      refine va_get (D := D) (C := RX1) (T := TX1) (N := 5) (ci := 1) (v := .int (σ (i + 96) 2)) hx hb hts nX1 hown hK hP (i + 96) (w_ch hi) rfl 2 (by decide) k19 (fun _ h9 => h9) rfl dX1_dropFirst_41 ?_
      refine lv_if_le (tgt := 56) hx hb dX1_dropFirst_44 (by decide) (fun c_44_6 => ?_) (fun c_44_6 => ?_)
      -- 44 jumps
      · skip
        refine lv_iconst (v := 0) hx hb dX1_dropFirst_56 (by decide) ?_
        refine p_ch hx hb hts nX1 hown hK hP hD hS hi 2 (by decide) (by decide) k19 (fun _ h9 => h9) rfl rfl rfl dX1_dropFirst_57 (fun τ7 H locs eτ7 hP hD hS => ?_)
        exact x_vret hx hb hr hlocks hK τ7 hP hD hS dX1_dropFirst_60 (by subst eτ7; simp only [m_dropFirst, ← hs]; simp [c_7_1, eq_true c_16_5, eq_true c_44_6])
      -- 44 goes on
      · skip
        refine lv_aload_n hx hb dX1_dropFirst_47 rfl (lv_at hl 0 rfl) ?_
        refine va_get (D := D) (C := RX1) (T := TX1) (N := 5) (ci := 1) (v := .int (σ (i + 96) 2)) hx hb hts nX1 hown hK hP (i + 96) (w_ch hi) rfl 2 (by decide) k19 (fun _ h9 => h9) rfl dX1_dropFirst_48 ?_
        refine lv_iconst (v := 1) hx hb dX1_dropFirst_51 (by decide) ?_
        refine lv_isub hx hb dX1_dropFirst_52 ?_
        refine lv_goto (tgt := 57) hx hb dX1_dropFirst_53 (by decide) ?_
        refine p_ch hx hb hts nX1 hown hK hP hD hS hi 2 (by decide) (by decide) k19 (fun _ h9 => h9) rfl rfl rfl dX1_dropFirst_57 (fun τ8 H locs eτ8 hP hD hS => ?_)
        exact x_vret hx hb hr hlocks hK τ8 hP hD hS dX1_dropFirst_60 (by subst eτ8; simp only [m_dropFirst, ← hs]; simp [c_7_1, eq_true c_16_5, c_44_6])
    -- 16 goes on
    · skip
      have hj : j + 1 < 27 := lt_cN 27 c_16_5 (by decide) (by omega)
      obtain ⟨n, rfl⟩ : ∃ q, n = q + 1 := ⟨n - 1, by omega⟩
      refine lv_aload_n hx hb dX1_dropFirst_19 rfl (lv_at hl 0 rfl) ?_
      refine va_get (D := D) (C := RX1) (T := TX1) (N := 5) (ci := 1) (v := .ref (ad (i + 98))) hx hb hts nX1 hown hK hP (i + 96) (w_ch hi) rfl 1 (by decide) k15 (fun _ h9 => h9) rfl dX1_dropFirst_20 ?_
      refine lv_iload_n hx hb dX1_dropFirst_23 rfl (lv_at hl 1 rfl) ?_
      refine lv_iconst (v := 1) hx hb dX1_dropFirst_24 (by decide) ?_
      refine lv_isub hx hb dX1_dropFirst_25 ?_
      refine lv_aload_n hx hb dX1_dropFirst_26 rfl (lv_at hl 0 rfl) ?_
      refine va_get (D := D) (C := RX1) (T := TX1) (N := 5) (ci := 1) (v := .ref (ad (i + 98))) hx hb hts nX1 hown hK hP (i + 96) (w_ch hi) rfl 1 (by decide) k15 (fun _ h9 => h9) rfl dX1_dropFirst_27 ?_
      refine lv_iload_n hx hb dX1_dropFirst_30 rfl (lv_at hl 1 rfl) ?_
      refine l_va hx hb hK hP hi (j := (j + 1)) (nI_clamp (by omega)) (vp_in_nI hj (by omega)) dX1_dropFirst_31 ?_
      refine p_va hx hb hK hP hD hS hi (j := j) (by rw [nI_pred]; exact nI_clamp (by omega)) (by rw [nI_pred]; exact vp_in_nI (by omega) (by omega)) dX1_dropFirst_32 (fun τ9 H locs eτ9 hP hD hS => ?_)
      refine lv_iinc (v := (nI ((j + 1) + 1))) (lv' := [(1, .int (nI ((j + 1) + 1))), (0, .ref (ad (i + 96)))]) hx hb dX1_dropFirst_33 hl (k := 1) rfl (show nI (j + 1) + 1 = nI ((j + 1) + 1) from nI_1 (j + 1)) (by decide) rfl (fun ls hl => ?_)
      refine lv_goto (tgt := 2) hx hb dX1_dropFirst_36 (by decide) ?_
      exact ih n (Nat.lt_succ_self n) H locs ls ⟨τ9, (j + 1), ⟨by omega, by subst eτ9; rw [← hf]; simp [m_dshift, n27, c_7_1, c_16_5]⟩, hP, hD, hS, lv_sub hl [1, 0] rfl⟩

set_option maxHeartbeats 4000000 in
set_option maxRecDepth 100000 in
theorem c_X1_addFirst (l : Launch) (D : va_G) (cA : Nat → ClassId) (ad : Nat → Nat) (tr : List (ClassId × FieldType)) (rest : va_W) (sz : Nat) (τ : Sg) (i : Nat) (hi : i < 2) (v : Int32) : Met l yX1_addFirst wsX1_addFirst ({ frames := 0, cells := 0, slots := 0, locals := 0 }) (va_Pc [.ref (ad (i + 96)), .int v] (inW D (tyB cA ++ tr) (wB cA ad τ ++ rest) sz)) (va_Qv (fun u : Sg => u = m_addFirst τ i v) (fun u : Sg => outW D (tyB cA ++ tr) (va_A (wB cA ad τ ++ rest) sz) (wB cA ad u ++ rest)) (va_A (wB cA ad τ ++ rest) sz)) 0 0 (va_A (wB cA ad τ ++ rest) sz) := by
  refine Met.ofW (cc := cX1_addFirst) (maxL := 3) (ret := none) (by decide) rfl ?_
  intro p e s m args below meth c s₁ B hml hv
  obtain ⟨rfl, hsz, hP, hK, hD0⟩ := hv
  have hx := B.exec
  have hb := B.bytes
  have hr := B.returns
  have hts := atoms_spec (ws := wsX1_addFirst) B.pre
  have hown : s.vm.findClass RX1 = some m.cls := findClass_of_methodNamed B.named
  have hlocks := B.notSynchronized
  subst hsz
  have hD := hD0.self (sz := s.heap.size)
  clear hD0
  generalize hAe : va_A (wB cA ad τ ++ rest) s.heap.size = A at hD ⊢
  have hA : ∀ q : Nat, s.heap.size ≤ q → A q := fun q h => by rw [← hAe]; exact Or.inr h
  clear hAe
  have hS : va_S A s.heap s.heap [] := va_S.rf
  have hP : va_P D vwCl (wB cA ad τ ++ rest) s.heap := hP
  have hl := lv_entry ([.ref (ad (i + 96)), .int v]) (n := 3) (Nat.le_of_ble_eq_true rfl)
  rw [lg_entry_eq]
  generalize (lg_sl ([.ref (ad (i + 96)), .int v]) ++ List.replicate (3 - (lg_sl ([.ref (ad (i + 96)), .int v])).length) Slot.unset).toArray = ls at hl ⊢
  have hl : lv_has ls 3 [(0, .ref (ad (i + 96))), (1, .int v)] := hl
  have nX1 : ∀ w ∈ u_ws RX1 TX1 5, w ∈ wsX1_addFirst := by decide +kernel
  have k19 := hts (.fieldLink RX1 19 "ScopeRow$Channel" "count" "I") (by decide +kernel)
  have k15 := hts (.fieldLink RX1 15 "ScopeRow$Channel" "values" "[I") (by decide +kernel)
  refine lv_aload_n hx hb dX1_addFirst_0 rfl (lv_at hl 0 rfl) ?_
  refine va_get (D := D) (C := RX1) (T := TX1) (N := 5) (ci := 1) (v := .int (τ (i + 96) 2)) hx hb hts nX1 hown hK hP (i + 96) (w_ch hi) rfl 2 (by decide) k19 (fun _ h9 => h9) rfl dX1_addFirst_1 ?_
  refine lv_if_lt (tgt := 19) hx hb dX1_addFirst_4 (by decide) (fun c_4_1 => ?_) (fun c_4_1 => ?_)
  -- 4 jumps
  · skip
    exact x_vret hx hb hr hlocks hK τ hP hD hS dX1_addFirst_19 (by simp [m_addFirst, eq_true c_4_1])
  -- 4 goes on
  · skip
    refine lv_aload_n hx hb dX1_addFirst_7 rfl (lv_at hl 0 rfl) ?_
    refine va_get (D := D) (C := RX1) (T := TX1) (N := 5) (ci := 1) (v := .int (τ (i + 96) 2)) hx hb hts nX1 hown hK hP (i + 96) (w_ch hi) rfl 2 (by decide) k19 (fun _ h9 => h9) rfl dX1_addFirst_8 ?_
    refine lv_aload_n hx hb dX1_addFirst_11 rfl (lv_at hl 0 rfl) ?_
    refine va_get (D := D) (C := RX1) (T := TX1) (N := 5) (ci := 1) (v := .ref (ad (i + 98))) hx hb hts nX1 hown hK hP (i + 96) (w_ch hi) rfl 1 (by decide) k15 (fun _ h9 => h9) rfl dX1_addFirst_12 ?_
    refine va_alen (v := 27) hx hb hK hP (i + 98) 0 (w_va hi) rfl rfl dX1_addFirst_15 ?_
    refine lv_icmp_lt (tgt := 20) hx hb dX1_addFirst_16 (by decide) (fun c_16_2 => ?_) (fun c_16_2 => ?_)
    -- 16 jumps
    · skip
      refine lv_aload_n hx hb dX1_addFirst_20 rfl (lv_at hl 0 rfl) ?_
      refine va_get (D := D) (C := RX1) (T := TX1) (N := 5) (ci := 1) (v := .int (τ (i + 96) 2)) hx hb hts nX1 hown hK hP (i + 96) (w_ch hi) rfl 2 (by decide) k19 (fun _ h9 => h9) rfl dX1_addFirst_21 ?_
      refine lv_topi (fun x3 ex3 => ?_)
      refine lv_istore_n (lv' := [(2, .int x3), (0, .ref (ad (i + 96))), (1, .int v)]) hx hb dX1_addFirst_24 rfl hl (by decide) rfl (fun ls hl => ?_)
      have e9 : x3 = nI (τ (i + 96) 2).toNatClampNeg := by rw [ex3]; exact nI_cl c_4_1
      rw [e9] at hl
      refine W_meas (I := fun (n : Nat) (H : Heap) (locs : List Loc) (ls : Array Slot) => ∃ (σ : Sg) (k : Nat), ((n = k) ∧ (k < 27) ∧ (m_ushift i k σ = m_ushift i (τ (i + 96) 2).toNatClampNeg τ)) ∧ va_P D vwCl (wB cA ad σ ++ rest) H ∧ va_D A (wB cA ad σ ++ rest) ∧ va_S A s.heap H locs ∧ lv_has ls 3 [(0, .ref (ad (i + 96))), (1, .int v), (2, .int (nI k))]) ((τ (i + 96) 2).toNatClampNeg) ⟨τ, (τ (i + 96) 2).toNatClampNeg, ⟨rfl, cl_lt c_4_1 c_16_2 (by decide), rfl⟩, hP, hD, hS, lv_sub hl [1, 2, 0] rfl⟩ ?_
      clear hP hD hS hl
      intro n ih H locs ls hI
      obtain ⟨σ, k, ⟨hn, hk, hf⟩, hP, hD, hS, hl⟩ := hI
      refine lv_iload_n hx hb dX1_addFirst_25 rfl (lv_at hl 2 rfl) ?_
      refine lv_if_le (tgt := 49) hx hb dX1_addFirst_26 (by decide) (fun c_26_4 => ?_) (fun c_26_4 => ?_)
      -- 26 jumps
      · skip
        obtain rfl : k = 0 := le0_c c_26_4 (by omega)
        refine lv_aload_n hx hb dX1_addFirst_49 rfl (lv_at hl 0 rfl) ?_
        refine va_get (D := D) (C := RX1) (T := TX1) (N := 5) (ci := 1) (v := .ref (ad (i + 98))) hx hb hts nX1 hown hK hP (i + 96) (w_ch hi) rfl 1 (by decide) k15 (fun _ h9 => h9) rfl dX1_addFirst_50 ?_
        refine lv_iconst (v := 0) hx hb dX1_addFirst_53 (by decide) ?_
        refine lv_iload_n hx hb dX1_addFirst_54 rfl (lv_at hl 1 rfl) ?_
        refine p_va hx hb hK hP hD hS hi (j := 0) rfl (by unfold vp_in; decide) dX1_addFirst_55 (fun τ5 H locs eτ5 hP hD hS => ?_)
        refine lv_aload_n hx hb dX1_addFirst_56 rfl (lv_at hl 0 rfl) ?_
        refine lv_dup hx hb dX1_addFirst_57 rfl ?_
        refine va_get (D := D) (C := RX1) (T := TX1) (N := 5) (ci := 1) (v := .int (τ5 (i + 96) 2)) hx hb hts nX1 hown hK hP (i + 96) (w_ch hi) rfl 2 (by decide) k19 (fun _ h9 => h9) rfl dX1_addFirst_58 ?_
        refine lv_iconst (v := 1) hx hb dX1_addFirst_61 (by decide) ?_
        refine lv_iadd hx hb dX1_addFirst_62 ?_
        refine p_ch hx hb hts nX1 hown hK hP hD hS hi 2 (by decide) (by decide) k19 (fun _ h9 => h9) rfl rfl rfl dX1_addFirst_63 (fun τ6 H locs eτ6 hP hD hS => ?_)
        exact x_vret hx hb hr hlocks hK τ6 hP hD hS dX1_addFirst_66 (by have hs : σ = m_ushift i (τ (i + 96) 2).toNatClampNeg τ := hf; subst eτ6 eτ5 ex3; simp only [m_addFirst, ← hs]; simp [c_4_1, eq_true c_16_2])
      -- 26 goes on
      · skip
        obtain ⟨k, rfl⟩ : ∃ q, k = q + 1 := ⟨k - 1, by have := gt0_c c_26_4; omega⟩
        refine lv_aload_n hx hb dX1_addFirst_29 rfl (lv_at hl 0 rfl) ?_
        refine va_get (D := D) (C := RX1) (T := TX1) (N := 5) (ci := 1) (v := .ref (ad (i + 98))) hx hb hts nX1 hown hK hP (i + 96) (w_ch hi) rfl 1 (by decide) k15 (fun _ h9 => h9) rfl dX1_addFirst_30 ?_
        refine lv_iload_n hx hb dX1_addFirst_33 rfl (lv_at hl 2 rfl) ?_
        refine lv_aload_n hx hb dX1_addFirst_34 rfl (lv_at hl 0 rfl) ?_
        refine va_get (D := D) (C := RX1) (T := TX1) (N := 5) (ci := 1) (v := .ref (ad (i + 98))) hx hb hts nX1 hown hK hP (i + 96) (w_ch hi) rfl 1 (by decide) k15 (fun _ h9 => h9) rfl dX1_addFirst_35 ?_
        refine lv_iload_n hx hb dX1_addFirst_38 rfl (lv_at hl 2 rfl) ?_
        refine lv_iconst (v := 1) hx hb dX1_addFirst_39 (by decide) ?_
        refine lv_isub hx hb dX1_addFirst_40 ?_
        refine l_va hx hb hK hP hi (j := k) (by rw [nI_pred]; exact nI_clamp (by omega)) (by rw [nI_pred]; exact vp_in_nI (by omega) (by omega)) dX1_addFirst_41 ?_
        refine p_va hx hb hK hP hD hS hi (j := (k + 1)) (nI_clamp (by omega)) (vp_in_nI hk (by omega)) dX1_addFirst_42 (fun τ7 H locs eτ7 hP hD hS => ?_)
        refine lv_iinc (v := (nI k)) (lv' := [(2, .int (nI k)), (0, .ref (ad (i + 96))), (1, .int v)]) hx hb dX1_addFirst_43 hl (k := 2) rfl (nI_dec k) (by decide) rfl (fun ls hl => ?_)
        refine lv_goto (tgt := 25) hx hb dX1_addFirst_46 (by decide) ?_
        exact ih k (by omega) H locs ls ⟨τ7, k, ⟨rfl, by omega, by subst eτ7 ex3; rw [← hf]; simp [m_ushift]⟩, hP, hD, hS, lv_sub hl [1, 2, 0] rfl⟩
    -- 16 goes on
    · skip
      exact x_vret hx hb hr hlocks hK τ hP hD hS dX1_addFirst_19 (by simp [m_addFirst, c_4_1, c_16_2])

set_option maxHeartbeats 4000000 in
set_option maxRecDepth 100000 in
theorem c_X6_takeReady (l : Launch) (D : va_G) (cA : Nat → ClassId) (ad : Nat → Nat) (tr : List (ClassId × FieldType)) (rest : va_W) (sz : Nat) (τ : Sg)  : Met l yX6_takeReady wsX6_takeReady ({ frames := 1, cells := 0, slots := 0, locals := 21 }) (va_Pc [.ref (ad 0)] (inW D (tyB cA ++ tr) (wB cA ad τ ++ rest) sz)) (va_Qq (fun (r : Option Nat) (u : Sg) => r = (m_takeReady τ).map (fun a => ad (a + 6)) ∧ u = m_takeReadyW τ) (fun u : Sg => outW D (tyB cA ++ tr) (va_A (wB cA ad τ ++ rest) sz) (wB cA ad u ++ rest)) (va_A (wB cA ad τ ++ rest) sz)) 0 0 (va_A (wB cA ad τ ++ rest) sz) := by
  refine Met.ofW (cc := cX6_takeReady) (maxL := 3) (ret := (some (.object "ScopeRow$Task"))) (by decide) rfl ?_
  intro p e s m args below meth c s₁ B hml hv
  obtain ⟨rfl, hsz, hP, hK, hD0⟩ := hv
  have hx := B.exec
  have hb := B.bytes
  have hr := B.returns
  have hts := atoms_spec (ws := wsX6_takeReady) B.pre
  have hown : s.vm.findClass RX6 = some m.cls := findClass_of_methodNamed B.named
  have hlocks := B.notSynchronized
  subst hsz
  have hD := hD0.self (sz := s.heap.size)
  clear hD0
  generalize hAe : va_A (wB cA ad τ ++ rest) s.heap.size = A at hD ⊢
  have hA : ∀ q : Nat, s.heap.size ≤ q → A q := fun q h => by rw [← hAe]; exact Or.inr h
  clear hAe
  have hS : va_S A s.heap s.heap [] := va_S.rf
  have hP : va_P D vwCl (wB cA ad τ ++ rest) s.heap := hP
  have hl := lv_entry ([.ref (ad 0)]) (n := 3) (Nat.le_of_ble_eq_true rfl)
  rw [lg_entry_eq]
  generalize (lg_sl ([.ref (ad 0)]) ++ List.replicate (3 - (lg_sl ([.ref (ad 0)])).length) Slot.unset).toArray = ls at hl ⊢
  have hl : lv_has ls 3 [(0, .ref (ad 0))] := hl
  have nX6 : ∀ w ∈ u_ws RX6 TX6 12, w ∈ wsX6_takeReady := by decide +kernel
  have k65 := hts (.fieldLink RX6 65 "ScopeRow$State" "rowCount" "I") (by decide +kernel)
  have k35 := hts (.fieldLink RX6 35 "ScopeRow$State" "row" "[I") (by decide +kernel)
  refine lv_aload_n hx hb dX6_takeReady_0 rfl (lv_at hl 0 rfl) ?_
  refine va_get (D := D) (C := RX6) (T := TX6) (N := 12) (ci := 6) (v := .int (τ 0 7)) hx hb hts nX6 hown hK hP 0 w_st rfl 7 (by decide) k65 (fun _ h9 => h9) rfl dX6_takeReady_1 ?_
  refine lv_if_gt (tgt := 9) hx hb dX6_takeReady_4 (by decide) (fun c_4_1 => ?_) (fun c_4_1 => ?_)
  -- 4 jumps
  · skip
    refine lv_aload_n hx hb dX6_takeReady_9 rfl (lv_at hl 0 rfl) ?_
    refine lv_aload_n hx hb dX6_takeReady_10 rfl (lv_at hl 0 rfl) ?_
    refine va_get (D := D) (C := RX6) (T := TX6) (N := 12) (ci := 6) (v := .ref (ad 5)) hx hb hts nX6 hown hK hP 0 w_st rfl 6 (by decide) k35 (fun _ h9 => h9) rfl dX6_takeReady_11 ?_
    refine lv_iconst (v := 0) hx hb dX6_takeReady_14 (by decide) ?_
    refine l_a5 hx hb hK hP (j := 0) rfl (by unfold vp_in; decide) dX6_takeReady_15 ?_
    refine x_Vq (As := [.int (τ 5 0)]) (rest0 := []) ⟨hx, hb, hml, hown, hts⟩ (c_X6_taskAt l D cA ad tr rest s.heap.size τ (τ 5 0)) (cwV 1 hts gX6_takeReady_X6_taskAt rfl rfl rfl (by decide +kernel) ⟨Nat.le_of_ble_eq_true rfl, Nat.le_of_ble_eq_true rfl⟩) hK hP hD hS hA 0 w_st rfl hl.1 rfl rfl (by decide) ⟨Nat.zero_le _, Nat.zero_le _⟩ dX6_takeReady_16 (fun r2 _ H locs hw hP hD hS => ?_)
    have er2 := hw
    subst er2
    rcases hi3 : m_at (τ 5 0) 24 with _ | i3
    · refine W.eq (g2 := F0 m 19 ls [.null]) rfl ?_
      refine lv_astore_nN (lv' := [(1, .null), (0, .ref (ad 0))]) hx hb dX6_takeReady_19 rfl hl (by decide) rfl (fun ls hl => ?_)
      refine lv_iconst (v := 1) hx hb dX6_takeReady_20 (by decide) ?_
      refine lv_istore_n (lv' := [(2, .int 1), (1, .null), (0, .ref (ad 0))]) hx hb dX6_takeReady_21 rfl hl (by decide) rfl (fun ls hl => ?_)
      refine W_meas (I := fun (n : Nat) (H : Heap) (locs : List Loc) (ls : Array Slot) => ∃ (σ : Sg) (j : Nat), ((n + j = 24) ∧ (m_shift n j σ = m_shift 24 0 τ)) ∧ va_P D vwCl (wB cA ad σ ++ rest) H ∧ va_D A (wB cA ad σ ++ rest) ∧ va_S A s.heap H locs ∧ lv_has ls 3 [(0, .ref (ad 0)), (1, .null), (2, .int (nI (j + 1)))]) 24 ⟨τ, 0, ⟨by omega, rfl⟩, hP, hD, hS, lv_sub hl [2, 1, 0] rfl⟩ ?_
      clear hP hD hS hl
      intro n ih H locs ls hI
      obtain ⟨σ, j, ⟨hn, hf⟩, hP, hD, hS, hl⟩ := hI
      refine lv_iload_n hx hb dX6_takeReady_22 rfl (lv_at hl 2 rfl) ?_
      refine lv_aload_n hx hb dX6_takeReady_23 rfl (lv_at hl 0 rfl) ?_
      refine va_get (D := D) (C := RX6) (T := TX6) (N := 12) (ci := 6) (v := .int (σ 0 7)) hx hb hts nX6 hown hK hP 0 w_st rfl 7 (by decide) k65 (fun _ h9 => h9) rfl dX6_takeReady_24 ?_
      refine lv_icmp_ge (tgt := 59) hx hb dX6_takeReady_27 (by decide) (fun c_27_4 => ?_) (fun c_27_4 => ?_)
      -- 27 jumps
      · skip
        have hs : σ = m_shift 24 0 τ := by (rw [← hf]; cases n <;> simp [m_shift, c_27_4])
        refine lv_aload_n hx hb dX6_takeReady_59 rfl (lv_at hl 0 rfl) ?_
        refine lv_dup hx hb dX6_takeReady_60 rfl ?_
        refine va_get (D := D) (C := RX6) (T := TX6) (N := 12) (ci := 6) (v := .int (σ 0 7)) hx hb hts nX6 hown hK hP 0 w_st rfl 7 (by decide) k65 (fun _ h9 => h9) rfl dX6_takeReady_61 ?_
        refine lv_iconst (v := 1) hx hb dX6_takeReady_64 (by decide) ?_
        refine lv_isub hx hb dX6_takeReady_65 ?_
        refine p_st hx hb hts nX6 hown hK hP hD hS 7 (by decide) (by decide) k65 (fun _ h9 => h9) rfl rfl rfl dX6_takeReady_66 (fun τ5 H locs eτ5 hP hD hS => ?_)
        refine lv_aload_nN hx hb dX6_takeReady_69 rfl (lv_at hl 1 rfl) ?_
        exact x_aret hx hb hr hlocks hK none rfl τ5 hP hD hS dX6_takeReady_70 (by subst eτ5; exact ⟨by simp [m_takeReady, eq_true c_4_1, hi3], by simp only [m_takeReadyW, ← hs]; simp [eq_true c_4_1, hi3]⟩)
      -- 27 goes on
      · skip
        refine lv_iload_n hx hb dX6_takeReady_30 rfl (lv_at hl 2 rfl) ?_
        refine lv_aload_n hx hb dX6_takeReady_31 rfl (lv_at hl 0 rfl) ?_
        refine va_get (D := D) (C := RX6) (T := TX6) (N := 12) (ci := 6) (v := .ref (ad 5)) hx hb hts nX6 hown hK hP 0 w_st rfl 6 (by decide) k35 (fun _ h9 => h9) rfl dX6_takeReady_32 ?_
        refine va_alen (v := 24) hx hb hK hP 5 0 w_a5 rfl rfl dX6_takeReady_35 ?_
        refine lv_icmp_ge (tgt := 59) hx hb dX6_takeReady_36 (by decide) (fun c_36_6 => ?_) (fun c_36_6 => ?_)
        -- 36 jumps
        · skip
          have hs : σ = m_shift 24 0 τ := by (rw [← hf]; cases n <;> simp [m_shift, c_36_6])
          refine lv_aload_n hx hb dX6_takeReady_59 rfl (lv_at hl 0 rfl) ?_
          refine lv_dup hx hb dX6_takeReady_60 rfl ?_
          refine va_get (D := D) (C := RX6) (T := TX6) (N := 12) (ci := 6) (v := .int (σ 0 7)) hx hb hts nX6 hown hK hP 0 w_st rfl 7 (by decide) k65 (fun _ h9 => h9) rfl dX6_takeReady_61 ?_
          refine lv_iconst (v := 1) hx hb dX6_takeReady_64 (by decide) ?_
          refine lv_isub hx hb dX6_takeReady_65 ?_
          refine p_st hx hb hts nX6 hown hK hP hD hS 7 (by decide) (by decide) k65 (fun _ h9 => h9) rfl rfl rfl dX6_takeReady_66 (fun τ7 H locs eτ7 hP hD hS => ?_)
          refine lv_aload_nN hx hb dX6_takeReady_69 rfl (lv_at hl 1 rfl) ?_
          exact x_aret hx hb hr hlocks hK none rfl τ7 hP hD hS dX6_takeReady_70 (by subst eτ7; exact ⟨by simp [m_takeReady, eq_true c_4_1, hi3], by simp only [m_takeReadyW, ← hs]; simp [eq_true c_4_1, hi3]⟩)
        -- 36 goes on
        · skip
          have hj : j + 1 < 24 := lt_cN 24 c_36_6 (by decide) (by omega)
          obtain ⟨n, rfl⟩ : ∃ q, n = q + 1 := ⟨n - 1, by omega⟩
          refine lv_aload_n hx hb dX6_takeReady_39 rfl (lv_at hl 0 rfl) ?_
          refine va_get (D := D) (C := RX6) (T := TX6) (N := 12) (ci := 6) (v := .ref (ad 5)) hx hb hts nX6 hown hK hP 0 w_st rfl 6 (by decide) k35 (fun _ h9 => h9) rfl dX6_takeReady_40 ?_
          refine lv_iload_n hx hb dX6_takeReady_43 rfl (lv_at hl 2 rfl) ?_
          refine lv_iconst (v := 1) hx hb dX6_takeReady_44 (by decide) ?_
          refine lv_isub hx hb dX6_takeReady_45 ?_
          refine lv_aload_n hx hb dX6_takeReady_46 rfl (lv_at hl 0 rfl) ?_
          refine va_get (D := D) (C := RX6) (T := TX6) (N := 12) (ci := 6) (v := .ref (ad 5)) hx hb hts nX6 hown hK hP 0 w_st rfl 6 (by decide) k35 (fun _ h9 => h9) rfl dX6_takeReady_47 ?_
          refine lv_iload_n hx hb dX6_takeReady_50 rfl (lv_at hl 2 rfl) ?_
          refine l_a5 hx hb hK hP (j := (j + 1)) (nI_clamp (by omega)) (vp_in_nI hj (by omega)) dX6_takeReady_51 ?_
          refine p_a5 hx hb hK hP hD hS (j := j) (by rw [nI_pred]; exact nI_clamp (by omega)) (by rw [nI_pred]; exact vp_in_nI (by omega) (by omega)) dX6_takeReady_52 (fun τ8 H locs eτ8 hP hD hS => ?_)
          refine lv_iinc (v := (nI ((j + 1) + 1))) (lv' := [(2, .int (nI ((j + 1) + 1))), (0, .ref (ad 0)), (1, .null)]) hx hb dX6_takeReady_53 hl (k := 2) rfl (show nI (j + 1) + 1 = nI ((j + 1) + 1) from nI_1 (j + 1)) (by decide) rfl (fun ls hl => ?_)
          refine lv_goto (tgt := 22) hx hb dX6_takeReady_56 (by decide) ?_
          exact ih n (Nat.lt_succ_self n) H locs ls ⟨τ8, (j + 1), ⟨by omega, by subst eτ8; rw [← hf]; simp [m_shift, n24, c_27_4, c_36_6]⟩, hP, hD, hS, lv_sub hl [1, 2, 0] rfl⟩
    · have bi3 := m_at_lt hi3 (by decide)
      refine W.eq (g2 := F0 m 19 ls [.ref (ad (i3 + 6))]) rfl ?_
      refine lv_astore_n (lv' := [(1, .ref (ad (i3 + 6))), (0, .ref (ad 0))]) hx hb dX6_takeReady_19 rfl hl (by decide) rfl (fun ls hl => ?_)
      refine lv_iconst (v := 1) hx hb dX6_takeReady_20 (by decide) ?_
      refine lv_istore_n (lv' := [(2, .int 1), (1, .ref (ad (i3 + 6))), (0, .ref (ad 0))]) hx hb dX6_takeReady_21 rfl hl (by decide) rfl (fun ls hl => ?_)
      refine W_meas (I := fun (n : Nat) (H : Heap) (locs : List Loc) (ls : Array Slot) => ∃ (σ : Sg) (j : Nat), ((n + j = 24) ∧ (m_shift n j σ = m_shift 24 0 τ)) ∧ va_P D vwCl (wB cA ad σ ++ rest) H ∧ va_D A (wB cA ad σ ++ rest) ∧ va_S A s.heap H locs ∧ lv_has ls 3 [(0, .ref (ad 0)), (1, .ref (ad (i3 + 6))), (2, .int (nI (j + 1)))]) 24 ⟨τ, 0, ⟨by omega, rfl⟩, hP, hD, hS, lv_sub hl [2, 1, 0] rfl⟩ ?_
      clear hP hD hS hl
      intro n ih H locs ls hI
      obtain ⟨σ, j, ⟨hn, hf⟩, hP, hD, hS, hl⟩ := hI
      refine lv_iload_n hx hb dX6_takeReady_22 rfl (lv_at hl 2 rfl) ?_
      refine lv_aload_n hx hb dX6_takeReady_23 rfl (lv_at hl 0 rfl) ?_
      refine va_get (D := D) (C := RX6) (T := TX6) (N := 12) (ci := 6) (v := .int (σ 0 7)) hx hb hts nX6 hown hK hP 0 w_st rfl 7 (by decide) k65 (fun _ h9 => h9) rfl dX6_takeReady_24 ?_
      refine lv_icmp_ge (tgt := 59) hx hb dX6_takeReady_27 (by decide) (fun c_27_9 => ?_) (fun c_27_9 => ?_)
      -- 27 jumps
      · skip
        have hs : σ = m_shift 24 0 τ := by (rw [← hf]; cases n <;> simp [m_shift, c_27_9])
        refine lv_aload_n hx hb dX6_takeReady_59 rfl (lv_at hl 0 rfl) ?_
        refine lv_dup hx hb dX6_takeReady_60 rfl ?_
        refine va_get (D := D) (C := RX6) (T := TX6) (N := 12) (ci := 6) (v := .int (σ 0 7)) hx hb hts nX6 hown hK hP 0 w_st rfl 7 (by decide) k65 (fun _ h9 => h9) rfl dX6_takeReady_61 ?_
        refine lv_iconst (v := 1) hx hb dX6_takeReady_64 (by decide) ?_
        refine lv_isub hx hb dX6_takeReady_65 ?_
        refine p_st hx hb hts nX6 hown hK hP hD hS 7 (by decide) (by decide) k65 (fun _ h9 => h9) rfl rfl rfl dX6_takeReady_66 (fun τ10 H locs eτ10 hP hD hS => ?_)
        refine lv_aload_n hx hb dX6_takeReady_69 rfl (lv_at hl 1 rfl) ?_
        exact x_aret hx hb hr hlocks hK (some (ad (i3 + 6))) rfl τ10 hP hD hS dX6_takeReady_70 (by subst eτ10; exact ⟨by simp [m_takeReady, eq_true c_4_1, hi3], by simp only [m_takeReadyW, ← hs]; simp [eq_true c_4_1, hi3]⟩)
      -- 27 goes on
      · skip
        refine lv_iload_n hx hb dX6_takeReady_30 rfl (lv_at hl 2 rfl) ?_
        refine lv_aload_n hx hb dX6_takeReady_31 rfl (lv_at hl 0 rfl) ?_
        refine va_get (D := D) (C := RX6) (T := TX6) (N := 12) (ci := 6) (v := .ref (ad 5)) hx hb hts nX6 hown hK hP 0 w_st rfl 6 (by decide) k35 (fun _ h9 => h9) rfl dX6_takeReady_32 ?_
        refine va_alen (v := 24) hx hb hK hP 5 0 w_a5 rfl rfl dX6_takeReady_35 ?_
        refine lv_icmp_ge (tgt := 59) hx hb dX6_takeReady_36 (by decide) (fun c_36_11 => ?_) (fun c_36_11 => ?_)
        -- 36 jumps
        · skip
          have hs : σ = m_shift 24 0 τ := by (rw [← hf]; cases n <;> simp [m_shift, c_36_11])
          refine lv_aload_n hx hb dX6_takeReady_59 rfl (lv_at hl 0 rfl) ?_
          refine lv_dup hx hb dX6_takeReady_60 rfl ?_
          refine va_get (D := D) (C := RX6) (T := TX6) (N := 12) (ci := 6) (v := .int (σ 0 7)) hx hb hts nX6 hown hK hP 0 w_st rfl 7 (by decide) k65 (fun _ h9 => h9) rfl dX6_takeReady_61 ?_
          refine lv_iconst (v := 1) hx hb dX6_takeReady_64 (by decide) ?_
          refine lv_isub hx hb dX6_takeReady_65 ?_
          refine p_st hx hb hts nX6 hown hK hP hD hS 7 (by decide) (by decide) k65 (fun _ h9 => h9) rfl rfl rfl dX6_takeReady_66 (fun τ12 H locs eτ12 hP hD hS => ?_)
          refine lv_aload_n hx hb dX6_takeReady_69 rfl (lv_at hl 1 rfl) ?_
          exact x_aret hx hb hr hlocks hK (some (ad (i3 + 6))) rfl τ12 hP hD hS dX6_takeReady_70 (by subst eτ12; exact ⟨by simp [m_takeReady, eq_true c_4_1, hi3], by simp only [m_takeReadyW, ← hs]; simp [eq_true c_4_1, hi3]⟩)
        -- 36 goes on
        · skip
          have hj : j + 1 < 24 := lt_cN 24 c_36_11 (by decide) (by omega)
          obtain ⟨n, rfl⟩ : ∃ q, n = q + 1 := ⟨n - 1, by omega⟩
          refine lv_aload_n hx hb dX6_takeReady_39 rfl (lv_at hl 0 rfl) ?_
          refine va_get (D := D) (C := RX6) (T := TX6) (N := 12) (ci := 6) (v := .ref (ad 5)) hx hb hts nX6 hown hK hP 0 w_st rfl 6 (by decide) k35 (fun _ h9 => h9) rfl dX6_takeReady_40 ?_
          refine lv_iload_n hx hb dX6_takeReady_43 rfl (lv_at hl 2 rfl) ?_
          refine lv_iconst (v := 1) hx hb dX6_takeReady_44 (by decide) ?_
          refine lv_isub hx hb dX6_takeReady_45 ?_
          refine lv_aload_n hx hb dX6_takeReady_46 rfl (lv_at hl 0 rfl) ?_
          refine va_get (D := D) (C := RX6) (T := TX6) (N := 12) (ci := 6) (v := .ref (ad 5)) hx hb hts nX6 hown hK hP 0 w_st rfl 6 (by decide) k35 (fun _ h9 => h9) rfl dX6_takeReady_47 ?_
          refine lv_iload_n hx hb dX6_takeReady_50 rfl (lv_at hl 2 rfl) ?_
          refine l_a5 hx hb hK hP (j := (j + 1)) (nI_clamp (by omega)) (vp_in_nI hj (by omega)) dX6_takeReady_51 ?_
          refine p_a5 hx hb hK hP hD hS (j := j) (by rw [nI_pred]; exact nI_clamp (by omega)) (by rw [nI_pred]; exact vp_in_nI (by omega) (by omega)) dX6_takeReady_52 (fun τ13 H locs eτ13 hP hD hS => ?_)
          refine lv_iinc (v := (nI ((j + 1) + 1))) (lv' := [(2, .int (nI ((j + 1) + 1))), (0, .ref (ad 0)), (1, .ref (ad (i3 + 6)))]) hx hb dX6_takeReady_53 hl (k := 2) rfl (show nI (j + 1) + 1 = nI ((j + 1) + 1) from nI_1 (j + 1)) (by decide) rfl (fun ls hl => ?_)
          refine lv_goto (tgt := 22) hx hb dX6_takeReady_56 (by decide) ?_
          exact ih n (Nat.lt_succ_self n) H locs ls ⟨τ13, (j + 1), ⟨by omega, by subst eτ13; rw [← hf]; simp [m_shift, n24, c_27_9, c_36_11]⟩, hP, hD, hS, lv_sub hl [1, 2, 0] rfl⟩
  -- 4 goes on
  · skip
    refine lv_null hx hb dX6_takeReady_7 ?_
    exact x_aret hx hb hr hlocks hK none rfl τ hP hD hS dX6_takeReady_8 (by simp [m_takeReady, m_takeReadyW, c_4_1])

set_option maxHeartbeats 4000000 in
set_option maxRecDepth 100000 in
theorem c_X6_isUsed (l : Launch) (D : va_G) (cA : Nat → ClassId) (ad : Nat → Nat) (tr : List (ClassId × FieldType)) (rest : va_W) (sz : Nat) (τ : Sg) (b : Int32) : Met l yX6_isUsed wsX6_isUsed ({ frames := 0, cells := 0, slots := 0, locals := 0 }) (va_Pc [.ref (ad 0), .int b] (inW D (tyB cA ++ tr) (wB cA ad τ ++ rest) sz)) (va_Qi (fun (r : Int32) (_ : Unit) => r = bI (m_isUsed τ b)) (fun _ : Unit => outW D (tyB cA ++ tr) (va_A (wB cA ad τ ++ rest) sz) (wB cA ad τ ++ rest)) (va_A (wB cA ad τ ++ rest) sz)) 0 0 (va_A (wB cA ad τ ++ rest) sz) := by
  refine Met.ofW (cc := cX6_isUsed) (maxL := 6) (ret := (some .boolean)) (by decide) rfl ?_
  intro p e s m args below meth c s₁ B hml hv
  obtain ⟨rfl, hsz, hP, hK, hD0⟩ := hv
  have hx := B.exec
  have hb := B.bytes
  have hr := B.returns
  have hts := atoms_spec (ws := wsX6_isUsed) B.pre
  have hown : s.vm.findClass RX6 = some m.cls := findClass_of_methodNamed B.named
  have hlocks := B.notSynchronized
  subst hsz
  have hD := hD0.self (sz := s.heap.size)
  clear hD0
  generalize hAe : va_A (wB cA ad τ ++ rest) s.heap.size = A at hD ⊢
  have hA : ∀ q : Nat, s.heap.size ≤ q → A q := fun q h => by rw [← hAe]; exact Or.inr h
  clear hAe
  have hS : va_S A s.heap s.heap [] := va_S.rf
  have hP : va_P D vwCl (wB cA ad τ ++ rest) s.heap := hP
  have hl := lv_entry ([.ref (ad 0), .int b]) (n := 6) (Nat.le_of_ble_eq_true rfl)
  rw [lg_entry_eq]
  generalize (lg_sl ([.ref (ad 0), .int b]) ++ List.replicate (6 - (lg_sl ([.ref (ad 0), .int b])).length) Slot.unset).toArray = ls at hl ⊢
  have hl : lv_has ls 6 [(0, .ref (ad 0)), (1, .int b)] := hl
  have nX6 : ∀ w ∈ u_ws RX6 TX6 12, w ∈ wsX6_isUsed := by decide +kernel
  have nX7 : ∀ w ∈ u_ws RX7 TX7 17, w ∈ wsX6_isUsed := by decide +kernel
  have k11 := hts (.fieldLink RX6 11 "ScopeRow$State" "tasks" "[LScopeRow$Task;") (by decide +kernel)
  have k80 := hts (.fieldLink RX6 80 "ScopeRow$Task" "state" "I") (by decide +kernel)
  have k83 := hts (.fieldLink RX6 83 "ScopeRow$Task" "body" "I") (by decide +kernel)
  refine lv_aload_n hx hb dX6_isUsed_0 rfl (lv_at hl 0 rfl) ?_
  refine va_get (D := D) (C := RX6) (T := TX6) (N := 12) (ci := 6) (v := .ref (ad 1)) hx hb hts nX6 hown hK hP 0 w_st rfl 0 (by decide) k11 (fun _ h9 => h9) rfl dX6_isUsed_1 ?_
  refine lv_astore_n (lv' := [(2, .ref (ad 1)), (0, .ref (ad 0)), (1, .int b)]) hx hb dX6_isUsed_4 rfl hl (by decide) rfl (fun ls hl => ?_)
  refine lv_aload_n hx hb dX6_isUsed_5 rfl (lv_at hl 0 rfl) ?_
  refine va_alen (v := 24) hx hb hK hP 1 1 w_a1 rfl rfl dX6_isUsed_6 ?_
  refine lv_istore_n (lv' := [(3, .int 24), (2, .ref (ad 1)), (0, .ref (ad 0)), (1, .int b)]) hx hb dX6_isUsed_7 rfl hl (by decide) rfl (fun ls hl => ?_)
  refine lv_iconst (v := 0) hx hb dX6_isUsed_8 (by decide) ?_
  refine lv_istore (lv' := [(4, .int 0), (3, .int 24), (2, .ref (ad 1)), (0, .ref (ad 0)), (1, .int b)]) hx hb dX6_isUsed_9 hl (by decide) rfl (fun ls hl => ?_)
  refine W_meas (I := fun (n : Nat) (H : Heap) (locs : List Loc) (ls : Array Slot) => ∃ (j : Nat), ((n + j = 24) ∧ (m_used τ b n j = m_isUsed τ b)) ∧ va_P D vwCl (wB cA ad τ ++ rest) H ∧ va_D A (wB cA ad τ ++ rest) ∧ va_S A s.heap H locs ∧ lv_has ls 6 [(0, .ref (ad 0)), (1, .int b), (2, .ref (ad 1)), (3, .int 24), (4, .int (nI j))]) 24 ⟨0, ⟨by omega, rfl⟩, hP, hD, hS, lv_sub hl [3, 4, 2, 1, 0] rfl⟩ ?_
  clear hP hD hS hl
  intro n ih H locs ls hI
  obtain ⟨j, ⟨hn, hf⟩, hP, hD, hS, hl⟩ := hI
  refine lv_iload hx hb dX6_isUsed_11 (lv_at hl 4 rfl) ?_
  refine lv_iload_n hx hb dX6_isUsed_13 rfl (lv_at hl 3 rfl) ?_
  refine lv_icmp_ge (tgt := 49) hx hb dX6_isUsed_14 (by decide) (fun c_14_1 => ?_) (fun c_14_1 => ?_)
  -- 14 jumps
  · skip
    obtain rfl : n = 0 := by have := ge_c c_14_1 (by omega); omega
    refine lv_iconst (v := 0) hx hb dX6_isUsed_49 (by decide) ?_
    exact x_zret hx hb hr rfl hlocks hK () hP hD hS dX6_isUsed_50 (by rw [← hf]; simp [m_used, bI, eq_true c_14_1])
  -- 14 goes on
  · skip
    have hj : j < 24 := lt_c c_14_1 (by omega)
    obtain ⟨n, rfl⟩ : ∃ k, n = k + 1 := ⟨n - 1, by omega⟩
    refine lv_aload_n hx hb dX6_isUsed_17 rfl (lv_at hl 2 rfl) ?_
    refine lv_iload hx hb dX6_isUsed_18 (lv_at hl 4 rfl) ?_
    refine l_a1 hx hb hK hP (j := j) (nI_clamp (by omega)) (vp_in_nI hj (by omega)) dX6_isUsed_20 ?_
    refine lv_astore (lv' := [(5, .ref (ad (j + 6))), (0, .ref (ad 0)), (1, .int b), (2, .ref (ad 1)), (3, .int 24), (4, .int (nI j))]) hx hb dX6_isUsed_21 hl (by decide) rfl (fun ls hl => ?_)
    refine lv_aload hx hb dX6_isUsed_23 (lv_at hl 0 rfl) ?_
    refine va_get (D := D) (C := RX7) (T := TX7) (N := 17) (ci := 7) (v := .int (τ (j + 6) 3)) hx hb hts nX7 hown hK hP (j + 6) (w_tk hj) rfl 3 (by decide) k80 (fun _ h9 => h9) rfl dX6_isUsed_25 ?_
    refine lv_iconst (v := (-1)) hx hb dX6_isUsed_28 (by decide) ?_
    refine lv_icmp_eq (tgt := 43) hx hb dX6_isUsed_29 (by decide) (fun c_29_2 => ?_) (fun c_29_2 => ?_)
    -- 29 jumps
    · skip
      refine lv_iinc (v := (nI (j + 1))) (lv' := [(4, .int (nI (j + 1))), (5, .ref (ad (j + 6))), (0, .ref (ad 0)), (1, .int b), (2, .ref (ad 1)), (3, .int 24)]) hx hb dX6_isUsed_43 hl (k := 5) rfl (show nI j + 1 = nI (j + 1) from nI_1 j) (by decide) rfl (fun ls hl => ?_)
      refine lv_goto (tgt := 11) hx hb dX6_isUsed_46 (by decide) ?_
      exact ih n (Nat.lt_succ_self n) H locs ls ⟨(j + 1), ⟨by omega, by rw [← hf]; simp [m_used, c_14_1, eq_true c_29_2]⟩, hP, hD, hS, lv_sub hl [2, 3, 4, 5, 0] rfl⟩
    -- 29 goes on
    · skip
      refine lv_aload hx hb dX6_isUsed_32 (lv_at hl 0 rfl) ?_
      refine va_get (D := D) (C := RX7) (T := TX7) (N := 17) (ci := 7) (v := .int (τ (j + 6) 2)) hx hb hts nX7 hown hK hP (j + 6) (w_tk hj) rfl 2 (by decide) k83 (fun _ h9 => h9) rfl dX6_isUsed_34 ?_
      refine lv_iload_n hx hb dX6_isUsed_37 rfl (lv_at hl 2 rfl) ?_
      refine lv_icmp_ne (tgt := 43) hx hb dX6_isUsed_38 (by decide) (fun c_38_3 => ?_) (fun c_38_3 => ?_)
      -- 38 jumps
      · skip
        refine lv_iinc (v := (nI (j + 1))) (lv' := [(4, .int (nI (j + 1))), (5, .ref (ad (j + 6))), (0, .ref (ad 0)), (1, .int b), (2, .ref (ad 1)), (3, .int 24)]) hx hb dX6_isUsed_43 hl (k := 5) rfl (show nI j + 1 = nI (j + 1) from nI_1 j) (by decide) rfl (fun ls hl => ?_)
        refine lv_goto (tgt := 11) hx hb dX6_isUsed_46 (by decide) ?_
        exact ih n (Nat.lt_succ_self n) H locs ls ⟨(j + 1), ⟨by omega, by rw [← hf]; simp [m_used, c_14_1, c_29_2, c_38_3]⟩, hP, hD, hS, lv_sub hl [2, 3, 4, 5, 0] rfl⟩
      -- 38 goes on
      · skip
        refine lv_iconst (v := 1) hx hb dX6_isUsed_41 (by decide) ?_
        exact x_zret hx hb hr rfl hlocks hK () hP hD hS dX6_isUsed_42 (by rw [← hf]; simp [m_used, bI, c_14_1, c_29_2, eq_true c_38_3])

set_option maxHeartbeats 4000000 in
set_option maxRecDepth 100000 in
theorem c_X6_firstInVain (l : Launch) (D : va_G) (cA : Nat → ClassId) (ad : Nat → Nat) (tr : List (ClassId × FieldType)) (rest : va_W) (sz : Nat) (τ : Sg) (x p0 : Int32) : Met l yX6_firstInVain wsX6_firstInVain ({ frames := 0, cells := 0, slots := 0, locals := 0 }) (va_Pc [.ref (ad 0), .int x, .int p0] (inW D (tyB cA ++ tr) (wB cA ad τ ++ rest) sz)) (va_Qq (fun (r : Option Nat) (_ : Unit) => r = (m_firstInVain τ x p0).map (fun a => ad (a + 6))) (fun _ : Unit => outW D (tyB cA ++ tr) (va_A (wB cA ad τ ++ rest) sz) (wB cA ad τ ++ rest)) (va_A (wB cA ad τ ++ rest) sz)) 0 0 (va_A (wB cA ad τ ++ rest) sz) := by
  refine Met.ofW (cc := cX6_firstInVain) (maxL := 9) (ret := (some (.object "ScopeRow$Task"))) (by decide) rfl ?_
  intro p e s m args below meth c s₁ B hml hv
  obtain ⟨rfl, hsz, hP, hK, hD0⟩ := hv
  have hx := B.exec
  have hb := B.bytes
  have hr := B.returns
  have hts := atoms_spec (ws := wsX6_firstInVain) B.pre
  have hown : s.vm.findClass RX6 = some m.cls := findClass_of_methodNamed B.named
  have hlocks := B.notSynchronized
  subst hsz
  have hD := hD0.self (sz := s.heap.size)
  clear hD0
  generalize hAe : va_A (wB cA ad τ ++ rest) s.heap.size = A at hD ⊢
  have hA : ∀ q : Nat, s.heap.size ≤ q → A q := fun q h => by rw [← hAe]; exact Or.inr h
  clear hAe
  have hS : va_S A s.heap s.heap [] := va_S.rf
  have hP : va_P D vwCl (wB cA ad τ ++ rest) s.heap := hP
  have hl := lv_entry ([.ref (ad 0), .int x, .int p0]) (n := 9) (Nat.le_of_ble_eq_true rfl)
  rw [lg_entry_eq]
  generalize (lg_sl ([.ref (ad 0), .int x, .int p0]) ++ List.replicate (9 - (lg_sl ([.ref (ad 0), .int x, .int p0])).length) Slot.unset).toArray = ls at hl ⊢
  have hl : lv_has ls 9 [(0, .ref (ad 0)), (1, .int x), (2, .int p0)] := hl
  have nX6 : ∀ w ∈ u_ws RX6 TX6 12, w ∈ wsX6_firstInVain := by decide +kernel
  have nX7 : ∀ w ∈ u_ws RX7 TX7 17, w ∈ wsX6_firstInVain := by decide +kernel
  have k11 := hts (.fieldLink RX6 11 "ScopeRow$State" "tasks" "[LScopeRow$Task;") (by decide +kernel)
  have k80 := hts (.fieldLink RX6 80 "ScopeRow$Task" "state" "I") (by decide +kernel)
  have k106 := hts (.fieldLink RX6 106 "ScopeRow$Task" "behind" "I") (by decide +kernel)
  have k112 := hts (.fieldLink RX6 112 "ScopeRow$Task" "picks" "Z") (by decide +kernel)
  have k109 := hts (.fieldLink RX6 109 "ScopeRow$Task" "target" "I") (by decide +kernel)
  have k122 := hts (.fieldLink RX6 122 "ScopeRow$Task" "since" "I") (by decide +kernel)
  refine lv_null hx hb dX6_firstInVain_0 ?_
  refine lv_astore_nN (lv' := [(3, .null), (0, .ref (ad 0)), (1, .int x), (2, .int p0)]) hx hb dX6_firstInVain_1 rfl hl (by decide) rfl (fun ls hl => ?_)
  refine lv_aload_n hx hb dX6_firstInVain_2 rfl (lv_at hl 1 rfl) ?_
  refine va_get (D := D) (C := RX6) (T := TX6) (N := 12) (ci := 6) (v := .ref (ad 1)) hx hb hts nX6 hown hK hP 0 w_st rfl 0 (by decide) k11 (fun _ h9 => h9) rfl dX6_firstInVain_3 ?_
  refine lv_astore (lv' := [(4, .ref (ad 1)), (3, .null), (0, .ref (ad 0)), (1, .int x), (2, .int p0)]) hx hb dX6_firstInVain_6 hl (by decide) rfl (fun ls hl => ?_)
  refine lv_aload hx hb dX6_firstInVain_8 (lv_at hl 0 rfl) ?_
  refine va_alen (v := 24) hx hb hK hP 1 1 w_a1 rfl rfl dX6_firstInVain_10 ?_
  refine lv_istore (lv' := [(5, .int 24), (4, .ref (ad 1)), (3, .null), (0, .ref (ad 0)), (1, .int x), (2, .int p0)]) hx hb dX6_firstInVain_11 hl (by decide) rfl (fun ls hl => ?_)
  refine lv_iconst (v := 0) hx hb dX6_firstInVain_13 (by decide) ?_
  refine lv_istore (lv' := [(6, .int 0), (5, .int 24), (4, .ref (ad 1)), (3, .null), (0, .ref (ad 0)), (1, .int x), (2, .int p0)]) hx hb dX6_firstInVain_14 hl (by decide) rfl (fun ls hl => ?_)
  refine W_meas (I := fun (n : Nat) (H : Heap) (locs : List Loc) (ls : Array Slot) => ∃ (j : Nat) (acc : Option Nat), ((n + j = 24) ∧ (m_fi τ x p0 n j acc = m_firstInVain τ x p0) ∧ (∀ b, acc = some b → b < 24)) ∧ va_P D vwCl (wB cA ad τ ++ rest) H ∧ va_D A (wB cA ad τ ++ rest) ∧ va_S A s.heap H locs ∧ lv_has ls 9 [(0, .ref (ad 0)), (1, .int x), (2, .int p0), (3, va_rf (Option.map (fun a => ad (a + 6)) acc)), (4, .ref (ad 1)), (5, .int 24), (6, .int (nI j))]) 24 ⟨0, none, ⟨by omega, rfl, by intro b h; cases h⟩, hP, hD, hS, lv_sub hl [4, 5, 6, 3, 2, 1, 0] rfl⟩ ?_
  clear hP hD hS hl
  intro n ih H locs ls hI
  obtain ⟨j, acc, ⟨hn, hf, hacc⟩, hP, hD, hS, hl⟩ := hI
  rcases acc with _ | b
  · skip
    have hl : lv_has ls 9 [(0, .ref (ad 0)), (1, .int x), (2, .int p0), (3, .null), (4, .ref (ad 1)), (5, .int 24), (6, .int (nI j))] := hl
    refine lv_iload hx hb dX6_firstInVain_16 (lv_at hl 6 rfl) ?_
    refine lv_iload hx hb dX6_firstInVain_18 (lv_at hl 5 rfl) ?_
    refine lv_icmp_ge (tgt := 118) hx hb dX6_firstInVain_20 (by decide) (fun c_20_1 => ?_) (fun c_20_1 => ?_)
    -- 20 jumps
    · skip
      obtain rfl : n = 0 := by have := ge_c c_20_1 (by omega); omega
      refine lv_aload_nN hx hb dX6_firstInVain_118 rfl (lv_at hl 3 rfl) ?_
      exact x_aret hx hb hr hlocks hK none rfl () hP hD hS dX6_firstInVain_119 (by rw [← hf]; simp [m_fi])
    -- 20 goes on
    · skip
      have hj : j < 24 := lt_c c_20_1 (by omega)
      obtain ⟨n, rfl⟩ : ∃ k, n = k + 1 := ⟨n - 1, by omega⟩
      refine lv_aload hx hb dX6_firstInVain_23 (lv_at hl 4 rfl) ?_
      refine lv_iload hx hb dX6_firstInVain_25 (lv_at hl 6 rfl) ?_
      refine l_a1 hx hb hK hP (j := j) (nI_clamp (by omega)) (vp_in_nI hj (by omega)) dX6_firstInVain_27 ?_
      refine lv_astore (lv' := [(7, .ref (ad (j + 6))), (0, .ref (ad 0)), (1, .int x), (2, .int p0), (3, .null), (4, .ref (ad 1)), (5, .int 24), (6, .int (nI j))]) hx hb dX6_firstInVain_28 hl (by decide) rfl (fun ls hl => ?_)
      refine lv_aload hx hb dX6_firstInVain_30 (lv_at hl 0 rfl) ?_
      refine va_get (D := D) (C := RX7) (T := TX7) (N := 17) (ci := 7) (v := .int (τ (j + 6) 3)) hx hb hts nX7 hown hK hP (j + 6) (w_tk hj) rfl 3 (by decide) k80 (fun _ h9 => h9) rfl dX6_firstInVain_32 ?_
      refine lv_iconst (v := 1) hx hb dX6_firstInVain_35 (by decide) ?_
      refine lv_icmp_ne (tgt := 85) hx hb dX6_firstInVain_36 (by decide) (fun c_36_2 => ?_) (fun c_36_2 => ?_)
      -- 36 jumps
      · skip
        refine lv_iconst (v := 0) hx hb dX6_firstInVain_85 (by decide) ?_
        refine lv_istore (lv' := [(8, .int 0), (7, .ref (ad (j + 6))), (0, .ref (ad 0)), (1, .int x), (2, .int p0), (3, .null), (4, .ref (ad 1)), (5, .int 24), (6, .int (nI j))]) hx hb dX6_firstInVain_86 hl (by decide) rfl (fun ls hl => ?_)
        refine lv_iload hx hb dX6_firstInVain_88 (lv_at hl 0 rfl) ?_
        refine lv_if_eq (tgt := 112) hx hb dX6_firstInVain_90 (by decide) (fun c_90_3 => ?_) (fun c_90_3 => ?_)
        -- 90 jumps
        · skip
          refine lv_iinc (v := (nI (j + 1))) (lv' := [(6, .int (nI (j + 1))), (8, .int 0), (7, .ref (ad (j + 6))), (0, .ref (ad 0)), (1, .int x), (2, .int p0), (3, .null), (4, .ref (ad 1)), (5, .int 24)]) hx hb dX6_firstInVain_112 hl (k := 8) rfl (show nI j + 1 = nI (j + 1) from nI_1 j) (by decide) rfl (fun ls hl => ?_)
          refine lv_goto (tgt := 16) hx hb dX6_firstInVain_115 (by decide) ?_
          exact ih n (Nat.lt_succ_self n) H locs ls ⟨j + 1, (none), ⟨by omega, by rw [← hf]; simp [m_fi, m_fic, m_sel, c_20_1, c_36_2, eq_true c_90_3], by intro b h; cases h⟩, hP, hD, hS, lv_sub hl [3, 4, 5, 6, 7, 8, 0] rfl⟩
        -- 90 goes on
        · exact absurd c_90_3 (by decide)
      -- 36 goes on
      · skip
        refine lv_aload hx hb dX6_firstInVain_39 (lv_at hl 0 rfl) ?_
        refine va_get (D := D) (C := RX7) (T := TX7) (N := 17) (ci := 7) (v := .int (τ (j + 6) 9)) hx hb hts nX7 hown hK hP (j + 6) (w_tk hj) rfl 9 (by decide) k106 (fun _ h9 => h9) rfl dX6_firstInVain_41 ?_
        refine lv_iconst (v := 3) hx hb dX6_firstInVain_44 (by decide) ?_
        refine lv_icmp_eq (tgt := 57) hx hb dX6_firstInVain_45 (by decide) (fun c_45_4 => ?_) (fun c_45_4 => ?_)
        -- 45 jumps
        · skip
          refine lv_aload hx hb dX6_firstInVain_57 (lv_at hl 0 rfl) ?_
          refine va_get (D := D) (C := RX7) (T := TX7) (N := 17) (ci := 7) (v := .int (τ (j + 6) 11)) hx hb hts nX7 hown hK hP (j + 6) (w_tk hj) rfl 11 (by decide) k112 (fun _ h9 => h9) rfl dX6_firstInVain_59 ?_
          refine lv_if_eq (tgt := 72) hx hb dX6_firstInVain_62 (by decide) (fun c_62_5 => ?_) (fun c_62_5 => ?_)
          -- 62 jumps
          · skip
            refine lv_aload hx hb dX6_firstInVain_72 (lv_at hl 0 rfl) ?_
            refine va_get (D := D) (C := RX7) (T := TX7) (N := 17) (ci := 7) (v := .int (τ (j + 6) 10)) hx hb hts nX7 hown hK hP (j + 6) (w_tk hj) rfl 10 (by decide) k109 (fun _ h9 => h9) rfl dX6_firstInVain_74 ?_
            refine lv_iload_n hx hb dX6_firstInVain_77 rfl (lv_at hl 2 rfl) ?_
            refine lv_icmp_ne (tgt := 85) hx hb dX6_firstInVain_78 (by decide) (fun c_78_6 => ?_) (fun c_78_6 => ?_)
            -- 78 jumps
            · skip
              refine lv_iconst (v := 0) hx hb dX6_firstInVain_85 (by decide) ?_
              refine lv_istore (lv' := [(8, .int 0), (7, .ref (ad (j + 6))), (0, .ref (ad 0)), (1, .int x), (2, .int p0), (3, .null), (4, .ref (ad 1)), (5, .int 24), (6, .int (nI j))]) hx hb dX6_firstInVain_86 hl (by decide) rfl (fun ls hl => ?_)
              refine lv_iload hx hb dX6_firstInVain_88 (lv_at hl 0 rfl) ?_
              refine lv_if_eq (tgt := 112) hx hb dX6_firstInVain_90 (by decide) (fun c_90_7 => ?_) (fun c_90_7 => ?_)
              -- 90 jumps
              · skip
                refine lv_iinc (v := (nI (j + 1))) (lv' := [(6, .int (nI (j + 1))), (8, .int 0), (7, .ref (ad (j + 6))), (0, .ref (ad 0)), (1, .int x), (2, .int p0), (3, .null), (4, .ref (ad 1)), (5, .int 24)]) hx hb dX6_firstInVain_112 hl (k := 8) rfl (show nI j + 1 = nI (j + 1) from nI_1 j) (by decide) rfl (fun ls hl => ?_)
                refine lv_goto (tgt := 16) hx hb dX6_firstInVain_115 (by decide) ?_
                exact ih n (Nat.lt_succ_self n) H locs ls ⟨j + 1, (none), ⟨by omega, by rw [← hf]; simp [m_fi, m_fic, m_sel, c_20_1, eq_true c_36_2, eq_true c_45_4, eq_true c_62_5, c_78_6, eq_true c_90_7], by intro b h; cases h⟩, hP, hD, hS, lv_sub hl [3, 4, 5, 6, 7, 8, 0] rfl⟩
              -- 90 goes on
              · exact absurd c_90_7 (by decide)
            -- 78 goes on
            · skip
              refine lv_iconst (v := 1) hx hb dX6_firstInVain_81 (by decide) ?_
              refine lv_goto (tgt := 86) hx hb dX6_firstInVain_82 (by decide) ?_
              refine lv_istore (lv' := [(8, .int 1), (7, .ref (ad (j + 6))), (0, .ref (ad 0)), (1, .int x), (2, .int p0), (3, .null), (4, .ref (ad 1)), (5, .int 24), (6, .int (nI j))]) hx hb dX6_firstInVain_86 hl (by decide) rfl (fun ls hl => ?_)
              refine lv_iload hx hb dX6_firstInVain_88 (lv_at hl 0 rfl) ?_
              refine lv_if_eq (tgt := 112) hx hb dX6_firstInVain_90 (by decide) (fun c_90_8 => ?_) (fun c_90_8 => ?_)
              -- 90 jumps
              · exact absurd c_90_8 (by decide)
              -- 90 goes on
              · skip
                refine lv_aload_nN hx hb dX6_firstInVain_93 rfl (lv_at hl 5 rfl) ?_
                refine lv_ifnullN (tgt := 109) hx hb dX6_firstInVain_94 (by decide) ?_
                refine lv_aload hx hb dX6_firstInVain_109 (lv_at hl 1 rfl) ?_
                refine lv_astore_n (lv' := [(3, .ref (ad (j + 6))), (8, .int 1), (7, .ref (ad (j + 6))), (0, .ref (ad 0)), (1, .int x), (2, .int p0), (4, .ref (ad 1)), (5, .int 24), (6, .int (nI j))]) hx hb dX6_firstInVain_111 rfl hl (by decide) rfl (fun ls hl => ?_)
                refine lv_iinc (v := (nI (j + 1))) (lv' := [(6, .int (nI (j + 1))), (3, .ref (ad (j + 6))), (8, .int 1), (7, .ref (ad (j + 6))), (0, .ref (ad 0)), (1, .int x), (2, .int p0), (4, .ref (ad 1)), (5, .int 24)]) hx hb dX6_firstInVain_112 hl (k := 8) rfl (show nI j + 1 = nI (j + 1) from nI_1 j) (by decide) rfl (fun ls hl => ?_)
                refine lv_goto (tgt := 16) hx hb dX6_firstInVain_115 (by decide) ?_
                exact ih n (Nat.lt_succ_self n) H locs ls ⟨j + 1, (some j), ⟨by omega, by rw [← hf]; simp [m_fi, m_fic, m_sel, c_20_1, eq_true c_36_2, eq_true c_45_4, eq_true c_62_5, eq_true c_78_6, c_90_8], by intro b h; cases h; exact hj⟩, hP, hD, hS, lv_sub hl [4, 5, 6, 1, 7, 8, 0] rfl⟩
          -- 62 goes on
          · skip
            refine lv_iload_n hx hb dX6_firstInVain_65 rfl (lv_at hl 3 rfl) ?_
            refine lv_if_eq (tgt := 85) hx hb dX6_firstInVain_66 (by decide) (fun c_66_9 => ?_) (fun c_66_9 => ?_)
            -- 66 jumps
            · skip
              refine lv_iconst (v := 0) hx hb dX6_firstInVain_85 (by decide) ?_
              refine lv_istore (lv' := [(8, .int 0), (7, .ref (ad (j + 6))), (0, .ref (ad 0)), (1, .int x), (2, .int p0), (3, .null), (4, .ref (ad 1)), (5, .int 24), (6, .int (nI j))]) hx hb dX6_firstInVain_86 hl (by decide) rfl (fun ls hl => ?_)
              refine lv_iload hx hb dX6_firstInVain_88 (lv_at hl 0 rfl) ?_
              refine lv_if_eq (tgt := 112) hx hb dX6_firstInVain_90 (by decide) (fun c_90_10 => ?_) (fun c_90_10 => ?_)
              -- 90 jumps
              · skip
                refine lv_iinc (v := (nI (j + 1))) (lv' := [(6, .int (nI (j + 1))), (8, .int 0), (7, .ref (ad (j + 6))), (0, .ref (ad 0)), (1, .int x), (2, .int p0), (3, .null), (4, .ref (ad 1)), (5, .int 24)]) hx hb dX6_firstInVain_112 hl (k := 8) rfl (show nI j + 1 = nI (j + 1) from nI_1 j) (by decide) rfl (fun ls hl => ?_)
                refine lv_goto (tgt := 16) hx hb dX6_firstInVain_115 (by decide) ?_
                exact ih n (Nat.lt_succ_self n) H locs ls ⟨j + 1, (none), ⟨by omega, by rw [← hf]; simp [m_fi, m_fic, m_sel, c_20_1, eq_true c_36_2, eq_true c_45_4, c_62_5, eq_true c_66_9, eq_true c_90_10], by intro b h; cases h⟩, hP, hD, hS, lv_sub hl [3, 4, 5, 6, 7, 8, 0] rfl⟩
              -- 90 goes on
              · exact absurd c_90_10 (by decide)
            -- 66 goes on
            · skip
              refine lv_goto (tgt := 81) hx hb dX6_firstInVain_69 (by decide) ?_
              refine lv_iconst (v := 1) hx hb dX6_firstInVain_81 (by decide) ?_
              refine lv_goto (tgt := 86) hx hb dX6_firstInVain_82 (by decide) ?_
              refine lv_istore (lv' := [(8, .int 1), (7, .ref (ad (j + 6))), (0, .ref (ad 0)), (1, .int x), (2, .int p0), (3, .null), (4, .ref (ad 1)), (5, .int 24), (6, .int (nI j))]) hx hb dX6_firstInVain_86 hl (by decide) rfl (fun ls hl => ?_)
              refine lv_iload hx hb dX6_firstInVain_88 (lv_at hl 0 rfl) ?_
              refine lv_if_eq (tgt := 112) hx hb dX6_firstInVain_90 (by decide) (fun c_90_11 => ?_) (fun c_90_11 => ?_)
              -- 90 jumps
              · exact absurd c_90_11 (by decide)
              -- 90 goes on
              · skip
                refine lv_aload_nN hx hb dX6_firstInVain_93 rfl (lv_at hl 5 rfl) ?_
                refine lv_ifnullN (tgt := 109) hx hb dX6_firstInVain_94 (by decide) ?_
                refine lv_aload hx hb dX6_firstInVain_109 (lv_at hl 1 rfl) ?_
                refine lv_astore_n (lv' := [(3, .ref (ad (j + 6))), (8, .int 1), (7, .ref (ad (j + 6))), (0, .ref (ad 0)), (1, .int x), (2, .int p0), (4, .ref (ad 1)), (5, .int 24), (6, .int (nI j))]) hx hb dX6_firstInVain_111 rfl hl (by decide) rfl (fun ls hl => ?_)
                refine lv_iinc (v := (nI (j + 1))) (lv' := [(6, .int (nI (j + 1))), (3, .ref (ad (j + 6))), (8, .int 1), (7, .ref (ad (j + 6))), (0, .ref (ad 0)), (1, .int x), (2, .int p0), (4, .ref (ad 1)), (5, .int 24)]) hx hb dX6_firstInVain_112 hl (k := 8) rfl (show nI j + 1 = nI (j + 1) from nI_1 j) (by decide) rfl (fun ls hl => ?_)
                refine lv_goto (tgt := 16) hx hb dX6_firstInVain_115 (by decide) ?_
                exact ih n (Nat.lt_succ_self n) H locs ls ⟨j + 1, (some j), ⟨by omega, by rw [← hf]; simp [m_fi, m_fic, m_sel, c_20_1, eq_true c_36_2, eq_true c_45_4, c_62_5, c_66_9, c_90_11], by intro b h; cases h; exact hj⟩, hP, hD, hS, lv_sub hl [4, 5, 6, 1, 7, 8, 0] rfl⟩
        -- 45 goes on
        · skip
          refine lv_aload hx hb dX6_firstInVain_48 (lv_at hl 0 rfl) ?_
          refine va_get (D := D) (C := RX7) (T := TX7) (N := 17) (ci := 7) (v := .int (τ (j + 6) 9)) hx hb hts nX7 hown hK hP (j + 6) (w_tk hj) rfl 9 (by decide) k106 (fun _ h9 => h9) rfl dX6_firstInVain_50 ?_
          refine lv_iconst (v := 4) hx hb dX6_firstInVain_53 (by decide) ?_
          refine lv_icmp_ne (tgt := 85) hx hb dX6_firstInVain_54 (by decide) (fun c_54_12 => ?_) (fun c_54_12 => ?_)
          -- 54 jumps
          · skip
            refine lv_iconst (v := 0) hx hb dX6_firstInVain_85 (by decide) ?_
            refine lv_istore (lv' := [(8, .int 0), (7, .ref (ad (j + 6))), (0, .ref (ad 0)), (1, .int x), (2, .int p0), (3, .null), (4, .ref (ad 1)), (5, .int 24), (6, .int (nI j))]) hx hb dX6_firstInVain_86 hl (by decide) rfl (fun ls hl => ?_)
            refine lv_iload hx hb dX6_firstInVain_88 (lv_at hl 0 rfl) ?_
            refine lv_if_eq (tgt := 112) hx hb dX6_firstInVain_90 (by decide) (fun c_90_13 => ?_) (fun c_90_13 => ?_)
            -- 90 jumps
            · skip
              refine lv_iinc (v := (nI (j + 1))) (lv' := [(6, .int (nI (j + 1))), (8, .int 0), (7, .ref (ad (j + 6))), (0, .ref (ad 0)), (1, .int x), (2, .int p0), (3, .null), (4, .ref (ad 1)), (5, .int 24)]) hx hb dX6_firstInVain_112 hl (k := 8) rfl (show nI j + 1 = nI (j + 1) from nI_1 j) (by decide) rfl (fun ls hl => ?_)
              refine lv_goto (tgt := 16) hx hb dX6_firstInVain_115 (by decide) ?_
              exact ih n (Nat.lt_succ_self n) H locs ls ⟨j + 1, (none), ⟨by omega, by rw [← hf]; simp [m_fi, m_fic, m_sel, c_20_1, eq_true c_36_2, c_45_4, c_54_12, eq_true c_90_13], by intro b h; cases h⟩, hP, hD, hS, lv_sub hl [3, 4, 5, 6, 7, 8, 0] rfl⟩
            -- 90 goes on
            · exact absurd c_90_13 (by decide)
          -- 54 goes on
          · skip
            refine lv_aload hx hb dX6_firstInVain_57 (lv_at hl 0 rfl) ?_
            refine va_get (D := D) (C := RX7) (T := TX7) (N := 17) (ci := 7) (v := .int (τ (j + 6) 11)) hx hb hts nX7 hown hK hP (j + 6) (w_tk hj) rfl 11 (by decide) k112 (fun _ h9 => h9) rfl dX6_firstInVain_59 ?_
            refine lv_if_eq (tgt := 72) hx hb dX6_firstInVain_62 (by decide) (fun c_62_14 => ?_) (fun c_62_14 => ?_)
            -- 62 jumps
            · skip
              refine lv_aload hx hb dX6_firstInVain_72 (lv_at hl 0 rfl) ?_
              refine va_get (D := D) (C := RX7) (T := TX7) (N := 17) (ci := 7) (v := .int (τ (j + 6) 10)) hx hb hts nX7 hown hK hP (j + 6) (w_tk hj) rfl 10 (by decide) k109 (fun _ h9 => h9) rfl dX6_firstInVain_74 ?_
              refine lv_iload_n hx hb dX6_firstInVain_77 rfl (lv_at hl 2 rfl) ?_
              refine lv_icmp_ne (tgt := 85) hx hb dX6_firstInVain_78 (by decide) (fun c_78_15 => ?_) (fun c_78_15 => ?_)
              -- 78 jumps
              · skip
                refine lv_iconst (v := 0) hx hb dX6_firstInVain_85 (by decide) ?_
                refine lv_istore (lv' := [(8, .int 0), (7, .ref (ad (j + 6))), (0, .ref (ad 0)), (1, .int x), (2, .int p0), (3, .null), (4, .ref (ad 1)), (5, .int 24), (6, .int (nI j))]) hx hb dX6_firstInVain_86 hl (by decide) rfl (fun ls hl => ?_)
                refine lv_iload hx hb dX6_firstInVain_88 (lv_at hl 0 rfl) ?_
                refine lv_if_eq (tgt := 112) hx hb dX6_firstInVain_90 (by decide) (fun c_90_16 => ?_) (fun c_90_16 => ?_)
                -- 90 jumps
                · skip
                  refine lv_iinc (v := (nI (j + 1))) (lv' := [(6, .int (nI (j + 1))), (8, .int 0), (7, .ref (ad (j + 6))), (0, .ref (ad 0)), (1, .int x), (2, .int p0), (3, .null), (4, .ref (ad 1)), (5, .int 24)]) hx hb dX6_firstInVain_112 hl (k := 8) rfl (show nI j + 1 = nI (j + 1) from nI_1 j) (by decide) rfl (fun ls hl => ?_)
                  refine lv_goto (tgt := 16) hx hb dX6_firstInVain_115 (by decide) ?_
                  exact ih n (Nat.lt_succ_self n) H locs ls ⟨j + 1, (none), ⟨by omega, by rw [← hf]; simp [m_fi, m_fic, m_sel, c_20_1, eq_true c_36_2, c_45_4, eq_true c_54_12, eq_true c_62_14, c_78_15, eq_true c_90_16], by intro b h; cases h⟩, hP, hD, hS, lv_sub hl [3, 4, 5, 6, 7, 8, 0] rfl⟩
                -- 90 goes on
                · exact absurd c_90_16 (by decide)
              -- 78 goes on
              · skip
                refine lv_iconst (v := 1) hx hb dX6_firstInVain_81 (by decide) ?_
                refine lv_goto (tgt := 86) hx hb dX6_firstInVain_82 (by decide) ?_
                refine lv_istore (lv' := [(8, .int 1), (7, .ref (ad (j + 6))), (0, .ref (ad 0)), (1, .int x), (2, .int p0), (3, .null), (4, .ref (ad 1)), (5, .int 24), (6, .int (nI j))]) hx hb dX6_firstInVain_86 hl (by decide) rfl (fun ls hl => ?_)
                refine lv_iload hx hb dX6_firstInVain_88 (lv_at hl 0 rfl) ?_
                refine lv_if_eq (tgt := 112) hx hb dX6_firstInVain_90 (by decide) (fun c_90_17 => ?_) (fun c_90_17 => ?_)
                -- 90 jumps
                · exact absurd c_90_17 (by decide)
                -- 90 goes on
                · skip
                  refine lv_aload_nN hx hb dX6_firstInVain_93 rfl (lv_at hl 5 rfl) ?_
                  refine lv_ifnullN (tgt := 109) hx hb dX6_firstInVain_94 (by decide) ?_
                  refine lv_aload hx hb dX6_firstInVain_109 (lv_at hl 1 rfl) ?_
                  refine lv_astore_n (lv' := [(3, .ref (ad (j + 6))), (8, .int 1), (7, .ref (ad (j + 6))), (0, .ref (ad 0)), (1, .int x), (2, .int p0), (4, .ref (ad 1)), (5, .int 24), (6, .int (nI j))]) hx hb dX6_firstInVain_111 rfl hl (by decide) rfl (fun ls hl => ?_)
                  refine lv_iinc (v := (nI (j + 1))) (lv' := [(6, .int (nI (j + 1))), (3, .ref (ad (j + 6))), (8, .int 1), (7, .ref (ad (j + 6))), (0, .ref (ad 0)), (1, .int x), (2, .int p0), (4, .ref (ad 1)), (5, .int 24)]) hx hb dX6_firstInVain_112 hl (k := 8) rfl (show nI j + 1 = nI (j + 1) from nI_1 j) (by decide) rfl (fun ls hl => ?_)
                  refine lv_goto (tgt := 16) hx hb dX6_firstInVain_115 (by decide) ?_
                  exact ih n (Nat.lt_succ_self n) H locs ls ⟨j + 1, (some j), ⟨by omega, by rw [← hf]; simp [m_fi, m_fic, m_sel, c_20_1, eq_true c_36_2, c_45_4, eq_true c_54_12, eq_true c_62_14, eq_true c_78_15, c_90_17], by intro b h; cases h; exact hj⟩, hP, hD, hS, lv_sub hl [4, 5, 6, 1, 7, 8, 0] rfl⟩
            -- 62 goes on
            · skip
              refine lv_iload_n hx hb dX6_firstInVain_65 rfl (lv_at hl 3 rfl) ?_
              refine lv_if_eq (tgt := 85) hx hb dX6_firstInVain_66 (by decide) (fun c_66_18 => ?_) (fun c_66_18 => ?_)
              -- 66 jumps
              · skip
                refine lv_iconst (v := 0) hx hb dX6_firstInVain_85 (by decide) ?_
                refine lv_istore (lv' := [(8, .int 0), (7, .ref (ad (j + 6))), (0, .ref (ad 0)), (1, .int x), (2, .int p0), (3, .null), (4, .ref (ad 1)), (5, .int 24), (6, .int (nI j))]) hx hb dX6_firstInVain_86 hl (by decide) rfl (fun ls hl => ?_)
                refine lv_iload hx hb dX6_firstInVain_88 (lv_at hl 0 rfl) ?_
                refine lv_if_eq (tgt := 112) hx hb dX6_firstInVain_90 (by decide) (fun c_90_19 => ?_) (fun c_90_19 => ?_)
                -- 90 jumps
                · skip
                  refine lv_iinc (v := (nI (j + 1))) (lv' := [(6, .int (nI (j + 1))), (8, .int 0), (7, .ref (ad (j + 6))), (0, .ref (ad 0)), (1, .int x), (2, .int p0), (3, .null), (4, .ref (ad 1)), (5, .int 24)]) hx hb dX6_firstInVain_112 hl (k := 8) rfl (show nI j + 1 = nI (j + 1) from nI_1 j) (by decide) rfl (fun ls hl => ?_)
                  refine lv_goto (tgt := 16) hx hb dX6_firstInVain_115 (by decide) ?_
                  exact ih n (Nat.lt_succ_self n) H locs ls ⟨j + 1, (none), ⟨by omega, by rw [← hf]; simp [m_fi, m_fic, m_sel, c_20_1, eq_true c_36_2, c_45_4, eq_true c_54_12, c_62_14, eq_true c_66_18, eq_true c_90_19], by intro b h; cases h⟩, hP, hD, hS, lv_sub hl [3, 4, 5, 6, 7, 8, 0] rfl⟩
                -- 90 goes on
                · exact absurd c_90_19 (by decide)
              -- 66 goes on
              · skip
                refine lv_goto (tgt := 81) hx hb dX6_firstInVain_69 (by decide) ?_
                refine lv_iconst (v := 1) hx hb dX6_firstInVain_81 (by decide) ?_
                refine lv_goto (tgt := 86) hx hb dX6_firstInVain_82 (by decide) ?_
                refine lv_istore (lv' := [(8, .int 1), (7, .ref (ad (j + 6))), (0, .ref (ad 0)), (1, .int x), (2, .int p0), (3, .null), (4, .ref (ad 1)), (5, .int 24), (6, .int (nI j))]) hx hb dX6_firstInVain_86 hl (by decide) rfl (fun ls hl => ?_)
                refine lv_iload hx hb dX6_firstInVain_88 (lv_at hl 0 rfl) ?_
                refine lv_if_eq (tgt := 112) hx hb dX6_firstInVain_90 (by decide) (fun c_90_20 => ?_) (fun c_90_20 => ?_)
                -- 90 jumps
                · exact absurd c_90_20 (by decide)
                -- 90 goes on
                · skip
                  refine lv_aload_nN hx hb dX6_firstInVain_93 rfl (lv_at hl 5 rfl) ?_
                  refine lv_ifnullN (tgt := 109) hx hb dX6_firstInVain_94 (by decide) ?_
                  refine lv_aload hx hb dX6_firstInVain_109 (lv_at hl 1 rfl) ?_
                  refine lv_astore_n (lv' := [(3, .ref (ad (j + 6))), (8, .int 1), (7, .ref (ad (j + 6))), (0, .ref (ad 0)), (1, .int x), (2, .int p0), (4, .ref (ad 1)), (5, .int 24), (6, .int (nI j))]) hx hb dX6_firstInVain_111 rfl hl (by decide) rfl (fun ls hl => ?_)
                  refine lv_iinc (v := (nI (j + 1))) (lv' := [(6, .int (nI (j + 1))), (3, .ref (ad (j + 6))), (8, .int 1), (7, .ref (ad (j + 6))), (0, .ref (ad 0)), (1, .int x), (2, .int p0), (4, .ref (ad 1)), (5, .int 24)]) hx hb dX6_firstInVain_112 hl (k := 8) rfl (show nI j + 1 = nI (j + 1) from nI_1 j) (by decide) rfl (fun ls hl => ?_)
                  refine lv_goto (tgt := 16) hx hb dX6_firstInVain_115 (by decide) ?_
                  exact ih n (Nat.lt_succ_self n) H locs ls ⟨j + 1, (some j), ⟨by omega, by rw [← hf]; simp [m_fi, m_fic, m_sel, c_20_1, eq_true c_36_2, c_45_4, eq_true c_54_12, c_62_14, c_66_18, c_90_20], by intro b h; cases h; exact hj⟩, hP, hD, hS, lv_sub hl [4, 5, 6, 1, 7, 8, 0] rfl⟩
  · skip
    have hb0 : b < 24 := hacc b rfl
    have hl : lv_has ls 9 [(0, .ref (ad 0)), (1, .int x), (2, .int p0), (3, .ref (ad (b + 6))), (4, .ref (ad 1)), (5, .int 24), (6, .int (nI j))] := hl
    refine lv_iload hx hb dX6_firstInVain_16 (lv_at hl 6 rfl) ?_
    refine lv_iload hx hb dX6_firstInVain_18 (lv_at hl 5 rfl) ?_
    refine lv_icmp_ge (tgt := 118) hx hb dX6_firstInVain_20 (by decide) (fun c_20_21 => ?_) (fun c_20_21 => ?_)
    -- 20 jumps
    · skip
      obtain rfl : n = 0 := by have := ge_c c_20_21 (by omega); omega
      refine lv_aload_n hx hb dX6_firstInVain_118 rfl (lv_at hl 3 rfl) ?_
      exact x_aret hx hb hr hlocks hK (some (ad (b + 6))) rfl () hP hD hS dX6_firstInVain_119 (by rw [← hf]; simp [m_fi])
    -- 20 goes on
    · skip
      have hj : j < 24 := lt_c c_20_21 (by omega)
      obtain ⟨n, rfl⟩ : ∃ k, n = k + 1 := ⟨n - 1, by omega⟩
      refine lv_aload hx hb dX6_firstInVain_23 (lv_at hl 4 rfl) ?_
      refine lv_iload hx hb dX6_firstInVain_25 (lv_at hl 6 rfl) ?_
      refine l_a1 hx hb hK hP (j := j) (nI_clamp (by omega)) (vp_in_nI hj (by omega)) dX6_firstInVain_27 ?_
      refine lv_astore (lv' := [(7, .ref (ad (j + 6))), (0, .ref (ad 0)), (1, .int x), (2, .int p0), (3, .ref (ad (b + 6))), (4, .ref (ad 1)), (5, .int 24), (6, .int (nI j))]) hx hb dX6_firstInVain_28 hl (by decide) rfl (fun ls hl => ?_)
      refine lv_aload hx hb dX6_firstInVain_30 (lv_at hl 0 rfl) ?_
      refine va_get (D := D) (C := RX7) (T := TX7) (N := 17) (ci := 7) (v := .int (τ (j + 6) 3)) hx hb hts nX7 hown hK hP (j + 6) (w_tk hj) rfl 3 (by decide) k80 (fun _ h9 => h9) rfl dX6_firstInVain_32 ?_
      refine lv_iconst (v := 1) hx hb dX6_firstInVain_35 (by decide) ?_
      refine lv_icmp_ne (tgt := 85) hx hb dX6_firstInVain_36 (by decide) (fun c_36_22 => ?_) (fun c_36_22 => ?_)
      -- 36 jumps
      · skip
        refine lv_iconst (v := 0) hx hb dX6_firstInVain_85 (by decide) ?_
        refine lv_istore (lv' := [(8, .int 0), (7, .ref (ad (j + 6))), (0, .ref (ad 0)), (1, .int x), (2, .int p0), (3, .ref (ad (b + 6))), (4, .ref (ad 1)), (5, .int 24), (6, .int (nI j))]) hx hb dX6_firstInVain_86 hl (by decide) rfl (fun ls hl => ?_)
        refine lv_iload hx hb dX6_firstInVain_88 (lv_at hl 0 rfl) ?_
        refine lv_if_eq (tgt := 112) hx hb dX6_firstInVain_90 (by decide) (fun c_90_23 => ?_) (fun c_90_23 => ?_)
        -- 90 jumps
        · skip
          refine lv_iinc (v := (nI (j + 1))) (lv' := [(6, .int (nI (j + 1))), (8, .int 0), (7, .ref (ad (j + 6))), (0, .ref (ad 0)), (1, .int x), (2, .int p0), (3, .ref (ad (b + 6))), (4, .ref (ad 1)), (5, .int 24)]) hx hb dX6_firstInVain_112 hl (k := 8) rfl (show nI j + 1 = nI (j + 1) from nI_1 j) (by decide) rfl (fun ls hl => ?_)
          refine lv_goto (tgt := 16) hx hb dX6_firstInVain_115 (by decide) ?_
          exact ih n (Nat.lt_succ_self n) H locs ls ⟨j + 1, (some b), ⟨by omega, by rw [← hf]; simp [m_fi, m_fic, m_sel, c_20_21, c_36_22, eq_true c_90_23], by intro b h; cases h; exact hb0⟩, hP, hD, hS, lv_sub hl [3, 4, 5, 6, 7, 8, 0] rfl⟩
        -- 90 goes on
        · exact absurd c_90_23 (by decide)
      -- 36 goes on
      · skip
        refine lv_aload hx hb dX6_firstInVain_39 (lv_at hl 0 rfl) ?_
        refine va_get (D := D) (C := RX7) (T := TX7) (N := 17) (ci := 7) (v := .int (τ (j + 6) 9)) hx hb hts nX7 hown hK hP (j + 6) (w_tk hj) rfl 9 (by decide) k106 (fun _ h9 => h9) rfl dX6_firstInVain_41 ?_
        refine lv_iconst (v := 3) hx hb dX6_firstInVain_44 (by decide) ?_
        refine lv_icmp_eq (tgt := 57) hx hb dX6_firstInVain_45 (by decide) (fun c_45_24 => ?_) (fun c_45_24 => ?_)
        -- 45 jumps
        · skip
          refine lv_aload hx hb dX6_firstInVain_57 (lv_at hl 0 rfl) ?_
          refine va_get (D := D) (C := RX7) (T := TX7) (N := 17) (ci := 7) (v := .int (τ (j + 6) 11)) hx hb hts nX7 hown hK hP (j + 6) (w_tk hj) rfl 11 (by decide) k112 (fun _ h9 => h9) rfl dX6_firstInVain_59 ?_
          refine lv_if_eq (tgt := 72) hx hb dX6_firstInVain_62 (by decide) (fun c_62_25 => ?_) (fun c_62_25 => ?_)
          -- 62 jumps
          · skip
            refine lv_aload hx hb dX6_firstInVain_72 (lv_at hl 0 rfl) ?_
            refine va_get (D := D) (C := RX7) (T := TX7) (N := 17) (ci := 7) (v := .int (τ (j + 6) 10)) hx hb hts nX7 hown hK hP (j + 6) (w_tk hj) rfl 10 (by decide) k109 (fun _ h9 => h9) rfl dX6_firstInVain_74 ?_
            refine lv_iload_n hx hb dX6_firstInVain_77 rfl (lv_at hl 2 rfl) ?_
            refine lv_icmp_ne (tgt := 85) hx hb dX6_firstInVain_78 (by decide) (fun c_78_26 => ?_) (fun c_78_26 => ?_)
            -- 78 jumps
            · skip
              refine lv_iconst (v := 0) hx hb dX6_firstInVain_85 (by decide) ?_
              refine lv_istore (lv' := [(8, .int 0), (7, .ref (ad (j + 6))), (0, .ref (ad 0)), (1, .int x), (2, .int p0), (3, .ref (ad (b + 6))), (4, .ref (ad 1)), (5, .int 24), (6, .int (nI j))]) hx hb dX6_firstInVain_86 hl (by decide) rfl (fun ls hl => ?_)
              refine lv_iload hx hb dX6_firstInVain_88 (lv_at hl 0 rfl) ?_
              refine lv_if_eq (tgt := 112) hx hb dX6_firstInVain_90 (by decide) (fun c_90_27 => ?_) (fun c_90_27 => ?_)
              -- 90 jumps
              · skip
                refine lv_iinc (v := (nI (j + 1))) (lv' := [(6, .int (nI (j + 1))), (8, .int 0), (7, .ref (ad (j + 6))), (0, .ref (ad 0)), (1, .int x), (2, .int p0), (3, .ref (ad (b + 6))), (4, .ref (ad 1)), (5, .int 24)]) hx hb dX6_firstInVain_112 hl (k := 8) rfl (show nI j + 1 = nI (j + 1) from nI_1 j) (by decide) rfl (fun ls hl => ?_)
                refine lv_goto (tgt := 16) hx hb dX6_firstInVain_115 (by decide) ?_
                exact ih n (Nat.lt_succ_self n) H locs ls ⟨j + 1, (some b), ⟨by omega, by rw [← hf]; simp [m_fi, m_fic, m_sel, c_20_21, eq_true c_36_22, eq_true c_45_24, eq_true c_62_25, c_78_26, eq_true c_90_27], by intro b h; cases h; exact hb0⟩, hP, hD, hS, lv_sub hl [3, 4, 5, 6, 7, 8, 0] rfl⟩
              -- 90 goes on
              · exact absurd c_90_27 (by decide)
            -- 78 goes on
            · skip
              refine lv_iconst (v := 1) hx hb dX6_firstInVain_81 (by decide) ?_
              refine lv_goto (tgt := 86) hx hb dX6_firstInVain_82 (by decide) ?_
              refine lv_istore (lv' := [(8, .int 1), (7, .ref (ad (j + 6))), (0, .ref (ad 0)), (1, .int x), (2, .int p0), (3, .ref (ad (b + 6))), (4, .ref (ad 1)), (5, .int 24), (6, .int (nI j))]) hx hb dX6_firstInVain_86 hl (by decide) rfl (fun ls hl => ?_)
              refine lv_iload hx hb dX6_firstInVain_88 (lv_at hl 0 rfl) ?_
              refine lv_if_eq (tgt := 112) hx hb dX6_firstInVain_90 (by decide) (fun c_90_28 => ?_) (fun c_90_28 => ?_)
              -- 90 jumps
              · exact absurd c_90_28 (by decide)
              -- 90 goes on
              · skip
                refine lv_aload_n hx hb dX6_firstInVain_93 rfl (lv_at hl 5 rfl) ?_
                refine lv_ifnull hx hb dX6_firstInVain_94 ?_
                refine lv_aload hx hb dX6_firstInVain_97 (lv_at hl 1 rfl) ?_
                refine va_get (D := D) (C := RX7) (T := TX7) (N := 17) (ci := 7) (v := .int (τ (j + 6) 16)) hx hb hts nX7 hown hK hP (j + 6) (w_tk hj) rfl 16 (by decide) k122 (fun _ h9 => h9) rfl dX6_firstInVain_99 ?_
                refine lv_aload_n hx hb dX6_firstInVain_102 rfl (lv_at hl 5 rfl) ?_
                refine va_get (D := D) (C := RX7) (T := TX7) (N := 17) (ci := 7) (v := .int (τ (b + 6) 16)) hx hb hts nX7 hown hK hP (b + 6) (w_tk hb0) rfl 16 (by decide) k122 (fun _ h9 => h9) rfl dX6_firstInVain_103 ?_
                refine lv_icmp_ge (tgt := 112) hx hb dX6_firstInVain_106 (by decide) (fun c_106_29 => ?_) (fun c_106_29 => ?_)
                -- 106 jumps
                · skip
                  refine lv_iinc (v := (nI (j + 1))) (lv' := [(6, .int (nI (j + 1))), (8, .int 1), (7, .ref (ad (j + 6))), (0, .ref (ad 0)), (1, .int x), (2, .int p0), (3, .ref (ad (b + 6))), (4, .ref (ad 1)), (5, .int 24)]) hx hb dX6_firstInVain_112 hl (k := 8) rfl (show nI j + 1 = nI (j + 1) from nI_1 j) (by decide) rfl (fun ls hl => ?_)
                  refine lv_goto (tgt := 16) hx hb dX6_firstInVain_115 (by decide) ?_
                  exact ih n (Nat.lt_succ_self n) H locs ls ⟨j + 1, (some b), ⟨by omega, by rw [← hf]; simp [m_fi, m_fic, m_sel, c_20_21, eq_true c_36_22, eq_true c_45_24, eq_true c_62_25, eq_true c_78_26, c_90_28, eq_true c_106_29], by intro b h; cases h; exact hb0⟩, hP, hD, hS, lv_sub hl [3, 4, 5, 6, 7, 8, 0] rfl⟩
                -- 106 goes on
                · skip
                  refine lv_aload hx hb dX6_firstInVain_109 (lv_at hl 1 rfl) ?_
                  refine lv_astore_n (lv' := [(3, .ref (ad (j + 6))), (8, .int 1), (7, .ref (ad (j + 6))), (0, .ref (ad 0)), (1, .int x), (2, .int p0), (4, .ref (ad 1)), (5, .int 24), (6, .int (nI j))]) hx hb dX6_firstInVain_111 rfl hl (by decide) rfl (fun ls hl => ?_)
                  refine lv_iinc (v := (nI (j + 1))) (lv' := [(6, .int (nI (j + 1))), (3, .ref (ad (j + 6))), (8, .int 1), (7, .ref (ad (j + 6))), (0, .ref (ad 0)), (1, .int x), (2, .int p0), (4, .ref (ad 1)), (5, .int 24)]) hx hb dX6_firstInVain_112 hl (k := 8) rfl (show nI j + 1 = nI (j + 1) from nI_1 j) (by decide) rfl (fun ls hl => ?_)
                  refine lv_goto (tgt := 16) hx hb dX6_firstInVain_115 (by decide) ?_
                  exact ih n (Nat.lt_succ_self n) H locs ls ⟨j + 1, (some j), ⟨by omega, by rw [← hf]; simp [m_fi, m_fic, m_sel, c_20_21, eq_true c_36_22, eq_true c_45_24, eq_true c_62_25, eq_true c_78_26, c_90_28, c_106_29], by intro b h; cases h; exact hj⟩, hP, hD, hS, lv_sub hl [4, 5, 6, 1, 7, 8, 0] rfl⟩
          -- 62 goes on
          · skip
            refine lv_iload_n hx hb dX6_firstInVain_65 rfl (lv_at hl 3 rfl) ?_
            refine lv_if_eq (tgt := 85) hx hb dX6_firstInVain_66 (by decide) (fun c_66_30 => ?_) (fun c_66_30 => ?_)
            -- 66 jumps
            · skip
              refine lv_iconst (v := 0) hx hb dX6_firstInVain_85 (by decide) ?_
              refine lv_istore (lv' := [(8, .int 0), (7, .ref (ad (j + 6))), (0, .ref (ad 0)), (1, .int x), (2, .int p0), (3, .ref (ad (b + 6))), (4, .ref (ad 1)), (5, .int 24), (6, .int (nI j))]) hx hb dX6_firstInVain_86 hl (by decide) rfl (fun ls hl => ?_)
              refine lv_iload hx hb dX6_firstInVain_88 (lv_at hl 0 rfl) ?_
              refine lv_if_eq (tgt := 112) hx hb dX6_firstInVain_90 (by decide) (fun c_90_31 => ?_) (fun c_90_31 => ?_)
              -- 90 jumps
              · skip
                refine lv_iinc (v := (nI (j + 1))) (lv' := [(6, .int (nI (j + 1))), (8, .int 0), (7, .ref (ad (j + 6))), (0, .ref (ad 0)), (1, .int x), (2, .int p0), (3, .ref (ad (b + 6))), (4, .ref (ad 1)), (5, .int 24)]) hx hb dX6_firstInVain_112 hl (k := 8) rfl (show nI j + 1 = nI (j + 1) from nI_1 j) (by decide) rfl (fun ls hl => ?_)
                refine lv_goto (tgt := 16) hx hb dX6_firstInVain_115 (by decide) ?_
                exact ih n (Nat.lt_succ_self n) H locs ls ⟨j + 1, (some b), ⟨by omega, by rw [← hf]; simp [m_fi, m_fic, m_sel, c_20_21, eq_true c_36_22, eq_true c_45_24, c_62_25, eq_true c_66_30, eq_true c_90_31], by intro b h; cases h; exact hb0⟩, hP, hD, hS, lv_sub hl [3, 4, 5, 6, 7, 8, 0] rfl⟩
              -- 90 goes on
              · exact absurd c_90_31 (by decide)
            -- 66 goes on
            · skip
              refine lv_goto (tgt := 81) hx hb dX6_firstInVain_69 (by decide) ?_
              refine lv_iconst (v := 1) hx hb dX6_firstInVain_81 (by decide) ?_
              refine lv_goto (tgt := 86) hx hb dX6_firstInVain_82 (by decide) ?_
              refine lv_istore (lv' := [(8, .int 1), (7, .ref (ad (j + 6))), (0, .ref (ad 0)), (1, .int x), (2, .int p0), (3, .ref (ad (b + 6))), (4, .ref (ad 1)), (5, .int 24), (6, .int (nI j))]) hx hb dX6_firstInVain_86 hl (by decide) rfl (fun ls hl => ?_)
              refine lv_iload hx hb dX6_firstInVain_88 (lv_at hl 0 rfl) ?_
              refine lv_if_eq (tgt := 112) hx hb dX6_firstInVain_90 (by decide) (fun c_90_32 => ?_) (fun c_90_32 => ?_)
              -- 90 jumps
              · exact absurd c_90_32 (by decide)
              -- 90 goes on
              · skip
                refine lv_aload_n hx hb dX6_firstInVain_93 rfl (lv_at hl 5 rfl) ?_
                refine lv_ifnull hx hb dX6_firstInVain_94 ?_
                refine lv_aload hx hb dX6_firstInVain_97 (lv_at hl 1 rfl) ?_
                refine va_get (D := D) (C := RX7) (T := TX7) (N := 17) (ci := 7) (v := .int (τ (j + 6) 16)) hx hb hts nX7 hown hK hP (j + 6) (w_tk hj) rfl 16 (by decide) k122 (fun _ h9 => h9) rfl dX6_firstInVain_99 ?_
                refine lv_aload_n hx hb dX6_firstInVain_102 rfl (lv_at hl 5 rfl) ?_
                refine va_get (D := D) (C := RX7) (T := TX7) (N := 17) (ci := 7) (v := .int (τ (b + 6) 16)) hx hb hts nX7 hown hK hP (b + 6) (w_tk hb0) rfl 16 (by decide) k122 (fun _ h9 => h9) rfl dX6_firstInVain_103 ?_
                refine lv_icmp_ge (tgt := 112) hx hb dX6_firstInVain_106 (by decide) (fun c_106_33 => ?_) (fun c_106_33 => ?_)
                -- 106 jumps
                · skip
                  refine lv_iinc (v := (nI (j + 1))) (lv' := [(6, .int (nI (j + 1))), (8, .int 1), (7, .ref (ad (j + 6))), (0, .ref (ad 0)), (1, .int x), (2, .int p0), (3, .ref (ad (b + 6))), (4, .ref (ad 1)), (5, .int 24)]) hx hb dX6_firstInVain_112 hl (k := 8) rfl (show nI j + 1 = nI (j + 1) from nI_1 j) (by decide) rfl (fun ls hl => ?_)
                  refine lv_goto (tgt := 16) hx hb dX6_firstInVain_115 (by decide) ?_
                  exact ih n (Nat.lt_succ_self n) H locs ls ⟨j + 1, (some b), ⟨by omega, by rw [← hf]; simp [m_fi, m_fic, m_sel, c_20_21, eq_true c_36_22, eq_true c_45_24, c_62_25, c_66_30, c_90_32, eq_true c_106_33], by intro b h; cases h; exact hb0⟩, hP, hD, hS, lv_sub hl [3, 4, 5, 6, 7, 8, 0] rfl⟩
                -- 106 goes on
                · skip
                  refine lv_aload hx hb dX6_firstInVain_109 (lv_at hl 1 rfl) ?_
                  refine lv_astore_n (lv' := [(3, .ref (ad (j + 6))), (8, .int 1), (7, .ref (ad (j + 6))), (0, .ref (ad 0)), (1, .int x), (2, .int p0), (4, .ref (ad 1)), (5, .int 24), (6, .int (nI j))]) hx hb dX6_firstInVain_111 rfl hl (by decide) rfl (fun ls hl => ?_)
                  refine lv_iinc (v := (nI (j + 1))) (lv' := [(6, .int (nI (j + 1))), (3, .ref (ad (j + 6))), (8, .int 1), (7, .ref (ad (j + 6))), (0, .ref (ad 0)), (1, .int x), (2, .int p0), (4, .ref (ad 1)), (5, .int 24)]) hx hb dX6_firstInVain_112 hl (k := 8) rfl (show nI j + 1 = nI (j + 1) from nI_1 j) (by decide) rfl (fun ls hl => ?_)
                  refine lv_goto (tgt := 16) hx hb dX6_firstInVain_115 (by decide) ?_
                  exact ih n (Nat.lt_succ_self n) H locs ls ⟨j + 1, (some j), ⟨by omega, by rw [← hf]; simp [m_fi, m_fic, m_sel, c_20_21, eq_true c_36_22, eq_true c_45_24, c_62_25, c_66_30, c_90_32, c_106_33], by intro b h; cases h; exact hj⟩, hP, hD, hS, lv_sub hl [4, 5, 6, 1, 7, 8, 0] rfl⟩
        -- 45 goes on
        · skip
          refine lv_aload hx hb dX6_firstInVain_48 (lv_at hl 0 rfl) ?_
          refine va_get (D := D) (C := RX7) (T := TX7) (N := 17) (ci := 7) (v := .int (τ (j + 6) 9)) hx hb hts nX7 hown hK hP (j + 6) (w_tk hj) rfl 9 (by decide) k106 (fun _ h9 => h9) rfl dX6_firstInVain_50 ?_
          refine lv_iconst (v := 4) hx hb dX6_firstInVain_53 (by decide) ?_
          refine lv_icmp_ne (tgt := 85) hx hb dX6_firstInVain_54 (by decide) (fun c_54_34 => ?_) (fun c_54_34 => ?_)
          -- 54 jumps
          · skip
            refine lv_iconst (v := 0) hx hb dX6_firstInVain_85 (by decide) ?_
            refine lv_istore (lv' := [(8, .int 0), (7, .ref (ad (j + 6))), (0, .ref (ad 0)), (1, .int x), (2, .int p0), (3, .ref (ad (b + 6))), (4, .ref (ad 1)), (5, .int 24), (6, .int (nI j))]) hx hb dX6_firstInVain_86 hl (by decide) rfl (fun ls hl => ?_)
            refine lv_iload hx hb dX6_firstInVain_88 (lv_at hl 0 rfl) ?_
            refine lv_if_eq (tgt := 112) hx hb dX6_firstInVain_90 (by decide) (fun c_90_35 => ?_) (fun c_90_35 => ?_)
            -- 90 jumps
            · skip
              refine lv_iinc (v := (nI (j + 1))) (lv' := [(6, .int (nI (j + 1))), (8, .int 0), (7, .ref (ad (j + 6))), (0, .ref (ad 0)), (1, .int x), (2, .int p0), (3, .ref (ad (b + 6))), (4, .ref (ad 1)), (5, .int 24)]) hx hb dX6_firstInVain_112 hl (k := 8) rfl (show nI j + 1 = nI (j + 1) from nI_1 j) (by decide) rfl (fun ls hl => ?_)
              refine lv_goto (tgt := 16) hx hb dX6_firstInVain_115 (by decide) ?_
              exact ih n (Nat.lt_succ_self n) H locs ls ⟨j + 1, (some b), ⟨by omega, by rw [← hf]; simp [m_fi, m_fic, m_sel, c_20_21, eq_true c_36_22, c_45_24, c_54_34, eq_true c_90_35], by intro b h; cases h; exact hb0⟩, hP, hD, hS, lv_sub hl [3, 4, 5, 6, 7, 8, 0] rfl⟩
            -- 90 goes on
            · exact absurd c_90_35 (by decide)
          -- 54 goes on
          · skip
            refine lv_aload hx hb dX6_firstInVain_57 (lv_at hl 0 rfl) ?_
            refine va_get (D := D) (C := RX7) (T := TX7) (N := 17) (ci := 7) (v := .int (τ (j + 6) 11)) hx hb hts nX7 hown hK hP (j + 6) (w_tk hj) rfl 11 (by decide) k112 (fun _ h9 => h9) rfl dX6_firstInVain_59 ?_
            refine lv_if_eq (tgt := 72) hx hb dX6_firstInVain_62 (by decide) (fun c_62_36 => ?_) (fun c_62_36 => ?_)
            -- 62 jumps
            · skip
              refine lv_aload hx hb dX6_firstInVain_72 (lv_at hl 0 rfl) ?_
              refine va_get (D := D) (C := RX7) (T := TX7) (N := 17) (ci := 7) (v := .int (τ (j + 6) 10)) hx hb hts nX7 hown hK hP (j + 6) (w_tk hj) rfl 10 (by decide) k109 (fun _ h9 => h9) rfl dX6_firstInVain_74 ?_
              refine lv_iload_n hx hb dX6_firstInVain_77 rfl (lv_at hl 2 rfl) ?_
              refine lv_icmp_ne (tgt := 85) hx hb dX6_firstInVain_78 (by decide) (fun c_78_37 => ?_) (fun c_78_37 => ?_)
              -- 78 jumps
              · skip
                refine lv_iconst (v := 0) hx hb dX6_firstInVain_85 (by decide) ?_
                refine lv_istore (lv' := [(8, .int 0), (7, .ref (ad (j + 6))), (0, .ref (ad 0)), (1, .int x), (2, .int p0), (3, .ref (ad (b + 6))), (4, .ref (ad 1)), (5, .int 24), (6, .int (nI j))]) hx hb dX6_firstInVain_86 hl (by decide) rfl (fun ls hl => ?_)
                refine lv_iload hx hb dX6_firstInVain_88 (lv_at hl 0 rfl) ?_
                refine lv_if_eq (tgt := 112) hx hb dX6_firstInVain_90 (by decide) (fun c_90_38 => ?_) (fun c_90_38 => ?_)
                -- 90 jumps
                · skip
                  refine lv_iinc (v := (nI (j + 1))) (lv' := [(6, .int (nI (j + 1))), (8, .int 0), (7, .ref (ad (j + 6))), (0, .ref (ad 0)), (1, .int x), (2, .int p0), (3, .ref (ad (b + 6))), (4, .ref (ad 1)), (5, .int 24)]) hx hb dX6_firstInVain_112 hl (k := 8) rfl (show nI j + 1 = nI (j + 1) from nI_1 j) (by decide) rfl (fun ls hl => ?_)
                  refine lv_goto (tgt := 16) hx hb dX6_firstInVain_115 (by decide) ?_
                  exact ih n (Nat.lt_succ_self n) H locs ls ⟨j + 1, (some b), ⟨by omega, by rw [← hf]; simp [m_fi, m_fic, m_sel, c_20_21, eq_true c_36_22, c_45_24, eq_true c_54_34, eq_true c_62_36, c_78_37, eq_true c_90_38], by intro b h; cases h; exact hb0⟩, hP, hD, hS, lv_sub hl [3, 4, 5, 6, 7, 8, 0] rfl⟩
                -- 90 goes on
                · exact absurd c_90_38 (by decide)
              -- 78 goes on
              · skip
                refine lv_iconst (v := 1) hx hb dX6_firstInVain_81 (by decide) ?_
                refine lv_goto (tgt := 86) hx hb dX6_firstInVain_82 (by decide) ?_
                refine lv_istore (lv' := [(8, .int 1), (7, .ref (ad (j + 6))), (0, .ref (ad 0)), (1, .int x), (2, .int p0), (3, .ref (ad (b + 6))), (4, .ref (ad 1)), (5, .int 24), (6, .int (nI j))]) hx hb dX6_firstInVain_86 hl (by decide) rfl (fun ls hl => ?_)
                refine lv_iload hx hb dX6_firstInVain_88 (lv_at hl 0 rfl) ?_
                refine lv_if_eq (tgt := 112) hx hb dX6_firstInVain_90 (by decide) (fun c_90_39 => ?_) (fun c_90_39 => ?_)
                -- 90 jumps
                · exact absurd c_90_39 (by decide)
                -- 90 goes on
                · skip
                  refine lv_aload_n hx hb dX6_firstInVain_93 rfl (lv_at hl 5 rfl) ?_
                  refine lv_ifnull hx hb dX6_firstInVain_94 ?_
                  refine lv_aload hx hb dX6_firstInVain_97 (lv_at hl 1 rfl) ?_
                  refine va_get (D := D) (C := RX7) (T := TX7) (N := 17) (ci := 7) (v := .int (τ (j + 6) 16)) hx hb hts nX7 hown hK hP (j + 6) (w_tk hj) rfl 16 (by decide) k122 (fun _ h9 => h9) rfl dX6_firstInVain_99 ?_
                  refine lv_aload_n hx hb dX6_firstInVain_102 rfl (lv_at hl 5 rfl) ?_
                  refine va_get (D := D) (C := RX7) (T := TX7) (N := 17) (ci := 7) (v := .int (τ (b + 6) 16)) hx hb hts nX7 hown hK hP (b + 6) (w_tk hb0) rfl 16 (by decide) k122 (fun _ h9 => h9) rfl dX6_firstInVain_103 ?_
                  refine lv_icmp_ge (tgt := 112) hx hb dX6_firstInVain_106 (by decide) (fun c_106_40 => ?_) (fun c_106_40 => ?_)
                  -- 106 jumps
                  · skip
                    refine lv_iinc (v := (nI (j + 1))) (lv' := [(6, .int (nI (j + 1))), (8, .int 1), (7, .ref (ad (j + 6))), (0, .ref (ad 0)), (1, .int x), (2, .int p0), (3, .ref (ad (b + 6))), (4, .ref (ad 1)), (5, .int 24)]) hx hb dX6_firstInVain_112 hl (k := 8) rfl (show nI j + 1 = nI (j + 1) from nI_1 j) (by decide) rfl (fun ls hl => ?_)
                    refine lv_goto (tgt := 16) hx hb dX6_firstInVain_115 (by decide) ?_
                    exact ih n (Nat.lt_succ_self n) H locs ls ⟨j + 1, (some b), ⟨by omega, by rw [← hf]; simp [m_fi, m_fic, m_sel, c_20_21, eq_true c_36_22, c_45_24, eq_true c_54_34, eq_true c_62_36, eq_true c_78_37, c_90_39, eq_true c_106_40], by intro b h; cases h; exact hb0⟩, hP, hD, hS, lv_sub hl [3, 4, 5, 6, 7, 8, 0] rfl⟩
                  -- 106 goes on
                  · skip
                    refine lv_aload hx hb dX6_firstInVain_109 (lv_at hl 1 rfl) ?_
                    refine lv_astore_n (lv' := [(3, .ref (ad (j + 6))), (8, .int 1), (7, .ref (ad (j + 6))), (0, .ref (ad 0)), (1, .int x), (2, .int p0), (4, .ref (ad 1)), (5, .int 24), (6, .int (nI j))]) hx hb dX6_firstInVain_111 rfl hl (by decide) rfl (fun ls hl => ?_)
                    refine lv_iinc (v := (nI (j + 1))) (lv' := [(6, .int (nI (j + 1))), (3, .ref (ad (j + 6))), (8, .int 1), (7, .ref (ad (j + 6))), (0, .ref (ad 0)), (1, .int x), (2, .int p0), (4, .ref (ad 1)), (5, .int 24)]) hx hb dX6_firstInVain_112 hl (k := 8) rfl (show nI j + 1 = nI (j + 1) from nI_1 j) (by decide) rfl (fun ls hl => ?_)
                    refine lv_goto (tgt := 16) hx hb dX6_firstInVain_115 (by decide) ?_
                    exact ih n (Nat.lt_succ_self n) H locs ls ⟨j + 1, (some j), ⟨by omega, by rw [← hf]; simp [m_fi, m_fic, m_sel, c_20_21, eq_true c_36_22, c_45_24, eq_true c_54_34, eq_true c_62_36, eq_true c_78_37, c_90_39, c_106_40], by intro b h; cases h; exact hj⟩, hP, hD, hS, lv_sub hl [4, 5, 6, 1, 7, 8, 0] rfl⟩
            -- 62 goes on
            · skip
              refine lv_iload_n hx hb dX6_firstInVain_65 rfl (lv_at hl 3 rfl) ?_
              refine lv_if_eq (tgt := 85) hx hb dX6_firstInVain_66 (by decide) (fun c_66_41 => ?_) (fun c_66_41 => ?_)
              -- 66 jumps
              · skip
                refine lv_iconst (v := 0) hx hb dX6_firstInVain_85 (by decide) ?_
                refine lv_istore (lv' := [(8, .int 0), (7, .ref (ad (j + 6))), (0, .ref (ad 0)), (1, .int x), (2, .int p0), (3, .ref (ad (b + 6))), (4, .ref (ad 1)), (5, .int 24), (6, .int (nI j))]) hx hb dX6_firstInVain_86 hl (by decide) rfl (fun ls hl => ?_)
                refine lv_iload hx hb dX6_firstInVain_88 (lv_at hl 0 rfl) ?_
                refine lv_if_eq (tgt := 112) hx hb dX6_firstInVain_90 (by decide) (fun c_90_42 => ?_) (fun c_90_42 => ?_)
                -- 90 jumps
                · skip
                  refine lv_iinc (v := (nI (j + 1))) (lv' := [(6, .int (nI (j + 1))), (8, .int 0), (7, .ref (ad (j + 6))), (0, .ref (ad 0)), (1, .int x), (2, .int p0), (3, .ref (ad (b + 6))), (4, .ref (ad 1)), (5, .int 24)]) hx hb dX6_firstInVain_112 hl (k := 8) rfl (show nI j + 1 = nI (j + 1) from nI_1 j) (by decide) rfl (fun ls hl => ?_)
                  refine lv_goto (tgt := 16) hx hb dX6_firstInVain_115 (by decide) ?_
                  exact ih n (Nat.lt_succ_self n) H locs ls ⟨j + 1, (some b), ⟨by omega, by rw [← hf]; simp [m_fi, m_fic, m_sel, c_20_21, eq_true c_36_22, c_45_24, eq_true c_54_34, c_62_36, eq_true c_66_41, eq_true c_90_42], by intro b h; cases h; exact hb0⟩, hP, hD, hS, lv_sub hl [3, 4, 5, 6, 7, 8, 0] rfl⟩
                -- 90 goes on
                · exact absurd c_90_42 (by decide)
              -- 66 goes on
              · skip
                refine lv_goto (tgt := 81) hx hb dX6_firstInVain_69 (by decide) ?_
                refine lv_iconst (v := 1) hx hb dX6_firstInVain_81 (by decide) ?_
                refine lv_goto (tgt := 86) hx hb dX6_firstInVain_82 (by decide) ?_
                refine lv_istore (lv' := [(8, .int 1), (7, .ref (ad (j + 6))), (0, .ref (ad 0)), (1, .int x), (2, .int p0), (3, .ref (ad (b + 6))), (4, .ref (ad 1)), (5, .int 24), (6, .int (nI j))]) hx hb dX6_firstInVain_86 hl (by decide) rfl (fun ls hl => ?_)
                refine lv_iload hx hb dX6_firstInVain_88 (lv_at hl 0 rfl) ?_
                refine lv_if_eq (tgt := 112) hx hb dX6_firstInVain_90 (by decide) (fun c_90_43 => ?_) (fun c_90_43 => ?_)
                -- 90 jumps
                · exact absurd c_90_43 (by decide)
                -- 90 goes on
                · skip
                  refine lv_aload_n hx hb dX6_firstInVain_93 rfl (lv_at hl 5 rfl) ?_
                  refine lv_ifnull hx hb dX6_firstInVain_94 ?_
                  refine lv_aload hx hb dX6_firstInVain_97 (lv_at hl 1 rfl) ?_
                  refine va_get (D := D) (C := RX7) (T := TX7) (N := 17) (ci := 7) (v := .int (τ (j + 6) 16)) hx hb hts nX7 hown hK hP (j + 6) (w_tk hj) rfl 16 (by decide) k122 (fun _ h9 => h9) rfl dX6_firstInVain_99 ?_
                  refine lv_aload_n hx hb dX6_firstInVain_102 rfl (lv_at hl 5 rfl) ?_
                  refine va_get (D := D) (C := RX7) (T := TX7) (N := 17) (ci := 7) (v := .int (τ (b + 6) 16)) hx hb hts nX7 hown hK hP (b + 6) (w_tk hb0) rfl 16 (by decide) k122 (fun _ h9 => h9) rfl dX6_firstInVain_103 ?_
                  refine lv_icmp_ge (tgt := 112) hx hb dX6_firstInVain_106 (by decide) (fun c_106_44 => ?_) (fun c_106_44 => ?_)
                  -- 106 jumps
                  · skip
                    refine lv_iinc (v := (nI (j + 1))) (lv' := [(6, .int (nI (j + 1))), (8, .int 1), (7, .ref (ad (j + 6))), (0, .ref (ad 0)), (1, .int x), (2, .int p0), (3, .ref (ad (b + 6))), (4, .ref (ad 1)), (5, .int 24)]) hx hb dX6_firstInVain_112 hl (k := 8) rfl (show nI j + 1 = nI (j + 1) from nI_1 j) (by decide) rfl (fun ls hl => ?_)
                    refine lv_goto (tgt := 16) hx hb dX6_firstInVain_115 (by decide) ?_
                    exact ih n (Nat.lt_succ_self n) H locs ls ⟨j + 1, (some b), ⟨by omega, by rw [← hf]; simp [m_fi, m_fic, m_sel, c_20_21, eq_true c_36_22, c_45_24, eq_true c_54_34, c_62_36, c_66_41, c_90_43, eq_true c_106_44], by intro b h; cases h; exact hb0⟩, hP, hD, hS, lv_sub hl [3, 4, 5, 6, 7, 8, 0] rfl⟩
                  -- 106 goes on
                  · skip
                    refine lv_aload hx hb dX6_firstInVain_109 (lv_at hl 1 rfl) ?_
                    refine lv_astore_n (lv' := [(3, .ref (ad (j + 6))), (8, .int 1), (7, .ref (ad (j + 6))), (0, .ref (ad 0)), (1, .int x), (2, .int p0), (4, .ref (ad 1)), (5, .int 24), (6, .int (nI j))]) hx hb dX6_firstInVain_111 rfl hl (by decide) rfl (fun ls hl => ?_)
                    refine lv_iinc (v := (nI (j + 1))) (lv' := [(6, .int (nI (j + 1))), (3, .ref (ad (j + 6))), (8, .int 1), (7, .ref (ad (j + 6))), (0, .ref (ad 0)), (1, .int x), (2, .int p0), (4, .ref (ad 1)), (5, .int 24)]) hx hb dX6_firstInVain_112 hl (k := 8) rfl (show nI j + 1 = nI (j + 1) from nI_1 j) (by decide) rfl (fun ls hl => ?_)
                    refine lv_goto (tgt := 16) hx hb dX6_firstInVain_115 (by decide) ?_
                    exact ih n (Nat.lt_succ_self n) H locs ls ⟨j + 1, (some j), ⟨by omega, by rw [← hf]; simp [m_fi, m_fic, m_sel, c_20_21, eq_true c_36_22, c_45_24, eq_true c_54_34, c_62_36, c_66_41, c_90_43, c_106_44], by intro b h; cases h; exact hj⟩, hP, hD, hS, lv_sub hl [4, 5, 6, 1, 7, 8, 0] rfl⟩

set_option maxHeartbeats 4000000 in
set_option maxRecDepth 100000 in
theorem c_X6_takeValue (l : Launch) (D : va_G) (cA : Nat → ClassId) (ad : Nat → Nat) (tr : List (ClassId × FieldType)) (rest : va_W) (sz : Nat) (τ : Sg) (x : Int32) : Met l yX6_takeValue wsX6_takeValue ({ frames := 1, cells := 0, slots := 0, locals := 28 }) (va_Pc [.ref (ad 0), .int x] (inW D (tyB cA ++ tr) (wB cA ad τ ++ rest) sz)) (va_Qi (fun (r : Int32) (u : Sg) => r = m_takeValue τ x ∧ u = m_takeValueW τ x) (fun u : Sg => outW D (tyB cA ++ tr) (va_A (wB cA ad τ ++ rest) sz) (wB cA ad u ++ rest)) (va_A (wB cA ad τ ++ rest) sz)) 0 0 (va_A (wB cA ad τ ++ rest) sz) := by
  refine Met.ofW (cc := cX6_takeValue) (maxL := 5) (ret := (some .int)) (by decide) rfl ?_
  intro p e s m args below meth c s₁ B hml hv
  obtain ⟨rfl, hsz, hP, hK, hD0⟩ := hv
  have hx := B.exec
  have hb := B.bytes
  have hr := B.returns
  have hts := atoms_spec (ws := wsX6_takeValue) B.pre
  have hown : s.vm.findClass RX6 = some m.cls := findClass_of_methodNamed B.named
  have hlocks := B.notSynchronized
  subst hsz
  have hD := hD0.self (sz := s.heap.size)
  clear hD0
  generalize hAe : va_A (wB cA ad τ ++ rest) s.heap.size = A at hD ⊢
  have hA : ∀ q : Nat, s.heap.size ≤ q → A q := fun q h => by rw [← hAe]; exact Or.inr h
  clear hAe
  have hS : va_S A s.heap s.heap [] := va_S.rf
  have hP : va_P D vwCl (wB cA ad τ ++ rest) s.heap := hP
  have hl := lv_entry ([.ref (ad 0), .int x]) (n := 5) (Nat.le_of_ble_eq_true rfl)
  rw [lg_entry_eq]
  generalize (lg_sl ([.ref (ad 0), .int x]) ++ List.replicate (5 - (lg_sl ([.ref (ad 0), .int x])).length) Slot.unset).toArray = ls at hl ⊢
  have hl : lv_has ls 5 [(0, .ref (ad 0)), (1, .int x)] := hl
  have nX1 : ∀ w ∈ u_ws RX1 TX1 5, w ∈ wsX6_takeValue := by decide +kernel
  have nX7 : ∀ w ∈ u_ws RX7 TX7 17, w ∈ wsX6_takeValue := by decide +kernel
  have k191 := hts (.fieldLink RX6 191 "ScopeRow$Channel" "count" "I") (by decide +kernel)
  have k174 := hts (.fieldLink RX6 174 "ScopeRow$Channel" "taken" "I") (by decide +kernel)
  have k171 := hts (.fieldLink RX6 171 "ScopeRow$Task" "value" "I") (by decide +kernel)
  refine lv_aload_n hx hb dX6_takeValue_0 rfl (lv_at hl 0 rfl) ?_
  refine lv_iload_n hx hb dX6_takeValue_1 rfl (lv_at hl 1 rfl) ?_
  refine x_Vq (As := [.int x]) (rest0 := []) ⟨hx, hb, hml, hown, hts⟩ (c_X6_channelAt l D cA ad tr rest s.heap.size τ x) (cwV 1 hts gX6_takeValue_X6_channelAt rfl rfl rfl (by decide +kernel) ⟨Nat.le_of_ble_eq_true rfl, Nat.le_of_ble_eq_true rfl⟩) hK hP hD hS hA 0 w_st rfl hl.1 rfl rfl (by decide) ⟨Nat.zero_le _, Nat.zero_le _⟩ dX6_takeValue_2 (fun r1 _ H locs hw hP hD hS => ?_)
  have er1 := hw
  subst er1
  rcases hi2 : m_at x 2 with _ | i2
  · refine W.eq (g2 := F0 m 5 ls [.null]) rfl ?_
    refine lv_astore_nN (lv' := [(2, .null), (0, .ref (ad 0)), (1, .int x)]) hx hb dX6_takeValue_5 rfl hl (by decide) rfl (fun ls hl => ?_)
    refine lv_aload_nN hx hb dX6_takeValue_6 rfl (lv_at hl 0 rfl) ?_
    refine lv_ifnonnullN hx hb dX6_takeValue_7 ?_
    refine lv_iconst (v := 0) hx hb dX6_takeValue_10 (by decide) ?_
    exact x_iret hx hb hr hlocks hK τ hP hD hS dX6_takeValue_11 (by simp [m_takeValue, m_takeValueW, n24, n40, n2, n27, n4, hi2])
  · have bi2 := m_at_lt hi2 (by decide)
    refine W.eq (g2 := F0 m 5 ls [.ref (ad (i2 + 96))]) rfl ?_
    refine lv_astore_n (lv' := [(2, .ref (ad (i2 + 96))), (0, .ref (ad 0)), (1, .int x)]) hx hb dX6_takeValue_5 rfl hl (by decide) rfl (fun ls hl => ?_)
    refine lv_aload_n hx hb dX6_takeValue_6 rfl (lv_at hl 0 rfl) ?_
    refine lv_ifnonnull (tgt := 12) hx hb dX6_takeValue_7 (by decide) ?_
    refine lv_aload_n hx hb dX6_takeValue_12 rfl (lv_at hl 1 rfl) ?_
    refine lv_iconst (v := 3) hx hb dX6_takeValue_13 (by decide) ?_
    refine lv_iload_n hx hb dX6_takeValue_14 rfl (lv_at hl 2 rfl) ?_
    refine x_Vq (As := [.int 3, .int x]) (rest0 := []) ⟨hx, hb, hml, hown, hts⟩ (c_X6_firstWaiting l D cA ad tr rest H.size τ 3 x) (cwV 2 hts gX6_takeValue_X6_firstWaiting rfl rfl rfl (by decide +kernel) ⟨Nat.le_of_ble_eq_true rfl, Nat.le_of_ble_eq_true rfl⟩) hK hP hD hS hA 0 w_st rfl hl.1 rfl rfl (by decide) ⟨Nat.zero_le _, Nat.zero_le _⟩ dX6_takeValue_15 (fun r3 _ H locs hw hP hD hS => ?_)
    have er3 := hw
    subst er3
    rcases hi4 : m_firstWaiting τ 3 x with _ | i4
    · refine W.eq (g2 := F0 m 18 ls [.null]) rfl ?_
      refine lv_astore_nN (lv' := [(3, .null), (2, .ref (ad (i2 + 96))), (0, .ref (ad 0)), (1, .int x)]) hx hb dX6_takeValue_18 rfl hl (by decide) rfl (fun ls hl => ?_)
      refine lv_aload_n hx hb dX6_takeValue_19 rfl (lv_at hl 1 rfl) ?_
      refine x_Vi (As := []) (rest0 := []) ⟨hx, hb, hml, hown, hts⟩ (c_X1_first l D cA ad tr rest H.size τ i2 bi2) (cwV 0 hts gX6_takeValue_X1_first rfl rfl rfl (by decide +kernel) ⟨Nat.le_of_ble_eq_true rfl, Nat.le_of_ble_eq_true rfl⟩) hK hP hD hS hA (i2 + 96) (w_ch bi2) rfl hl.1 rfl rfl (by decide) ⟨Nat.zero_le _, Nat.zero_le _⟩ dX6_takeValue_20 (fun r5 _ H locs hw hP hD hS => ?_)
      have er5 := hw
      refine lv_istore (lv' := [(4, .int r5), (3, .null), (2, .ref (ad (i2 + 96))), (0, .ref (ad 0)), (1, .int x)]) hx hb dX6_takeValue_23 hl (by decide) rfl (fun ls hl => ?_)
      refine lv_aload_n hx hb dX6_takeValue_25 rfl (lv_at hl 2 rfl) ?_
      refine va_get (D := D) (C := RX1) (T := TX1) (N := 5) (ci := 1) (v := .int (τ (i2 + 96) 2)) hx hb hts nX1 hown hK hP (i2 + 96) (w_ch bi2) rfl 2 (by decide) k191 (fun _ h9 => h9) rfl dX6_takeValue_26 ?_
      refine lv_if_ne (tgt := 45) hx hb dX6_takeValue_29 (by decide) (fun c_29_6 => ?_) (fun c_29_6 => ?_)
      -- 29 jumps
      · skip
        refine lv_aload_nN hx hb dX6_takeValue_45 rfl (lv_at hl 1 rfl) ?_
        refine lv_ifnullN (tgt := 64) hx hb dX6_takeValue_46 (by decide) ?_
        refine lv_aload_n hx hb dX6_takeValue_64 rfl (lv_at hl 2 rfl) ?_
        refine x_Vv (As := []) (rest0 := []) ⟨hx, hb, hml, hown, hts⟩ (c_X1_dropFirst l D cA ad tr rest H.size τ i2 bi2) (cwV 0 hts gX6_takeValue_X1_dropFirst rfl rfl rfl (by decide +kernel) ⟨Nat.le_of_ble_eq_true rfl, Nat.le_of_ble_eq_true rfl⟩) hK hP hD hS hA (i2 + 96) (w_ch bi2) rfl hl.1 rfl rfl (by decide) ⟨Nat.zero_le _, Nat.zero_le _⟩ dX6_takeValue_65 (fun τ7 H locs hw hP hD hS => ?_)
        have eτ7 := hw
        refine lv_aload_nN hx hb dX6_takeValue_68 rfl (lv_at hl 1 rfl) ?_
        refine lv_ifnullN (tgt := 77) hx hb dX6_takeValue_69 (by decide) ?_
        refine lv_aload_n hx hb dX6_takeValue_77 rfl (lv_at hl 2 rfl) ?_
        refine lv_dup hx hb dX6_takeValue_78 rfl ?_
        refine va_get (D := D) (C := RX1) (T := TX1) (N := 5) (ci := 1) (v := .int (τ7 (i2 + 96) 4)) hx hb hts nX1 hown hK hP (i2 + 96) (w_ch bi2) rfl 4 (by decide) k174 (fun _ h9 => h9) rfl dX6_takeValue_79 ?_
        refine lv_iconst (v := 1) hx hb dX6_takeValue_82 (by decide) ?_
        refine lv_iadd hx hb dX6_takeValue_83 ?_
        refine p_ch hx hb hts nX1 hown hK hP hD hS bi2 4 (by decide) (by decide) k174 (fun _ h9 => h9) rfl rfl rfl dX6_takeValue_84 (fun τ8 H locs eτ8 hP hD hS => ?_)
        refine lv_iload hx hb dX6_takeValue_87 (lv_at hl 0 rfl) ?_
        exact x_iret hx hb hr hlocks hK τ8 hP hD hS dX6_takeValue_89 (by subst eτ8 eτ7 er5; simp [m_takeValue, m_takeValueW, n24, n40, n2, n27, n4, hi2, hi4, c_29_6])
      -- 29 goes on
      · skip
        refine lv_aload_nN hx hb dX6_takeValue_32 rfl (lv_at hl 1 rfl) ?_
        refine lv_ifnullN (tgt := 45) hx hb dX6_takeValue_33 (by decide) ?_
        refine lv_aload_nN hx hb dX6_takeValue_45 rfl (lv_at hl 1 rfl) ?_
        refine lv_ifnullN (tgt := 64) hx hb dX6_takeValue_46 (by decide) ?_
        refine lv_aload_n hx hb dX6_takeValue_64 rfl (lv_at hl 2 rfl) ?_
        refine x_Vv (As := []) (rest0 := []) ⟨hx, hb, hml, hown, hts⟩ (c_X1_dropFirst l D cA ad tr rest H.size τ i2 bi2) (cwV 0 hts gX6_takeValue_X1_dropFirst rfl rfl rfl (by decide +kernel) ⟨Nat.le_of_ble_eq_true rfl, Nat.le_of_ble_eq_true rfl⟩) hK hP hD hS hA (i2 + 96) (w_ch bi2) rfl hl.1 rfl rfl (by decide) ⟨Nat.zero_le _, Nat.zero_le _⟩ dX6_takeValue_65 (fun τ9 H locs hw hP hD hS => ?_)
        have eτ9 := hw
        refine lv_aload_nN hx hb dX6_takeValue_68 rfl (lv_at hl 1 rfl) ?_
        refine lv_ifnullN (tgt := 77) hx hb dX6_takeValue_69 (by decide) ?_
        refine lv_aload_n hx hb dX6_takeValue_77 rfl (lv_at hl 2 rfl) ?_
        refine lv_dup hx hb dX6_takeValue_78 rfl ?_
        refine va_get (D := D) (C := RX1) (T := TX1) (N := 5) (ci := 1) (v := .int (τ9 (i2 + 96) 4)) hx hb hts nX1 hown hK hP (i2 + 96) (w_ch bi2) rfl 4 (by decide) k174 (fun _ h9 => h9) rfl dX6_takeValue_79 ?_
        refine lv_iconst (v := 1) hx hb dX6_takeValue_82 (by decide) ?_
        refine lv_iadd hx hb dX6_takeValue_83 ?_
        refine p_ch hx hb hts nX1 hown hK hP hD hS bi2 4 (by decide) (by decide) k174 (fun _ h9 => h9) rfl rfl rfl dX6_takeValue_84 (fun τ10 H locs eτ10 hP hD hS => ?_)
        refine lv_iload hx hb dX6_takeValue_87 (lv_at hl 0 rfl) ?_
        exact x_iret hx hb hr hlocks hK τ10 hP hD hS dX6_takeValue_89 (by subst eτ10 eτ9 er5; simp [m_takeValue, m_takeValueW, n24, n40, n2, n27, n4, hi2, hi4, eq_true c_29_6])
    · have bi4 := m_firstWaiting_lt hi4
      refine W.eq (g2 := F0 m 18 ls [.ref (ad (i4 + 6))]) rfl ?_
      refine lv_astore_n (lv' := [(3, .ref (ad (i4 + 6))), (2, .ref (ad (i2 + 96))), (0, .ref (ad 0)), (1, .int x)]) hx hb dX6_takeValue_18 rfl hl (by decide) rfl (fun ls hl => ?_)
      refine lv_aload_n hx hb dX6_takeValue_19 rfl (lv_at hl 1 rfl) ?_
      refine x_Vi (As := []) (rest0 := []) ⟨hx, hb, hml, hown, hts⟩ (c_X1_first l D cA ad tr rest H.size τ i2 bi2) (cwV 0 hts gX6_takeValue_X1_first rfl rfl rfl (by decide +kernel) ⟨Nat.le_of_ble_eq_true rfl, Nat.le_of_ble_eq_true rfl⟩) hK hP hD hS hA (i2 + 96) (w_ch bi2) rfl hl.1 rfl rfl (by decide) ⟨Nat.zero_le _, Nat.zero_le _⟩ dX6_takeValue_20 (fun r11 _ H locs hw hP hD hS => ?_)
      have er11 := hw
      refine lv_istore (lv' := [(4, .int r11), (3, .ref (ad (i4 + 6))), (2, .ref (ad (i2 + 96))), (0, .ref (ad 0)), (1, .int x)]) hx hb dX6_takeValue_23 hl (by decide) rfl (fun ls hl => ?_)
      refine lv_aload_n hx hb dX6_takeValue_25 rfl (lv_at hl 2 rfl) ?_
      refine va_get (D := D) (C := RX1) (T := TX1) (N := 5) (ci := 1) (v := .int (τ (i2 + 96) 2)) hx hb hts nX1 hown hK hP (i2 + 96) (w_ch bi2) rfl 2 (by decide) k191 (fun _ h9 => h9) rfl dX6_takeValue_26 ?_
      refine lv_if_ne (tgt := 45) hx hb dX6_takeValue_29 (by decide) (fun c_29_12 => ?_) (fun c_29_12 => ?_)
      -- 29 jumps
      · skip
        refine lv_aload_n hx hb dX6_takeValue_45 rfl (lv_at hl 1 rfl) ?_
        refine lv_ifnull hx hb dX6_takeValue_46 ?_
        refine lv_aload_n hx hb dX6_takeValue_49 rfl (lv_at hl 2 rfl) ?_
        refine x_Vv (As := []) (rest0 := []) ⟨hx, hb, hml, hown, hts⟩ (c_X1_dropFirst l D cA ad tr rest H.size τ i2 bi2) (cwV 0 hts gX6_takeValue_X1_dropFirst rfl rfl rfl (by decide +kernel) ⟨Nat.le_of_ble_eq_true rfl, Nat.le_of_ble_eq_true rfl⟩) hK hP hD hS hA (i2 + 96) (w_ch bi2) rfl hl.1 rfl rfl (by decide) ⟨Nat.zero_le _, Nat.zero_le _⟩ dX6_takeValue_50 (fun τ13 H locs hw hP hD hS => ?_)
        have eτ13 := hw
        refine lv_aload_n hx hb dX6_takeValue_53 rfl (lv_at hl 2 rfl) ?_
        refine lv_aload_n hx hb dX6_takeValue_54 rfl (lv_at hl 1 rfl) ?_
        refine va_get (D := D) (C := RX7) (T := TX7) (N := 17) (ci := 7) (v := .int (τ13 (i4 + 6) 13)) hx hb hts nX7 hown hK hP (i4 + 6) (w_tk bi4) rfl 13 (by decide) k171 (fun _ h9 => h9) rfl dX6_takeValue_55 ?_
        refine x_Vv (As := [.int (τ13 (i4 + 6) 13)]) (rest0 := []) ⟨hx, hb, hml, hown, hts⟩ (c_X1_addLast l D cA ad tr rest H.size τ13 i2 bi2 (τ13 (i4 + 6) 13)) (cwV 1 hts gX6_takeValue_X1_addLast rfl rfl rfl (by decide +kernel) ⟨Nat.le_of_ble_eq_true rfl, Nat.le_of_ble_eq_true rfl⟩) hK hP hD hS hA (i2 + 96) (w_ch bi2) rfl hl.1 rfl rfl (by decide) ⟨Nat.zero_le _, Nat.zero_le _⟩ dX6_takeValue_58 (fun τ14 H locs hw hP hD hS => ?_)
        have eτ14 := hw
        refine lv_goto (tgt := 68) hx hb dX6_takeValue_61 (by decide) ?_
        refine lv_aload_n hx hb dX6_takeValue_68 rfl (lv_at hl 1 rfl) ?_
        refine lv_ifnull hx hb dX6_takeValue_69 ?_
        refine lv_aload_n hx hb dX6_takeValue_72 rfl (lv_at hl 3 rfl) ?_
        refine lv_aload_n hx hb dX6_takeValue_73 rfl (lv_at hl 1 rfl) ?_
        refine x_Vv (As := [.ref (ad (i4 + 6))]) (rest0 := []) ⟨hx, hb, hml, hown, hts⟩ (c_X6_makeReady l D cA ad tr rest H.size τ14 i4 bi4) (cwV 1 hts gX6_takeValue_X6_makeReady rfl rfl rfl (by decide +kernel) ⟨Nat.le_of_ble_eq_true rfl, Nat.le_of_ble_eq_true rfl⟩) hK hP hD hS hA 0 w_st rfl hl.1 rfl rfl (by decide) ⟨Nat.zero_le _, Nat.zero_le _⟩ dX6_takeValue_74 (fun τ15 H locs hw hP hD hS => ?_)
        have eτ15 := hw
        refine lv_aload_n hx hb dX6_takeValue_77 rfl (lv_at hl 2 rfl) ?_
        refine lv_dup hx hb dX6_takeValue_78 rfl ?_
        refine va_get (D := D) (C := RX1) (T := TX1) (N := 5) (ci := 1) (v := .int (τ15 (i2 + 96) 4)) hx hb hts nX1 hown hK hP (i2 + 96) (w_ch bi2) rfl 4 (by decide) k174 (fun _ h9 => h9) rfl dX6_takeValue_79 ?_
        refine lv_iconst (v := 1) hx hb dX6_takeValue_82 (by decide) ?_
        refine lv_iadd hx hb dX6_takeValue_83 ?_
        refine p_ch hx hb hts nX1 hown hK hP hD hS bi2 4 (by decide) (by decide) k174 (fun _ h9 => h9) rfl rfl rfl dX6_takeValue_84 (fun τ16 H locs eτ16 hP hD hS => ?_)
        refine lv_iload hx hb dX6_takeValue_87 (lv_at hl 0 rfl) ?_
        exact x_iret hx hb hr hlocks hK τ16 hP hD hS dX6_takeValue_89 (by subst eτ16 eτ15 eτ14 eτ13 er11; simp [m_takeValue, m_takeValueW, n24, n40, n2, n27, n4, hi2, hi4, c_29_12])
      -- 29 goes on
      · skip
        refine lv_aload_n hx hb dX6_takeValue_32 rfl (lv_at hl 1 rfl) ?_
        refine lv_ifnull hx hb dX6_takeValue_33 ?_
        refine lv_aload_n hx hb dX6_takeValue_36 rfl (lv_at hl 1 rfl) ?_
        refine va_get (D := D) (C := RX7) (T := TX7) (N := 17) (ci := 7) (v := .int (τ (i4 + 6) 13)) hx hb hts nX7 hown hK hP (i4 + 6) (w_tk bi4) rfl 13 (by decide) k171 (fun _ h9 => h9) rfl dX6_takeValue_37 ?_
        refine lv_topi (fun x17 ex17 => ?_)
        refine lv_istore (lv' := [(4, .int x17), (3, .ref (ad (i4 + 6))), (2, .ref (ad (i2 + 96))), (0, .ref (ad 0)), (1, .int x)]) hx hb dX6_takeValue_40 hl (by decide) rfl (fun ls hl => ?_)
        refine lv_goto (tgt := 68) hx hb dX6_takeValue_42 (by decide) ?_
        refine lv_aload_n hx hb dX6_takeValue_68 rfl (lv_at hl 1 rfl) ?_
        refine lv_ifnull hx hb dX6_takeValue_69 ?_
        refine lv_aload_n hx hb dX6_takeValue_72 rfl (lv_at hl 3 rfl) ?_
        refine lv_aload_n hx hb dX6_takeValue_73 rfl (lv_at hl 1 rfl) ?_
        refine x_Vv (As := [.ref (ad (i4 + 6))]) (rest0 := []) ⟨hx, hb, hml, hown, hts⟩ (c_X6_makeReady l D cA ad tr rest H.size τ i4 bi4) (cwV 1 hts gX6_takeValue_X6_makeReady rfl rfl rfl (by decide +kernel) ⟨Nat.le_of_ble_eq_true rfl, Nat.le_of_ble_eq_true rfl⟩) hK hP hD hS hA 0 w_st rfl hl.1 rfl rfl (by decide) ⟨Nat.zero_le _, Nat.zero_le _⟩ dX6_takeValue_74 (fun τ18 H locs hw hP hD hS => ?_)
        have eτ18 := hw
        refine lv_aload_n hx hb dX6_takeValue_77 rfl (lv_at hl 2 rfl) ?_
        refine lv_dup hx hb dX6_takeValue_78 rfl ?_
        refine va_get (D := D) (C := RX1) (T := TX1) (N := 5) (ci := 1) (v := .int (τ18 (i2 + 96) 4)) hx hb hts nX1 hown hK hP (i2 + 96) (w_ch bi2) rfl 4 (by decide) k174 (fun _ h9 => h9) rfl dX6_takeValue_79 ?_
        refine lv_iconst (v := 1) hx hb dX6_takeValue_82 (by decide) ?_
        refine lv_iadd hx hb dX6_takeValue_83 ?_
        refine p_ch hx hb hts nX1 hown hK hP hD hS bi2 4 (by decide) (by decide) k174 (fun _ h9 => h9) rfl rfl rfl dX6_takeValue_84 (fun τ19 H locs eτ19 hP hD hS => ?_)
        refine lv_iload hx hb dX6_takeValue_87 (lv_at hl 0 rfl) ?_
        exact x_iret hx hb hr hlocks hK τ19 hP hD hS dX6_takeValue_89 (by subst eτ19 eτ18 ex17 er11; simp [m_takeValue, m_takeValueW, n24, n40, n2, n27, n4, hi2, hi4, eq_true c_29_12])

set_option maxHeartbeats 4000000 in
set_option maxRecDepth 100000 in
theorem c_X6_giveBack (l : Launch) (D : va_G) (cA : Nat → ClassId) (ad : Nat → Nat) (tr : List (ClassId × FieldType)) (rest : va_W) (sz : Nat) (τ : Sg) (i : Nat) (hi : i < 24) (behind : Int32) : Met l yX6_giveBack wsX6_giveBack ({ frames := 2, cells := 0, slots := 0, locals := 50 }) (va_Pc [.ref (ad 0), .ref (ad (i + 6)), .int behind] (inW D (tyB cA ++ tr) (wB cA ad τ ++ rest) sz)) (va_Qv (fun u : Sg => u = m_giveBack τ i behind) (fun u : Sg => outW D (tyB cA ++ tr) (va_A (wB cA ad τ ++ rest) sz) (wB cA ad u ++ rest)) (va_A (wB cA ad τ ++ rest) sz)) 0 0 (va_A (wB cA ad τ ++ rest) sz) := by
  refine Met.ofW (cc := cX6_giveBack) (maxL := 6) (ret := none) (by decide) rfl ?_
  intro p e s m args below meth c s₁ B hml hv
  obtain ⟨rfl, hsz, hP, hK, hD0⟩ := hv
  have hx := B.exec
  have hb := B.bytes
  have hr := B.returns
  have hts := atoms_spec (ws := wsX6_giveBack) B.pre
  have hown : s.vm.findClass RX6 = some m.cls := findClass_of_methodNamed B.named
  have hlocks := B.notSynchronized
  subst hsz
  have hD := hD0.self (sz := s.heap.size)
  clear hD0
  generalize hAe : va_A (wB cA ad τ ++ rest) s.heap.size = A at hD ⊢
  have hA : ∀ q : Nat, s.heap.size ≤ q → A q := fun q h => by rw [← hAe]; exact Or.inr h
  clear hAe
  have hS : va_S A s.heap s.heap [] := va_S.rf
  have hP : va_P D vwCl (wB cA ad τ ++ rest) s.heap := hP
  have hl := lv_entry ([.ref (ad 0), .ref (ad (i + 6)), .int behind]) (n := 6) (Nat.le_of_ble_eq_true rfl)
  rw [lg_entry_eq]
  generalize (lg_sl ([.ref (ad 0), .ref (ad (i + 6)), .int behind]) ++ List.replicate (6 - (lg_sl ([.ref (ad 0), .ref (ad (i + 6)), .int behind])).length) Slot.unset).toArray = ls at hl ⊢
  have hl : lv_has ls 6 [(0, .ref (ad 0)), (1, .ref (ad (i + 6))), (2, .int behind)] := hl
  have nX1 : ∀ w ∈ u_ws RX1 TX1 5, w ∈ wsX6_giveBack := by decide +kernel
  have nX7 : ∀ w ∈ u_ws RX7 TX7 17, w ∈ wsX6_giveBack := by decide +kernel
  have k116 := hts (.fieldLink RX6 116 "ScopeRow$Task" "given" "Z") (by decide +kernel)
  have k109 := hts (.fieldLink RX6 109 "ScopeRow$Task" "target" "I") (by decide +kernel)
  have k174 := hts (.fieldLink RX6 174 "ScopeRow$Channel" "taken" "I") (by decide +kernel)
  have k171 := hts (.fieldLink RX6 171 "ScopeRow$Task" "value" "I") (by decide +kernel)
  refine lv_aload_n hx hb dX6_giveBack_0 rfl (lv_at hl 1 rfl) ?_
  refine va_get (D := D) (C := RX7) (T := TX7) (N := 17) (ci := 7) (v := .int (τ (i + 6) 14)) hx hb hts nX7 hown hK hP (i + 6) (w_tk hi) rfl 14 (by decide) k116 (fun _ h9 => h9) rfl dX6_giveBack_1 ?_
  refine lv_if_ne (tgt := 8) hx hb dX6_giveBack_4 (by decide) (fun c_4_1 => ?_) (fun c_4_1 => ?_)
  -- 4 jumps
  · skip
    refine lv_aload_n hx hb dX6_giveBack_8 rfl (lv_at hl 0 rfl) ?_
    refine lv_aload_n hx hb dX6_giveBack_9 rfl (lv_at hl 1 rfl) ?_
    refine va_get (D := D) (C := RX7) (T := TX7) (N := 17) (ci := 7) (v := .int (τ (i + 6) 10)) hx hb hts nX7 hown hK hP (i + 6) (w_tk hi) rfl 10 (by decide) k109 (fun _ h9 => h9) rfl dX6_giveBack_10 ?_
    refine x_Vq (As := [.int (τ (i + 6) 10)]) (rest0 := []) ⟨hx, hb, hml, hown, hts⟩ (c_X6_lockAt l D cA ad tr rest s.heap.size τ (τ (i + 6) 10)) (cwV 1 hts gX6_giveBack_X6_lockAt rfl rfl rfl (by decide +kernel) ⟨Nat.le_of_ble_eq_true rfl, Nat.le_of_ble_eq_true rfl⟩) hK hP hD hS hA 0 w_st rfl hl.1 rfl rfl (by decide) ⟨Nat.zero_le _, Nat.zero_le _⟩ dX6_giveBack_13 (fun r2 _ H locs hw hP hD hS => ?_)
    have er2 := hw
    subst er2
    rcases hi3 : m_at (τ (i + 6) 10) 2 with _ | i3
    · refine W.eq (g2 := F0 m 16 ls [.null]) rfl ?_
      refine lv_astore_nN (lv' := [(3, .null), (0, .ref (ad 0)), (1, .ref (ad (i + 6))), (2, .int behind)]) hx hb dX6_giveBack_16 rfl hl (by decide) rfl (fun ls hl => ?_)
      refine lv_iload_n hx hb dX6_giveBack_17 rfl (lv_at hl 3 rfl) ?_
      refine lv_iconst (v := 2) hx hb dX6_giveBack_18 (by decide) ?_
      refine lv_icmp_ne (tgt := 31) hx hb dX6_giveBack_19 (by decide) (fun c_19_4 => ?_) (fun c_19_4 => ?_)
      -- 19 jumps
      · skip
        refine lv_aload_n hx hb dX6_giveBack_31 rfl (lv_at hl 1 rfl) ?_
        refine lv_aload_n hx hb dX6_giveBack_32 rfl (lv_at hl 2 rfl) ?_
        refine va_get (D := D) (C := RX7) (T := TX7) (N := 17) (ci := 7) (v := .int (τ (i + 6) 10)) hx hb hts nX7 hown hK hP (i + 6) (w_tk hi) rfl 10 (by decide) k109 (fun _ h9 => h9) rfl dX6_giveBack_33 ?_
        refine x_Vq (As := [.int (τ (i + 6) 10)]) (rest0 := []) ⟨hx, hb, hml, hown, hts⟩ (c_X6_channelAt l D cA ad tr rest H.size τ (τ (i + 6) 10)) (cwV 1 hts gX6_giveBack_X6_channelAt rfl rfl rfl (by decide +kernel) ⟨Nat.le_of_ble_eq_true rfl, Nat.le_of_ble_eq_true rfl⟩) hK hP hD hS hA 0 w_st rfl hl.1 rfl rfl (by decide) ⟨Nat.zero_le _, Nat.zero_le _⟩ dX6_giveBack_36 (fun r5 _ H locs hw hP hD hS => ?_)
        have er5 := hw
        subst er5
        rw [hi3]
        refine W.eq (g2 := F0 m 39 ls [.null]) rfl ?_
        refine lv_astoreN (lv' := [(4, .null), (3, .null), (0, .ref (ad 0)), (1, .ref (ad (i + 6))), (2, .int behind)]) hx hb dX6_giveBack_39 hl (by decide) rfl (fun ls hl => ?_)
        refine lv_iload_n hx hb dX6_giveBack_41 rfl (lv_at hl 4 rfl) ?_
        refine lv_iconst (v := 4) hx hb dX6_giveBack_42 (by decide) ?_
        refine lv_icmp_ne (tgt := 104) hx hb dX6_giveBack_43 (by decide) (fun c_43_6 => ?_) (fun c_43_6 => ?_)
        -- 43 jumps
        · skip
          exact x_vret hx hb hr hlocks hK τ hP hD hS dX6_giveBack_104 (by simp [m_giveBack, m_giveBackL, m_giveBackC, n24, n40, n2, n27, n4, c_4_1, hi3, c_19_4, c_43_6])
        -- 43 goes on
        · skip
          refine lv_aloadN hx hb dX6_giveBack_46 (lv_at hl 0 rfl) ?_
          refine lv_ifnullN (tgt := 104) hx hb dX6_giveBack_48 (by decide) ?_
          exact x_vret hx hb hr hlocks hK τ hP hD hS dX6_giveBack_104 (by simp [m_giveBack, m_giveBackL, m_giveBackC, n24, n40, n2, n27, n4, c_4_1, hi3, c_19_4, eq_true c_43_6])
      -- 19 goes on
      · skip
        refine lv_aload_nN hx hb dX6_giveBack_22 rfl (lv_at hl 0 rfl) ?_
        refine lv_ifnullN (tgt := 31) hx hb dX6_giveBack_23 (by decide) ?_
        refine lv_aload_n hx hb dX6_giveBack_31 rfl (lv_at hl 1 rfl) ?_
        refine lv_aload_n hx hb dX6_giveBack_32 rfl (lv_at hl 2 rfl) ?_
        refine va_get (D := D) (C := RX7) (T := TX7) (N := 17) (ci := 7) (v := .int (τ (i + 6) 10)) hx hb hts nX7 hown hK hP (i + 6) (w_tk hi) rfl 10 (by decide) k109 (fun _ h9 => h9) rfl dX6_giveBack_33 ?_
        refine x_Vq (As := [.int (τ (i + 6) 10)]) (rest0 := []) ⟨hx, hb, hml, hown, hts⟩ (c_X6_channelAt l D cA ad tr rest H.size τ (τ (i + 6) 10)) (cwV 1 hts gX6_giveBack_X6_channelAt rfl rfl rfl (by decide +kernel) ⟨Nat.le_of_ble_eq_true rfl, Nat.le_of_ble_eq_true rfl⟩) hK hP hD hS hA 0 w_st rfl hl.1 rfl rfl (by decide) ⟨Nat.zero_le _, Nat.zero_le _⟩ dX6_giveBack_36 (fun r7 _ H locs hw hP hD hS => ?_)
        have er7 := hw
        subst er7
        rw [hi3]
        refine W.eq (g2 := F0 m 39 ls [.null]) rfl ?_
        refine lv_astoreN (lv' := [(4, .null), (3, .null), (0, .ref (ad 0)), (1, .ref (ad (i + 6))), (2, .int behind)]) hx hb dX6_giveBack_39 hl (by decide) rfl (fun ls hl => ?_)
        refine lv_iload_n hx hb dX6_giveBack_41 rfl (lv_at hl 4 rfl) ?_
        refine lv_iconst (v := 4) hx hb dX6_giveBack_42 (by decide) ?_
        refine lv_icmp_ne (tgt := 104) hx hb dX6_giveBack_43 (by decide) (fun c_43_8 => ?_) (fun c_43_8 => ?_)
        -- 43 jumps
        · skip
          exact x_vret hx hb hr hlocks hK τ hP hD hS dX6_giveBack_104 (by simp [m_giveBack, m_giveBackL, m_giveBackC, n24, n40, n2, n27, n4, c_4_1, hi3, eq_true c_19_4, c_43_8])
        -- 43 goes on
        · exact absurd (c_19_4.symm.trans c_43_8) (by decide)
    · have bi3 := m_at_lt hi3 (by decide)
      refine W.eq (g2 := F0 m 16 ls [.ref (ad (i3 + 94))]) rfl ?_
      refine lv_astore_n (lv' := [(3, .ref (ad (i3 + 94))), (0, .ref (ad 0)), (1, .ref (ad (i + 6))), (2, .int behind)]) hx hb dX6_giveBack_16 rfl hl (by decide) rfl (fun ls hl => ?_)
      refine lv_iload_n hx hb dX6_giveBack_17 rfl (lv_at hl 3 rfl) ?_
      refine lv_iconst (v := 2) hx hb dX6_giveBack_18 (by decide) ?_
      refine lv_icmp_ne (tgt := 31) hx hb dX6_giveBack_19 (by decide) (fun c_19_9 => ?_) (fun c_19_9 => ?_)
      -- 19 jumps
      · skip
        refine lv_aload_n hx hb dX6_giveBack_31 rfl (lv_at hl 1 rfl) ?_
        refine lv_aload_n hx hb dX6_giveBack_32 rfl (lv_at hl 2 rfl) ?_
        refine va_get (D := D) (C := RX7) (T := TX7) (N := 17) (ci := 7) (v := .int (τ (i + 6) 10)) hx hb hts nX7 hown hK hP (i + 6) (w_tk hi) rfl 10 (by decide) k109 (fun _ h9 => h9) rfl dX6_giveBack_33 ?_
        refine x_Vq (As := [.int (τ (i + 6) 10)]) (rest0 := []) ⟨hx, hb, hml, hown, hts⟩ (c_X6_channelAt l D cA ad tr rest H.size τ (τ (i + 6) 10)) (cwV 1 hts gX6_giveBack_X6_channelAt rfl rfl rfl (by decide +kernel) ⟨Nat.le_of_ble_eq_true rfl, Nat.le_of_ble_eq_true rfl⟩) hK hP hD hS hA 0 w_st rfl hl.1 rfl rfl (by decide) ⟨Nat.zero_le _, Nat.zero_le _⟩ dX6_giveBack_36 (fun r10 _ H locs hw hP hD hS => ?_)
        have er10 := hw
        subst er10
        rw [hi3]
        refine W.eq (g2 := F0 m 39 ls [.ref (ad (i3 + 96))]) rfl ?_
        refine lv_astore (lv' := [(4, .ref (ad (i3 + 96))), (3, .ref (ad (i3 + 94))), (0, .ref (ad 0)), (1, .ref (ad (i + 6))), (2, .int behind)]) hx hb dX6_giveBack_39 hl (by decide) rfl (fun ls hl => ?_)
        refine lv_iload_n hx hb dX6_giveBack_41 rfl (lv_at hl 4 rfl) ?_
        refine lv_iconst (v := 4) hx hb dX6_giveBack_42 (by decide) ?_
        refine lv_icmp_ne (tgt := 104) hx hb dX6_giveBack_43 (by decide) (fun c_43_11 => ?_) (fun c_43_11 => ?_)
        -- 43 jumps
        · skip
          exact x_vret hx hb hr hlocks hK τ hP hD hS dX6_giveBack_104 (by simp [m_giveBack, m_giveBackL, m_giveBackC, n24, n40, n2, n27, n4, c_4_1, hi3, c_19_9, c_43_11])
        -- 43 goes on
        · skip
          refine lv_aload hx hb dX6_giveBack_46 (lv_at hl 0 rfl) ?_
          refine lv_ifnull hx hb dX6_giveBack_48 ?_
          refine lv_aload hx hb dX6_giveBack_51 (lv_at hl 0 rfl) ?_
          refine lv_dup hx hb dX6_giveBack_53 rfl ?_
          refine va_get (D := D) (C := RX1) (T := TX1) (N := 5) (ci := 1) (v := .int (τ (i3 + 96) 4)) hx hb hts nX1 hown hK hP (i3 + 96) (w_ch bi3) rfl 4 (by decide) k174 (fun _ h9 => h9) rfl dX6_giveBack_54 ?_
          refine lv_iconst (v := 1) hx hb dX6_giveBack_57 (by decide) ?_
          refine lv_isub hx hb dX6_giveBack_58 ?_
          refine p_ch hx hb hts nX1 hown hK hP hD hS bi3 4 (by decide) (by decide) k174 (fun _ h9 => h9) rfl rfl rfl dX6_giveBack_59 (fun τ12 H locs eτ12 hP hD hS => ?_)
          refine lv_aload_n hx hb dX6_giveBack_62 rfl (lv_at hl 2 rfl) ?_
          refine lv_iconst (v := 4) hx hb dX6_giveBack_63 (by decide) ?_
          refine lv_aload_n hx hb dX6_giveBack_64 rfl (lv_at hl 3 rfl) ?_
          refine va_get (D := D) (C := RX7) (T := TX7) (N := 17) (ci := 7) (v := .int (τ12 (i + 6) 10)) hx hb hts nX7 hown hK hP (i + 6) (w_tk hi) rfl 10 (by decide) k109 (fun _ h9 => h9) rfl dX6_giveBack_65 ?_
          refine x_Vq (As := [.int 4, .int (τ12 (i + 6) 10)]) (rest0 := []) ⟨hx, hb, hml, hown, hts⟩ (c_X6_firstWaiting l D cA ad tr rest H.size τ12 4 (τ12 (i + 6) 10)) (cwV 2 hts gX6_giveBack_X6_firstWaiting rfl rfl rfl (by decide +kernel) ⟨Nat.le_of_ble_eq_true rfl, Nat.le_of_ble_eq_true rfl⟩) hK hP hD hS hA 0 w_st rfl hl.1 rfl rfl (by decide) ⟨Nat.zero_le _, Nat.zero_le _⟩ dX6_giveBack_68 (fun r13 _ H locs hw hP hD hS => ?_)
          have er13 := hw
          subst er13
          rcases hi14 : m_firstWaiting τ12 4 (τ12 (i + 6) 10) with _ | i14
          · refine W.eq (g2 := F0 m 71 ls [.null]) rfl ?_
            refine lv_astoreN (lv' := [(5, .null), (4, .ref (ad (i3 + 96))), (3, .ref (ad (i3 + 94))), (0, .ref (ad 0)), (1, .ref (ad (i + 6))), (2, .int behind)]) hx hb dX6_giveBack_71 hl (by decide) rfl (fun ls hl => ?_)
            refine lv_aloadN hx hb dX6_giveBack_73 (lv_at hl 0 rfl) ?_
            refine lv_ifnullN (tgt := 95) hx hb dX6_giveBack_75 (by decide) ?_
            refine lv_aload hx hb dX6_giveBack_95 (lv_at hl 1 rfl) ?_
            refine lv_aload_n hx hb dX6_giveBack_97 rfl (lv_at hl 4 rfl) ?_
            refine va_get (D := D) (C := RX7) (T := TX7) (N := 17) (ci := 7) (v := .int (τ12 (i + 6) 13)) hx hb hts nX7 hown hK hP (i + 6) (w_tk hi) rfl 13 (by decide) k171 (fun _ h9 => h9) rfl dX6_giveBack_98 ?_
            refine x_Vv (As := [.int (τ12 (i + 6) 13)]) (rest0 := []) ⟨hx, hb, hml, hown, hts⟩ (c_X1_addFirst l D cA ad tr rest H.size τ12 i3 bi3 (τ12 (i + 6) 13)) (cwV 1 hts gX6_giveBack_X1_addFirst rfl rfl rfl (by decide +kernel) ⟨Nat.le_of_ble_eq_true rfl, Nat.le_of_ble_eq_true rfl⟩) hK hP hD hS hA (i3 + 96) (w_ch bi3) rfl hl.1 rfl rfl (by decide) ⟨Nat.zero_le _, Nat.zero_le _⟩ dX6_giveBack_101 (fun τ15 H locs hw hP hD hS => ?_)
            have eτ15 := hw
            exact x_vret hx hb hr hlocks hK τ15 hP hD hS dX6_giveBack_104 (by subst eτ15 eτ12; simp [m_giveBack, m_giveBackL, m_giveBackC, n24, n40, n2, n27, n4, c_4_1, hi3, c_19_9, eq_true c_43_11, hi14])
          · have bi14 := m_firstWaiting_lt hi14
            refine W.eq (g2 := F0 m 71 ls [.ref (ad (i14 + 6))]) rfl ?_
            refine lv_astore (lv' := [(5, .ref (ad (i14 + 6))), (4, .ref (ad (i3 + 96))), (3, .ref (ad (i3 + 94))), (0, .ref (ad 0)), (1, .ref (ad (i + 6))), (2, .int behind)]) hx hb dX6_giveBack_71 hl (by decide) rfl (fun ls hl => ?_)
            refine lv_aload hx hb dX6_giveBack_73 (lv_at hl 0 rfl) ?_
            refine lv_ifnull hx hb dX6_giveBack_75 ?_
            refine lv_aload_n hx hb dX6_giveBack_78 rfl (lv_at hl 3 rfl) ?_
            refine lv_aload hx hb dX6_giveBack_79 (lv_at hl 0 rfl) ?_
            refine lv_aload_n hx hb dX6_giveBack_81 rfl (lv_at hl 4 rfl) ?_
            refine va_get (D := D) (C := RX7) (T := TX7) (N := 17) (ci := 7) (v := .int (τ12 (i + 6) 10)) hx hb hts nX7 hown hK hP (i + 6) (w_tk hi) rfl 10 (by decide) k109 (fun _ h9 => h9) rfl dX6_giveBack_82 ?_
            refine lv_aload_n hx hb dX6_giveBack_85 rfl (lv_at hl 4 rfl) ?_
            refine va_get (D := D) (C := RX7) (T := TX7) (N := 17) (ci := 7) (v := .int (τ12 (i + 6) 13)) hx hb hts nX7 hown hK hP (i + 6) (w_tk hi) rfl 13 (by decide) k171 (fun _ h9 => h9) rfl dX6_giveBack_86 ?_
            refine x_Vv (As := [.ref (ad (i14 + 6)), .int (τ12 (i + 6) 10), .int (τ12 (i + 6) 13)]) (rest0 := []) ⟨hx, hb, hml, hown, hts⟩ (c_X6_giveValue l D cA ad tr rest H.size τ12 i14 bi14 (τ12 (i + 6) 10) (τ12 (i + 6) 13)) (cwV 3 hts gX6_giveBack_X6_giveValue rfl rfl rfl (by decide +kernel) ⟨Nat.le_of_ble_eq_true rfl, Nat.le_of_ble_eq_true rfl⟩) hK hP hD hS hA 0 w_st rfl hl.1 rfl rfl (by decide) ⟨Nat.zero_le _, Nat.zero_le _⟩ dX6_giveBack_89 (fun τ16 H locs hw hP hD hS => ?_)
            have eτ16 := hw
            refine lv_goto (tgt := 104) hx hb dX6_giveBack_92 (by decide) ?_
            exact x_vret hx hb hr hlocks hK τ16 hP hD hS dX6_giveBack_104 (by subst eτ16 eτ12; simp [m_giveBack, m_giveBackL, m_giveBackC, n24, n40, n2, n27, n4, c_4_1, hi3, c_19_9, eq_true c_43_11, hi14])
      -- 19 goes on
      · skip
        refine lv_aload_n hx hb dX6_giveBack_22 rfl (lv_at hl 0 rfl) ?_
        refine lv_ifnull hx hb dX6_giveBack_23 ?_
        refine lv_aload_n hx hb dX6_giveBack_26 rfl (lv_at hl 1 rfl) ?_
        refine lv_aload_n hx hb dX6_giveBack_27 rfl (lv_at hl 0 rfl) ?_
        refine x_Vv (As := [.ref (ad (i3 + 94))]) (rest0 := []) ⟨hx, hb, hml, hown, hts⟩ (c_X6_freeLock l D cA ad tr rest H.size τ i3 bi3) (cwV 1 hts gX6_giveBack_X6_freeLock rfl rfl rfl (by decide +kernel) ⟨Nat.le_of_ble_eq_true rfl, Nat.le_of_ble_eq_true rfl⟩) hK hP hD hS hA 0 w_st rfl hl.1 rfl rfl (by decide) ⟨Nat.zero_le _, Nat.zero_le _⟩ dX6_giveBack_28 (fun τ17 H locs hw hP hD hS => ?_)
        have eτ17 := hw
        refine lv_aload_n hx hb dX6_giveBack_31 rfl (lv_at hl 1 rfl) ?_
        refine lv_aload_n hx hb dX6_giveBack_32 rfl (lv_at hl 2 rfl) ?_
        refine va_get (D := D) (C := RX7) (T := TX7) (N := 17) (ci := 7) (v := .int (τ17 (i + 6) 10)) hx hb hts nX7 hown hK hP (i + 6) (w_tk hi) rfl 10 (by decide) k109 (fun _ h9 => h9) rfl dX6_giveBack_33 ?_
        refine x_Vq (As := [.int (τ17 (i + 6) 10)]) (rest0 := []) ⟨hx, hb, hml, hown, hts⟩ (c_X6_channelAt l D cA ad tr rest H.size τ17 (τ17 (i + 6) 10)) (cwV 1 hts gX6_giveBack_X6_channelAt rfl rfl rfl (by decide +kernel) ⟨Nat.le_of_ble_eq_true rfl, Nat.le_of_ble_eq_true rfl⟩) hK hP hD hS hA 0 w_st rfl hl.1 rfl rfl (by decide) ⟨Nat.zero_le _, Nat.zero_le _⟩ dX6_giveBack_36 (fun r18 _ H locs hw hP hD hS => ?_)
        have er18 := hw
        subst er18
        rcases hi19 : m_at (τ17 (i + 6) 10) 2 with _ | i19
        · refine W.eq (g2 := F0 m 39 ls [.null]) rfl ?_
          refine lv_astoreN (lv' := [(4, .null), (3, .ref (ad (i3 + 94))), (0, .ref (ad 0)), (1, .ref (ad (i + 6))), (2, .int behind)]) hx hb dX6_giveBack_39 hl (by decide) rfl (fun ls hl => ?_)
          refine lv_iload_n hx hb dX6_giveBack_41 rfl (lv_at hl 4 rfl) ?_
          refine lv_iconst (v := 4) hx hb dX6_giveBack_42 (by decide) ?_
          refine lv_icmp_ne (tgt := 104) hx hb dX6_giveBack_43 (by decide) (fun c_43_20 => ?_) (fun c_43_20 => ?_)
          -- 43 jumps
          · skip
            exact x_vret hx hb hr hlocks hK τ17 hP hD hS dX6_giveBack_104 (by subst eτ17; simp [m_giveBack, m_giveBackL, m_giveBackC, n24, n40, n2, n27, n4, c_4_1, hi3, eq_true c_19_9, hi19, c_43_20])
          -- 43 goes on
          · exact absurd (c_19_9.symm.trans c_43_20) (by decide)
        · have bi19 := m_at_lt hi19 (by decide)
          refine W.eq (g2 := F0 m 39 ls [.ref (ad (i19 + 96))]) rfl ?_
          refine lv_astore (lv' := [(4, .ref (ad (i19 + 96))), (3, .ref (ad (i3 + 94))), (0, .ref (ad 0)), (1, .ref (ad (i + 6))), (2, .int behind)]) hx hb dX6_giveBack_39 hl (by decide) rfl (fun ls hl => ?_)
          refine lv_iload_n hx hb dX6_giveBack_41 rfl (lv_at hl 4 rfl) ?_
          refine lv_iconst (v := 4) hx hb dX6_giveBack_42 (by decide) ?_
          refine lv_icmp_ne (tgt := 104) hx hb dX6_giveBack_43 (by decide) (fun c_43_21 => ?_) (fun c_43_21 => ?_)
          -- 43 jumps
          · skip
            exact x_vret hx hb hr hlocks hK τ17 hP hD hS dX6_giveBack_104 (by subst eτ17; simp [m_giveBack, m_giveBackL, m_giveBackC, n24, n40, n2, n27, n4, c_4_1, hi3, eq_true c_19_9, hi19, c_43_21])
          -- 43 goes on
          · exact absurd (c_19_9.symm.trans c_43_21) (by decide)
  -- 4 goes on
  · skip
    exact x_vret hx hb hr hlocks hK τ hP hD hS dX6_giveBack_7 (by simp [m_giveBack, m_giveBackL, m_giveBackC, n24, n40, n2, n27, n4, eq_true c_4_1])

set_option maxHeartbeats 4000000 in
set_option maxRecDepth 100000 in
theorem c_X6_putEnd (l : Launch) (D : va_G) (cA : Nat → ClassId) (ad : Nat → Nat) (tr : List (ClassId × FieldType)) (rest : va_W) (sz : Nat) (τ : Sg) (x : Int32) : Met l yX6_putEnd wsX6_putEnd ({ frames := 1, cells := 0, slots := 0, locals := 28 }) (va_Pc [.ref (ad 0), .int x] (inW D (tyB cA ++ tr) (wB cA ad τ ++ rest) sz)) (va_Qv (fun u : Sg => u = m_putEnd τ x) (fun u : Sg => outW D (tyB cA ++ tr) (va_A (wB cA ad τ ++ rest) sz) (wB cA ad u ++ rest)) (va_A (wB cA ad τ ++ rest) sz)) 0 0 (va_A (wB cA ad τ ++ rest) sz) := by
  refine Met.ofW (cc := cX6_putEnd) (maxL := 6) (ret := none) (by decide) rfl ?_
  intro p e s m args below meth c s₁ B hml hv
  obtain ⟨rfl, hsz, hP, hK, hD0⟩ := hv
  have hx := B.exec
  have hb := B.bytes
  have hr := B.returns
  have hts := atoms_spec (ws := wsX6_putEnd) B.pre
  have hown : s.vm.findClass RX6 = some m.cls := findClass_of_methodNamed B.named
  have hlocks := B.notSynchronized
  subst hsz
  have hD := hD0.self (sz := s.heap.size)
  clear hD0
  generalize hAe : va_A (wB cA ad τ ++ rest) s.heap.size = A at hD ⊢
  have hA : ∀ q : Nat, s.heap.size ≤ q → A q := fun q h => by rw [← hAe]; exact Or.inr h
  clear hAe
  have hS : va_S A s.heap s.heap [] := va_S.rf
  have hP : va_P D vwCl (wB cA ad τ ++ rest) s.heap := hP
  have hl := lv_entry ([.ref (ad 0), .int x]) (n := 6) (Nat.le_of_ble_eq_true rfl)
  rw [lg_entry_eq]
  generalize (lg_sl ([.ref (ad 0), .int x]) ++ List.replicate (6 - (lg_sl ([.ref (ad 0), .int x])).length) Slot.unset).toArray = ls at hl ⊢
  have hl : lv_has ls 6 [(0, .ref (ad 0)), (1, .int x)] := hl
  have nX1 : ∀ w ∈ u_ws RX1 TX1 5, w ∈ wsX6_putEnd := by decide +kernel
  have nX7 : ∀ w ∈ u_ws RX7 TX7 17, w ∈ wsX6_putEnd := by decide +kernel
  have k204 := hts (.fieldLink RX6 204 "ScopeRow$Channel" "ended" "Z") (by decide +kernel)
  have k106 := hts (.fieldLink RX6 106 "ScopeRow$Task" "behind" "I") (by decide +kernel)
  have k119 := hts (.fieldLink RX6 119 "ScopeRow$Task" "fault" "I") (by decide +kernel)
  refine lv_aload_n hx hb dX6_putEnd_0 rfl (lv_at hl 0 rfl) ?_
  refine lv_iload_n hx hb dX6_putEnd_1 rfl (lv_at hl 1 rfl) ?_
  refine x_Vq (As := [.int x]) (rest0 := []) ⟨hx, hb, hml, hown, hts⟩ (c_X6_channelAt l D cA ad tr rest s.heap.size τ x) (cwV 1 hts gX6_putEnd_X6_channelAt rfl rfl rfl (by decide +kernel) ⟨Nat.le_of_ble_eq_true rfl, Nat.le_of_ble_eq_true rfl⟩) hK hP hD hS hA 0 w_st rfl hl.1 rfl rfl (by decide) ⟨Nat.zero_le _, Nat.zero_le _⟩ dX6_putEnd_2 (fun r1 _ H locs hw hP hD hS => ?_)
  have er1 := hw
  subst er1
  rcases hi2 : m_at x 2 with _ | i2
  · refine W.eq (g2 := F0 m 5 ls [.null]) rfl ?_
    refine lv_astore_nN (lv' := [(2, .null), (0, .ref (ad 0)), (1, .int x)]) hx hb dX6_putEnd_5 rfl hl (by decide) rfl (fun ls hl => ?_)
    refine lv_aload_nN hx hb dX6_putEnd_6 rfl (lv_at hl 0 rfl) ?_
    refine lv_ifnonnullN hx hb dX6_putEnd_7 ?_
    exact x_vret hx hb hr hlocks hK τ hP hD hS dX6_putEnd_10 (by simp [m_putEnd, hi2])
  · have bi2 := m_at_lt hi2 (by decide)
    refine W.eq (g2 := F0 m 5 ls [.ref (ad (i2 + 96))]) rfl ?_
    refine lv_astore_n (lv' := [(2, .ref (ad (i2 + 96))), (0, .ref (ad 0)), (1, .int x)]) hx hb dX6_putEnd_5 rfl hl (by decide) rfl (fun ls hl => ?_)
    refine lv_aload_n hx hb dX6_putEnd_6 rfl (lv_at hl 0 rfl) ?_
    refine lv_ifnonnull (tgt := 11) hx hb dX6_putEnd_7 (by decide) ?_
    refine lv_aload_n hx hb dX6_putEnd_11 rfl (lv_at hl 0 rfl) ?_
    refine lv_iconst (v := 1) hx hb dX6_putEnd_12 (by decide) ?_
    refine p_ch hx hb hts nX1 hown hK hP hD hS bi2 3 (by decide) (by decide) k204 (fun _ h9 => h9) rfl rfl rfl dX6_putEnd_13 (fun τ3 H locs eτ3 hP hD hS => ?_)
    refine lv_aload_n hx hb dX6_putEnd_16 rfl (lv_at hl 1 rfl) ?_
    refine x_Vi (As := []) (rest0 := []) ⟨hx, hb, hml, hown, hts⟩ (c_X6_allEnded l D cA ad tr rest H.size τ3 ) (cwV 0 hts gX6_putEnd_X6_allEnded rfl rfl rfl (by decide +kernel) ⟨Nat.le_of_ble_eq_true rfl, Nat.le_of_ble_eq_true rfl⟩) hK hP hD hS hA 0 w_st rfl hl.1 rfl rfl (by decide) ⟨Nat.zero_le _, Nat.zero_le _⟩ dX6_putEnd_17 (fun r4 _ H locs hw hP hD hS => ?_)
    have er4 := hw
    refine lv_istore_n (lv' := [(3, .int r4), (2, .ref (ad (i2 + 96))), (0, .ref (ad 0)), (1, .int x)]) hx hb dX6_putEnd_20 rfl hl (by decide) rfl (fun ls hl => ?_)
    refine lv_iconst (v := 0) hx hb dX6_putEnd_21 (by decide) ?_
    refine lv_istore (lv' := [(4, .int 0), (3, .int r4), (2, .ref (ad (i2 + 96))), (0, .ref (ad 0)), (1, .int x)]) hx hb dX6_putEnd_22 hl (by decide) rfl (fun ls hl => ?_)
    refine W_meas (I := fun (n : Nat) (H : Heap) (locs : List Loc) (ls : Array Slot) => ∃ (σ : Sg) (j : Nat), ((n + j = 24) ∧ (m_endLoop x r4 n σ = m_endLoop x r4 24 τ3)) ∧ va_P D vwCl (wB cA ad σ ++ rest) H ∧ va_D A (wB cA ad σ ++ rest) ∧ va_S A s.heap H locs ∧ lv_has ls 6 [(0, .ref (ad 0)), (1, .int x), (2, .ref (ad (i2 + 96))), (3, .int r4), (4, .int (nI j))]) 24 ⟨τ3, 0, ⟨by omega, rfl⟩, hP, hD, hS, lv_sub hl [3, 4, 2, 1, 0] rfl⟩ ?_
    clear hP hD hS hl
    intro n ih H locs ls hI
    obtain ⟨σ, j, ⟨hn, hf⟩, hP, hD, hS, hl⟩ := hI
    refine lv_iload hx hb dX6_putEnd_24 (lv_at hl 4 rfl) ?_
    refine lv_bipush (v := 24) hx hb dX6_putEnd_26 (by decide) ?_
    refine lv_icmp_ge (tgt := 77) hx hb dX6_putEnd_28 (by decide) (fun c_28_5 => ?_) (fun c_28_5 => ?_)
    -- 28 jumps
    · skip
      obtain rfl : n = 0 := by have := ge_c c_28_5 (by omega); omega
      exact x_vret hx hb hr hlocks hK σ hP hD hS dX6_putEnd_77 (by subst er4 eτ3; simp only [m_putEnd, hi2]; rw [← hf]; simp [m_endLoop, eq_true c_28_5])
    -- 28 goes on
    · skip
      have hj : j < 24 := lt_c c_28_5 (by omega)
      obtain ⟨n, rfl⟩ : ∃ k, n = k + 1 := ⟨n - 1, by omega⟩
      refine lv_aload_n hx hb dX6_putEnd_31 rfl (lv_at hl 0 rfl) ?_
      refine lv_iload_n hx hb dX6_putEnd_32 rfl (lv_at hl 1 rfl) ?_
      refine lv_iload_n hx hb dX6_putEnd_33 rfl (lv_at hl 3 rfl) ?_
      refine x_Vq (As := [.int x, .int r4]) (rest0 := []) ⟨hx, hb, hml, hown, hts⟩ (c_X6_firstInVain l D cA ad tr rest H.size σ x r4) (cwV 2 hts gX6_putEnd_X6_firstInVain rfl rfl rfl (by decide +kernel) ⟨Nat.le_of_ble_eq_true rfl, Nat.le_of_ble_eq_true rfl⟩) hK hP hD hS hA 0 w_st rfl hl.1 rfl rfl (by decide) ⟨Nat.zero_le _, Nat.zero_le _⟩ dX6_putEnd_34 (fun r6 _ H locs hw hP hD hS => ?_)
      have er6 := hw
      subst er6
      rcases hi7 : m_firstInVain σ x r4 with _ | i7
      · refine W.eq (g2 := F0 m 37 ls [.null]) rfl ?_
        refine lv_astoreN (lv' := [(5, .null), (0, .ref (ad 0)), (1, .int x), (2, .ref (ad (i2 + 96))), (3, .int r4), (4, .int (nI j))]) hx hb dX6_putEnd_37 hl (by decide) rfl (fun ls hl => ?_)
        refine lv_aloadN hx hb dX6_putEnd_39 (lv_at hl 0 rfl) ?_
        refine lv_ifnonnullN hx hb dX6_putEnd_41 ?_
        exact x_vret hx hb hr hlocks hK σ hP hD hS dX6_putEnd_44 (by subst er4 eτ3; simp only [m_putEnd, hi2]; rw [← hf]; simp [m_endLoop, c_28_5, hi7])
      · have bi7 := m_firstInVain_lt hi7
        refine W.eq (g2 := F0 m 37 ls [.ref (ad (i7 + 6))]) rfl ?_
        refine lv_astore (lv' := [(5, .ref (ad (i7 + 6))), (0, .ref (ad 0)), (1, .int x), (2, .ref (ad (i2 + 96))), (3, .int r4), (4, .int (nI j))]) hx hb dX6_putEnd_37 hl (by decide) rfl (fun ls hl => ?_)
        refine lv_aload hx hb dX6_putEnd_39 (lv_at hl 0 rfl) ?_
        refine lv_ifnonnull (tgt := 45) hx hb dX6_putEnd_41 (by decide) ?_
        refine lv_aload hx hb dX6_putEnd_45 (lv_at hl 0 rfl) ?_
        refine lv_aload hx hb dX6_putEnd_47 (lv_at hl 0 rfl) ?_
        refine va_get (D := D) (C := RX7) (T := TX7) (N := 17) (ci := 7) (v := .int (σ (i7 + 6) 9)) hx hb hts nX7 hown hK hP (i7 + 6) (w_tk bi7) rfl 9 (by decide) k106 (fun _ h9 => h9) rfl dX6_putEnd_49 ?_
        refine lv_iconst (v := 3) hx hb dX6_putEnd_52 (by decide) ?_
        refine lv_icmp_ne (tgt := 60) hx hb dX6_putEnd_53 (by decide) (fun c_53_8 => ?_) (fun c_53_8 => ?_)
        -- 53 jumps
        · skip
          refine lv_bipush (v := 6) hx hb dX6_putEnd_60 (by decide) ?_
          refine p_tk hx hb hts nX7 hown hK hP hD hS bi7 15 (by decide) (by decide) k119 (fun _ h9 => h9) rfl rfl rfl dX6_putEnd_62 (fun τ9 H locs eτ9 hP hD hS => ?_)
          refine lv_aload_n hx hb dX6_putEnd_65 rfl (lv_at hl 1 rfl) ?_
          refine lv_aload hx hb dX6_putEnd_66 (lv_at hl 0 rfl) ?_
          refine x_Vv (As := [.ref (ad (i7 + 6))]) (rest0 := []) ⟨hx, hb, hml, hown, hts⟩ (c_X6_makeReady l D cA ad tr rest H.size τ9 i7 bi7) (cwV 1 hts gX6_putEnd_X6_makeReady rfl rfl rfl (by decide +kernel) ⟨Nat.le_of_ble_eq_true rfl, Nat.le_of_ble_eq_true rfl⟩) hK hP hD hS hA 0 w_st rfl hl.1 rfl rfl (by decide) ⟨Nat.zero_le _, Nat.zero_le _⟩ dX6_putEnd_68 (fun τ10 H locs hw hP hD hS => ?_)
          have eτ10 := hw
          refine lv_iinc (v := (nI (j + 1))) (lv' := [(4, .int (nI (j + 1))), (5, .ref (ad (i7 + 6))), (0, .ref (ad 0)), (1, .int x), (2, .ref (ad (i2 + 96))), (3, .int r4)]) hx hb dX6_putEnd_71 hl (k := 5) rfl (show nI j + 1 = nI (j + 1) from nI_1 j) (by decide) rfl (fun ls hl => ?_)
          refine lv_goto (tgt := 24) hx hb dX6_putEnd_74 (by decide) ?_
          exact ih n (Nat.lt_succ_self n) H locs ls ⟨τ10, (j + 1), ⟨by omega, by subst eτ10 eτ9 er4 eτ3; rw [← hf]; simp [m_endLoop, c_28_5, hi7, c_53_8]⟩, hP, hD, hS, lv_sub hl [2, 3, 4, 5, 0] rfl⟩
        -- 53 goes on
        · skip
          refine lv_iconst (v := 5) hx hb dX6_putEnd_56 (by decide) ?_
          refine lv_goto (tgt := 62) hx hb dX6_putEnd_57 (by decide) ?_
          refine p_tk hx hb hts nX7 hown hK hP hD hS bi7 15 (by decide) (by decide) k119 (fun _ h9 => h9) rfl rfl rfl dX6_putEnd_62 (fun τ11 H locs eτ11 hP hD hS => ?_)
          refine lv_aload_n hx hb dX6_putEnd_65 rfl (lv_at hl 1 rfl) ?_
          refine lv_aload hx hb dX6_putEnd_66 (lv_at hl 0 rfl) ?_
          refine x_Vv (As := [.ref (ad (i7 + 6))]) (rest0 := []) ⟨hx, hb, hml, hown, hts⟩ (c_X6_makeReady l D cA ad tr rest H.size τ11 i7 bi7) (cwV 1 hts gX6_putEnd_X6_makeReady rfl rfl rfl (by decide +kernel) ⟨Nat.le_of_ble_eq_true rfl, Nat.le_of_ble_eq_true rfl⟩) hK hP hD hS hA 0 w_st rfl hl.1 rfl rfl (by decide) ⟨Nat.zero_le _, Nat.zero_le _⟩ dX6_putEnd_68 (fun τ12 H locs hw hP hD hS => ?_)
          have eτ12 := hw
          refine lv_iinc (v := (nI (j + 1))) (lv' := [(4, .int (nI (j + 1))), (5, .ref (ad (i7 + 6))), (0, .ref (ad 0)), (1, .int x), (2, .ref (ad (i2 + 96))), (3, .int r4)]) hx hb dX6_putEnd_71 hl (k := 5) rfl (show nI j + 1 = nI (j + 1) from nI_1 j) (by decide) rfl (fun ls hl => ?_)
          refine lv_goto (tgt := 24) hx hb dX6_putEnd_74 (by decide) ?_
          exact ih n (Nat.lt_succ_self n) H locs ls ⟨τ12, (j + 1), ⟨by omega, by subst eτ12 eτ11 er4 eτ3; rw [← hf]; simp [m_endLoop, c_28_5, hi7, eq_true c_53_8]⟩, hP, hD, hS, lv_sub hl [2, 3, 4, 5, 0] rfl⟩
