/-! WHAT IS THERE, a LOCAL, a VALUE, a way: between -9999 and 9999 -/
abbrev bnd (v : Int32) : Prop := -9999 ≤ v ∧ v ≤ 9999
theorem bnd_iff {v : Int32} : bnd v ↔ -9999 ≤ v.toInt ∧ v.toInt ≤ 9999 := by
  unfold bnd
  rw [Int32.le_iff_toInt_le, Int32.le_iff_toInt_le, show (-9999 : Int32).toInt = -9999 from by decide, show (9999 : Int32).toInt = 9999 from by decide]
theorem bnd_nI {n : Nat} (h : n ≤ 9999) : bnd (nI n) := by
  rw [bnd_iff, nI_toInt (by omega)]
  omega
theorem bnd_dec {v : Int32} (h : bnd v) (h0 : 0 < v) : bnd (v - 1) := by
  have h1 : ¬ v < 0 := fun z => by
    rw [Int32.lt_iff_toInt_lt, Int32.toInt_zero] at z h0
    omega
  have e := nI_cl h1
  have hb := bnd_iff.mp h
  have h3 : v.toNatClampNeg = v.toInt.toNat := rfl
  have h4 : 0 < v.toInt := by rw [Int32.lt_iff_toInt_lt, Int32.toInt_zero] at h0; exact h0
  obtain ⟨m, hm⟩ : ∃ m, v.toNatClampNeg = m + 1 := ⟨v.toNatClampNeg - 1, by omega⟩
  rw [e, hm, nI_pred]
  exact bnd_nI (by omega)
theorem bnd_cap (x : Int32) : bnd (m_cap x) := by
  rw [bnd_iff]
  unfold m_cap
  have e1 : (9999 : Int32).toInt = 9999 := by decide
  have e2 : (-9999 : Int32).toInt = -9999 := by decide
  by_cases c1 : x < 9999
  · rw [if_pos c1]
    rw [Int32.lt_iff_toInt_lt, e1] at c1
    by_cases c2 : -9999 < x
    · rw [if_pos c2]
      rw [Int32.lt_iff_toInt_lt, e2] at c2
      omega
    · rw [if_neg c2, e2]; omega
  · rw [if_neg c1]
    by_cases c2 : -9999 < (9999 : Int32)
    · rw [if_pos c2, e1]; omega
    · exact absurd (by decide) c2
/-- the ints that are bounded -/
def inB (a b : Nat) : Prop := (6 ≤ a ∧ a < 30 ∧ (b = 5 ∨ b = 10 ∨ b = 13 ∨ b = 15)) ∨ (30 ≤ a ∧ a < 54) ∨ (54 ≤ a ∧ a < 94 ∧ b = 9) ∨ (98 ≤ a ∧ a < 100)
def TB (τ : Sg) : Prop := ∀ a b, inB a b → bnd (τ a b)
theorem TB.up {τ : Sg} {k j : Nat} {v : Int32} (h : TB τ) (hv : bnd v) : TB (up2 τ k j v) := fun a b hab => by
  by_cases e : a = k ∧ b = j
  · obtain ⟨e1, e2⟩ := e
    subst e1; subst e2
    rw [up2_same]; exact hv
  · rw [up2_o e]; exact h a b hab
theorem TB.off {τ : Sg} {k j : Nat} {v : Int32} (h : TB τ) (hk : ¬ inB k j) : TB (up2 τ k j v) := fun a b hab => by
  rw [up2_o (fun e => hk (by rw [← e.1, ← e.2]; exact hab))]; exact h a b hab
theorem TB.keep {τ σ : Sg} (h : TB τ) (he : ∀ a b, inB a b → σ a b = τ a b) : TB σ := fun a b hab => by rw [he a b hab]; exact h a b hab
theorem TB.mr {τ : Sg} {i : Nat} (h : TB τ) (hi : i < 24) : TB (m_makeReady τ i) := h.keep (fun a b hab => by
  unfold inB at hab
  exact mr_other (by omega) (by omega) (by omega))
theorem wake_other : ∀ (n j : Nat) (τ : Sg) (a b : Nat), n + j = 24 → a ≠ 5 → ¬ (a = 0 ∧ b = 7) → ¬ (6 ≤ a ∧ a < 30 ∧ b = 3) → m_wakeHit n j τ a b = τ a b := by
  intro n
  induction n with
  | zero => intro j τ a b _ _ _ _; rfl
  | succ n ih =>
    intro j τ a b hn h1 h2 h3
    show m_wakeHit n (j + 1) _ a b = _
    rw [ih (j + 1) _ a b (by omega) h1 h2 h3]
    by_cases c1 : τ (j + 6) 3 = 1
    · rw [if_pos c1]
      by_cases c2 : τ (j + 6) 9 = 5
      · rw [if_pos c2]
      · rw [if_neg c2]
        by_cases c3 : m_isHit τ j (-1) = true
        · rw [if_pos c3, mr_other (by omega) h1 h2]
        · rw [if_neg c3]
    · rw [if_neg c1]
theorem cancelScope_other {τ : Sg} {k a b : Nat} (h1 : a ≠ 5) (h2 : ¬ (a = 0 ∧ b = 7)) (h3 : ¬ (6 ≤ a ∧ a < 30 ∧ b = 3)) (h4 : ¬ (a = k + 54 ∧ b = 5)) : m_cancelScope τ k a b = τ a b := by
  unfold m_cancelScope
  by_cases c1 : m_isLive τ k = true
  · rw [if_pos c1]
    by_cases c2 : τ (k + 54) 5 = 0
    · rw [if_pos c2, wake_other 24 0 _ a b rfl h1 h2 h3, up2_o h4]
    · rw [if_neg c2]
  · rw [if_neg c1]
theorem tb_cancel {τ : Sg} {k : Nat} (hk : k < 40) (h : TB τ) : TB (m_cancelScope τ k) := h.keep (fun a b hab => by
  unfold inB at hab
  exact cancelScope_other (by omega) (by omega) (by omega) (by omega))
theorem tb_giveTo {τ : Sg} {k t : Nat} (hk : k < 2) (h : TB τ) : TB (m_giveTo τ k t) := h.keep (fun a b hab => by
  unfold inB at hab
  exact giveTo_other (by omega))
theorem tb_freeLock {τ : Sg} {k : Nat} (hk : k < 2) (h : TB τ) : TB (m_freeLock τ k) := by
  have h1 : TB (up2 τ (k + 94) 1 (-1)) := h.off (by unfold inB; omega)
  unfold m_freeLock
  dsimp only
  cases e : m_firstWaiting (up2 τ (k + 94) 1 (-1)) 2 (nI k) with
  | none => exact h1
  | some t =>
    have ht := (firstWaiting_some e).1
    exact ((tb_giveTo hk h1).off (by unfold inB; omega)).mr ht
theorem at_bnd {x : Int32} {k : Nat} (h : m_at x 2 = some k) : bnd x := by
  unfold m_at at h
  by_cases c1 : x < 0
  · rw [if_pos c1] at h; cases h
  · rw [if_neg c1] at h
    by_cases c2 : nI 2 ≤ x
    · rw [if_pos c2] at h; cases h
    · rw [nI_cl c1]
      have h3 := in_lt (in_of c1 c2 (by decide))
      exact bnd_nI (by omega)
theorem tb_giveValue {τ : Sg} {t : Nat} {x v : Int32} (ht : t < 24) (hv : bnd v) (h : TB τ) : TB (m_giveValue τ t x v) := by
  unfold m_giveValue
  cases e : m_at x 2 with
  | none => exact h
  | some k =>
    have hk := m_at_lt e (by decide)
    dsimp only
    exact ((((h.up hv).up (at_bnd e)).off (by unfold inB; omega)).off (by unfold inB; omega)).mr ht
theorem tb_dshift (i : Nat) (hi : i < 2) : ∀ (n j : Nat) (τ : Sg), TB τ → TB (m_dshift i n j τ) := by
  intro n
  induction n with
  | zero => intro j τ h; exact h
  | succ n ih =>
    intro j τ h
    unfold m_dshift
    by_cases c1 : τ (i + 96) 2 ≤ nI (j + 1)
    · rw [if_pos c1]; exact h
    · rw [if_neg c1]
      by_cases c2 : 27 ≤ nI (j + 1)
      · rw [if_pos c2]; exact h
      · rw [if_neg c2]; exact ih (j + 1) _ (h.up (h _ _ (by unfold inB; omega)))
theorem tb_ushift (i : Nat) (hi : i < 2) : ∀ (n : Nat) (τ : Sg), TB τ → TB (m_ushift i n τ) := by
  intro n
  induction n with
  | zero => intro τ h; exact h
  | succ n ih =>
    intro τ h
    unfold m_ushift
    exact ih _ (h.up (h _ _ (by unfold inB; omega)))
theorem tb_dropFirst {τ : Sg} {k : Nat} (hk : k < 2) (h : TB τ) : TB (m_dropFirst τ k) := by
  unfold m_dropFirst
  exact (tb_dshift k hk 27 0 τ h).off (by unfold inB; omega)
theorem tb_addLast {τ : Sg} {k : Nat} {v : Int32} (hk : k < 2) (hv : bnd v) (h : TB τ) : TB (m_addLast τ k v) := by
  unfold m_addLast
  by_cases c1 : τ (k + 96) 2 < 0
  · rw [if_pos c1]; exact h
  · rw [if_neg c1]
    by_cases c2 : 27 ≤ τ (k + 96) 2
    · rw [if_pos c2]; exact h
    · rw [if_neg c2]; exact (h.up hv).off (by unfold inB; omega)
theorem tb_addFirst {τ : Sg} {k : Nat} {v : Int32} (hk : k < 2) (hv : bnd v) (h : TB τ) : TB (m_addFirst τ k v) := by
  unfold m_addFirst
  by_cases c1 : τ (k + 96) 2 < 0
  · rw [if_pos c1]; exact h
  · rw [if_neg c1]
    by_cases c2 : τ (k + 96) 2 < 27
    · rw [if_pos c2]; exact ((tb_ushift k hk _ τ h).up hv).off (by unfold inB; omega)
    · rw [if_neg c2]; exact h
theorem bnd_first {τ : Sg} {k : Nat} (hk : k < 2) (h : TB τ) : bnd (m_first τ k) := by
  unfold m_first
  by_cases c : τ (k + 96) 2 ≤ 0
  · rw [if_pos c]; decide
  · rw [if_neg c]; exact h _ _ (by unfold inB; omega)
theorem tb_takeValue {τ : Sg} {x : Int32} (h : TB τ) : TB (m_takeValueW τ x) ∧ bnd (m_takeValue τ x) := by
  unfold m_takeValueW m_takeValue
  cases e : m_at x 2 with
  | none => exact ⟨h, (by decide : bnd 0)⟩
  | some k =>
    have hk := m_at_lt e (by decide)
    dsimp only
    cases f : m_firstWaiting τ 3 x with
    | none => exact ⟨(tb_dropFirst hk h).off (by unfold inB; omega), bnd_first hk h⟩
    | some q =>
      have hq := (firstWaiting_some f).1
      dsimp only
      refine ⟨TB.off ?_ (by unfold inB; omega), ?_⟩
      · by_cases c : τ (k + 96) 2 = 0
        · rw [if_pos c]; exact h.mr hq
        · rw [if_neg c]
          exact (tb_addLast hk (tb_dropFirst hk h _ _ (by unfold inB; omega)) (tb_dropFirst hk h)).mr hq
      · by_cases c : τ (k + 96) 2 = 0
        · rw [if_pos c]; exact h _ _ (by unfold inB; omega)
        · rw [if_neg c]; exact bnd_first hk h
theorem tb_giveBack {τ : Sg} {t : Nat} {w : Int32} (ht : t < 24) (h : TB τ) : TB (m_giveBack τ t w) := by
  unfold m_giveBack
  by_cases c : τ (t + 6) 14 = 0
  · rw [if_pos c]; exact h
  · rw [if_neg c]
    have h1 : TB (m_giveBackL τ t w) := by
      unfold m_giveBackL
      by_cases c : w = 2
      · rw [if_pos c]
        cases e : m_at (τ (t + 6) 10) 2 with
        | none => exact h
        | some k => exact tb_freeLock (m_at_lt e (by decide)) h
      · rw [if_neg c]; exact h
    revert h1
    generalize m_giveBackL τ t w = σ
    intro h1
    unfold m_giveBackC
    by_cases c : w = 4
    · rw [if_pos c]
      cases e : m_at (σ (t + 6) 10) 2 with
      | none => exact h1
      | some k =>
        have hk := m_at_lt e (by decide)
        have h2 : TB (up2 σ (k + 96) 4 (σ (k + 96) 4 - 1)) := h1.off (by unfold inB; omega)
        dsimp only
        cases f : m_firstWaiting (up2 σ (k + 96) 4 (σ (k + 96) 4 - 1)) 4 (up2 σ (k + 96) 4 (σ (k + 96) 4 - 1) (t + 6) 10) with
        | none => exact tb_addFirst hk (h2 _ _ (by unfold inB; omega)) h2
        | some q => exact tb_giveValue (firstWaiting_some f).1 (h2 _ _ (by unfold inB; omega)) h2
    · rw [if_neg c]; exact h1
theorem tb_endLoop {x p0 : Int32} : ∀ (n : Nat) (τ : Sg), TB τ → TB (m_endLoop x p0 n τ) := by
  intro n
  induction n with
  | zero => intro τ h; exact h
  | succ n ih =>
    intro τ h
    unfold m_endLoop
    cases e : m_firstInVain τ x p0 with
    | none => exact h
    | some q =>
      have hq := (firstInVain_some e).1
      dsimp only
      refine ih _ ((h.up ?_).mr hq)
      by_cases c : τ (q + 6) 9 = 3
      · rw [if_pos c]; decide
      · rw [if_neg c]; decide
theorem tb_putEnd {τ : Sg} {x : Int32} (h : TB τ) : TB (m_putEnd τ x) := by
  unfold m_putEnd
  cases e : m_at x 2 with
  | none => exact h
  | some k =>
    have hk := m_at_lt e (by decide)
    exact tb_endLoop 24 _ (h.off (by unfold inB; omega))
theorem tb_makeTask {τ : Sg} {b x : Int32} (h : TB τ) : TB (m_makeTaskW τ b x) ∧ bnd (m_makeTask τ) := by
  unfold m_makeTaskW m_makeTask
  cases e : m_at (τ 0 1) 24 with
  | none => exact ⟨h, (by decide : bnd (-1))⟩
  | some i =>
    have hi := m_at_lt e (by decide)
    exact ⟨(((h.off (by unfold inB; omega)).off (by unfold inB; omega)).off (by unfold inB; omega)).mr hi, bnd_nI (by omega)⟩
