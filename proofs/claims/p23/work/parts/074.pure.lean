/-! WHO IS HIT, when SCOPES elsewhere change: the way outwards stays among scopes that are the same -/
theorem hit_at (τ : Sg) (also : Int32) (n : Nat) {k : Nat} (hk : k < 40) : m_hit τ also (n + 1) (nI k) = if τ (k + 54) 1 = 2 then m_hit τ also n (τ (k + 54) 4) else if τ (k + 54) 5 = 0 then (if nI k = also then true else if τ (k + 54) 6 = 0 then m_hit τ also n (τ (k + 54) 4) else false) else true := by
  show (if nI k < 0 then _ else _) = _
  rw [if_neg (nI_pos (by omega)), if_neg (fun z : 40 ≤ nI k => by have := ge_c40 z (by omega); omega), nI_clamp (by omega)]
theorem hit_alive {τ σ : Sg} {also : Int32} {Al : Nat → Prop} (hnext : ∀ k, k < 40 → Al k → τ (k + 54) 4 = -1 ∨ ∃ q, q < 40 ∧ τ (k + 54) 4 = nI q ∧ Al q) (hsame : ∀ k, k < 40 → Al k → ∀ b, (b = 1 ∨ b = 4 ∨ b = 5 ∨ b = 6) → τ (k + 54) b = σ (k + 54) b) :
    ∀ (n : Nat) (x : Int32), (x = -1 ∨ ∃ k, k < 40 ∧ x = nI k ∧ Al k) → m_hit τ also n x = m_hit σ also n x := by
  intro n
  induction n with
  | zero => intro x _; rfl
  | succ n ih =>
    intro x hx
    rcases hx with hx | ⟨k, hk, hx, ha⟩
    · subst hx
      unfold m_hit
      rw [if_pos (by decide), if_pos (by decide)]
    · subst hx
      rw [hit_at τ also n hk, hit_at σ also n hk]
      rw [← hsame k hk ha 1 (Or.inl rfl), ← hsame k hk ha 4 (Or.inr (Or.inl rfl)), ← hsame k hk ha 5 (Or.inr (Or.inr (Or.inl rfl))), ← hsame k hk ha 6 (Or.inr (Or.inr (Or.inr rfl))), ih _ (hnext k hk ha)]
theorem isHit_alive {τ σ : Sg} {also : Int32} {Al : Nat → Prop} {i : Nat} (hnext : ∀ k, k < 40 → Al k → τ (k + 54) 4 = -1 ∨ ∃ q, q < 40 ∧ τ (k + 54) 4 = nI q ∧ Al q) (hsame : ∀ k, k < 40 → Al k → ∀ b, (b = 1 ∨ b = 4 ∨ b = 5 ∨ b = 6) → τ (k + 54) b = σ (k + 54) b)
    (h6 : τ (i + 6) 6 = σ (i + 6) 6) (h7 : τ (i + 6) 7 = σ (i + 6) 7) (hx : (if τ (i + 6) 7 = -1 then τ (i + 6) 6 else τ (i + 6) 7) = -1 ∨ ∃ k, k < 40 ∧ (if τ (i + 6) 7 = -1 then τ (i + 6) 6 else τ (i + 6) 7) = nI k ∧ Al k) : m_isHit τ i also = m_isHit σ i also := by
  unfold m_isHit
  rw [← h6, ← h7]
  exact hit_alive hnext hsame 40 _ hx
/-- a step of the way: the ints that differ at one cell of the Runner alone don't matter -/
def offR (τ σ : Sg) : Prop := ∀ k, k ≠ 100 → τ k = σ k
theorem offR_up {τ σ : Sg} {k j : Nat} {v : Int32} (h : offR τ σ) : offR (up2 τ k j v) (up2 σ k j v) := by
  intro a ha
  by_cases e : a = k
  · subst e; rw [up2_k, up2_k, h a ha]
  · rw [up2_ne e, up2_ne e, h a ha]
theorem offR_at {τ σ : Sg} (h : offR τ σ) {k : Nat} (hk : k < 100) (b : Nat) : τ k b = σ k b := by rw [h k (by omega)]
theorem offR_mr {τ σ : Sg} {i : Nat} (h : offR τ σ) : offR (m_makeReady τ i) (m_makeReady σ i) := by
  have h1 := offR_up (k := i + 6) (j := 3) (v := 0) h
  unfold m_makeReady
  dsimp only
  rw [offR_at h1 (show 0 < 100 by decide) 7]
  by_cases c1 : up2 σ (i + 6) 3 0 0 7 < 0
  · rw [if_pos c1, if_pos c1]; exact h1
  · rw [if_neg c1, if_neg c1]
    by_cases c2 : 24 ≤ up2 σ (i + 6) 3 0 0 7
    · rw [if_pos c2, if_pos c2]; exact h1
    · rw [if_neg c2, if_neg c2]
      have h2 := offR_up (k := 5) (j := (up2 σ (i + 6) 3 0 0 7).toNatClampNeg) (v := nI i) h1
      rw [offR_at h2 (show 0 < 100 by decide) 7]
      exact offR_up h2
theorem offR_hit {τ σ : Sg} {also : Int32} (h : offR τ σ) {i : Nat} (hi : i < 24) : m_isHit τ i also = m_isHit σ i also := isHit_congr (fun k hk b _ => offR_at h (by omega) b) (offR_at h (by omega) 6) (offR_at h (by omega) 7)
theorem offR_wake : ∀ (n j : Nat) (τ σ : Sg), n + j = 24 → offR τ σ → offR (m_wakeHit n j τ) (m_wakeHit n j σ) := by
  intro n
  induction n with
  | zero => intro j τ σ _ h; exact h
  | succ n ih =>
    intro j τ σ hn h
    show offR (m_wakeHit n (j + 1) _) (m_wakeHit n (j + 1) _)
    refine ih (j + 1) _ _ (by omega) ?_
    rw [offR_at h (show j + 6 < 100 by omega) 3, offR_at h (show j + 6 < 100 by omega) 9, offR_hit h (show j < 24 by omega)]
    by_cases c1 : σ (j + 6) 3 = 1
    · rw [if_pos c1, if_pos c1]
      by_cases c2 : σ (j + 6) 9 = 5
      · rw [if_pos c2, if_pos c2]; exact h
      · rw [if_neg c2, if_neg c2]
        by_cases c3 : m_isHit σ j (-1) = true
        · rw [if_pos c3, if_pos c3]; exact offR_mr h
        · rw [if_neg c3, if_neg c3]; exact h
    · rw [if_neg c1, if_neg c1]; exact h
theorem offR_live {τ σ : Sg} (h : offR τ σ) {k : Nat} (hk : k < 40) : m_isLive τ k = m_isLive σ k := by
  unfold m_isLive
  rw [offR_at h (show k + 54 < 100 by omega) 1]
theorem offR_cancel {τ σ : Sg} {k : Nat} (hk : k < 40) (h : offR τ σ) : offR (m_cancelScope τ k) (m_cancelScope σ k) := by
  unfold m_cancelScope
  rw [offR_live h hk, offR_at h (show k + 54 < 100 by omega) 5]
  by_cases c1 : m_isLive σ k = true
  · rw [if_pos c1, if_pos c1]
    by_cases c2 : σ (k + 54) 5 = 0
    · rw [if_pos c2, if_pos c2]; exact offR_wake 24 0 _ _ rfl (offR_up h)
    · rw [if_neg c2, if_neg c2]; exact h
  · rw [if_neg c1, if_neg c1]; exact h
theorem offR_tickS : ∀ (n j : Nat) (τ σ : Sg), n + j = 40 → offR τ σ → offR (m_tickScopes n j τ) (m_tickScopes n j σ) := by
  intro n
  induction n with
  | zero => intro j τ σ _ h; exact h
  | succ n ih =>
    intro j τ σ hn h
    show offR (m_tickScopes n (j + 1) _) (m_tickScopes n (j + 1) _)
    refine ih (j + 1) _ _ (by omega) ?_
    rw [offR_live h (show j < 40 by omega), offR_at h (show j + 54 < 100 by omega) 7, offR_at h (show 0 < 100 by decide) 8]
    by_cases c1 : m_isLive σ j = true
    · rw [if_pos c1, if_pos c1]
      by_cases c2 : σ (j + 54) 7 = σ 0 8
      · rw [if_pos c2, if_pos c2]; exact offR_cancel (by omega) h
      · rw [if_neg c2, if_neg c2]; exact h
    · rw [if_neg c1, if_neg c1]; exact h
theorem offR_tickT : ∀ (n j : Nat) (τ σ : Sg), n + j = 24 → offR τ σ → offR (m_tickTasks n j τ) (m_tickTasks n j σ) := by
  intro n
  induction n with
  | zero => intro j τ σ _ h; exact h
  | succ n ih =>
    intro j τ σ hn h
    show offR (m_tickTasks n (j + 1) _) (m_tickTasks n (j + 1) _)
    refine ih (j + 1) _ _ (by omega) ?_
    have e : m_waitsAt τ j 1 = m_waitsAt σ j 1 := by
      unfold m_waitsAt
      rw [offR_at h (show j + 6 < 100 by omega) 3, offR_at h (show j + 6 < 100 by omega) 9]
    rw [e, offR_at h (show j + 6 < 100 by omega) 12, offR_at h (show 0 < 100 by decide) 8]
    by_cases c1 : m_waitsAt σ j 1 = true
    · rw [if_pos c1, if_pos c1]
      by_cases c2 : σ (j + 6) 12 = σ 0 8
      · rw [if_pos c2, if_pos c2]; exact offR_mr h
      · rw [if_neg c2, if_neg c2]; exact h
    · rw [if_neg c1, if_neg c1]; exact h
theorem offR_tick {τ σ : Sg} (h : offR τ σ) : offR (m_tickOnceW τ) (m_tickOnceW σ) := by
  unfold m_tickOnceW
  refine offR_tickT 24 0 _ _ rfl (offR_tickS 40 0 _ _ rfl ?_)
  rw [offR_at h (show 0 < 100 by decide) 8]
  exact offR_up h
theorem offR_shift : ∀ (n j : Nat) (τ σ : Sg), offR τ σ → offR (m_shift n j τ) (m_shift n j σ) := by
  intro n
  induction n with
  | zero => intro j τ σ h; exact h
  | succ n ih =>
    intro j τ σ h
    unfold m_shift
    rw [offR_at h (show 0 < 100 by decide) 7, offR_at h (show 5 < 100 by decide) (j + 1)]
    by_cases c1 : σ 0 7 ≤ nI (j + 1)
    · rw [if_pos c1, if_pos c1]; exact h
    · rw [if_neg c1, if_neg c1]
      by_cases c2 : 24 ≤ nI (j + 1)
      · rw [if_pos c2, if_pos c2]; exact h
      · rw [if_neg c2, if_neg c2]; exact ih (j + 1) _ _ (offR_up h)
theorem offR_take {τ σ : Sg} (h : offR τ σ) : offR (m_takeReadyW τ) (m_takeReadyW σ) ∧ m_takeReady τ = m_takeReady σ := by
  have hs := offR_shift 24 0 τ σ h
  unfold m_takeReadyW m_takeReady
  rw [offR_at h (show 0 < 100 by decide) 7, offR_at h (show 5 < 100 by decide) 0]
  by_cases c : ¬ 0 < σ 0 7
  · rw [if_pos c, if_pos c, if_pos c]; exact ⟨h, rfl⟩
  · rw [if_neg c, if_neg c, if_neg c]
    refine ⟨?_, rfl⟩
    dsimp only
    rw [offR_at hs (show 0 < 100 by decide) 7]
    exact offR_up hs
/-- the Runner's unused ints agree, too -/
def offJ (τ σ : Sg) : Prop := offR τ σ ∧ ∀ j, j ≠ 2 → τ 100 j = σ 100 j
theorem turn_off {τ σ π : Sg} {i : Nat} (h : offJ τ σ) : m_turn τ π i = m_turn σ π i := by
  have e : up2 (up2 τ 0 9 (τ 0 9 + 1)) 100 2 0 = up2 (up2 σ 0 9 (σ 0 9 + 1)) 100 2 0 := by
    rw [offR_at h.1 (show 0 < 100 by decide) 9]
    funext a b
    by_cases e1 : a = 100
    · subst e1
      by_cases e2 : b = 2
      · subst e2; rw [up2_same, up2_same]
      · rw [up2_j e2, up2_j e2, up2_a (by omega), up2_a (by omega)]; exact h.2 b e2
    · rw [up2_a e1, up2_a e1, offR_up h.1 a e1]
  unfold m_turn
  dsimp only
  rw [e]
