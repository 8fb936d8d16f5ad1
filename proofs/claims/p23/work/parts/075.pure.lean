/-! THE ROW THROUGH ALL STEPS: RS = the row holds just the READY ones, but for the one whose turn it is -/
def RS (τ : Sg) (r : Option Nat) : Prop := (∃ L, ReadyIs τ L r) ∧ ∀ i, r = some i → i < 24 ∧ τ (i + 6) 3 = 0
theorem RS.keep {τ σ : Sg} {r : Option Nat} (h : RS τ r) (h0 : σ 0 7 = τ 0 7) (h5 : ∀ j, σ 5 j = τ 5 j) (h3 : ∀ i, i < 24 → σ (i + 6) 3 = τ (i + 6) 3) : RS σ r := by
  obtain ⟨⟨L, hL⟩, hr⟩ := h
  refine ⟨⟨L, ready_keep hL h0 h5 h3⟩, fun i hi => ?_⟩
  obtain ⟨a, b⟩ := hr i hi
  exact ⟨a, by rw [h3 i a]; exact b⟩
theorem RS.up {τ : Sg} {r : Option Nat} {k j : Nat} {v : Int32} (h : RS τ r) (h5 : k ≠ 5) (h0 : ¬ (k = 0 ∧ j = 7)) (h3 : ¬ (6 ≤ k ∧ k < 30 ∧ j = 3)) : RS (up2 τ k j v) r :=
  h.keep (up2_o (fun z => h0 ⟨z.1.symm, z.2.symm⟩)) (fun q => up2_a (fun z => h5 z.symm) q) (fun i hi => up2_o (fun z => h3 (by omega)))
theorem RS.mr {τ : Sg} {r : Option Nat} {i : Nat} (h : RS τ r) (hi : i < 24) (hs : τ (i + 6) 3 ≠ 0) : RS (m_makeReady τ i) r := by
  obtain ⟨⟨L, hL⟩, hr⟩ := h
  refine ⟨⟨L ++ [i], ready_mr hL hi hs (fun q => hs (hr i q).2)⟩, fun q hq => ?_⟩
  obtain ⟨a, b⟩ := hr q hq
  refine ⟨a, ?_⟩
  by_cases e : q = i
  · subst e; exact absurd b hs
  · rw [mr_other (by omega) (by omega) (by omega)]; exact b
theorem one_ne {τ : Sg} {a b : Nat} (h : τ a b = 1) : τ a b ≠ 0 := by rw [h]; decide
theorem waits_one {τ : Sg} {i : Nat} {w x : Int32} (h : m_waitsFor τ i w x = true) : τ (i + 6) 3 = 1 := (waitsFor_iff.mp h).1
theorem fic_one {τ : Sg} {i : Nat} {x p0 : Int32} (h : m_fic τ i x p0 = true) : τ (i + 6) 3 = 1 := by
  unfold m_fic at h
  by_cases c : τ (i + 6) 3 = 1
  · exact c
  · rw [if_neg c] at h; cases h
theorem waitsAt_iff {τ : Sg} {i : Nat} {w : Int32} : m_waitsAt τ i w = true ↔ τ (i + 6) 3 = 1 ∧ τ (i + 6) 9 = w := by
  unfold m_waitsAt
  by_cases c1 : τ (i + 6) 3 = 1
  · rw [if_pos c1]
    by_cases c2 : τ (i + 6) 9 = w
    · rw [if_pos c2]; exact ⟨fun _ => ⟨c1, c2⟩, fun _ => rfl⟩
    · rw [if_neg c2]; exact ⟨fun q => (by cases q), fun q => absurd q.2 c2⟩
  · rw [if_neg c1]; exact ⟨fun q => (by cases q), fun q => absurd q.1 c1⟩
theorem rs_cancel {τ : Sg} {r : Option Nat} {k : Nat} (hk : k < 40) (h : RS τ r) : RS (m_cancelScope τ k) r := by
  obtain ⟨⟨L, hL⟩, hr⟩ := h
  obtain ⟨g1, _, g3, g4⟩ := cancel_spec hk hL (fun i hi => (hr i hi).2)
  refine ⟨g1, fun i hi => ?_⟩
  obtain ⟨a, b⟩ := hr i hi
  refine ⟨a, ?_⟩
  cases c : m_cancels τ k with
  | false => rw [g4 c]; exact b
  | true =>
    rw [(g3 c).2 i a, if_neg (fun z => by rw [b] at z; exact absurd z.1 (by decide))]
    exact b
theorem rs_giveTo {τ : Sg} {r : Option Nat} {k t : Nat} (h : RS τ r) : RS (m_giveTo τ k t) r := (h.up (by omega) (by omega) (by omega)).up (by omega) (by omega) (by omega)
theorem giveTo_other {τ : Sg} {k t a b : Nat} (h : ¬ (a = k + 94 ∧ (b = 1 ∨ b = 2))) : m_giveTo τ k t a b = τ a b := by
  unfold m_giveTo
  rw [up2_o (by omega), up2_o (by omega)]
theorem rs_freeLock {τ : Sg} {r : Option Nat} {k : Nat} (hk : k < 2) (h : RS τ r) : RS (m_freeLock τ k) r := by
  have h1 : RS (up2 τ (k + 94) 1 (-1)) r := h.up (by omega) (by omega) (by omega)
  unfold m_freeLock
  dsimp only
  cases e : m_firstWaiting (up2 τ (k + 94) 1 (-1)) 2 (nI k) with
  | none => exact h1
  | some t =>
    obtain ⟨a, b⟩ := firstWaiting_some e
    refine ((rs_giveTo h1).up (by omega) (by omega) (by omega)).mr a ?_
    rw [up2_o (by omega), giveTo_other (by omega)]
    exact one_ne (waits_one b)
theorem rs_giveValue {τ : Sg} {r : Option Nat} {t : Nat} {x v : Int32} (ht : t < 24) (hs : τ (t + 6) 3 = 1) (h : RS τ r) : RS (m_giveValue τ t x v) r := by
  unfold m_giveValue
  cases e : m_at x 2 with
  | none => exact h
  | some k =>
    have hk := m_at_lt e (by decide)
    dsimp only
    refine ((((h.up (by omega) (by omega) (by omega)).up (by omega) (by omega) (by omega)).up (by omega) (by omega) (by omega)).up (by omega) (by omega) (by omega)).mr ht ?_
    rw [up2_o (by omega), up2_o (by omega), up2_o (by omega), up2_o (by omega)]
    exact one_ne hs
theorem ds_other (i : Nat) : ∀ (n j : Nat) (τ : Sg) (a : Nat), a ≠ i + 98 → m_dshift i n j τ a = τ a := by
  intro n
  induction n with
  | zero => intro j τ a _; rfl
  | succ n ih =>
    intro j τ a ha
    unfold m_dshift
    by_cases c1 : τ (i + 96) 2 ≤ nI (j + 1)
    · rw [if_pos c1]
    · rw [if_neg c1]
      by_cases c2 : 27 ≤ nI (j + 1)
      · rw [if_pos c2]
      · rw [if_neg c2, ih (j + 1) _ a ha, up2_ne ha]
theorem us_other (i : Nat) : ∀ (n : Nat) (τ : Sg) (a : Nat), a ≠ i + 98 → m_ushift i n τ a = τ a := by
  intro n
  induction n with
  | zero => intro τ a _; rfl
  | succ n ih =>
    intro τ a ha
    unfold m_ushift
    rw [ih _ a ha, up2_ne ha]
theorem dropFirst_other {τ : Sg} {k a b : Nat} (h1 : a ≠ k + 98) (h2 : ¬ (a = k + 96 ∧ b = 2)) : m_dropFirst τ k a b = τ a b := by
  unfold m_dropFirst
  rw [up2_o h2, ds_other k 27 0 τ a h1]
theorem addLast_other {τ : Sg} {k a b : Nat} {v : Int32} (h1 : a ≠ k + 98) (h2 : ¬ (a = k + 96 ∧ b = 2)) : m_addLast τ k v a b = τ a b := by
  unfold m_addLast
  dsimp only
  by_cases c1 : τ (k + 96) 2 < 0
  · rw [if_pos c1]
  · rw [if_neg c1]
    by_cases c2 : 27 ≤ τ (k + 96) 2
    · rw [if_pos c2]
    · rw [if_neg c2, up2_o h2, up2_a h1]
theorem addFirst_other {τ : Sg} {k a b : Nat} {v : Int32} (h1 : a ≠ k + 98) (h2 : ¬ (a = k + 96 ∧ b = 2)) : m_addFirst τ k v a b = τ a b := by
  unfold m_addFirst
  dsimp only
  by_cases c1 : τ (k + 96) 2 < 0
  · rw [if_pos c1]
  · rw [if_neg c1]
    by_cases c2 : τ (k + 96) 2 < 27
    · rw [if_pos c2, up2_o h2, up2_a h1, us_other k _ τ a h1]
    · rw [if_neg c2]
theorem rs_dropFirst {τ : Sg} {r : Option Nat} {k : Nat} (hk : k < 2) (h : RS τ r) : RS (m_dropFirst τ k) r := h.keep (dropFirst_other (by omega) (by omega)) (fun j => dropFirst_other (by omega) (by omega)) (fun i hi => dropFirst_other (by omega) (by omega))
theorem rs_addLast {τ : Sg} {r : Option Nat} {k : Nat} {v : Int32} (hk : k < 2) (h : RS τ r) : RS (m_addLast τ k v) r := h.keep (addLast_other (by omega) (by omega)) (fun j => addLast_other (by omega) (by omega)) (fun i hi => addLast_other (by omega) (by omega))
theorem rs_addFirst {τ : Sg} {r : Option Nat} {k : Nat} {v : Int32} (hk : k < 2) (h : RS τ r) : RS (m_addFirst τ k v) r := h.keep (addFirst_other (by omega) (by omega)) (fun j => addFirst_other (by omega) (by omega)) (fun i hi => addFirst_other (by omega) (by omega))
theorem rs_takeValue {τ : Sg} {r : Option Nat} {x : Int32} (h : RS τ r) : RS (m_takeValueW τ x) r := by
  unfold m_takeValueW
  cases e : m_at x 2 with
  | none => exact h
  | some k =>
    have hk := m_at_lt e (by decide)
    dsimp only
    cases f : m_firstWaiting τ 3 x with
    | none => exact (rs_dropFirst hk h).up (by omega) (by omega) (by omega)
    | some q =>
      obtain ⟨a, b⟩ := firstWaiting_some f
      have b1 := waits_one b
      dsimp only
      refine RS.up ?_ (by omega) (by omega) (by omega)
      by_cases c : τ (k + 96) 2 = 0
      · rw [if_pos c]; exact h.mr a (one_ne b1)
      · rw [if_neg c]
        refine (rs_addLast hk (rs_dropFirst hk h)).mr a ?_
        rw [addLast_other (by omega) (by omega), dropFirst_other (by omega) (by omega)]
        exact one_ne b1
theorem rs_giveBackL {τ : Sg} {r : Option Nat} {t : Nat} {w : Int32} (h : RS τ r) : RS (m_giveBackL τ t w) r := by
  unfold m_giveBackL
  by_cases c : w = 2
  · rw [if_pos c]
    cases e : m_at (τ (t + 6) 10) 2 with
    | none => exact h
    | some k => exact rs_freeLock (m_at_lt e (by decide)) h
  · rw [if_neg c]; exact h
theorem rs_giveBackC {τ : Sg} {r : Option Nat} {t : Nat} {w : Int32} (h : RS τ r) : RS (m_giveBackC τ t w) r := by
  unfold m_giveBackC
  by_cases c : w = 4
  · rw [if_pos c]
    cases e : m_at (τ (t + 6) 10) 2 with
    | none => exact h
    | some k =>
      have hk := m_at_lt e (by decide)
      have h1 : RS (up2 τ (k + 96) 4 (τ (k + 96) 4 - 1)) r := h.up (by omega) (by omega) (by omega)
      dsimp only
      cases f : m_firstWaiting (up2 τ (k + 96) 4 (τ (k + 96) 4 - 1)) 4 (up2 τ (k + 96) 4 (τ (k + 96) 4 - 1) (t + 6) 10) with
      | none => exact rs_addFirst hk h1
      | some q =>
        obtain ⟨a, b⟩ := firstWaiting_some f
        exact rs_giveValue a (waits_one b) h1
  · rw [if_neg c]; exact h
theorem rs_giveBack {τ : Sg} {r : Option Nat} {t : Nat} {w : Int32} (h : RS τ r) : RS (m_giveBack τ t w) r := by
  unfold m_giveBack
  by_cases c : τ (t + 6) 14 = 0
  · rw [if_pos c]; exact h
  · rw [if_neg c]; exact rs_giveBackC (rs_giveBackL h)
theorem rs_endLoop {r : Option Nat} {x p0 : Int32} : ∀ (n : Nat) (τ : Sg), RS τ r → RS (m_endLoop x p0 n τ) r := by
  intro n
  induction n with
  | zero => intro τ h; exact h
  | succ n ih =>
    intro τ h
    unfold m_endLoop
    cases e : m_firstInVain τ x p0 with
    | none => exact h
    | some q =>
      obtain ⟨a, b⟩ := firstInVain_some e
      dsimp only
      refine ih _ ((h.up (by omega) (by omega) (by omega)).mr a ?_)
      rw [up2_o (by omega)]
      exact one_ne (fic_one b)
theorem rs_putEnd {τ : Sg} {r : Option Nat} {x : Int32} (h : RS τ r) : RS (m_putEnd τ x) r := by
  unfold m_putEnd
  cases e : m_at x 2 with
  | none => exact h
  | some k =>
    have hk := m_at_lt e (by decide)
    exact rs_endLoop 24 _ (h.up (by omega) (by omega) (by omega))
/-- those that were not made aren't READY -/
def FreshT (τ : Sg) : Prop := ∀ i, m_at (τ 0 1) 24 = some i → τ (i + 6) 3 ≠ 0
theorem rs_makeTask {τ : Sg} {r : Option Nat} {b x : Int32} (hf : FreshT τ) (h : RS τ r) : RS (m_makeTaskW τ b x) r := by
  unfold m_makeTaskW
  cases e : m_at (τ 0 1) 24 with
  | none => exact h
  | some i =>
    have hi := m_at_lt e (by decide)
    dsimp only
    refine (((h.up (by omega) (by omega) (by omega)).up (by omega) (by omega) (by omega)).up (by omega) (by omega) (by omega)).mr hi ?_
    rw [up2_o (by omega), up2_o (by omega), up2_o (by omega)]
    exact hf i e
