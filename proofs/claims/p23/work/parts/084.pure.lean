/-! WHAT A STEP DOES TO THE SCOPES: nothing, but that one not CANCELLED may be CANCELLED. κ is the one it doesn't speak of. -/
def SC (τ σ : Sg) (κ : Nat) : Prop := ∀ k, k < 40 → k ≠ κ → (∀ b, b ≠ 5 → σ (k + 54) b = τ (k + 54) b) ∧ (σ (k + 54) 5 = τ (k + 54) 5 ∨ (τ (k + 54) 5 = 0 ∧ σ (k + 54) 5 = 1))
theorem SC.refl (τ : Sg) (κ : Nat) : SC τ τ κ := fun k _ _ => ⟨fun _ _ => rfl, Or.inl rfl⟩
theorem SC.trans {τ σ ρ : Sg} {κ : Nat} (h1 : SC τ σ κ) (h2 : SC σ ρ κ) : SC τ ρ κ := fun k hk hn => by
  obtain ⟨a1, a2⟩ := h1 k hk hn
  obtain ⟨b1, b2⟩ := h2 k hk hn
  refine ⟨fun b hb => by rw [b1 b hb, a1 b hb], ?_⟩
  rcases a2 with a | ⟨a, c⟩
  · rcases b2 with b | ⟨b, d⟩
    · exact Or.inl (by rw [b, a])
    · exact Or.inr ⟨by rw [← a]; exact b, d⟩
  · rcases b2 with b | ⟨b, d⟩
    · exact Or.inr ⟨a, by rw [b]; exact c⟩
    · rw [c] at b; exact absurd b (by decide)
theorem SC.cell {τ σ : Sg} {κ : Nat} (h : ∀ k, k < 40 → k ≠ κ → ∀ b, σ (k + 54) b = τ (k + 54) b) : SC τ σ κ := fun k hk hn => ⟨fun b _ => h k hk hn b, Or.inl (h k hk hn 5)⟩
theorem SC.up {τ σ : Sg} {κ a j : Nat} {v : Int32} (h : SC τ σ κ) (ha : ∀ k, k < 40 → k ≠ κ → k + 54 ≠ a) : SC τ (up2 σ a j v) κ := h.trans (SC.cell (fun k hk hn b => up2_a (ha k hk hn) b))
theorem SC.mr {τ σ : Sg} {κ i : Nat} (h : SC τ σ κ) (hi : i < 24) : SC τ (m_makeReady σ i) κ := h.trans (SC.cell (fun k hk _ b => mr_other (by omega) (by omega) (by omega)))
theorem sc_cancel {τ : Sg} {κ k : Nat} : SC τ (m_cancelScope τ k) κ := fun q hq hn => by
  refine ⟨fun b hb => cancelScope_other (by omega) (by omega) (by omega) (by omega), ?_⟩
  by_cases e : q = k
  · subst e
    unfold m_cancelScope
    by_cases c1 : m_isLive τ q = true
    · rw [if_pos c1]
      by_cases c2 : τ (q + 54) 5 = 0
      · rw [if_pos c2, wake_other 24 0 _ _ _ rfl (by omega) (by omega) (by omega), up2_same]; exact Or.inr ⟨c2, rfl⟩
      · rw [if_neg c2]; exact Or.inl rfl
    · rw [if_neg c1]; exact Or.inl rfl
  · exact Or.inl (cancelScope_other (by omega) (by omega) (by omega) (by omega))
theorem sc_giveTo {τ : Sg} {κ k p : Nat} (hk : k < 2) : SC τ (m_giveTo τ k p) κ := SC.cell (fun q h1 _ b => giveTo_other (by omega))
theorem sc_freeLock {τ : Sg} {κ k : Nat} (hk : k < 2) : SC τ (m_freeLock τ k) κ := by
  have h1 : SC τ (up2 τ (k + 94) 1 (-1)) κ := (SC.refl τ κ).up (by omega)
  unfold m_freeLock
  dsimp only
  cases e : m_firstWaiting (up2 τ (k + 94) 1 (-1)) 2 (nI k) with
  | none => exact h1
  | some p =>
    have hp := (firstWaiting_some e).1
    exact ((h1.trans (sc_giveTo hk)).up (by omega)).mr hp
theorem sc_giveValue {τ : Sg} {κ p : Nat} {x v : Int32} (hp : p < 24) : SC τ (m_giveValue τ p x v) κ := by
  unfold m_giveValue
  cases e : m_at x 2 with
  | none => exact SC.refl τ κ
  | some k =>
    have hk := m_at_lt e (by decide)
    dsimp only
    exact (((((SC.refl τ κ).up (by omega)).up (by omega)).up (by omega)).up (by omega)).mr hp
theorem sc_dropFirst {τ : Sg} {κ k : Nat} (hk : k < 2) : SC τ (m_dropFirst τ k) κ := SC.cell (fun q h1 _ b => dropFirst_other (by omega) (by omega))
theorem sc_addLast {τ : Sg} {κ k : Nat} {v : Int32} (hk : k < 2) : SC τ (m_addLast τ k v) κ := SC.cell (fun q h1 _ b => addLast_other (by omega) (by omega))
theorem sc_addFirst {τ : Sg} {κ k : Nat} {v : Int32} (hk : k < 2) : SC τ (m_addFirst τ k v) κ := SC.cell (fun q h1 _ b => addFirst_other (by omega) (by omega))
theorem sc_takeValue {τ : Sg} {κ : Nat} {x : Int32} : SC τ (m_takeValueW τ x) κ := by
  unfold m_takeValueW
  cases e : m_at x 2 with
  | none => exact SC.refl τ κ
  | some k =>
    have hk := m_at_lt e (by decide)
    dsimp only
    cases f : m_firstWaiting τ 3 x with
    | none => exact (sc_dropFirst hk).up (by omega)
    | some q =>
      have hq := (firstWaiting_some f).1
      dsimp only
      refine SC.up ?_ (by omega)
      by_cases c : τ (k + 96) 2 = 0
      · rw [if_pos c]; exact (SC.refl τ κ).mr hq
      · rw [if_neg c]; exact ((sc_dropFirst hk).trans (sc_addLast hk)).mr hq
theorem sc_giveBack {τ : Sg} {κ p : Nat} {w : Int32} : SC τ (m_giveBack τ p w) κ := by
  unfold m_giveBack
  by_cases c : τ (p + 6) 14 = 0
  · rw [if_pos c]; exact SC.refl τ κ
  · rw [if_neg c]
    have h1 : SC τ (m_giveBackL τ p w) κ := by
      unfold m_giveBackL
      by_cases c : w = 2
      · rw [if_pos c]
        cases e : m_at (τ (p + 6) 10) 2 with
        | none => exact SC.refl τ κ
        | some k => exact sc_freeLock (m_at_lt e (by decide))
      · rw [if_neg c]; exact SC.refl τ κ
    refine h1.trans ?_
    generalize m_giveBackL τ p w = σ
    unfold m_giveBackC
    by_cases c : w = 4
    · rw [if_pos c]
      cases e : m_at (σ (p + 6) 10) 2 with
      | none => exact SC.refl σ κ
      | some k =>
        have hk := m_at_lt e (by decide)
        have h2 : SC σ (up2 σ (k + 96) 4 (σ (k + 96) 4 - 1)) κ := (SC.refl σ κ).up (by omega)
        dsimp only
        cases f : m_firstWaiting (up2 σ (k + 96) 4 (σ (k + 96) 4 - 1)) 4 (up2 σ (k + 96) 4 (σ (k + 96) 4 - 1) (p + 6) 10) with
        | none => exact h2.trans (sc_addFirst hk)
        | some q => exact h2.trans (sc_giveValue (firstWaiting_some f).1)
    · rw [if_neg c]; exact SC.refl σ κ
theorem sc_endLoop {x p0 : Int32} {κ : Nat} : ∀ (n : Nat) (τ : Sg), SC τ (m_endLoop x p0 n τ) κ := by
  intro n
  induction n with
  | zero => intro τ; exact SC.refl τ κ
  | succ n ih =>
    intro τ
    unfold m_endLoop
    cases e : m_firstInVain τ x p0 with
    | none => exact SC.refl τ κ
    | some q =>
      have hq := (firstInVain_some e).1
      dsimp only
      exact SC.trans (((SC.refl τ κ).up (by omega)).mr hq) (ih _)
theorem sc_putEnd {τ : Sg} {κ : Nat} {x : Int32} : SC τ (m_putEnd τ x) κ := by
  unfold m_putEnd
  cases e : m_at x 2 with
  | none => exact SC.refl τ κ
  | some k =>
    have hk := m_at_lt e (by decide)
    exact ((SC.refl τ κ).up (by omega)).trans (sc_endLoop 24 _)
theorem sc_makeTask {τ : Sg} {κ : Nat} {b x : Int32} : SC τ (m_makeTaskW τ b x) κ := by
  unfold m_makeTaskW
  cases e : m_at (τ 0 1) 24 with
  | none => exact SC.refl τ κ
  | some p =>
    have hp := m_at_lt e (by decide)
    exact ((((SC.refl τ κ).up (by omega)).up (by omega)).up (by omega)).mr hp
theorem sc_tickS {κ : Nat} : ∀ (n j : Nat) (τ : Sg), SC τ (m_tickScopes n j τ) κ := by
  intro n
  induction n with
  | zero => intro j τ; exact SC.refl τ κ
  | succ n ih =>
    intro j τ
    show SC τ (m_tickScopes n (j + 1) _) κ
    refine SC.trans ?_ (ih (j + 1) _)
    by_cases c1 : m_isLive τ j = true
    · rw [if_pos c1]
      by_cases c2 : τ (j + 54) 7 = τ 0 8
      · rw [if_pos c2]; exact sc_cancel
      · rw [if_neg c2]; exact SC.refl τ κ
    · rw [if_neg c1]; exact SC.refl τ κ
theorem sc_tickT {κ : Nat} : ∀ (n j : Nat) (τ : Sg), n + j = 24 → SC τ (m_tickTasks n j τ) κ := by
  intro n
  induction n with
  | zero => intro j τ _; exact SC.refl τ κ
  | succ n ih =>
    intro j τ hn
    show SC τ (m_tickTasks n (j + 1) _) κ
    refine SC.trans ?_ (ih (j + 1) _ (by omega))
    by_cases c1 : m_waitsAt τ j 1 = true
    · rw [if_pos c1]
      by_cases c2 : τ (j + 6) 12 = τ 0 8
      · rw [if_pos c2]; exact (SC.refl τ κ).mr (by omega)
      · rw [if_neg c2]; exact SC.refl τ κ
    · rw [if_neg c1]; exact SC.refl τ κ
theorem sc_tick {τ : Sg} {κ : Nat} : SC τ (m_tickOnceW τ) κ := (((SC.refl τ κ).up (by omega)).trans (sc_tickS 40 0 _)).trans (sc_tickT 24 0 _ rfl)
theorem sc_takeReady {τ : Sg} {κ : Nat} : SC τ (m_takeReadyW τ) κ := by
  unfold m_takeReadyW
  by_cases c : ¬ 0 < τ 0 7
  · rw [if_pos c]; exact SC.refl τ κ
  · rw [if_neg c]
    refine SC.up (SC.cell (fun q _ _ b => ?_)) (by omega)
    rw [shift_other 24 0 τ _ (by omega)]
theorem sc_next {τ : Sg} {i κ : Nat} (hi : i < 24) : SC τ (m_next τ i) κ := (SC.refl τ κ).up (by omega)
theorem sc_putLocal {τ : Sg} {i κ : Nat} {p v : Int32} (hi : i < 24) : SC τ (m_putLocal τ i p v) κ := by
  unfold m_putLocal
  by_cases c1 : p < 0
  · rw [if_pos c1]; exact SC.refl τ κ
  · rw [if_neg c1]
    by_cases c2 : 4 ≤ p
    · rw [if_pos c2]; exact SC.refl τ κ
    · rw [if_neg c2]; exact (SC.refl τ κ).up (by omega)
theorem sc_bw {τ : Sg} {i κ : Nat} {w x : Int32} (hi : i < 24) : SC τ (m_beginWait τ i w x) κ := SC.cell (fun q _ _ b => bw_other (by omega) (by omega))
