/-! THE SAME, STRONGER: who is made READY didn't WAIT for a SCOPE (so nothing but the closing of a SCOPE wakes one that does) -/
theorem waits_n5 {τ : Sg} {i : Nat} {w x : Int32} (h : m_waitsFor τ i w x = true) (hw : w ≠ 5) : τ (i + 6) 9 ≠ 5 := by rw [(waitsFor_iff.mp h).2.1]; exact hw
theorem fic_n5 {τ : Sg} {i : Nat} {x p0 : Int32} (h : m_fic τ i x p0 = true) : τ (i + 6) 9 ≠ 5 := by
  unfold m_fic at h
  by_cases c : τ (i + 6) 3 = 1
  · rw [if_pos c] at h
    by_cases d : τ (i + 6) 9 = 3
    · rw [d]; decide
    · rw [if_neg d] at h
      by_cases e : τ (i + 6) 9 = 4
      · rw [e]; decide
      · rw [if_neg e] at h; cases h
  · rw [if_neg c] at h; cases h
def T5 (τ σ : Sg) (i t : Nat) : Prop := ∀ q, q < 24 → q ≠ i → q ≠ t → (∀ b, σ (q + 6) b = τ (q + 6) b) ∨ (τ (q + 6) 3 = 1 ∧ σ (q + 6) 3 = 0 ∧ τ (q + 6) 9 ≠ 5 ∧ ∀ b, b ≠ 3 → b ≠ 10 → b ≠ 13 → b ≠ 14 → b ≠ 15 → σ (q + 6) b = τ (q + 6) b)
theorem T5.refl (τ : Sg) (i t : Nat) : T5 τ τ i t := fun q _ _ _ => Or.inl (fun _ => rfl)
theorem T5.trans {τ σ ρ : Sg} {i t : Nat} (h1 : T5 τ σ i t) (h2 : T5 σ ρ i t) : T5 τ ρ i t := fun q hq h3 h4 => by
  rcases h1 q hq h3 h4 with a | ⟨a1, a2, a9, a3⟩
  · rcases h2 q hq h3 h4 with b | ⟨b1, b2, b9, b3⟩
    · exact Or.inl (fun x => by rw [b x, a x])
    · exact Or.inr ⟨by rw [← a 3]; exact b1, b2, by rw [← a 9]; exact b9, fun x x1 x2 x3 x4 x5 => by rw [b3 x x1 x2 x3 x4 x5, a x]⟩
  · rcases h2 q hq h3 h4 with b | ⟨b1, b2, b9, b3⟩
    · exact Or.inr ⟨a1, by rw [b 3]; exact a2, a9, fun x x1 x2 x3 x4 x5 => by rw [b x, a3 x x1 x2 x3 x4 x5]⟩
    · rw [a2] at b1; exact absurd b1 (by decide)
theorem T5.cell {τ σ : Sg} {i t : Nat} (h : ∀ q, q < 24 → q ≠ i → q ≠ t → ∀ b, σ (q + 6) b = τ (q + 6) b) : T5 τ σ i t := fun q h1 h2 h3 => Or.inl (h q h1 h2 h3)
theorem T5.up {τ σ : Sg} {i t k j : Nat} {v : Int32} (h : T5 τ σ i t) (hk : ∀ q, q < 24 → q ≠ i → q ≠ t → q + 6 ≠ k) : T5 τ (up2 σ k j v) i t := h.trans (T5.cell (fun q h1 h2 h3 b => up2_a (hk q h1 h2 h3) b))
/-- one that WAITS is made READY -/
theorem T5.wk {τ σ : Sg} {i t q : Nat} (hq : q < 24) (h1 : τ (q + 6) 3 = 1) (h9 : τ (q + 6) 9 ≠ 5) (hf : ∀ b, b ≠ 3 → b ≠ 10 → b ≠ 13 → b ≠ 14 → b ≠ 15 → σ (q + 6) b = τ (q + 6) b) (ho : ∀ p, p < 24 → p ≠ i → p ≠ t → p ≠ q → ∀ b, σ (p + 6) b = τ (p + 6) b) : T5 τ (m_makeReady σ q) i t := fun p hp h2 h3 => by
  by_cases e : p = q
  · subst e
    exact Or.inr ⟨h1, mr_0 σ p, h9, fun b b1 b2 b3 b4 b5 => by rw [mr_other (by omega) (by omega) (by omega)]; exact hf b b1 b2 b3 b4 b5⟩
  · exact Or.inl (fun b => by rw [mr_other (by omega) (by omega) (by omega)]; exact ho p hp h2 h3 e b)
theorem T5.wk0 {τ : Sg} {i t q : Nat} (hq : q < 24) (h1 : τ (q + 6) 3 = 1) (h9 : τ (q + 6) 9 ≠ 5) : T5 τ (m_makeReady τ q) i t := T5.wk hq h1 h9 (fun _ _ _ _ _ _ => rfl) (fun _ _ _ _ _ _ => rfl)
theorem t5_wake {i t : Nat} : ∀ (n j : Nat) (τ : Sg), n + j = 24 → T5 τ (m_wakeHit n j τ) i t := by
  intro n
  induction n with
  | zero => intro j τ _; exact T5.refl τ i t
  | succ n ih =>
    intro j τ hn
    show T5 τ (m_wakeHit n (j + 1) _) i t
    refine T5.trans ?_ (ih (j + 1) _ (by omega))
    by_cases c1 : τ (j + 6) 3 = 1
    · rw [if_pos c1]
      by_cases c2 : τ (j + 6) 9 = 5
      · rw [if_pos c2]; exact T5.refl τ i t
      · rw [if_neg c2]
        by_cases c3 : m_isHit τ j (-1) = true
        · rw [if_pos c3]; exact T5.wk0 (by omega) c1 c2
        · rw [if_neg c3]; exact T5.refl τ i t
    · rw [if_neg c1]; exact T5.refl τ i t
theorem t5_cancel {τ : Sg} {i t k : Nat} : T5 τ (m_cancelScope τ k) i t := by
  unfold m_cancelScope
  by_cases c1 : m_isLive τ k = true
  · rw [if_pos c1]
    by_cases c2 : τ (k + 54) 5 = 0
    · rw [if_pos c2]; exact ((T5.refl τ i t).up (by omega)).trans (t5_wake 24 0 _ rfl)
    · rw [if_neg c2]; exact T5.refl τ i t
  · rw [if_neg c1]; exact T5.refl τ i t
theorem t5_giveTo {τ : Sg} {i t k p : Nat} : T5 τ (m_giveTo τ k p) i t := T5.cell (fun q h1 _ _ b => giveTo_other (by omega))
theorem t5_freeLock {τ : Sg} {i t k : Nat} : T5 τ (m_freeLock τ k) i t := by
  have h1 : T5 τ (up2 τ (k + 94) 1 (-1)) i t := (T5.refl τ i t).up (by omega)
  unfold m_freeLock
  dsimp only
  cases e : m_firstWaiting (up2 τ (k + 94) 1 (-1)) 2 (nI k) with
  | none => exact h1
  | some p =>
    obtain ⟨a, b⟩ := firstWaiting_some e
    refine h1.trans (T5.wk a (waits_one b) (waits_n5 b (by decide)) (fun b b1 b2 b3 b4 b5 => ?_) (fun q hq _ _ hn b => ?_))
    · rw [up2_o (by omega), giveTo_other (by omega)]
    · rw [up2_o (by omega), giveTo_other (by omega)]
theorem t5_giveValue {τ : Sg} {i t p : Nat} {x v : Int32} (hp : p < 24) (hs : τ (p + 6) 3 = 1) (h9 : τ (p + 6) 9 ≠ 5) : T5 τ (m_giveValue τ p x v) i t := by
  unfold m_giveValue
  cases e : m_at x 2 with
  | none => exact T5.refl τ i t
  | some k =>
    have hk := m_at_lt e (by decide)
    dsimp only
    refine T5.wk hp hs h9 (fun b b1 b2 b3 b4 b5 => ?_) (fun q hq _ _ hn b => ?_)
    · rw [up2_o (by omega), up2_o (by omega), up2_o (by omega), up2_o (by omega)]
    · rw [up2_o (by omega), up2_o (by omega), up2_o (by omega), up2_o (by omega)]
theorem t5_dropFirst {τ : Sg} {i t k : Nat} : T5 τ (m_dropFirst τ k) i t := T5.cell (fun q h1 _ _ b => dropFirst_other (by omega) (by omega))
theorem t5_addLast {τ : Sg} {i t k : Nat} {v : Int32} : T5 τ (m_addLast τ k v) i t := T5.cell (fun q h1 _ _ b => addLast_other (by omega) (by omega))
theorem t5_addFirst {τ : Sg} {i t k : Nat} {v : Int32} : T5 τ (m_addFirst τ k v) i t := T5.cell (fun q h1 _ _ b => addFirst_other (by omega) (by omega))
theorem t5_takeValue {τ : Sg} {i t : Nat} {x : Int32} : T5 τ (m_takeValueW τ x) i t := by
  unfold m_takeValueW
  cases e : m_at x 2 with
  | none => exact T5.refl τ i t
  | some k =>
    have hk := m_at_lt e (by decide)
    dsimp only
    cases f : m_firstWaiting τ 3 x with
    | none => exact t5_dropFirst.up (by omega)
    | some q =>
      obtain ⟨a, b⟩ := firstWaiting_some f
      have b1 := waits_one b
      dsimp only
      refine T5.up ?_ (by omega)
      by_cases c : τ (k + 96) 2 = 0
      · rw [if_pos c]; exact T5.wk0 a b1 (waits_n5 b (by decide))
      · rw [if_neg c]
        refine (t5_dropFirst.trans t5_addLast).trans (T5.wk0 a ?_ ?_)
        · rw [addLast_other (by omega) (by omega), dropFirst_other (by omega) (by omega)]; exact b1
        · rw [addLast_other (by omega) (by omega), dropFirst_other (by omega) (by omega)]; exact waits_n5 b (by decide)
theorem t5_giveBack {τ : Sg} {i t p : Nat} {w : Int32} : T5 τ (m_giveBack τ p w) i t := by
  unfold m_giveBack
  by_cases c : τ (p + 6) 14 = 0
  · rw [if_pos c]; exact T5.refl τ i t
  · rw [if_neg c]
    have h1 : T5 τ (m_giveBackL τ p w) i t := by
      unfold m_giveBackL
      by_cases c : w = 2
      · rw [if_pos c]
        cases e : m_at (τ (p + 6) 10) 2 with
        | none => exact T5.refl τ i t
        | some k => exact t5_freeLock
      · rw [if_neg c]; exact T5.refl τ i t
    refine h1.trans ?_
    generalize m_giveBackL τ p w = σ
    unfold m_giveBackC
    by_cases c : w = 4
    · rw [if_pos c]
      cases e : m_at (σ (p + 6) 10) 2 with
      | none => exact T5.refl σ i t
      | some k =>
        have hk := m_at_lt e (by decide)
        have h2 : T5 σ (up2 σ (k + 96) 4 (σ (k + 96) 4 - 1)) i t := (T5.refl σ i t).up (by omega)
        dsimp only
        cases f : m_firstWaiting (up2 σ (k + 96) 4 (σ (k + 96) 4 - 1)) 4 (up2 σ (k + 96) 4 (σ (k + 96) 4 - 1) (p + 6) 10) with
        | none => exact h2.trans t5_addFirst
        | some q =>
          obtain ⟨a, b⟩ := firstWaiting_some f
          exact h2.trans (t5_giveValue a (waits_one b) (waits_n5 b (by decide)))
    · rw [if_neg c]; exact T5.refl σ i t
theorem t5_endLoop {x p0 : Int32} {i t : Nat} : ∀ (n : Nat) (τ : Sg), T5 τ (m_endLoop x p0 n τ) i t := by
  intro n
  induction n with
  | zero => intro τ; exact T5.refl τ i t
  | succ n ih =>
    intro τ
    unfold m_endLoop
    cases e : m_firstInVain τ x p0 with
    | none => exact T5.refl τ i t
    | some q =>
      obtain ⟨a, b⟩ := firstInVain_some e
      dsimp only
      refine T5.trans (T5.wk a (fic_one b) (fic_n5 b) (fun b b1 b2 b3 b4 b5 => ?_) (fun p hp _ _ hn b => ?_)) (ih _)
      · rw [up2_o (by omega)]
      · rw [up2_o (by omega)]
theorem t5_putEnd {τ : Sg} {i t : Nat} {x : Int32} : T5 τ (m_putEnd τ x) i t := by
  unfold m_putEnd
  cases e : m_at x 2 with
  | none => exact T5.refl τ i t
  | some k =>
    have hk := m_at_lt e (by decide)
    exact ((T5.refl τ i t).up (by omega)).trans (t5_endLoop 24 _)
/-- a new TASK: just the one of the number T -/
theorem t5_makeTask {τ : Sg} {i t : Nat} {b x : Int32} (ht : τ 0 1 = nI t) (h24 : t ≤ 24) : T5 τ (m_makeTaskW τ b x) i t := by
  unfold m_makeTaskW
  cases e : m_at (τ 0 1) 24 with
  | none => exact T5.refl τ i t
  | some p =>
    have hp : p = t := by
      rw [ht] at e
      by_cases c : t < 24
      · rw [m_at_nI c (by decide)] at e; cases e; rfl
      · unfold m_at at e
        have : t = 24 := by omega
        subst this
        rw [if_neg (nI_pos (by decide)), if_pos ((nI_leI (by decide) (by decide)).mpr (Nat.le_refl 24))] at e
        cases e
    subst hp
    dsimp only
    refine T5.cell (fun q hq _ hn b => ?_)
    rw [mr_other (by omega) (by omega) (by omega), up2_o (by omega), up2_o (by omega), up2_o (by omega)]
-- TIME
theorem t5_tickS {i t : Nat} : ∀ (n j : Nat) (τ : Sg), T5 τ (m_tickScopes n j τ) i t := by
  intro n
  induction n with
  | zero => intro j τ; exact T5.refl τ i t
  | succ n ih =>
    intro j τ
    show T5 τ (m_tickScopes n (j + 1) _) i t
    refine T5.trans ?_ (ih (j + 1) _)
    by_cases c1 : m_isLive τ j = true
    · rw [if_pos c1]
      by_cases c2 : τ (j + 54) 7 = τ 0 8
      · rw [if_pos c2]; exact t5_cancel
      · rw [if_neg c2]; exact T5.refl τ i t
    · rw [if_neg c1]; exact T5.refl τ i t
theorem t5_tickT {i t : Nat} : ∀ (n j : Nat) (τ : Sg), n + j = 24 → T5 τ (m_tickTasks n j τ) i t := by
  intro n
  induction n with
  | zero => intro j τ _; exact T5.refl τ i t
  | succ n ih =>
    intro j τ hn
    show T5 τ (m_tickTasks n (j + 1) _) i t
    refine T5.trans ?_ (ih (j + 1) _ (by omega))
    by_cases c1 : m_waitsAt τ j 1 = true
    · rw [if_pos c1]
      by_cases c2 : τ (j + 6) 12 = τ 0 8
      · rw [if_pos c2]; exact T5.wk0 (by omega) (waitsAt_iff.mp c1).1 (by rw [(waitsAt_iff.mp c1).2]; decide)
      · rw [if_neg c2]; exact T5.refl τ i t
    · rw [if_neg c1]; exact T5.refl τ i t
theorem t5_tick {τ : Sg} {i t : Nat} : T5 τ (m_tickOnceW τ) i t := (((T5.refl τ i t).up (by omega)).trans (t5_tickS 40 0 _)).trans (t5_tickT 24 0 _ rfl)
theorem t5_takeReady {τ : Sg} {i t : Nat} : T5 τ (m_takeReadyW τ) i t := by
  unfold m_takeReadyW
  by_cases c : ¬ 0 < τ 0 7
  · rw [if_pos c]; exact T5.refl τ i t
  · rw [if_neg c]
    refine T5.up (T5.cell (fun q _ _ _ b => ?_)) (by omega)
    rw [shift_other 24 0 τ _ (by omega)]
