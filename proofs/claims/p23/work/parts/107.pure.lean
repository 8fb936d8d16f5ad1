/-! CELLS that nothing touches: behind the Runner's (laid from the flags' text) -/
def inC (a b : Nat) : Prop := 100 < a ∨ (a = 100 ∧ b ≠ 2)
def CP (c0 τ : Sg) : Prop := ∀ a b, inC a b → τ a b = c0 a b
def CW (c0 : Sg) (p : Sg × Int32) : Prop := CP c0 p.1 ∧ bnF p.2
section CELLS
variable {c0 : Sg}
theorem CP.fl {τ : Sg} {k j : Nat} {v : Int32} (h : CP c0 τ) (hv : ¬ inC k j) : CP c0 (up2 τ k j v) := fun a b hab => by
  rw [up2_o (fun e => hv (by rw [← e.1, ← e.2]; exact hab))]; exact h a b hab
theorem CP.keep {τ σ : Sg} (h : CP c0 τ) (he : ∀ a b, inC a b → σ a b = τ a b) : CP c0 σ := fun a b hab => by rw [he a b hab]; exact h a b hab
theorem CP.mr {τ : Sg} {i : Nat} (h : CP c0 τ) (hi : i < 24) : CP c0 (m_makeReady τ i) := h.keep (fun a b hab => by
  unfold inC at hab
  exact mr_other (by omega) (by omega) (by omega))
theorem cp_cancel {τ : Sg} {k : Nat} (hk : k < 40) (h : CP c0 τ) : CP c0 (m_cancelScope τ k) := by
  unfold m_cancelScope
  by_cases c1 : m_isLive τ k = true
  · rw [if_pos c1]
    by_cases c2 : τ (k + 54) 5 = 0
    · rw [if_pos c2]
      exact (h.fl (k := k + 54) (j := 5) (v := 1) (by unfold inC; omega)).keep (fun a b hab => by unfold inC at hab; exact wake_other 24 0 _ a b rfl (by omega) (by omega) (by omega))
    · rw [if_neg c2]; exact h
  · rw [if_neg c1]; exact h
theorem cp_giveTo {τ : Sg} {k t : Nat} (hk : k < 2) (h : CP c0 τ) : CP c0 (m_giveTo τ k t) := h.keep (fun a b hab => by
  unfold inC at hab
  exact giveTo_other (by omega))
theorem cp_freeLock {τ : Sg} {k : Nat} (hk : k < 2) (h : CP c0 τ) : CP c0 (m_freeLock τ k) := by
  have h1 : CP c0 (up2 τ (k + 94) 1 (-1)) := h.fl (by unfold inC; omega)
  unfold m_freeLock
  dsimp only
  cases e : m_firstWaiting (up2 τ (k + 94) 1 (-1)) 2 (nI k) with
  | none => exact h1
  | some t =>
    have ht := (firstWaiting_some e).1
    exact ((cp_giveTo hk h1).fl (by unfold inC; omega)).mr ht
theorem cp_giveValue {τ : Sg} {t : Nat} {x v : Int32} (ht : t < 24) (hv : bnF v) (h : CP c0 τ) : CP c0 (m_giveValue τ t x v) := by
  unfold m_giveValue
  cases e : m_at x 2 with
  | none => exact h
  | some k =>
    have hk := m_at_lt e (by decide)
    dsimp only
    exact ((((h.fl (by unfold inC; omega)).fl (by unfold inC; omega)).fl (by unfold inC; omega)).fl (by unfold inC; omega)).mr ht
theorem cp_dshift (i : Nat) (hi : i < 2) : ∀ (n j : Nat) (τ : Sg), CP c0 τ → CP c0 (m_dshift i n j τ) := by
  intro n
  induction n with
  | zero => intro j τ h; exact h
  | succ n ih =>
    intro j τ h
    unfold m_dshift
    by_cases c1 : τ (i + 96) 2 ≤ nI (j + 1)
    · rw [if_pos c1]; exact h
    · rw [if_neg c1]
      by_cases c2 : 27 ≤ nI (j + 1)
      · rw [if_pos c2]; exact h
      · rw [if_neg c2]; exact ih (j + 1) _ (h.fl (by unfold inC; omega))
theorem cp_ushift (i : Nat) (hi : i < 2) : ∀ (n : Nat) (τ : Sg), CP c0 τ → CP c0 (m_ushift i n τ) := by
  intro n
  induction n with
  | zero => intro τ h; exact h
  | succ n ih =>
    intro τ h
    unfold m_ushift
    exact ih _ (h.fl (by unfold inC; omega))
theorem cp_dropFirst {τ : Sg} {k : Nat} (hk : k < 2) (h : CP c0 τ) : CP c0 (m_dropFirst τ k) := by
  unfold m_dropFirst
  exact (cp_dshift k hk 27 0 τ h).fl (by unfold inC; omega)
theorem cp_addLast {τ : Sg} {k : Nat} {v : Int32} (hk : k < 2) (hv : bnF v) (h : CP c0 τ) : CP c0 (m_addLast τ k v) := by
  unfold m_addLast
  by_cases c1 : τ (k + 96) 2 < 0
  · rw [if_pos c1]; exact h
  · rw [if_neg c1]
    by_cases c2 : 27 ≤ τ (k + 96) 2
    · rw [if_pos c2]; exact h
    · rw [if_neg c2]; exact (h.fl (by unfold inC; omega)).fl (by unfold inC; omega)
theorem cp_addFirst {τ : Sg} {k : Nat} {v : Int32} (hk : k < 2) (hv : bnF v) (h : CP c0 τ) : CP c0 (m_addFirst τ k v) := by
  unfold m_addFirst
  by_cases c1 : τ (k + 96) 2 < 0
  · rw [if_pos c1]; exact h
  · rw [if_neg c1]
    by_cases c2 : τ (k + 96) 2 < 27
    · rw [if_pos c2]; exact ((cp_ushift k hk _ τ h).fl (by unfold inC; omega)).fl (by unfold inC; omega)
    · rw [if_neg c2]; exact h
theorem cp_takeValue {τ : Sg} {x : Int32} (h : CP c0 τ) : CP c0 (m_takeValueW τ x) ∧ bnF (m_takeValue τ x) := by
  unfold m_takeValueW m_takeValue
  cases e : m_at x 2 with
  | none => exact ⟨h, (by decide : bnF 0)⟩
  | some k =>
    have hk := m_at_lt e (by decide)
    dsimp only
    cases f : m_firstWaiting τ 3 x with
    | none => exact ⟨(cp_dropFirst hk h).fl (by unfold inC; omega), trivial⟩
    | some q =>
      have hq := (firstWaiting_some f).1
      dsimp only
      refine ⟨CP.fl ?_ (by unfold inC; omega), ?_⟩
      · by_cases c : τ (k + 96) 2 = 0
        · rw [if_pos c]; exact h.mr hq
        · rw [if_neg c]
          exact (cp_addLast hk trivial (cp_dropFirst hk h)).mr hq
      · by_cases c : τ (k + 96) 2 = 0
        · rw [if_pos c]; exact trivial
        · rw [if_neg c]; exact trivial
theorem cp_giveBack {τ : Sg} {t : Nat} {w : Int32} (ht : t < 24) (h : CP c0 τ) : CP c0 (m_giveBack τ t w) := by
  unfold m_giveBack
  by_cases c : τ (t + 6) 14 = 0
  · rw [if_pos c]; exact h
  · rw [if_neg c]
    have h1 : CP c0 (m_giveBackL τ t w) := by
      unfold m_giveBackL
      by_cases c : w = 2
      · rw [if_pos c]
        cases e : m_at (τ (t + 6) 10) 2 with
        | none => exact h
        | some k => exact cp_freeLock (m_at_lt e (by decide)) h
      · rw [if_neg c]; exact h
    revert h1
    generalize m_giveBackL τ t w = σ
    intro h1
    unfold m_giveBackC
    by_cases c : w = 4
    · rw [if_pos c]
      cases e : m_at (σ (t + 6) 10) 2 with
      | none => exact h1
      | some k =>
        have hk := m_at_lt e (by decide)
        have h2 : CP c0 (up2 σ (k + 96) 4 (σ (k + 96) 4 - 1)) := h1.fl (by unfold inC; omega)
        dsimp only
        cases f : m_firstWaiting (up2 σ (k + 96) 4 (σ (k + 96) 4 - 1)) 4 (up2 σ (k + 96) 4 (σ (k + 96) 4 - 1) (t + 6) 10) with
        | none => exact cp_addFirst hk trivial h2
        | some q => exact cp_giveValue (firstWaiting_some f).1 trivial h2
    · rw [if_neg c]; exact h1
theorem cp_endLoop {x p0 : Int32} : ∀ (n : Nat) (τ : Sg), CP c0 τ → CP c0 (m_endLoop x p0 n τ) := by
  intro n
  induction n with
  | zero => intro τ h; exact h
  | succ n ih =>
    intro τ h
    unfold m_endLoop
    cases e : m_firstInVain τ x p0 with
    | none => exact h
    | some q =>
      have hq := (firstInVain_some e).1
      dsimp only
      exact ih _ ((h.fl (by unfold inC; omega)).mr hq)
theorem cp_putEnd {τ : Sg} {x : Int32} (h : CP c0 τ) : CP c0 (m_putEnd τ x) := by
  unfold m_putEnd
  cases e : m_at x 2 with
  | none => exact h
  | some k =>
    have hk := m_at_lt e (by decide)
    exact cp_endLoop 24 _ (h.fl (by unfold inC; omega))
theorem cp_makeTask {τ : Sg} {b x : Int32} (h : CP c0 τ) : CP c0 (m_makeTaskW τ b x) ∧ bnF (m_makeTask τ) := by
  unfold m_makeTaskW m_makeTask
  cases e : m_at (τ 0 1) 24 with
  | none => exact ⟨h, (by decide : bnF (-1))⟩
  | some i =>
    have hi := m_at_lt e (by decide)
    exact ⟨(((h.fl (by unfold inC; omega)).fl (by unfold inC; omega)).fl (by unfold inC; omega)).mr hi, trivial⟩
theorem cp_next {τ : Sg} {i : Nat} (hi : i < 24) (h : CP c0 τ) : CP c0 (m_next τ i) := h.fl (by unfold inC; omega)
theorem cp_putLocal {τ : Sg} {i : Nat} {p v : Int32} (hi : i < 24) (hv : bnF v) (h : CP c0 τ) : CP c0 (m_putLocal τ i p v) := by
  unfold m_putLocal
  by_cases c1 : p < 0
  · rw [if_pos c1]; exact h
  · rw [if_neg c1]
    by_cases c2 : 4 ≤ p
    · rw [if_pos c2]; exact h
    · rw [if_neg c2]; exact h.fl (by unfold inC; omega)
theorem CW.mk {τ : Sg} {w : Int32} (h : CP c0 τ) (hw : bnF w) : CW c0 (τ, w) := ⟨h, hw⟩
theorem cp_bw {τ : Sg} {i : Nat} {w x : Int32} (hi : i < 24) (hx : bnF x) (h : CP c0 τ) : CP c0 (m_beginWait τ i w x) := by
  unfold m_beginWait
  exact (((((((h.fl (by unfold inC; omega)).fl (by unfold inC; omega)).fl (by unfold inC; omega)).fl (by unfold inC; omega)).fl (by unfold inC; omega)).fl (by unfold inC; omega)).fl (by unfold inC; omega)).fl (by unfold inC; omega)
theorem cp_loop {τ : Sg} {i : Nat} {a b : Int32} (hi : i < 24) (h : CP c0 τ) : CP c0 (m_loopR τ i a b) := by
  unfold m_loopR
  by_cases c : 0 < m_localAt τ i a
  · rw [if_pos c]; exact (cp_putLocal hi trivial h).fl (by unfold inC; omega)
  · rw [if_neg c]; exact cp_next hi h
theorem cp_skip {τ : Sg} {i : Nat} {b : Int32} (hi : i < 24) (h : CP c0 τ) : CP c0 (m_skip τ i b) := by
  unfold m_skip
  by_cases c : τ (i + 6) 5 ≤ 0
  · rw [if_pos c]; exact h.fl (by unfold inC; omega)
  · rw [if_neg c]; exact cp_next hi h
theorem cp_begin {τ : Sg} {k t : Nat} {s d l : Int32} (hk : k < 40) (h : CP c0 τ) : CP c0 (m_begin τ k t s d l) := by
  unfold m_begin
  exact ((((((h.fl (by unfold inC; omega)).fl (by unfold inC; omega)).fl (by unfold inC; omega)).fl (by unfold inC; omega)).fl (by unfold inC; omega)).fl (by unfold inC; omega)).fl (by unfold inC; omega)
theorem cp_opn {τ : Sg} {i : Nat} {s d l : Int32} (hi : i < 24) (h : CP c0 τ) : CW c0 (m_opn τ i s d l) := by
  unfold m_opn
  cases e : m_at (τ 0 3) 40 with
  | none => exact CW.mk (h) (by decide)
  | some k =>
    have hk := m_at_lt e (by decide)
    exact CW.mk (cp_next hi ((((cp_begin hk h).fl (by unfold inC; omega)).fl (by unfold inC; omega)).fl (by unfold inC; omega))) (by decide)
theorem cp_spawn {τ π : Sg} {i : Nat} {b : Int32} (hi : i < 24) (h : CP c0 τ) : CW c0 (m_spawn τ π i b) := by
  unfold m_spawn
  cases e : m_at (τ (i + 6) 7) 40 with
  | none => exact CW.mk (h) (by decide)
  | some k =>
    have hk := m_at_lt e (by decide)
    dsimp only
    by_cases c1 : π 0 0 ≤ b
    · rw [if_pos c1]; exact CW.mk (h) (by decide)
    · rw [if_neg c1]
      obtain ⟨h1, h2⟩ := cp_makeTask (b := b) (x := nI k) h
      by_cases c2 : m_makeTask τ = -1
      · rw [if_pos c2]; exact CW.mk (h1) (by decide)
      · rw [if_neg c2]; exact CW.mk (cp_next hi ((h1.fl (by unfold inC; omega)).fl (by unfold inC; omega))) (by decide)
theorem cp_stop {τ : Sg} {i : Nat} (hi : i < 24) (h : CP c0 τ) : CW c0 (m_stop τ i) := by
  unfold m_stop
  cases e : m_at (τ (i + 6) 7) 40 with
  | none => exact CW.mk (h) (by decide)
  | some k => exact CW.mk (cp_next hi (cp_cancel (m_at_lt e (by decide)) h)) (by decide)
theorem cp_sleep {τ : Sg} {i : Nat} {a : Int32} (hi : i < 24) (h : CP c0 τ) : CP c0 (m_sleep τ i a) := by
  unfold m_sleep
  exact (cp_bw hi (by decide) h).fl (by unfold inC; omega)
theorem cp_lck {τ : Sg} {i : Nat} {x : Int32} (hi : i < 24) (h : CP c0 τ) : CW c0 (m_lck τ i x) := by
  unfold m_lck
  cases e : m_at x 2 with
  | none => exact CW.mk (h) (by decide)
  | some k =>
    dsimp only
    by_cases c1 : τ (k + 94) 1 = nI i
    · rw [if_pos c1]; exact CW.mk (h) (by decide)
    · rw [if_neg c1]
      by_cases c2 : τ (k + 94) 1 = -1
      · rw [if_pos c2]; exact CW.mk (cp_next hi (cp_giveTo (m_at_lt e (by decide)) h)) (by decide)
      · rw [if_neg c2]; exact CW.mk (cp_bw hi trivial h) (by decide)
theorem cp_fre {τ : Sg} {i : Nat} {x : Int32} (hi : i < 24) (h : CP c0 τ) : CW c0 (m_fre τ i x) := by
  unfold m_fre
  cases e : m_at x 2 with
  | none => exact CW.mk (h) (by decide)
  | some k =>
    dsimp only
    by_cases c1 : τ (k + 94) 1 = nI i
    · rw [if_pos c1]; exact CW.mk (cp_next hi (cp_freeLock (m_at_lt e (by decide)) h)) (by decide)
    · rw [if_neg c1]; exact CW.mk (h) (by decide)
theorem cp_send {τ : Sg} {i : Nat} {x : Int32} (hi : i < 24) (h : CP c0 τ) : CW c0 (m_send τ i x) := by
  have h5 : bnF (τ (i + 6) 5) := trivial
  unfold m_send
  cases e : m_at x 2 with
  | none => exact CW.mk (h) (by decide)
  | some k =>
    have hk := m_at_lt e (by decide)
    dsimp only
    by_cases c1 : τ (k + 96) 3 = 0
    · rw [if_pos c1]
      cases f : m_firstWaiting τ 4 x with
      | some q => exact CW.mk (cp_next hi (cp_giveValue (firstWaiting_some f).1 h5 h)) (by decide)
      | none =>
        dsimp only
        by_cases c2 : τ (k + 96) 0 ≤ τ (k + 96) 2
        · rw [if_pos c2]
          have h1 := cp_bw (w := 3) (x := x) hi trivial h
          exact CW.mk (h1.fl (by unfold inC; omega)) (by decide)
        · rw [if_neg c2]; exact CW.mk (cp_next hi (cp_addLast hk h5 h)) (by decide)
    · rw [if_neg c1]; exact CW.mk (h) (by decide)
theorem cp_take {τ : Sg} {i : Nat} {x : Int32} (hi : i < 24) (h : CP c0 τ) : CW c0 (m_take τ i x) := by
  unfold m_take
  by_cases c : m_hasValue τ x = true
  · rw [if_pos c]
    obtain ⟨h1, h2⟩ := cp_takeValue (x := x) h
    exact CW.mk (cp_next hi (h1.fl (by unfold inC; omega))) (by decide)
  · rw [if_neg c]
    cases e : m_at x 2 with
    | none => exact CW.mk (h) (by decide)
    | some k =>
      dsimp only
      by_cases c1 : τ (k + 96) 3 = 0
      · rw [if_pos c1]; exact CW.mk (cp_bw hi trivial h) (by decide)
      · rw [if_neg c1]; exact CW.mk (h) (by decide)
theorem cp_pick1 {τ : Sg} {i : Nat} {x : Int32} (hi : i < 24) (hx : bnF x) (h : CP c0 τ) : CP c0 (m_pick1 τ i x) := by
  obtain ⟨h1, h2⟩ := cp_takeValue (x := x) h
  exact cp_next hi (cp_putLocal hi hx (h1.fl (by unfold inC; omega)))
theorem cp_pick {τ : Sg} {i : Nat} (hi : i < 24) (h : CP c0 τ) : CW c0 (m_pick τ i) := by
  unfold m_pick
  by_cases c1 : m_hasValue τ 0 = true
  · rw [if_pos c1]; exact CW.mk (cp_pick1 hi (by decide) h) (by decide)
  · rw [if_neg c1]
    by_cases c2 : m_hasValue τ 1 = true
    · rw [if_pos c2]; exact CW.mk (cp_pick1 hi (by decide) h) (by decide)
    · rw [if_neg c2]
      by_cases c3 : m_allEnded τ = true
      · rw [if_pos c3]; exact CW.mk (h) (by decide)
      · rw [if_neg c3]; exact CW.mk ((cp_bw hi (by decide) h).fl (by unfold inC; omega)) (by decide)
theorem cp_nd {τ : Sg} {i : Nat} {x : Int32} (hi : i < 24) (h : CP c0 τ) : CW c0 (m_nd τ i x) := by
  unfold m_nd
  cases e : m_at x 2 with
  | none => exact CW.mk (h) (by decide)
  | some k =>
    dsimp only
    by_cases c1 : τ (k + 96) 3 = 0
    · rw [if_pos c1]; exact CW.mk (cp_next hi (cp_putEnd h)) (by decide)
    · rw [if_neg c1]; exact CW.mk (h) (by decide)
theorem cp_wayOut {τ : Sg} {i k : Nat} (hi : i < 24) (hk : k < 40) (h : CP c0 τ) : CW c0 (m_wayOut τ i k) := by
  have h9 : bnF (τ (k + 54) 9) := trivial
  have hg : CP c0 (m_goesOn τ i k) := by
    unfold m_goesOn
    refine (h.fl (by unfold inC; omega)).fl (by unfold inC; omega)
  unfold m_wayOut
  by_cases c1 : τ (k + 54) 9 = -1
  · rw [if_pos c1]; exact CW.mk (hg) (by decide)
  · rw [if_neg c1]
    by_cases c2 : τ (k + 54) 9 = -3
    · rw [if_pos c2]
      by_cases c3 : τ (k + 54) 5 = 0
      · rw [if_pos c3]; exact ⟨h, h9⟩
      · rw [if_neg c3]; exact CW.mk (hg) (by decide)
    · rw [if_neg c2]; exact ⟨h, h9⟩
theorem cp_takeOff {τ : Sg} {i : Nat} (hi : i < 24) (h : CP c0 τ) : CW c0 (m_takeOff τ i) := by
  unfold m_takeOff
  cases e : m_at (τ (i + 6) 7) 40 with
  | none => exact CW.mk (h) (by decide)
  | some k =>
    have hk := m_at_lt e (by decide)
    have h1 : CP c0 (up2 (up2 τ (i + 6) 7 (τ (k + 54) 3)) (i + 6) 8 (up2 τ (i + 6) 7 (τ (k + 54) 3) (i + 6) 8 - 1)) := (h.fl (by unfold inC; omega)).fl (by unfold inC; omega)
    dsimp only
    revert h1
    generalize up2 (up2 τ (i + 6) 7 (τ (k + 54) 3)) (i + 6) 8 (up2 τ (i + 6) 7 (τ (k + 54) 3) (i + 6) 8 - 1) = σ
    intro h1
    by_cases c1 : 0 < σ (k + 54) 9
    · rw [if_pos c1]; exact cp_wayOut hi hk h1
    · rw [if_neg c1]
      cases f : m_at (σ (k + 54) 13) 24 with
      | none => exact cp_wayOut hi hk h1
      | some q =>
        have hq := m_at_lt f (by decide)
        exact ⟨h1, trivial⟩
theorem cp_endWay {τ : Sg} {i : Nat} {w : Int32} (hi : i < 24) (hw : bnF w) (h : CP c0 τ) : CP c0 (m_endWay τ i w) := by
  have h1 : ∀ v, CP c0 (up2 τ (i + 6) 3 v) := fun v => h.fl (by unfold inC; omega)
  unfold m_endWay
  by_cases c : w ≤ 0
  · rw [if_pos c]; exact h1 _
  · rw [if_neg c]; exact (h1 _).fl (by unfold inC; omega)
theorem cp_freeOf {τ : Sg} {i k : Nat} (hk : k < 2) (h : CP c0 τ) : CP c0 (m_freeOf τ i k) := by
  unfold m_freeOf
  by_cases c : τ (k + 94) 1 = nI i
  · rw [if_pos c]; exact cp_freeLock hk h
  · rw [if_neg c]; exact h
theorem cp_tellFail {τ : Sg} {i k : Nat} (hk : k < 40) (h : CP c0 τ) : CP c0 (m_tellFail τ i k) := by
  have h1 : ∀ v, CP c0 (up2 τ (k + 54) 12 v) := fun v => h.fl (by unfold inC; omega)
  unfold m_tellFail
  by_cases c : τ (i + 6) 3 = 3
  · rw [if_pos c]
    dsimp only
    by_cases d : up2 τ (k + 54) 12 (τ (k + 54) 12 + 1) (k + 54) 13 = -1
    · rw [if_pos d]; exact cp_cancel hk ((h1 _).fl (by unfold inC; omega))
    · rw [if_neg d]; exact cp_cancel hk (h1 _)
  · rw [if_neg c]; exact h
theorem cp_tellClose {τ : Sg} {k : Nat} (hk : k < 40) (h : CP c0 τ) : CP c0 (m_tellClose τ k) := by
  have h1 : CP c0 (up2 τ (k + 54) 1 2) := h.fl (by unfold inC; omega)
  unfold m_tellClose
  by_cases c : τ (k + 54) 1 = 1
  · rw [if_pos c]
    by_cases d : τ (k + 54) 11 < τ (k + 54) 10
    · rw [if_pos d]; exact h
    · rw [if_neg d]
      dsimp only
      cases e : m_at (up2 τ (k + 54) 1 2 (k + 54) 2) 24 with
      | none => exact h1
      | some q =>
        dsimp only
        by_cases f : m_waitsAt (up2 τ (k + 54) 1 2) q 5 = true
        · rw [if_pos f]; exact h1.mr (m_at_lt e (by decide))
        · rw [if_neg f]; exact h1
  · rw [if_neg c]; exact h
theorem cp_tellOver {τ : Sg} {i k : Nat} (hk : k < 40) (h : CP c0 τ) : CP c0 (m_tellOver τ i k) := cp_tellClose hk (cp_tellFail hk (h.fl (by unfold inC; omega)))
theorem cp_endTask {τ : Sg} {i : Nat} {w : Int32} (hi : i < 24) (hw : bnF w) (h : CP c0 τ) : CP c0 (m_endTask τ i w) := by
  have h1 : CP c0 (m_freeOf (m_freeOf (m_endWay τ i w) i 0) i 1) := cp_freeOf (by decide) (cp_freeOf (by decide) (cp_endWay hi hw h))
  unfold m_endTask m_endLast
  revert h1
  generalize m_freeOf (m_freeOf (m_endWay τ i w) i 0) i 1 = σ
  intro h1
  cases e : m_at (σ (i + 6) 6) 40 with
  | none => exact h1
  | some k => exact cp_tellOver (m_at_lt e (by decide)) h1
theorem cp_leave {τ : Sg} {i : Nat} {w : Int32} (hi : i < 24) (hw : bnF w) (h : CP c0 τ) : CW c0 (m_leave τ i w) := by
  unfold m_leave
  cases e : m_at (τ (i + 6) 7) 40 with
  | none => exact CW.mk (cp_endTask hi hw h) (by decide)
  | some k =>
    have hk := m_at_lt e (by decide)
    have h1 : CP c0 (if w ≤ 0 then τ else m_cancelScope τ k) := by
      by_cases c : w ≤ 0
      · rw [if_pos c]; exact h
      · rw [if_neg c]; exact cp_cancel hk h
    dsimp only
    revert h1
    generalize (if w ≤ 0 then τ else m_cancelScope τ k) = σ
    intro h1
    have h3 : CP c0 (up2 (up2 σ (k + 54) 1 1) (k + 54) 9 w) := (h1.fl (by unfold inC; omega)).fl (by unfold inC; omega)
    by_cases c : up2 (up2 σ (k + 54) 1 1) (k + 54) 9 w (k + 54) 10 ≤ up2 (up2 σ (k + 54) 1 1) (k + 54) 9 w (k + 54) 11
    · rw [if_pos c]; exact cp_takeOff hi (h3.fl (by unfold inC; omega))
    · rw [if_neg c]; exact CW.mk (cp_bw hi (trivial) h3) (by decide)
theorem cp_doLine {τ π : Sg} {i : Nat} {k a b : Int32} (hi : i < 24) (ha : bnF a) (h : CP c0 τ) : CW c0 (m_doLine τ π i k a b) := by
  unfold m_doLine
  by_cases c0 : k = 0
  · rw [if_pos c0]; exact CW.mk (cp_next hi (h.fl (by unfold inC; omega))) (by decide)
  rw [if_neg c0]
  by_cases c1 : k = 1
  · rw [if_pos c1]; exact CW.mk (cp_next hi (h.fl (by unfold inC; omega))) (by decide)
  rw [if_neg c1]
  by_cases c2 : k = 2
  · rw [if_pos c2]; exact CW.mk (cp_next hi (cp_putLocal hi trivial h)) (by decide)
  rw [if_neg c2]
  by_cases c3 : k = 3
  · rw [if_pos c3]; exact CW.mk (cp_loop hi h) (by decide)
  rw [if_neg c3]
  by_cases c4 : k = 4
  · rw [if_pos c4]; exact CW.mk (cp_skip hi h) (by decide)
  rw [if_neg c4]
  by_cases c5 : k = 5
  · rw [if_pos c5]; exact CW.mk (h) (by decide)
  rw [if_neg c5]
  by_cases c6 : k = 6
  · rw [if_pos c6]; exact ⟨h, ha⟩
  rw [if_neg c6]
  by_cases c7 : k = 7
  · rw [if_pos c7]; exact cp_opn hi h
  rw [if_neg c7]
  by_cases c8 : k = 8
  · rw [if_pos c8]; exact cp_opn hi h
  rw [if_neg c8]
  by_cases c9 : k = 9
  · rw [if_pos c9]
    refine ⟨h, ?_⟩
    show bnF (if τ (i + 6) 7 = -1 then 1 else -1)
    by_cases d : τ (i + 6) 7 = -1
    · rw [if_pos d]; decide
    · rw [if_neg d]; decide
  rw [if_neg c9]
  by_cases c10 : k = 10
  · rw [if_pos c10]; exact cp_spawn hi h
  rw [if_neg c10]
  by_cases c11 : k = 11
  · rw [if_pos c11]; exact cp_stop hi h
  rw [if_neg c11]
  by_cases c12 : k = 12
  · rw [if_pos c12]; exact CW.mk (cp_sleep hi h) (by decide)
  rw [if_neg c12]
  by_cases c13 : k = 13
  · rw [if_pos c13]; exact cp_lck hi h
  rw [if_neg c13]
  by_cases c14 : k = 14
  · rw [if_pos c14]; exact cp_fre hi h
  rw [if_neg c14]
  by_cases c15 : k = 15
  · rw [if_pos c15]; exact cp_send hi h
  rw [if_neg c15]
  by_cases c16 : k = 16
  · rw [if_pos c16]; exact cp_take hi h
  rw [if_neg c16]
  by_cases c17 : k = 17
  · rw [if_pos c17]; exact cp_nd hi h
  rw [if_neg c17]
  by_cases c18 : k = 18
  · rw [if_pos c18]; exact cp_pick hi h
  rw [if_neg c18]; exact CW.mk (h) (by decide)
theorem cp_goOn {τ π : Sg} {i : Nat} (hi : i < 24) (hp : ∀ q, bnF (π 3 q)) (h : CP c0 τ) : CW c0 (m_goOn τ π i) := by
  unfold m_goOn
  by_cases c1 : m_placeOf (τ (i + 6) 2) (τ (i + 6) 4) = -1
  · rw [if_pos c1]; exact CW.mk (h) (by decide)
  · rw [if_neg c1]
    by_cases c2 : τ (i + 6) 4 < m_linesOf π (τ (i + 6) 2)
    · rw [if_pos c2]
      by_cases c3 : τ 100 2 < 100
      · rw [if_pos c3]
        have h1 : CP c0 (up2 (up2 τ 100 2 (τ 100 2 + 1)) 0 10 (up2 τ 100 2 (τ 100 2 + 1) 0 10 + 1)) := (h.fl (by unfold inC; omega)).fl (by unfold inC; omega)
        dsimp only
        revert h1
        generalize up2 (up2 τ 100 2 (τ 100 2 + 1)) 0 10 (up2 τ 100 2 (τ 100 2 + 1) 0 10 + 1) = σ
        intro h1
        unfold m_goLine
        by_cases d1 : m_isWait (π 2 (m_placeOf (τ (i + 6) 2) (τ (i + 6) 4)).toNatClampNeg) = true
        · rw [if_pos d1]
          by_cases d2 : m_isHit σ i (-1) = true
          · rw [if_pos d2]; exact CW.mk (h1) (by decide)
          · rw [if_neg d2]; exact cp_doLine hi (hp _) h1
        · rw [if_neg d1]; exact cp_doLine hi (hp _) h1
      · rw [if_neg c3]; exact CW.mk (h) (by decide)
    · rw [if_neg c2]; exact CW.mk (h) (by decide)
theorem cp_beginTurn {τ : Sg} {i : Nat} (hi : i < 24) (h : CP c0 τ) : CW c0 (m_beginTurn τ i) := by
  unfold m_beginTurn
  by_cases c1 : τ (i + 6) 9 = 0
  · rw [if_pos c1]; exact CW.mk (h) (by decide)
  rw [if_neg c1]
  by_cases c2 : τ (i + 6) 9 = 5
  · rw [if_pos c2]; exact cp_takeOff hi h
  rw [if_neg c2]
  by_cases c3 : m_isHit τ i (-1) = true
  · rw [if_pos c3]; exact CW.mk (cp_giveBack hi h) (by decide)
  rw [if_neg c3]
  by_cases c4 : τ (i + 6) 15 ≤ 0
  · rw [if_pos c4]
    by_cases c5 : τ (i + 6) 9 = 4
    · rw [if_pos c5]
      have h1 : CP c0 (up2 τ (i + 6) 5 (τ (i + 6) 13)) := h.fl (by unfold inC; omega)
      dsimp only
      by_cases c6 : up2 τ (i + 6) 5 (τ (i + 6) 13) (i + 6) 11 = 0
      · rw [if_pos c6]; exact CW.mk (cp_next hi h1) (by decide)
      · rw [if_neg c6]; exact CW.mk (cp_next hi (cp_putLocal hi trivial h1)) (by decide)
    · rw [if_neg c5]; exact CW.mk (cp_next hi h) (by decide)
  · rw [if_neg c4]; exact ⟨h, trivial⟩
theorem cp_steps {π : Sg} {i : Nat} (hi : i < 24) (hp : ∀ q, bnF (π 3 q)) : ∀ (n : Nat) (τ : Sg) (w : Int32), CP c0 τ → bnF w → CP c0 (m_steps π i n τ w) := by
  intro n
  induction n with
  | zero => intro τ w h _; exact h
  | succ n ih =>
    intro τ w h hw
    unfold m_steps
    by_cases c1 : w = -4
    · rw [if_pos c1]; exact h
    · rw [if_neg c1]
      by_cases c2 : w = 0
      · rw [if_pos c2]
        obtain ⟨g1, g2⟩ := cp_goOn hi hp h
        exact ih _ _ g1 g2
      · rw [if_neg c2]
        obtain ⟨g1, g2⟩ := cp_leave hi hw h
        exact ih _ _ g1 g2
theorem cp_turn {τ π : Sg} {i : Nat} (hi : i < 24) (hp : ∀ q, bnF (π 3 q)) (h : CP c0 τ) : CP c0 (m_turn τ π i) := by
  have h1 : CP c0 (up2 (up2 τ 0 9 (τ 0 9 + 1)) 100 2 0) := (h.fl (by unfold inC; omega)).fl (by unfold inC; omega)
  unfold m_turn
  obtain ⟨g1, g2⟩ := cp_beginTurn hi h1
  exact cp_steps hi hp 1000 _ _ g1 g2
theorem cp_takeReady {τ : Sg} (h : CP c0 τ) : CP c0 (m_takeReadyW τ) := by
  unfold m_takeReadyW
  by_cases c : ¬ 0 < τ 0 7
  · rw [if_pos c]; exact h
  · rw [if_neg c]
    refine (h.keep (fun a b hab => ?_)).fl (by unfold inC; omega)
    unfold inC at hab
    rw [shift_other 24 0 τ a (by omega)]
theorem cp_turns {π : Sg} (hp : ∀ q, bnF (π 3 q)) : ∀ (n k : Nat) (τ : Sg), CP c0 τ → CP c0 (m_turns π n k τ).1 := by
  intro n
  induction n with
  | zero => intro k τ h; exact h
  | succ n ih =>
    intro k τ h
    unfold m_turns
    cases e : m_takeReady τ with
    | none => exact cp_takeReady h
    | some i => exact ih (k + 1) _ (cp_turn (takeReady_lt e) hp (cp_takeReady h))
-- TIME
theorem cp_tickS : ∀ (n j : Nat) (τ : Sg), n + j = 40 → CP c0 τ → CP c0 (m_tickScopes n j τ) := by
  intro n
  induction n with
  | zero => intro j τ _ h; exact h
  | succ n ih =>
    intro j τ hn h
    show CP c0 (m_tickScopes n (j + 1) _)
    refine ih (j + 1) _ (by omega) ?_
    by_cases c1 : m_isLive τ j = true
    · rw [if_pos c1]
      by_cases c2 : τ (j + 54) 7 = τ 0 8
      · rw [if_pos c2]; exact cp_cancel (by omega) h
      · rw [if_neg c2]; exact h
    · rw [if_neg c1]; exact h
theorem cp_tickT : ∀ (n j : Nat) (τ : Sg), n + j = 24 → CP c0 τ → CP c0 (m_tickTasks n j τ) := by
  intro n
  induction n with
  | zero => intro j τ _ h; exact h
  | succ n ih =>
    intro j τ hn h
    show CP c0 (m_tickTasks n (j + 1) _)
    refine ih (j + 1) _ (by omega) ?_
    by_cases c1 : m_waitsAt τ j 1 = true
    · rw [if_pos c1]
      by_cases c2 : τ (j + 6) 12 = τ 0 8
      · rw [if_pos c2]; exact h.mr (by omega)
      · rw [if_neg c2]; exact h
    · rw [if_neg c1]; exact h
theorem cp_tick {τ : Sg} (h : CP c0 τ) : CP c0 (m_tickOnceW τ) := cp_tickT 24 0 _ rfl (cp_tickS 40 0 _ rfl (h.fl (by unfold inC; omega)))

end CELLS
