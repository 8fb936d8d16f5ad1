/-! THE SCOPES THROUGH THE RUNNER'S STEPS, but for leaving and the end of a TASK -/
theorem sc_loop {τ : Sg} {i κ : Nat} {a b : Int32} (hi : i < 24) : SC τ (m_loopR τ i a b) κ := by
  unfold m_loopR
  by_cases c : 0 < m_localAt τ i a
  · rw [if_pos c]; exact (sc_putLocal hi).up (by omega)
  · rw [if_neg c]; exact sc_next hi
theorem sc_skip {τ : Sg} {i κ : Nat} {b : Int32} (hi : i < 24) : SC τ (m_skip τ i b) κ := by
  unfold m_skip
  by_cases c : τ (i + 6) 5 ≤ 0
  · rw [if_pos c]; exact (SC.refl τ κ).up (by omega)
  · rw [if_neg c]; exact sc_next hi
theorem at_40 {x : Int32} {k κ : Nat} (h : m_at x 40 = some k) (hx : x = nI κ) (hκ : κ ≤ 40) : k = κ := by
  rw [hx] at h
  by_cases c : κ < 40
  · rw [m_at_nI c (by decide)] at h; cases h; rfl
  · have : κ = 40 := by omega
    subst this
    unfold m_at at h
    rw [if_neg (nI_pos (by decide)), if_pos ((nI_leI (by decide) (by decide)).mpr (Nat.le_refl 40))] at h
    cases h
/-- a new SCOPE: just the one of the number S -/
theorem sc_opn {τ : Sg} {i κ : Nat} {s d l : Int32} (hi : i < 24) (hS : τ 0 3 = nI κ) (h40 : κ ≤ 40) : SC τ (m_opn τ i s d l).1 κ := by
  unfold m_opn
  cases e : m_at (τ 0 3) 40 with
  | none => exact SC.refl τ κ
  | some k =>
    have hk := at_40 e hS h40
    subst hk
    dsimp only
    exact ((((SC.cell (fun q _ _ b => begin_other (by omega)) : SC τ (m_begin τ k i s d l) k).up (by omega)).up (by omega)).up (by omega)).trans (sc_next hi)
/-- a new TASK in the SCOPE on top: that one's count -/
theorem sc_spawn {τ π : Sg} {i κ : Nat} {b : Int32} (hi : i < 24) (hκ : ∀ k, m_at (τ (i + 6) 7) 40 = some k → k = κ) : SC τ (m_spawn τ π i b).1 κ := by
  unfold m_spawn
  cases e : m_at (τ (i + 6) 7) 40 with
  | none => exact SC.refl τ κ
  | some k =>
    have hk := hκ k e
    subst hk
    dsimp only
    by_cases c1 : π 0 0 ≤ b
    · rw [if_pos c1]; exact SC.refl τ k
    · rw [if_neg c1]
      have h1 : SC τ (m_makeTaskW τ b (nI k)) k := sc_makeTask
      by_cases c2 : m_makeTask τ = -1
      · rw [if_pos c2]; exact h1
      · rw [if_neg c2]; exact ((h1.up (by omega)).up (by omega)).trans (sc_next hi)
theorem sc_stop {τ : Sg} {i κ : Nat} (hi : i < 24) : SC τ (m_stop τ i).1 κ := by
  unfold m_stop
  cases e : m_at (τ (i + 6) 7) 40 with
  | none => exact SC.refl τ κ
  | some k => exact sc_cancel.trans (sc_next hi)
theorem sc_sleep {τ : Sg} {i κ : Nat} {a : Int32} (hi : i < 24) : SC τ (m_sleep τ i a) κ := by
  unfold m_sleep
  exact (sc_bw hi).up (by omega)
theorem sc_lck {τ : Sg} {i κ : Nat} {x : Int32} (hi : i < 24) : SC τ (m_lck τ i x).1 κ := by
  unfold m_lck
  cases e : m_at x 2 with
  | none => exact SC.refl τ κ
  | some k =>
    dsimp only
    by_cases c1 : τ (k + 94) 1 = nI i
    · rw [if_pos c1]; exact SC.refl τ κ
    · rw [if_neg c1]
      by_cases c2 : τ (k + 94) 1 = -1
      · rw [if_pos c2]; exact (sc_giveTo (m_at_lt e (by decide))).trans (sc_next hi)
      · rw [if_neg c2]; exact sc_bw hi
theorem sc_fre {τ : Sg} {i κ : Nat} {x : Int32} (hi : i < 24) : SC τ (m_fre τ i x).1 κ := by
  unfold m_fre
  cases e : m_at x 2 with
  | none => exact SC.refl τ κ
  | some k =>
    dsimp only
    by_cases c1 : τ (k + 94) 1 = nI i
    · rw [if_pos c1]; exact (sc_freeLock (m_at_lt e (by decide))).trans (sc_next hi)
    · rw [if_neg c1]; exact SC.refl τ κ
theorem sc_send {τ : Sg} {i κ : Nat} {x : Int32} (hi : i < 24) : SC τ (m_send τ i x).1 κ := by
  unfold m_send
  cases e : m_at x 2 with
  | none => exact SC.refl τ κ
  | some k =>
    dsimp only
    by_cases c1 : τ (k + 96) 3 = 0
    · rw [if_pos c1]
      cases f : m_firstWaiting τ 4 x with
      | some q => exact (sc_giveValue (firstWaiting_some f).1).trans (sc_next hi)
      | none =>
        dsimp only
        by_cases c2 : τ (k + 96) 0 ≤ τ (k + 96) 2
        · rw [if_pos c2]; exact (sc_bw hi).up (by omega)
        · rw [if_neg c2]; exact (sc_addLast (m_at_lt e (by decide))).trans (sc_next hi)
    · rw [if_neg c1]; exact SC.refl τ κ
theorem sc_take {τ : Sg} {i κ : Nat} {x : Int32} (hi : i < 24) : SC τ (m_take τ i x).1 κ := by
  unfold m_take
  by_cases c : m_hasValue τ x = true
  · rw [if_pos c]; exact (sc_takeValue.up (by omega)).trans (sc_next hi)
  · rw [if_neg c]
    cases e : m_at x 2 with
    | none => exact SC.refl τ κ
    | some k =>
      dsimp only
      by_cases c1 : τ (k + 96) 3 = 0
      · rw [if_pos c1]; exact sc_bw hi
      · rw [if_neg c1]; exact SC.refl τ κ
theorem sc_pick1 {τ : Sg} {i κ : Nat} {x : Int32} (hi : i < 24) : SC τ (m_pick1 τ i x) κ := ((sc_takeValue.up (by omega)).trans (sc_putLocal hi)).trans (sc_next hi)
theorem sc_pick {τ : Sg} {i κ : Nat} (hi : i < 24) : SC τ (m_pick τ i).1 κ := by
  unfold m_pick
  by_cases c1 : m_hasValue τ 0 = true
  · rw [if_pos c1]; exact sc_pick1 hi
  · rw [if_neg c1]
    by_cases c2 : m_hasValue τ 1 = true
    · rw [if_pos c2]; exact sc_pick1 hi
    · rw [if_neg c2]
      by_cases c3 : m_allEnded τ = true
      · rw [if_pos c3]; exact SC.refl τ κ
      · rw [if_neg c3]; exact (sc_bw hi).up (by omega)
theorem sc_nd {τ : Sg} {i κ : Nat} {x : Int32} (hi : i < 24) : SC τ (m_nd τ i x).1 κ := by
  unfold m_nd
  cases e : m_at x 2 with
  | none => exact SC.refl τ κ
  | some k =>
    dsimp only
    by_cases c1 : τ (k + 96) 3 = 0
    · rw [if_pos c1]; exact sc_putEnd.trans (sc_next hi)
    · rw [if_neg c1]; exact SC.refl τ κ
theorem sc_goesOn {τ : Sg} {i k κ : Nat} (hi : i < 24) : SC τ (m_goesOn τ i k) κ := ((SC.refl τ κ).up (by omega)).up (by omega)
theorem sc_wayOut {τ : Sg} {i k κ : Nat} (hi : i < 24) : SC τ (m_wayOut τ i k).1 κ := by
  unfold m_wayOut
  by_cases c1 : τ (k + 54) 9 = -1
  · rw [if_pos c1]; exact sc_goesOn hi
  · rw [if_neg c1]
    by_cases c2 : τ (k + 54) 9 = -3
    · rw [if_pos c2]
      by_cases c3 : τ (k + 54) 5 = 0
      · rw [if_pos c3]; exact SC.refl τ κ
      · rw [if_neg c3]; exact sc_goesOn hi
    · rw [if_neg c2]; exact SC.refl τ κ
theorem sc_takeOff {τ : Sg} {i κ : Nat} (hi : i < 24) : SC τ (m_takeOff τ i).1 κ := by
  unfold m_takeOff
  cases e : m_at (τ (i + 6) 7) 40 with
  | none => exact SC.refl τ κ
  | some k =>
    have h1 : SC τ (up2 (up2 τ (i + 6) 7 (τ (k + 54) 3)) (i + 6) 8 (up2 τ (i + 6) 7 (τ (k + 54) 3) (i + 6) 8 - 1)) κ := ((SC.refl τ κ).up (by omega)).up (by omega)
    dsimp only
    revert h1
    generalize up2 (up2 τ (i + 6) 7 (τ (k + 54) 3)) (i + 6) 8 (up2 τ (i + 6) 7 (τ (k + 54) 3) (i + 6) 8 - 1) = σ
    intro h1
    by_cases c1 : 0 < σ (k + 54) 9
    · rw [if_pos c1]; exact h1.trans (sc_wayOut hi)
    · rw [if_neg c1]
      cases f : m_at (σ (k + 54) 13) 24 with
      | none => exact h1.trans (sc_wayOut hi)
      | some q => exact h1
theorem sc_freeOf {τ : Sg} {p k κ : Nat} (hk : k < 2) : SC τ (m_freeOf τ p k) κ := by
  unfold m_freeOf
  by_cases c : τ (k + 94) 1 = nI p
  · rw [if_pos c]; exact sc_freeLock hk
  · rw [if_neg c]; exact SC.refl τ κ
theorem sc_beginTurn {τ : Sg} {i κ : Nat} (hi : i < 24) : SC τ (m_beginTurn τ i).1 κ := by
  unfold m_beginTurn
  by_cases c1 : τ (i + 6) 9 = 0
  · rw [if_pos c1]; exact SC.refl τ κ
  rw [if_neg c1]
  by_cases c2 : τ (i + 6) 9 = 5
  · rw [if_pos c2]; exact sc_takeOff hi
  rw [if_neg c2]
  by_cases c3 : m_isHit τ i (-1) = true
  · rw [if_pos c3]; exact sc_giveBack
  rw [if_neg c3]
  by_cases c4 : τ (i + 6) 15 ≤ 0
  · rw [if_pos c4]
    by_cases c5 : τ (i + 6) 9 = 4
    · rw [if_pos c5]
      have h1 : SC τ (up2 τ (i + 6) 5 (τ (i + 6) 13)) κ := (SC.refl τ κ).up (by omega)
      dsimp only
      by_cases c6 : up2 τ (i + 6) 5 (τ (i + 6) 13) (i + 6) 11 = 0
      · rw [if_pos c6]; exact h1.trans (sc_next hi)
      · rw [if_neg c6]; exact (h1.trans (sc_putLocal hi)).trans (sc_next hi)
    · rw [if_neg c5]; exact sc_next hi
  · rw [if_neg c4]; exact SC.refl τ κ
