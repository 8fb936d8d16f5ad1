/-! THE ROW THROUGH ALL STEPS: the Runner's -/
theorem rs_next {τ : Sg} {r : Option Nat} {i : Nat} (h : RS τ r) : RS (m_next τ i) r := by
  by_cases hi : i + 6 = 5
  · omega
  · exact h.up hi (by omega) (by omega)
theorem rs_putLocal {τ : Sg} {r : Option Nat} {i : Nat} {p v : Int32} (hi : i < 24) (h : RS τ r) : RS (m_putLocal τ i p v) r := by
  unfold m_putLocal
  by_cases c1 : p < 0
  · rw [if_pos c1]; exact h
  · rw [if_neg c1]
    by_cases c2 : 4 ≤ p
    · rw [if_pos c2]; exact h
    · rw [if_neg c2]; exact h.up (by omega) (by omega) (by omega)
/-- a step of the turn of i: it goes on, or the turn ends and i isn't READY -/
def RW (i : Nat) (p : Sg × Int32) : Prop := if p.2 = -4 then RS p.1 none else RS p.1 (some i)
theorem RW.go {i : Nat} {τ : Sg} {w : Int32} (hw : w ≠ -4) (h : RS τ (some i)) : RW i (τ, w) := by
  unfold RW
  rw [if_neg hw]; exact h
theorem RW.go0 {i : Nat} {τ : Sg} (h : RS τ (some i)) : RW i (τ, 0) := RW.go (by decide) h
theorem RW.stop {i : Nat} {τ : Sg} (h : RS τ none) : RW i (τ, -4) := by
  unfold RW
  rw [if_pos rfl]; exact h
theorem rs_bw {τ : Sg} {i : Nat} {w x : Int32} (h : RS τ (some i)) : RS (m_beginWait τ i w x) none := by
  obtain ⟨⟨L, hL⟩, _⟩ := h
  exact ⟨⟨L, ready_bw hL⟩, fun q hq => by cases hq⟩
theorem rs_get {τ : Sg} {r : Option Nat} {i : Nat} {a : Int32} (h : RS τ r) : RS (m_get τ i a) r := rs_next (h.up (by omega) (by omega) (by omega))
theorem rs_put {τ : Sg} {r : Option Nat} {i : Nat} {a : Int32} (hi : i < 24) (h : RS τ r) : RS (m_put τ i a) r := rs_next (rs_putLocal hi h)
theorem rs_loop {τ : Sg} {r : Option Nat} {i : Nat} {a b : Int32} (hi : i < 24) (h : RS τ r) : RS (m_loopR τ i a b) r := by
  unfold m_loopR
  by_cases c : 0 < m_localAt τ i a
  · rw [if_pos c]; exact (rs_putLocal hi h).up (by omega) (by omega) (by omega)
  · rw [if_neg c]; exact rs_next h
theorem rs_skip {τ : Sg} {r : Option Nat} {i : Nat} {b : Int32} (h : RS τ r) : RS (m_skip τ i b) r := by
  unfold m_skip
  by_cases c : τ (i + 6) 5 ≤ 0
  · rw [if_pos c]; exact h.up (by omega) (by omega) (by omega)
  · rw [if_neg c]; exact rs_next h
theorem rs_add {τ : Sg} {r : Option Nat} {i : Nat} {a : Int32} (h : RS τ r) : RS (m_add τ i a) r := rs_next (h.up (by omega) (by omega) (by omega))
theorem rs_begin {τ : Sg} {r : Option Nat} {k t : Nat} {s d l : Int32} (h : RS τ r) : RS (m_begin τ k t s d l) r :=
  ((((((h.up (by omega) (by omega) (by omega)).up (by omega) (by omega) (by omega)).up (by omega) (by omega) (by omega)).up (by omega) (by omega) (by omega)).up (by omega) (by omega) (by omega)).up (by omega) (by omega) (by omega)).up (by omega) (by omega) (by omega)
theorem rs_opn {τ : Sg} {i : Nat} {s d l : Int32} (h : RS τ (some i)) : RW i (m_opn τ i s d l) := by
  unfold m_opn
  cases e : m_at (τ 0 3) 40 with
  | none => exact RW.go (by decide) h
  | some k =>
    dsimp only
    refine RW.go0 (rs_next ((((rs_begin h).up (by omega) (by omega) (by omega)).up (by omega) (by omega) (by omega)).up (by omega) (by omega) (by omega)))
theorem rs_spawn {τ π : Sg} {i : Nat} {b : Int32} (hf : FreshT τ) (h : RS τ (some i)) : RW i (m_spawn τ π i b) := by
  unfold m_spawn
  cases e : m_at (τ (i + 6) 7) 40 with
  | none => exact RW.go (by decide) h
  | some k =>
    dsimp only
    by_cases c1 : π 0 0 ≤ b
    · rw [if_pos c1]; exact RW.go (by decide) h
    · rw [if_neg c1]
      have h1 : RS (m_makeTaskW τ b (nI k)) (some i) := rs_makeTask hf h
      by_cases c2 : m_makeTask τ = -1
      · rw [if_pos c2]; exact RW.go (by decide) h1
      · rw [if_neg c2]; exact RW.go0 (rs_next ((h1.up (by omega) (by omega) (by omega)).up (by omega) (by omega) (by omega)))
theorem rs_stop {τ : Sg} {i : Nat} (h : RS τ (some i)) : RW i (m_stop τ i) := by
  unfold m_stop
  cases e : m_at (τ (i + 6) 7) 40 with
  | none => exact RW.go (by decide) h
  | some k => exact RW.go0 (rs_next (rs_cancel (m_at_lt e (by decide)) h))
theorem rs_sleep {τ : Sg} {i : Nat} {a : Int32} (h : RS τ (some i)) : RW i (m_sleep τ i a, -4) := by
  refine RW.stop ?_
  unfold m_sleep
  dsimp only
  exact (rs_bw h).up (by omega) (by omega) (by omega)
theorem rs_lck {τ : Sg} {i : Nat} {x : Int32} (h : RS τ (some i)) : RW i (m_lck τ i x) := by
  unfold m_lck
  cases e : m_at x 2 with
  | none => exact RW.go (by decide) h
  | some k =>
    dsimp only
    by_cases c1 : τ (k + 94) 1 = nI i
    · rw [if_pos c1]; exact RW.go (by decide) h
    · rw [if_neg c1]
      by_cases c2 : τ (k + 94) 1 = -1
      · rw [if_pos c2]; exact RW.go0 (rs_next (rs_giveTo h))
      · rw [if_neg c2]; exact RW.stop (rs_bw h)
theorem rs_fre {τ : Sg} {i : Nat} {x : Int32} (h : RS τ (some i)) : RW i (m_fre τ i x) := by
  unfold m_fre
  cases e : m_at x 2 with
  | none => exact RW.go (by decide) h
  | some k =>
    dsimp only
    by_cases c1 : τ (k + 94) 1 = nI i
    · rw [if_pos c1]; exact RW.go0 (rs_next (rs_freeLock (m_at_lt e (by decide)) h))
    · rw [if_neg c1]; exact RW.go (by decide) h
theorem rs_send {τ : Sg} {i : Nat} {x : Int32} (h : RS τ (some i)) : RW i (m_send τ i x) := by
  unfold m_send
  cases e : m_at x 2 with
  | none => exact RW.go (by decide) h
  | some k =>
    have hk := m_at_lt e (by decide)
    dsimp only
    by_cases c1 : τ (k + 96) 3 = 0
    · rw [if_pos c1]
      cases f : m_firstWaiting τ 4 x with
      | some q =>
        obtain ⟨a, b⟩ := firstWaiting_some f
        exact RW.go0 (rs_next (rs_giveValue a (waits_one b) h))
      | none =>
        dsimp only
        by_cases c2 : τ (k + 96) 0 ≤ τ (k + 96) 2
        · rw [if_pos c2]; exact RW.stop ((rs_bw h).up (by omega) (by omega) (by omega))
        · rw [if_neg c2]; exact RW.go0 (rs_next (rs_addLast hk h))
    · rw [if_neg c1]; exact RW.go (by decide) h
theorem rs_take {τ : Sg} {i : Nat} {x : Int32} (h : RS τ (some i)) : RW i (m_take τ i x) := by
  unfold m_take
  by_cases c : m_hasValue τ x = true
  · rw [if_pos c]; exact RW.go0 (rs_next ((rs_takeValue h).up (by omega) (by omega) (by omega)))
  · rw [if_neg c]
    cases e : m_at x 2 with
    | none => exact RW.go (by decide) h
    | some k =>
      dsimp only
      by_cases c1 : τ (k + 96) 3 = 0
      · rw [if_pos c1]; exact RW.stop (rs_bw h)
      · rw [if_neg c1]; exact RW.go (by decide) h
theorem rs_pick1 {τ : Sg} {r : Option Nat} {i : Nat} {x : Int32} (hi : i < 24) (h : RS τ r) : RS (m_pick1 τ i x) r := rs_next (rs_putLocal hi ((rs_takeValue h).up (by omega) (by omega) (by omega)))
theorem rs_pick {τ : Sg} {i : Nat} (hi : i < 24) (h : RS τ (some i)) : RW i (m_pick τ i) := by
  unfold m_pick
  by_cases c1 : m_hasValue τ 0 = true
  · rw [if_pos c1]; exact RW.go0 (rs_pick1 hi h)
  · rw [if_neg c1]
    by_cases c2 : m_hasValue τ 1 = true
    · rw [if_pos c2]; exact RW.go0 (rs_pick1 hi h)
    · rw [if_neg c2]
      by_cases c3 : m_allEnded τ = true
      · rw [if_pos c3]; exact RW.go (by decide) h
      · rw [if_neg c3]; exact RW.stop ((rs_bw h).up (by omega) (by omega) (by omega))
theorem rs_nd {τ : Sg} {i : Nat} {x : Int32} (h : RS τ (some i)) : RW i (m_nd τ i x) := by
  unfold m_nd
  cases e : m_at x 2 with
  | none => exact RW.go (by decide) h
  | some k =>
    dsimp only
    by_cases c1 : τ (k + 96) 3 = 0
    · rw [if_pos c1]; exact RW.go0 (rs_next (rs_putEnd h))
    · rw [if_neg c1]; exact RW.go (by decide) h
theorem rs_goesOn {τ : Sg} {r : Option Nat} {i k : Nat} (h : RS τ r) : RS (m_goesOn τ i k) r := (h.up (by omega) (by omega) (by omega)).up (by omega) (by omega) (by omega)
/-- the ways that a SCOPE may be left by: never the end of a turn -/
def WayOk (τ : Sg) : Prop := ∀ k, k < 40 → τ (k + 54) 9 ≠ -4
theorem rs_wayOut {τ : Sg} {i k : Nat} (hw : τ (k + 54) 9 ≠ -4) (h : RS τ (some i)) : RW i (m_wayOut τ i k) := by
  unfold m_wayOut
  by_cases c1 : τ (k + 54) 9 = -1
  · rw [if_pos c1]; exact RW.go0 (rs_goesOn h)
  · rw [if_neg c1]
    by_cases c2 : τ (k + 54) 9 = -3
    · rw [if_pos c2]
      by_cases c3 : τ (k + 54) 5 = 0
      · rw [if_pos c3]; exact RW.go hw h
      · rw [if_neg c3]; exact RW.go0 (rs_goesOn h)
    · rw [if_neg c2]; exact RW.go hw h
theorem rs_takeOff {τ : Sg} {i : Nat} (hw : WayOk τ) (hv : ∀ q, q < 24 → τ (q + 6) 5 ≠ -4 ∨ τ (q + 6) 3 ≠ 3) (hff : ∀ k q, k < 40 → m_at (τ (k + 54) 13) 24 = some q → τ (q + 6) 3 = 3) (h : RS τ (some i)) : RW i (m_takeOff τ i) := by
  unfold m_takeOff
  cases e : m_at (τ (i + 6) 7) 40 with
  | none => exact RW.go (by decide) h
  | some k =>
    have hk := m_at_lt e (by decide)
    have hi := (h.2 i rfl).1
    have h1 : RS (up2 (up2 τ (i + 6) 7 (τ (k + 54) 3)) (i + 6) 8 (up2 τ (i + 6) 7 (τ (k + 54) 3) (i + 6) 8 - 1)) (some i) := (h.up (by omega) (by omega) (by omega)).up (by omega) (by omega) (by omega)
    have h9 : up2 (up2 τ (i + 6) 7 (τ (k + 54) 3)) (i + 6) 8 (up2 τ (i + 6) 7 (τ (k + 54) 3) (i + 6) 8 - 1) (k + 54) 9 ≠ -4 := by
      rw [up2_o (by omega), up2_o (by omega)]; exact hw k hk
    have h13 : up2 (up2 τ (i + 6) 7 (τ (k + 54) 3)) (i + 6) 8 (up2 τ (i + 6) 7 (τ (k + 54) 3) (i + 6) 8 - 1) (k + 54) 13 = τ (k + 54) 13 := by
      rw [up2_o (by omega), up2_o (by omega)]
    dsimp only
    by_cases c1 : 0 < up2 (up2 τ (i + 6) 7 (τ (k + 54) 3)) (i + 6) 8 (up2 τ (i + 6) 7 (τ (k + 54) 3) (i + 6) 8 - 1) (k + 54) 9
    · rw [if_pos c1]; exact rs_wayOut h9 h1
    · rw [if_neg c1, h13]
      cases f : m_at (τ (k + 54) 13) 24 with
      | none => exact rs_wayOut h9 h1
      | some q =>
        dsimp only
        refine RW.go ?_ h1
        rw [up2_o (by omega), up2_o (by omega)]
        rcases hv q (m_at_lt f (by decide)) with z | z
        · exact z
        · exact absurd (hff k q hk f) z
