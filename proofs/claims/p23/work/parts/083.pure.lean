/-! THE SAME, STRONGER, THROUGH THE RUNNER'S STEPS, but for the closing of a SCOPE -/
theorem t5_next {τ : Sg} {i t : Nat} : T5 τ (m_next τ i) i t := (T5.refl τ i t).up (by omega)
theorem t5_putLocal {τ : Sg} {i t : Nat} {p v : Int32} (hi : i < 24) : T5 τ (m_putLocal τ i p v) i t := by
  unfold m_putLocal
  by_cases c1 : p < 0
  · rw [if_pos c1]; exact T5.refl τ i t
  · rw [if_neg c1]
    by_cases c2 : 4 ≤ p
    · rw [if_pos c2]; exact T5.refl τ i t
    · rw [if_neg c2]; exact (T5.refl τ i t).up (by omega)
theorem t5_bw {τ : Sg} {i t : Nat} {w x : Int32} : T5 τ (m_beginWait τ i w x) i t := T5.cell (fun q _ hq _ b => bw_other (by omega) (by omega))
theorem t5_loop {τ : Sg} {i t : Nat} {a b : Int32} (hi : i < 24) : T5 τ (m_loopR τ i a b) i t := by
  unfold m_loopR
  by_cases c : 0 < m_localAt τ i a
  · rw [if_pos c]; exact (t5_putLocal hi).up (by omega)
  · rw [if_neg c]; exact t5_next
theorem t5_skip {τ : Sg} {i t : Nat} {b : Int32} : T5 τ (m_skip τ i b) i t := by
  unfold m_skip
  by_cases c : τ (i + 6) 5 ≤ 0
  · rw [if_pos c]; exact (T5.refl τ i t).up (by omega)
  · rw [if_neg c]; exact t5_next
theorem t5_opn {τ : Sg} {i t : Nat} {s d l : Int32} : T5 τ (m_opn τ i s d l).1 i t := by
  unfold m_opn
  cases e : m_at (τ 0 3) 40 with
  | none => exact T5.refl τ i t
  | some k =>
    dsimp only
    exact ((((T5.cell (fun q _ _ _ b => begin_other (by omega)) : T5 τ (m_begin τ k i s d l) i t).up (by omega)).up (by omega)).up (by omega)).trans t5_next
theorem t5_spawn {τ π : Sg} {i t : Nat} {b : Int32} (ht : τ 0 1 = nI t) (h24 : t ≤ 24) : T5 τ (m_spawn τ π i b).1 i t := by
  unfold m_spawn
  cases e : m_at (τ (i + 6) 7) 40 with
  | none => exact T5.refl τ i t
  | some k =>
    dsimp only
    by_cases c1 : π 0 0 ≤ b
    · rw [if_pos c1]; exact T5.refl τ i t
    · rw [if_neg c1]
      have h1 : T5 τ (m_makeTaskW τ b (nI k)) i t := t5_makeTask ht h24
      by_cases c2 : m_makeTask τ = -1
      · rw [if_pos c2]; exact h1
      · rw [if_neg c2]; exact ((h1.up (by omega)).up (by omega)).trans t5_next
theorem t5_stop {τ : Sg} {i t : Nat} : T5 τ (m_stop τ i).1 i t := by
  unfold m_stop
  cases e : m_at (τ (i + 6) 7) 40 with
  | none => exact T5.refl τ i t
  | some k => exact t5_cancel.trans t5_next
theorem t5_sleep {τ : Sg} {i t : Nat} {a : Int32} : T5 τ (m_sleep τ i a) i t := by
  unfold m_sleep
  exact t5_bw.up (by omega)
theorem t5_lck {τ : Sg} {i t : Nat} {x : Int32} : T5 τ (m_lck τ i x).1 i t := by
  unfold m_lck
  cases e : m_at x 2 with
  | none => exact T5.refl τ i t
  | some k =>
    dsimp only
    by_cases c1 : τ (k + 94) 1 = nI i
    · rw [if_pos c1]; exact T5.refl τ i t
    · rw [if_neg c1]
      by_cases c2 : τ (k + 94) 1 = -1
      · rw [if_pos c2]; exact t5_giveTo.trans t5_next
      · rw [if_neg c2]; exact t5_bw
theorem t5_fre {τ : Sg} {i t : Nat} {x : Int32} : T5 τ (m_fre τ i x).1 i t := by
  unfold m_fre
  cases e : m_at x 2 with
  | none => exact T5.refl τ i t
  | some k =>
    dsimp only
    by_cases c1 : τ (k + 94) 1 = nI i
    · rw [if_pos c1]; exact t5_freeLock.trans t5_next
    · rw [if_neg c1]; exact T5.refl τ i t
theorem t5_send {τ : Sg} {i t : Nat} {x : Int32} : T5 τ (m_send τ i x).1 i t := by
  unfold m_send
  cases e : m_at x 2 with
  | none => exact T5.refl τ i t
  | some k =>
    dsimp only
    by_cases c1 : τ (k + 96) 3 = 0
    · rw [if_pos c1]
      cases f : m_firstWaiting τ 4 x with
      | some q =>
        obtain ⟨a, b⟩ := firstWaiting_some f
        exact (t5_giveValue a (waits_one b) (waits_n5 b (by decide))).trans t5_next
      | none =>
        dsimp only
        by_cases c2 : τ (k + 96) 0 ≤ τ (k + 96) 2
        · rw [if_pos c2]; exact t5_bw.up (by omega)
        · rw [if_neg c2]; exact t5_addLast.trans t5_next
    · rw [if_neg c1]; exact T5.refl τ i t
theorem t5_take {τ : Sg} {i t : Nat} {x : Int32} : T5 τ (m_take τ i x).1 i t := by
  unfold m_take
  by_cases c : m_hasValue τ x = true
  · rw [if_pos c]; exact (t5_takeValue.up (by omega)).trans t5_next
  · rw [if_neg c]
    cases e : m_at x 2 with
    | none => exact T5.refl τ i t
    | some k =>
      dsimp only
      by_cases c1 : τ (k + 96) 3 = 0
      · rw [if_pos c1]; exact t5_bw
      · rw [if_neg c1]; exact T5.refl τ i t
theorem t5_pick1 {τ : Sg} {i t : Nat} {x : Int32} (hi : i < 24) : T5 τ (m_pick1 τ i x) i t := ((t5_takeValue.up (by omega)).trans (t5_putLocal hi)).trans t5_next
theorem t5_pick {τ : Sg} {i t : Nat} (hi : i < 24) : T5 τ (m_pick τ i).1 i t := by
  unfold m_pick
  by_cases c1 : m_hasValue τ 0 = true
  · rw [if_pos c1]; exact t5_pick1 hi
  · rw [if_neg c1]
    by_cases c2 : m_hasValue τ 1 = true
    · rw [if_pos c2]; exact t5_pick1 hi
    · rw [if_neg c2]
      by_cases c3 : m_allEnded τ = true
      · rw [if_pos c3]; exact T5.refl τ i t
      · rw [if_neg c3]; exact t5_bw.up (by omega)
theorem t5_nd {τ : Sg} {i t : Nat} {x : Int32} : T5 τ (m_nd τ i x).1 i t := by
  unfold m_nd
  cases e : m_at x 2 with
  | none => exact T5.refl τ i t
  | some k =>
    dsimp only
    by_cases c1 : τ (k + 96) 3 = 0
    · rw [if_pos c1]; exact t5_putEnd.trans t5_next
    · rw [if_neg c1]; exact T5.refl τ i t
theorem t5_goesOn {τ : Sg} {i k t : Nat} : T5 τ (m_goesOn τ i k) i t := ((T5.refl τ i t).up (by omega)).up (by omega)
theorem t5_wayOut {τ : Sg} {i k t : Nat} : T5 τ (m_wayOut τ i k).1 i t := by
  unfold m_wayOut
  by_cases c1 : τ (k + 54) 9 = -1
  · rw [if_pos c1]; exact t5_goesOn
  · rw [if_neg c1]
    by_cases c2 : τ (k + 54) 9 = -3
    · rw [if_pos c2]
      by_cases c3 : τ (k + 54) 5 = 0
      · rw [if_pos c3]; exact T5.refl τ i t
      · rw [if_neg c3]; exact t5_goesOn
    · rw [if_neg c2]; exact T5.refl τ i t
theorem t5_takeOff {τ : Sg} {i t : Nat} : T5 τ (m_takeOff τ i).1 i t := by
  unfold m_takeOff
  cases e : m_at (τ (i + 6) 7) 40 with
  | none => exact T5.refl τ i t
  | some k =>
    have h1 : T5 τ (up2 (up2 τ (i + 6) 7 (τ (k + 54) 3)) (i + 6) 8 (up2 τ (i + 6) 7 (τ (k + 54) 3) (i + 6) 8 - 1)) i t := ((T5.refl τ i t).up (by omega)).up (by omega)
    dsimp only
    revert h1
    generalize up2 (up2 τ (i + 6) 7 (τ (k + 54) 3)) (i + 6) 8 (up2 τ (i + 6) 7 (τ (k + 54) 3) (i + 6) 8 - 1) = σ
    intro h1
    by_cases c1 : 0 < σ (k + 54) 9
    · rw [if_pos c1]; exact h1.trans t5_wayOut
    · rw [if_neg c1]
      cases f : m_at (σ (k + 54) 13) 24 with
      | none => exact h1.trans t5_wayOut
      | some q => exact h1
theorem t5_freeOf {τ : Sg} {i t p k : Nat} : T5 τ (m_freeOf τ p k) i t := by
  unfold m_freeOf
  by_cases c : τ (k + 94) 1 = nI p
  · rw [if_pos c]; exact t5_freeLock
  · rw [if_neg c]; exact T5.refl τ i t
theorem t5_tellFail {τ : Sg} {i t p k : Nat} (hk : k < 40) : T5 τ (m_tellFail τ p k) i t := by
  unfold m_tellFail
  by_cases c : τ (p + 6) 3 = 3
  · rw [if_pos c]
    dsimp only
    by_cases d : up2 τ (k + 54) 12 (τ (k + 54) 12 + 1) (k + 54) 13 = -1
    · rw [if_pos d]; exact (((T5.refl τ i t).up (by omega)).up (by omega)).trans t5_cancel
    · rw [if_neg d]; exact ((T5.refl τ i t).up (by omega)).trans t5_cancel
  · rw [if_neg c]; exact T5.refl τ i t
theorem t5_doLine {τ π : Sg} {i t : Nat} {k a b : Int32} (hi : i < 24) (ht : τ 0 1 = nI t) (h24 : t ≤ 24) : T5 τ (m_doLine τ π i k a b).1 i t := by
  unfold m_doLine
  by_cases c0 : k = 0
  · rw [if_pos c0]; exact ((T5.refl τ i t).up (by omega)).trans t5_next
  rw [if_neg c0]
  by_cases c1 : k = 1
  · rw [if_pos c1]; exact ((T5.refl τ i t).up (by omega)).trans t5_next
  rw [if_neg c1]
  by_cases c2 : k = 2
  · rw [if_pos c2]; exact (t5_putLocal hi).trans t5_next
  rw [if_neg c2]
  by_cases c3 : k = 3
  · rw [if_pos c3]; exact t5_loop hi
  rw [if_neg c3]
  by_cases c4 : k = 4
  · rw [if_pos c4]; exact t5_skip
  rw [if_neg c4]
  by_cases c5 : k = 5
  · rw [if_pos c5]; exact T5.refl τ i t
  rw [if_neg c5]
  by_cases c6 : k = 6
  · rw [if_pos c6]; exact T5.refl τ i t
  rw [if_neg c6]
  by_cases c7 : k = 7
  · rw [if_pos c7]; exact t5_opn
  rw [if_neg c7]
  by_cases c8 : k = 8
  · rw [if_pos c8]; exact t5_opn
  rw [if_neg c8]
  by_cases c9 : k = 9
  · rw [if_pos c9]; exact T5.refl τ i t
  rw [if_neg c9]
  by_cases c10 : k = 10
  · rw [if_pos c10]; exact t5_spawn ht h24
  rw [if_neg c10]
  by_cases c11 : k = 11
  · rw [if_pos c11]; exact t5_stop
  rw [if_neg c11]
  by_cases c12 : k = 12
  · rw [if_pos c12]; exact t5_sleep
  rw [if_neg c12]
  by_cases c13 : k = 13
  · rw [if_pos c13]; exact t5_lck
  rw [if_neg c13]
  by_cases c14 : k = 14
  · rw [if_pos c14]; exact t5_fre
  rw [if_neg c14]
  by_cases c15 : k = 15
  · rw [if_pos c15]; exact t5_send
  rw [if_neg c15]
  by_cases c16 : k = 16
  · rw [if_pos c16]; exact t5_take
  rw [if_neg c16]
  by_cases c17 : k = 17
  · rw [if_pos c17]; exact t5_nd
  rw [if_neg c17]
  by_cases c18 : k = 18
  · rw [if_pos c18]; exact t5_pick hi
  rw [if_neg c18]; exact T5.refl τ i t
theorem t5_goOn {τ π : Sg} {i t : Nat} (hi : i < 24) (ht : τ 0 1 = nI t) (h24 : t ≤ 24) : T5 τ (m_goOn τ π i).1 i t := by
  unfold m_goOn
  by_cases c1 : m_placeOf (τ (i + 6) 2) (τ (i + 6) 4) = -1
  · rw [if_pos c1]; exact T5.refl τ i t
  · rw [if_neg c1]
    by_cases c2 : τ (i + 6) 4 < m_linesOf π (τ (i + 6) 2)
    · rw [if_pos c2]
      by_cases c3 : τ 100 2 < 100
      · rw [if_pos c3]
        have h1 : T5 τ (up2 (up2 τ 100 2 (τ 100 2 + 1)) 0 10 (up2 τ 100 2 (τ 100 2 + 1) 0 10 + 1)) i t := ((T5.refl τ i t).up (by omega)).up (by omega)
        have h2 : up2 (up2 τ 100 2 (τ 100 2 + 1)) 0 10 (up2 τ 100 2 (τ 100 2 + 1) 0 10 + 1) 0 1 = nI t := by
          rw [up2_o (by omega), up2_o (by omega)]; exact ht
        dsimp only
        revert h1 h2
        generalize up2 (up2 τ 100 2 (τ 100 2 + 1)) 0 10 (up2 τ 100 2 (τ 100 2 + 1) 0 10 + 1) = σ
        intro h1 h2
        refine h1.trans ?_
        unfold m_goLine
        by_cases d1 : m_isWait (π 2 (m_placeOf (τ (i + 6) 2) (τ (i + 6) 4)).toNatClampNeg) = true
        · rw [if_pos d1]
          by_cases d2 : m_isHit σ i (-1) = true
          · rw [if_pos d2]; exact T5.refl σ i t
          · rw [if_neg d2]; exact t5_doLine hi h2 h24
        · rw [if_neg d1]; exact t5_doLine hi h2 h24
      · rw [if_neg c3]; exact T5.refl τ i t
    · rw [if_neg c2]; exact T5.refl τ i t
theorem t5_beginTurn {τ : Sg} {i t : Nat} (hi : i < 24) : T5 τ (m_beginTurn τ i).1 i t := by
  unfold m_beginTurn
  by_cases c1 : τ (i + 6) 9 = 0
  · rw [if_pos c1]; exact T5.refl τ i t
  rw [if_neg c1]
  by_cases c2 : τ (i + 6) 9 = 5
  · rw [if_pos c2]; exact t5_takeOff
  rw [if_neg c2]
  by_cases c3 : m_isHit τ i (-1) = true
  · rw [if_pos c3]; exact t5_giveBack
  rw [if_neg c3]
  by_cases c4 : τ (i + 6) 15 ≤ 0
  · rw [if_pos c4]
    by_cases c5 : τ (i + 6) 9 = 4
    · rw [if_pos c5]
      have h1 : T5 τ (up2 τ (i + 6) 5 (τ (i + 6) 13)) i t := (T5.refl τ i t).up (by omega)
      dsimp only
      by_cases c6 : up2 τ (i + 6) 5 (τ (i + 6) 13) (i + 6) 11 = 0
      · rw [if_pos c6]; exact h1.trans t5_next
      · rw [if_neg c6]; exact (h1.trans (t5_putLocal hi)).trans t5_next
    · rw [if_neg c5]; exact t5_next
  · rw [if_neg c4]; exact T5.refl τ i t
