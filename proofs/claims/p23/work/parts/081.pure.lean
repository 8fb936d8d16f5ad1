/-! THE OTHER TASKS THROUGH THE RUNNER'S STEPS -/
theorem tk_next {τ : Sg} {i t : Nat} : TK τ (m_next τ i) i t := (TK.refl τ i t).up (by omega)
theorem tk_putLocal {τ : Sg} {i t : Nat} {p v : Int32} (hi : i < 24) : TK τ (m_putLocal τ i p v) i t := by
  unfold m_putLocal
  by_cases c1 : p < 0
  · rw [if_pos c1]; exact TK.refl τ i t
  · rw [if_neg c1]
    by_cases c2 : 4 ≤ p
    · rw [if_pos c2]; exact TK.refl τ i t
    · rw [if_neg c2]; exact (TK.refl τ i t).up (by omega)
theorem tk_bw {τ : Sg} {i t : Nat} {w x : Int32} : TK τ (m_beginWait τ i w x) i t := TK.cell (fun q _ hq _ b => bw_other (by omega) (by omega))
theorem tk_loop {τ : Sg} {i t : Nat} {a b : Int32} (hi : i < 24) : TK τ (m_loopR τ i a b) i t := by
  unfold m_loopR
  by_cases c : 0 < m_localAt τ i a
  · rw [if_pos c]; exact (tk_putLocal hi).up (by omega)
  · rw [if_neg c]; exact tk_next
theorem tk_skip {τ : Sg} {i t : Nat} {b : Int32} : TK τ (m_skip τ i b) i t := by
  unfold m_skip
  by_cases c : τ (i + 6) 5 ≤ 0
  · rw [if_pos c]; exact (TK.refl τ i t).up (by omega)
  · rw [if_neg c]; exact tk_next
theorem begin_other {τ : Sg} {k p a b : Nat} {s d l : Int32} (h : a ≠ k + 54) : m_begin τ k p s d l a b = τ a b := by
  unfold m_begin
  rw [up2_a h, up2_a h, up2_a h, up2_a h, up2_a h, up2_a h, up2_a h]
theorem tk_opn {τ : Sg} {i t : Nat} {s d l : Int32} : TK τ (m_opn τ i s d l).1 i t := by
  unfold m_opn
  cases e : m_at (τ 0 3) 40 with
  | none => exact TK.refl τ i t
  | some k =>
    dsimp only
    exact ((((TK.cell (fun q _ _ _ b => begin_other (by omega)) : TK τ (m_begin τ k i s d l) i t).up (by omega)).up (by omega)).up (by omega)).trans tk_next
theorem tk_spawn {τ π : Sg} {i t : Nat} {b : Int32} (ht : τ 0 1 = nI t) (h24 : t ≤ 24) : TK τ (m_spawn τ π i b).1 i t := by
  unfold m_spawn
  cases e : m_at (τ (i + 6) 7) 40 with
  | none => exact TK.refl τ i t
  | some k =>
    dsimp only
    by_cases c1 : π 0 0 ≤ b
    · rw [if_pos c1]; exact TK.refl τ i t
    · rw [if_neg c1]
      have h1 : TK τ (m_makeTaskW τ b (nI k)) i t := tk_makeTask ht h24
      by_cases c2 : m_makeTask τ = -1
      · rw [if_pos c2]; exact h1
      · rw [if_neg c2]; exact ((h1.up (by omega)).up (by omega)).trans tk_next
theorem tk_stop {τ : Sg} {i t : Nat} : TK τ (m_stop τ i).1 i t := by
  unfold m_stop
  cases e : m_at (τ (i + 6) 7) 40 with
  | none => exact TK.refl τ i t
  | some k => exact tk_cancel.trans tk_next
theorem tk_sleep {τ : Sg} {i t : Nat} {a : Int32} : TK τ (m_sleep τ i a) i t := by
  unfold m_sleep
  exact tk_bw.up (by omega)
theorem tk_lck {τ : Sg} {i t : Nat} {x : Int32} : TK τ (m_lck τ i x).1 i t := by
  unfold m_lck
  cases e : m_at x 2 with
  | none => exact TK.refl τ i t
  | some k =>
    dsimp only
    by_cases c1 : τ (k + 94) 1 = nI i
    · rw [if_pos c1]; exact TK.refl τ i t
    · rw [if_neg c1]
      by_cases c2 : τ (k + 94) 1 = -1
      · rw [if_pos c2]; exact tk_giveTo.trans tk_next
      · rw [if_neg c2]; exact tk_bw
theorem tk_fre {τ : Sg} {i t : Nat} {x : Int32} : TK τ (m_fre τ i x).1 i t := by
  unfold m_fre
  cases e : m_at x 2 with
  | none => exact TK.refl τ i t
  | some k =>
    dsimp only
    by_cases c1 : τ (k + 94) 1 = nI i
    · rw [if_pos c1]; exact tk_freeLock.trans tk_next
    · rw [if_neg c1]; exact TK.refl τ i t
theorem tk_send {τ : Sg} {i t : Nat} {x : Int32} : TK τ (m_send τ i x).1 i t := by
  unfold m_send
  cases e : m_at x 2 with
  | none => exact TK.refl τ i t
  | some k =>
    dsimp only
    by_cases c1 : τ (k + 96) 3 = 0
    · rw [if_pos c1]
      cases f : m_firstWaiting τ 4 x with
      | some q =>
        obtain ⟨a, b⟩ := firstWaiting_some f
        exact (tk_giveValue a (waits_one b)).trans tk_next
      | none =>
        dsimp only
        by_cases c2 : τ (k + 96) 0 ≤ τ (k + 96) 2
        · rw [if_pos c2]; exact tk_bw.up (by omega)
        · rw [if_neg c2]; exact tk_addLast.trans tk_next
    · rw [if_neg c1]; exact TK.refl τ i t
theorem tk_take {τ : Sg} {i t : Nat} {x : Int32} : TK τ (m_take τ i x).1 i t := by
  unfold m_take
  by_cases c : m_hasValue τ x = true
  · rw [if_pos c]; exact (tk_takeValue.up (by omega)).trans tk_next
  · rw [if_neg c]
    cases e : m_at x 2 with
    | none => exact TK.refl τ i t
    | some k =>
      dsimp only
      by_cases c1 : τ (k + 96) 3 = 0
      · rw [if_pos c1]; exact tk_bw
      · rw [if_neg c1]; exact TK.refl τ i t
theorem tk_pick1 {τ : Sg} {i t : Nat} {x : Int32} (hi : i < 24) : TK τ (m_pick1 τ i x) i t := ((tk_takeValue.up (by omega)).trans (tk_putLocal hi)).trans tk_next
theorem tk_pick {τ : Sg} {i t : Nat} (hi : i < 24) : TK τ (m_pick τ i).1 i t := by
  unfold m_pick
  by_cases c1 : m_hasValue τ 0 = true
  · rw [if_pos c1]; exact tk_pick1 hi
  · rw [if_neg c1]
    by_cases c2 : m_hasValue τ 1 = true
    · rw [if_pos c2]; exact tk_pick1 hi
    · rw [if_neg c2]
      by_cases c3 : m_allEnded τ = true
      · rw [if_pos c3]; exact TK.refl τ i t
      · rw [if_neg c3]; exact tk_bw.up (by omega)
theorem tk_nd {τ : Sg} {i t : Nat} {x : Int32} : TK τ (m_nd τ i x).1 i t := by
  unfold m_nd
  cases e : m_at x 2 with
  | none => exact TK.refl τ i t
  | some k =>
    dsimp only
    by_cases c1 : τ (k + 96) 3 = 0
    · rw [if_pos c1]; exact tk_putEnd.trans tk_next
    · rw [if_neg c1]; exact TK.refl τ i t
theorem tk_goesOn {τ : Sg} {i k t : Nat} : TK τ (m_goesOn τ i k) i t := ((TK.refl τ i t).up (by omega)).up (by omega)
theorem tk_wayOut {τ : Sg} {i k t : Nat} : TK τ (m_wayOut τ i k).1 i t := by
  unfold m_wayOut
  by_cases c1 : τ (k + 54) 9 = -1
  · rw [if_pos c1]; exact tk_goesOn
  · rw [if_neg c1]
    by_cases c2 : τ (k + 54) 9 = -3
    · rw [if_pos c2]
      by_cases c3 : τ (k + 54) 5 = 0
      · rw [if_pos c3]; exact TK.refl τ i t
      · rw [if_neg c3]; exact tk_goesOn
    · rw [if_neg c2]; exact TK.refl τ i t
theorem tk_takeOff {τ : Sg} {i t : Nat} : TK τ (m_takeOff τ i).1 i t := by
  unfold m_takeOff
  cases e : m_at (τ (i + 6) 7) 40 with
  | none => exact TK.refl τ i t
  | some k =>
    have h1 : TK τ (up2 (up2 τ (i + 6) 7 (τ (k + 54) 3)) (i + 6) 8 (up2 τ (i + 6) 7 (τ (k + 54) 3) (i + 6) 8 - 1)) i t := ((TK.refl τ i t).up (by omega)).up (by omega)
    dsimp only
    revert h1
    generalize up2 (up2 τ (i + 6) 7 (τ (k + 54) 3)) (i + 6) 8 (up2 τ (i + 6) 7 (τ (k + 54) 3) (i + 6) 8 - 1) = σ
    intro h1
    by_cases c1 : 0 < σ (k + 54) 9
    · rw [if_pos c1]; exact h1.trans tk_wayOut
    · rw [if_neg c1]
      cases f : m_at (σ (k + 54) 13) 24 with
      | none => exact h1.trans tk_wayOut
      | some q => exact h1
theorem tk_freeOf {τ : Sg} {i t p k : Nat} : TK τ (m_freeOf τ p k) i t := by
  unfold m_freeOf
  by_cases c : τ (k + 94) 1 = nI p
  · rw [if_pos c]; exact tk_freeLock
  · rw [if_neg c]; exact TK.refl τ i t
theorem tk_tellFail {τ : Sg} {i t p k : Nat} (hk : k < 40) : TK τ (m_tellFail τ p k) i t := by
  unfold m_tellFail
  by_cases c : τ (p + 6) 3 = 3
  · rw [if_pos c]
    dsimp only
    by_cases d : up2 τ (k + 54) 12 (τ (k + 54) 12 + 1) (k + 54) 13 = -1
    · rw [if_pos d]; exact (((TK.refl τ i t).up (by omega)).up (by omega)).trans tk_cancel
    · rw [if_neg d]; exact ((TK.refl τ i t).up (by omega)).trans tk_cancel
  · rw [if_neg c]; exact TK.refl τ i t
theorem tk_tellClose {τ : Sg} {i t k : Nat} : TK τ (m_tellClose τ k) i t := by
  unfold m_tellClose
  by_cases c : τ (k + 54) 1 = 1
  · rw [if_pos c]
    by_cases d : τ (k + 54) 11 < τ (k + 54) 10
    · rw [if_pos d]; exact TK.refl τ i t
    · rw [if_neg d]
      have h1 : TK τ (up2 τ (k + 54) 1 2) i t := (TK.refl τ i t).up (by omega)
      dsimp only
      cases e : m_at (up2 τ (k + 54) 1 2 (k + 54) 2) 24 with
      | none => exact h1
      | some q =>
        dsimp only
        by_cases f : m_waitsAt (up2 τ (k + 54) 1 2) q 5 = true
        · rw [if_pos f]; exact h1.trans (TK.wk0 (m_at_lt e (by decide)) (waitsAt_iff.mp f).1)
        · rw [if_neg f]; exact h1
  · rw [if_neg c]; exact TK.refl τ i t
theorem tk_tellOver {τ : Sg} {i t p k : Nat} (hk : k < 40) : TK τ (m_tellOver τ p k) i t := (((TK.refl τ i t).up (by omega)).trans (tk_tellFail hk)).trans tk_tellClose
theorem tk_endLast {τ : Sg} {i t p : Nat} : TK τ (m_endLast τ p) i t := by
  unfold m_endLast
  cases e : m_at (τ (p + 6) 6) 40 with
  | none => exact TK.refl τ i t
  | some k => exact tk_tellOver (m_at_lt e (by decide))
theorem tk_endTask {τ : Sg} {i t : Nat} {w : Int32} : TK τ (m_endTask τ i w) i t := (((TK.cell (fun q _ hq _ b => endWay_other (by omega))).trans tk_freeOf).trans tk_freeOf).trans tk_endLast
theorem tk_leave {τ : Sg} {i t : Nat} {w : Int32} : TK τ (m_leave τ i w).1 i t := by
  unfold m_leave
  cases e : m_at (τ (i + 6) 7) 40 with
  | none => exact tk_endTask
  | some k =>
    have h1 : TK τ (if w ≤ 0 then τ else m_cancelScope τ k) i t := by
      by_cases c : w ≤ 0
      · rw [if_pos c]; exact TK.refl τ i t
      · rw [if_neg c]; exact tk_cancel
    dsimp only
    revert h1
    generalize (if w ≤ 0 then τ else m_cancelScope τ k) = σ
    intro h1
    have h3 : TK τ (up2 (up2 σ (k + 54) 1 1) (k + 54) 9 w) i t := (h1.up (by omega)).up (by omega)
    by_cases c : up2 (up2 σ (k + 54) 1 1) (k + 54) 9 w (k + 54) 10 ≤ up2 (up2 σ (k + 54) 1 1) (k + 54) 9 w (k + 54) 11
    · rw [if_pos c]; exact (h3.up (by omega)).trans tk_takeOff
    · rw [if_neg c]; exact h3.trans tk_bw
theorem tk_doLine {τ π : Sg} {i t : Nat} {k a b : Int32} (hi : i < 24) (ht : τ 0 1 = nI t) (h24 : t ≤ 24) : TK τ (m_doLine τ π i k a b).1 i t := by
  unfold m_doLine
  by_cases c0 : k = 0
  · rw [if_pos c0]; exact ((TK.refl τ i t).up (by omega)).trans tk_next
  rw [if_neg c0]
  by_cases c1 : k = 1
  · rw [if_pos c1]; exact ((TK.refl τ i t).up (by omega)).trans tk_next
  rw [if_neg c1]
  by_cases c2 : k = 2
  · rw [if_pos c2]; exact (tk_putLocal hi).trans tk_next
  rw [if_neg c2]
  by_cases c3 : k = 3
  · rw [if_pos c3]; exact tk_loop hi
  rw [if_neg c3]
  by_cases c4 : k = 4
  · rw [if_pos c4]; exact tk_skip
  rw [if_neg c4]
  by_cases c5 : k = 5
  · rw [if_pos c5]; exact TK.refl τ i t
  rw [if_neg c5]
  by_cases c6 : k = 6
  · rw [if_pos c6]; exact TK.refl τ i t
  rw [if_neg c6]
  by_cases c7 : k = 7
  · rw [if_pos c7]; exact tk_opn
  rw [if_neg c7]
  by_cases c8 : k = 8
  · rw [if_pos c8]; exact tk_opn
  rw [if_neg c8]
  by_cases c9 : k = 9
  · rw [if_pos c9]; exact TK.refl τ i t
  rw [if_neg c9]
  by_cases c10 : k = 10
  · rw [if_pos c10]; exact tk_spawn ht h24
  rw [if_neg c10]
  by_cases c11 : k = 11
  · rw [if_pos c11]; exact tk_stop
  rw [if_neg c11]
  by_cases c12 : k = 12
  · rw [if_pos c12]; exact tk_sleep
  rw [if_neg c12]
  by_cases c13 : k = 13
  · rw [if_pos c13]; exact tk_lck
  rw [if_neg c13]
  by_cases c14 : k = 14
  · rw [if_pos c14]; exact tk_fre
  rw [if_neg c14]
  by_cases c15 : k = 15
  · rw [if_pos c15]; exact tk_send
  rw [if_neg c15]
  by_cases c16 : k = 16
  · rw [if_pos c16]; exact tk_take
  rw [if_neg c16]
  by_cases c17 : k = 17
  · rw [if_pos c17]; exact tk_nd
  rw [if_neg c17]
  by_cases c18 : k = 18
  · rw [if_pos c18]; exact tk_pick hi
  rw [if_neg c18]; exact TK.refl τ i t
theorem tk_goOn {τ π : Sg} {i t : Nat} (hi : i < 24) (ht : τ 0 1 = nI t) (h24 : t ≤ 24) : TK τ (m_goOn τ π i).1 i t := by
  unfold m_goOn
  by_cases c1 : m_placeOf (τ (i + 6) 2) (τ (i + 6) 4) = -1
  · rw [if_pos c1]; exact TK.refl τ i t
  · rw [if_neg c1]
    by_cases c2 : τ (i + 6) 4 < m_linesOf π (τ (i + 6) 2)
    · rw [if_pos c2]
      by_cases c3 : τ 100 2 < 100
      · rw [if_pos c3]
        have h1 : TK τ (up2 (up2 τ 100 2 (τ 100 2 + 1)) 0 10 (up2 τ 100 2 (τ 100 2 + 1) 0 10 + 1)) i t := ((TK.refl τ i t).up (by omega)).up (by omega)
        have h2 : up2 (up2 τ 100 2 (τ 100 2 + 1)) 0 10 (up2 τ 100 2 (τ 100 2 + 1) 0 10 + 1) 0 1 = nI t := by
          rw [up2_o (by omega), up2_o (by omega)]; exact ht
        dsimp only
        revert h1 h2
        generalize up2 (up2 τ 100 2 (τ 100 2 + 1)) 0 10 (up2 τ 100 2 (τ 100 2 + 1) 0 10 + 1) = σ
        intro h1 h2
        refine h1.trans ?_
        unfold m_goLine
        by_cases d1 : m_isWait (π 2 (m_placeOf (τ (i + 6) 2) (τ (i + 6) 4)).toNatClampNeg) = true
        · rw [if_pos d1]
          by_cases d2 : m_isHit σ i (-1) = true
          · rw [if_pos d2]; exact TK.refl σ i t
          · rw [if_neg d2]; exact tk_doLine hi h2 h24
        · rw [if_neg d1]; exact tk_doLine hi h2 h24
      · rw [if_neg c3]; exact TK.refl τ i t
    · rw [if_neg c2]; exact TK.refl τ i t
theorem tk_beginTurn {τ : Sg} {i t : Nat} (hi : i < 24) : TK τ (m_beginTurn τ i).1 i t := by
  unfold m_beginTurn
  by_cases c1 : τ (i + 6) 9 = 0
  · rw [if_pos c1]; exact TK.refl τ i t
  rw [if_neg c1]
  by_cases c2 : τ (i + 6) 9 = 5
  · rw [if_pos c2]; exact tk_takeOff
  rw [if_neg c2]
  by_cases c3 : m_isHit τ i (-1) = true
  · rw [if_pos c3]; exact tk_giveBack
  rw [if_neg c3]
  by_cases c4 : τ (i + 6) 15 ≤ 0
  · rw [if_pos c4]
    by_cases c5 : τ (i + 6) 9 = 4
    · rw [if_pos c5]
      have h1 : TK τ (up2 τ (i + 6) 5 (τ (i + 6) 13)) i t := (TK.refl τ i t).up (by omega)
      dsimp only
      by_cases c6 : up2 τ (i + 6) 5 (τ (i + 6) 13) (i + 6) 11 = 0
      · rw [if_pos c6]; exact h1.trans tk_next
      · rw [if_neg c6]; exact (h1.trans (tk_putLocal hi)).trans tk_next
    · rw [if_neg c5]; exact tk_next
  · rw [if_neg c4]; exact TK.refl τ i t
