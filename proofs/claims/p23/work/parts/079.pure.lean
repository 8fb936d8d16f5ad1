/-! THE BOUNDS THROUGH THE RUNNER'S STEPS -/
theorem tb_next {τ : Sg} {i : Nat} (hi : i < 24) (h : TB τ) : TB (m_next τ i) := h.off (by unfold inB; omega)
theorem tb_putLocal {τ : Sg} {i : Nat} {p v : Int32} (hv : bnd v) (h : TB τ) : TB (m_putLocal τ i p v) := by
  unfold m_putLocal
  by_cases c1 : p < 0
  · rw [if_pos c1]; exact h
  · rw [if_neg c1]
    by_cases c2 : 4 ≤ p
    · rw [if_pos c2]; exact h
    · rw [if_neg c2]; exact h.up hv
theorem bnd_local {τ : Sg} {i : Nat} {p : Int32} (hi : i < 24) (h : TB τ) : bnd (m_localAt τ i p) := by
  unfold m_localAt
  by_cases c1 : p < 0
  · rw [if_pos c1]; decide
  · rw [if_neg c1]
    by_cases c2 : 4 ≤ p
    · rw [if_pos c2]; decide
    · rw [if_neg c2]; exact h _ _ (by unfold inB; omega)
def TW (p : Sg × Int32) : Prop := TB p.1 ∧ bnd p.2
theorem TW.mk {τ : Sg} {w : Int32} (h : TB τ) (hw : bnd w) : TW (τ, w) := ⟨h, hw⟩
theorem tb_bw {τ : Sg} {i : Nat} {w x : Int32} (hi : i < 24) (hx : bnd x) (h : TB τ) : TB (m_beginWait τ i w x) := by
  unfold m_beginWait
  exact (((((((h.off (by unfold inB; omega)).off (by unfold inB; omega)).up hx).off (by unfold inB; omega)).off (by unfold inB; omega)).up (by decide)).off (by unfold inB; omega)).off (by unfold inB; omega)
theorem tb_loop {τ : Sg} {i : Nat} {a b : Int32} (hi : i < 24) (h : TB τ) : TB (m_loopR τ i a b) := by
  unfold m_loopR
  by_cases c : 0 < m_localAt τ i a
  · rw [if_pos c]; exact (tb_putLocal (bnd_dec (bnd_local hi h) c) h).off (by unfold inB; omega)
  · rw [if_neg c]; exact tb_next hi h
theorem tb_skip {τ : Sg} {i : Nat} {b : Int32} (hi : i < 24) (h : TB τ) : TB (m_skip τ i b) := by
  unfold m_skip
  by_cases c : τ (i + 6) 5 ≤ 0
  · rw [if_pos c]; exact h.off (by unfold inB; omega)
  · rw [if_neg c]; exact tb_next hi h
theorem tb_begin {τ : Sg} {k t : Nat} {s d l : Int32} (hk : k < 40) (h : TB τ) : TB (m_begin τ k t s d l) := by
  unfold m_begin
  exact ((((((h.off (by unfold inB; omega)).off (by unfold inB; omega)).off (by unfold inB; omega)).off (by unfold inB; omega)).off (by unfold inB; omega)).off (by unfold inB; omega)).off (by unfold inB; omega)
theorem tb_opn {τ : Sg} {i : Nat} {s d l : Int32} (hi : i < 24) (h : TB τ) : TW (m_opn τ i s d l) := by
  unfold m_opn
  cases e : m_at (τ 0 3) 40 with
  | none => exact TW.mk (h) (by decide)
  | some k =>
    have hk := m_at_lt e (by decide)
    exact TW.mk (tb_next hi ((((tb_begin hk h).off (by unfold inB; omega)).off (by unfold inB; omega)).off (by unfold inB; omega))) (by decide)
theorem tb_spawn {τ π : Sg} {i : Nat} {b : Int32} (hi : i < 24) (h : TB τ) : TW (m_spawn τ π i b) := by
  unfold m_spawn
  cases e : m_at (τ (i + 6) 7) 40 with
  | none => exact TW.mk (h) (by decide)
  | some k =>
    have hk := m_at_lt e (by decide)
    dsimp only
    by_cases c1 : π 0 0 ≤ b
    · rw [if_pos c1]; exact TW.mk (h) (by decide)
    · rw [if_neg c1]
      obtain ⟨h1, h2⟩ := tb_makeTask (b := b) (x := nI k) h
      by_cases c2 : m_makeTask τ = -1
      · rw [if_pos c2]; exact TW.mk (h1) (by decide)
      · rw [if_neg c2]; exact TW.mk (tb_next hi ((h1.off (by unfold inB; omega)).up h2)) (by decide)
theorem tb_stop {τ : Sg} {i : Nat} (hi : i < 24) (h : TB τ) : TW (m_stop τ i) := by
  unfold m_stop
  cases e : m_at (τ (i + 6) 7) 40 with
  | none => exact TW.mk (h) (by decide)
  | some k => exact TW.mk (tb_next hi (tb_cancel (m_at_lt e (by decide)) h)) (by decide)
theorem tb_sleep {τ : Sg} {i : Nat} {a : Int32} (hi : i < 24) (h : TB τ) : TB (m_sleep τ i a) := by
  unfold m_sleep
  exact (tb_bw hi (by decide) h).off (by unfold inB; omega)
theorem tb_lck {τ : Sg} {i : Nat} {x : Int32} (hi : i < 24) (h : TB τ) : TW (m_lck τ i x) := by
  unfold m_lck
  cases e : m_at x 2 with
  | none => exact TW.mk (h) (by decide)
  | some k =>
    dsimp only
    by_cases c1 : τ (k + 94) 1 = nI i
    · rw [if_pos c1]; exact TW.mk (h) (by decide)
    · rw [if_neg c1]
      by_cases c2 : τ (k + 94) 1 = -1
      · rw [if_pos c2]; exact TW.mk (tb_next hi (tb_giveTo (m_at_lt e (by decide)) h)) (by decide)
      · rw [if_neg c2]; exact TW.mk (tb_bw hi (at_bnd e) h) (by decide)
theorem tb_fre {τ : Sg} {i : Nat} {x : Int32} (hi : i < 24) (h : TB τ) : TW (m_fre τ i x) := by
  unfold m_fre
  cases e : m_at x 2 with
  | none => exact TW.mk (h) (by decide)
  | some k =>
    dsimp only
    by_cases c1 : τ (k + 94) 1 = nI i
    · rw [if_pos c1]; exact TW.mk (tb_next hi (tb_freeLock (m_at_lt e (by decide)) h)) (by decide)
    · rw [if_neg c1]; exact TW.mk (h) (by decide)
theorem tb_send {τ : Sg} {i : Nat} {x : Int32} (hi : i < 24) (h : TB τ) : TW (m_send τ i x) := by
  have h5 : bnd (τ (i + 6) 5) := h _ _ (by unfold inB; omega)
  unfold m_send
  cases e : m_at x 2 with
  | none => exact TW.mk (h) (by decide)
  | some k =>
    have hk := m_at_lt e (by decide)
    dsimp only
    by_cases c1 : τ (k + 96) 3 = 0
    · rw [if_pos c1]
      cases f : m_firstWaiting τ 4 x with
      | some q => exact TW.mk (tb_next hi (tb_giveValue (firstWaiting_some f).1 h5 h)) (by decide)
      | none =>
        dsimp only
        by_cases c2 : τ (k + 96) 0 ≤ τ (k + 96) 2
        · rw [if_pos c2]
          have h1 := tb_bw (w := 3) hi (at_bnd e) h
          exact TW.mk (h1.up (h1 _ _ (by unfold inB; omega))) (by decide)
        · rw [if_neg c2]; exact TW.mk (tb_next hi (tb_addLast hk h5 h)) (by decide)
    · rw [if_neg c1]; exact TW.mk (h) (by decide)
theorem tb_take {τ : Sg} {i : Nat} {x : Int32} (hi : i < 24) (h : TB τ) : TW (m_take τ i x) := by
  unfold m_take
  by_cases c : m_hasValue τ x = true
  · rw [if_pos c]
    obtain ⟨h1, h2⟩ := tb_takeValue (x := x) h
    exact TW.mk (tb_next hi (h1.up h2)) (by decide)
  · rw [if_neg c]
    cases e : m_at x 2 with
    | none => exact TW.mk (h) (by decide)
    | some k =>
      dsimp only
      by_cases c1 : τ (k + 96) 3 = 0
      · rw [if_pos c1]; exact TW.mk (tb_bw hi (at_bnd e) h) (by decide)
      · rw [if_neg c1]; exact TW.mk (h) (by decide)
theorem tb_pick1 {τ : Sg} {i : Nat} {x : Int32} (hi : i < 24) (hx : bnd x) (h : TB τ) : TB (m_pick1 τ i x) := by
  obtain ⟨h1, h2⟩ := tb_takeValue (x := x) h
  exact tb_next hi (tb_putLocal hx (h1.up h2))
theorem tb_pick {τ : Sg} {i : Nat} (hi : i < 24) (h : TB τ) : TW (m_pick τ i) := by
  unfold m_pick
  by_cases c1 : m_hasValue τ 0 = true
  · rw [if_pos c1]; exact TW.mk (tb_pick1 hi (by decide) h) (by decide)
  · rw [if_neg c1]
    by_cases c2 : m_hasValue τ 1 = true
    · rw [if_pos c2]; exact TW.mk (tb_pick1 hi (by decide) h) (by decide)
    · rw [if_neg c2]
      by_cases c3 : m_allEnded τ = true
      · rw [if_pos c3]; exact TW.mk (h) (by decide)
      · rw [if_neg c3]; exact TW.mk ((tb_bw hi (by decide) h).off (by unfold inB; omega)) (by decide)
theorem tb_nd {τ : Sg} {i : Nat} {x : Int32} (hi : i < 24) (h : TB τ) : TW (m_nd τ i x) := by
  unfold m_nd
  cases e : m_at x 2 with
  | none => exact TW.mk (h) (by decide)
  | some k =>
    dsimp only
    by_cases c1 : τ (k + 96) 3 = 0
    · rw [if_pos c1]; exact TW.mk (tb_next hi (tb_putEnd h)) (by decide)
    · rw [if_neg c1]; exact TW.mk (h) (by decide)
theorem tb_wayOut {τ : Sg} {i k : Nat} (hi : i < 24) (hk : k < 40) (h : TB τ) : TW (m_wayOut τ i k) := by
  have h9 : bnd (τ (k + 54) 9) := h _ _ (by unfold inB; omega)
  have hg : TB (m_goesOn τ i k) := by
    unfold m_goesOn
    refine (h.up ?_).off (by unfold inB; omega)
    by_cases c : τ (k + 54) 5 = 0
    · rw [if_pos c]; decide
    · rw [if_neg c]; decide
  unfold m_wayOut
  by_cases c1 : τ (k + 54) 9 = -1
  · rw [if_pos c1]; exact TW.mk (hg) (by decide)
  · rw [if_neg c1]
    by_cases c2 : τ (k + 54) 9 = -3
    · rw [if_pos c2]
      by_cases c3 : τ (k + 54) 5 = 0
      · rw [if_pos c3]; exact ⟨h, h9⟩
      · rw [if_neg c3]; exact TW.mk (hg) (by decide)
    · rw [if_neg c2]; exact ⟨h, h9⟩
theorem tb_takeOff {τ : Sg} {i : Nat} (hi : i < 24) (h : TB τ) : TW (m_takeOff τ i) := by
  unfold m_takeOff
  cases e : m_at (τ (i + 6) 7) 40 with
  | none => exact TW.mk (h) (by decide)
  | some k =>
    have hk := m_at_lt e (by decide)
    have h1 : TB (up2 (up2 τ (i + 6) 7 (τ (k + 54) 3)) (i + 6) 8 (up2 τ (i + 6) 7 (τ (k + 54) 3) (i + 6) 8 - 1)) := (h.off (by unfold inB; omega)).off (by unfold inB; omega)
    dsimp only
    revert h1
    generalize up2 (up2 τ (i + 6) 7 (τ (k + 54) 3)) (i + 6) 8 (up2 τ (i + 6) 7 (τ (k + 54) 3) (i + 6) 8 - 1) = σ
    intro h1
    by_cases c1 : 0 < σ (k + 54) 9
    · rw [if_pos c1]; exact tb_wayOut hi hk h1
    · rw [if_neg c1]
      cases f : m_at (σ (k + 54) 13) 24 with
      | none => exact tb_wayOut hi hk h1
      | some q =>
        have hq := m_at_lt f (by decide)
        exact ⟨h1, h1 _ _ (by unfold inB; omega)⟩
theorem tb_endWay {τ : Sg} {i : Nat} {w : Int32} (hi : i < 24) (hw : bnd w) (h : TB τ) : TB (m_endWay τ i w) := by
  have h1 : ∀ v, TB (up2 τ (i + 6) 3 v) := fun v => h.off (by unfold inB; omega)
  unfold m_endWay
  by_cases c : w ≤ 0
  · rw [if_pos c]; exact h1 _
  · rw [if_neg c]; exact (h1 _).up hw
theorem tb_freeOf {τ : Sg} {i k : Nat} (hk : k < 2) (h : TB τ) : TB (m_freeOf τ i k) := by
  unfold m_freeOf
  by_cases c : τ (k + 94) 1 = nI i
  · rw [if_pos c]; exact tb_freeLock hk h
  · rw [if_neg c]; exact h
theorem tb_tellFail {τ : Sg} {i k : Nat} (hk : k < 40) (h : TB τ) : TB (m_tellFail τ i k) := by
  have h1 : ∀ v, TB (up2 τ (k + 54) 12 v) := fun v => h.off (by unfold inB; omega)
  unfold m_tellFail
  by_cases c : τ (i + 6) 3 = 3
  · rw [if_pos c]
    dsimp only
    by_cases d : up2 τ (k + 54) 12 (τ (k + 54) 12 + 1) (k + 54) 13 = -1
    · rw [if_pos d]; exact tb_cancel hk ((h1 _).off (by unfold inB; omega))
    · rw [if_neg d]; exact tb_cancel hk (h1 _)
  · rw [if_neg c]; exact h
theorem tb_tellClose {τ : Sg} {k : Nat} (hk : k < 40) (h : TB τ) : TB (m_tellClose τ k) := by
  have h1 : TB (up2 τ (k + 54) 1 2) := h.off (by unfold inB; omega)
  unfold m_tellClose
  by_cases c : τ (k + 54) 1 = 1
  · rw [if_pos c]
    by_cases d : τ (k + 54) 11 < τ (k + 54) 10
    · rw [if_pos d]; exact h
    · rw [if_neg d]
      dsimp only
      cases e : m_at (up2 τ (k + 54) 1 2 (k + 54) 2) 24 with
      | none => exact h1
      | some q =>
        dsimp only
        by_cases f : m_waitsAt (up2 τ (k + 54) 1 2) q 5 = true
        · rw [if_pos f]; exact h1.mr (m_at_lt e (by decide))
        · rw [if_neg f]; exact h1
  · rw [if_neg c]; exact h
theorem tb_tellOver {τ : Sg} {i k : Nat} (hk : k < 40) (h : TB τ) : TB (m_tellOver τ i k) := tb_tellClose hk (tb_tellFail hk (h.off (by unfold inB; omega)))
theorem tb_endTask {τ : Sg} {i : Nat} {w : Int32} (hi : i < 24) (hw : bnd w) (h : TB τ) : TB (m_endTask τ i w) := by
  have h1 : TB (m_freeOf (m_freeOf (m_endWay τ i w) i 0) i 1) := tb_freeOf (by decide) (tb_freeOf (by decide) (tb_endWay hi hw h))
  unfold m_endTask m_endLast
  revert h1
  generalize m_freeOf (m_freeOf (m_endWay τ i w) i 0) i 1 = σ
  intro h1
  cases e : m_at (σ (i + 6) 6) 40 with
  | none => exact h1
  | some k => exact tb_tellOver (m_at_lt e (by decide)) h1
theorem tb_leave {τ : Sg} {i : Nat} {w : Int32} (hi : i < 24) (hw : bnd w) (h : TB τ) : TW (m_leave τ i w) := by
  unfold m_leave
  cases e : m_at (τ (i + 6) 7) 40 with
  | none => exact TW.mk (tb_endTask hi hw h) (by decide)
  | some k =>
    have hk := m_at_lt e (by decide)
    have h1 : TB (if w ≤ 0 then τ else m_cancelScope τ k) := by
      by_cases c : w ≤ 0
      · rw [if_pos c]; exact h
      · rw [if_neg c]; exact tb_cancel hk h
    dsimp only
    revert h1
    generalize (if w ≤ 0 then τ else m_cancelScope τ k) = σ
    intro h1
    have h3 : TB (up2 (up2 σ (k + 54) 1 1) (k + 54) 9 w) := (h1.off (by unfold inB; omega)).up hw
    by_cases c : up2 (up2 σ (k + 54) 1 1) (k + 54) 9 w (k + 54) 10 ≤ up2 (up2 σ (k + 54) 1 1) (k + 54) 9 w (k + 54) 11
    · rw [if_pos c]; exact tb_takeOff hi (h3.off (by unfold inB; omega))
    · rw [if_neg c]; exact TW.mk (tb_bw hi (bnd_nI (by omega)) h3) (by decide)
theorem tb_doLine {τ π : Sg} {i : Nat} {k a b : Int32} (hi : i < 24) (ha : bnd a) (h : TB τ) : TW (m_doLine τ π i k a b) := by
  unfold m_doLine
  by_cases c0 : k = 0
  · rw [if_pos c0]; exact TW.mk (tb_next hi (h.up (bnd_cap _))) (by decide)
  rw [if_neg c0]
  by_cases c1 : k = 1
  · rw [if_pos c1]; exact TW.mk (tb_next hi (h.up (bnd_local hi h))) (by decide)
  rw [if_neg c1]
  by_cases c2 : k = 2
  · rw [if_pos c2]; exact TW.mk (tb_next hi (tb_putLocal (h _ _ (by unfold inB; omega)) h)) (by decide)
  rw [if_neg c2]
  by_cases c3 : k = 3
  · rw [if_pos c3]; exact TW.mk (tb_loop hi h) (by decide)
  rw [if_neg c3]
  by_cases c4 : k = 4
  · rw [if_pos c4]; exact TW.mk (tb_skip hi h) (by decide)
  rw [if_neg c4]
  by_cases c5 : k = 5
  · rw [if_pos c5]; exact TW.mk (h) (by decide)
  rw [if_neg c5]
  by_cases c6 : k = 6
  · rw [if_pos c6]; exact ⟨h, ha⟩
  rw [if_neg c6]
  by_cases c7 : k = 7
  · rw [if_pos c7]; exact tb_opn hi h
  rw [if_neg c7]
  by_cases c8 : k = 8
  · rw [if_pos c8]; exact tb_opn hi h
  rw [if_neg c8]
  by_cases c9 : k = 9
  · rw [if_pos c9]
    refine ⟨h, ?_⟩
    show bnd (if τ (i + 6) 7 = -1 then 1 else -1)
    by_cases d : τ (i + 6) 7 = -1
    · rw [if_pos d]; decide
    · rw [if_neg d]; decide
  rw [if_neg c9]
  by_cases c10 : k = 10
  · rw [if_pos c10]; exact tb_spawn hi h
  rw [if_neg c10]
  by_cases c11 : k = 11
  · rw [if_pos c11]; exact tb_stop hi h
  rw [if_neg c11]
  by_cases c12 : k = 12
  · rw [if_pos c12]; exact TW.mk (tb_sleep hi h) (by decide)
  rw [if_neg c12]
  by_cases c13 : k = 13
  · rw [if_pos c13]; exact tb_lck hi h
  rw [if_neg c13]
  by_cases c14 : k = 14
  · rw [if_pos c14]; exact tb_fre hi h
  rw [if_neg c14]
  by_cases c15 : k = 15
  · rw [if_pos c15]; exact tb_send hi h
  rw [if_neg c15]
  by_cases c16 : k = 16
  · rw [if_pos c16]; exact tb_take hi h
  rw [if_neg c16]
  by_cases c17 : k = 17
  · rw [if_pos c17]; exact tb_nd hi h
  rw [if_neg c17]
  by_cases c18 : k = 18
  · rw [if_pos c18]; exact tb_pick hi h
  rw [if_neg c18]; exact TW.mk (h) (by decide)
theorem tb_goOn {τ π : Sg} {i : Nat} (hi : i < 24) (hp : ∀ q, bnd (π 3 q)) (h : TB τ) : TW (m_goOn τ π i) := by
  unfold m_goOn
  by_cases c1 : m_placeOf (τ (i + 6) 2) (τ (i + 6) 4) = -1
  · rw [if_pos c1]; exact TW.mk (h) (by decide)
  · rw [if_neg c1]
    by_cases c2 : τ (i + 6) 4 < m_linesOf π (τ (i + 6) 2)
    · rw [if_pos c2]
      by_cases c3 : τ 100 2 < 100
      · rw [if_pos c3]
        have h1 : TB (up2 (up2 τ 100 2 (τ 100 2 + 1)) 0 10 (up2 τ 100 2 (τ 100 2 + 1) 0 10 + 1)) := (h.off (by unfold inB; omega)).off (by unfold inB; omega)
        dsimp only
        revert h1
        generalize up2 (up2 τ 100 2 (τ 100 2 + 1)) 0 10 (up2 τ 100 2 (τ 100 2 + 1) 0 10 + 1) = σ
        intro h1
        unfold m_goLine
        by_cases d1 : m_isWait (π 2 (m_placeOf (τ (i + 6) 2) (τ (i + 6) 4)).toNatClampNeg) = true
        · rw [if_pos d1]
          by_cases d2 : m_isHit σ i (-1) = true
          · rw [if_pos d2]; exact TW.mk (h1) (by decide)
          · rw [if_neg d2]; exact tb_doLine hi (hp _) h1
        · rw [if_neg d1]; exact tb_doLine hi (hp _) h1
      · rw [if_neg c3]; exact TW.mk (h) (by decide)
    · rw [if_neg c2]; exact TW.mk (h) (by decide)
theorem tb_beginTurn {τ : Sg} {i : Nat} (hi : i < 24) (h : TB τ) : TW (m_beginTurn τ i) := by
  unfold m_beginTurn
  by_cases c1 : τ (i + 6) 9 = 0
  · rw [if_pos c1]; exact TW.mk (h) (by decide)
  rw [if_neg c1]
  by_cases c2 : τ (i + 6) 9 = 5
  · rw [if_pos c2]; exact tb_takeOff hi h
  rw [if_neg c2]
  by_cases c3 : m_isHit τ i (-1) = true
  · rw [if_pos c3]; exact TW.mk (tb_giveBack hi h) (by decide)
  rw [if_neg c3]
  by_cases c4 : τ (i + 6) 15 ≤ 0
  · rw [if_pos c4]
    by_cases c5 : τ (i + 6) 9 = 4
    · rw [if_pos c5]
      have h1 : TB (up2 τ (i + 6) 5 (τ (i + 6) 13)) := h.up (h _ _ (by unfold inB; omega))
      dsimp only
      by_cases c6 : up2 τ (i + 6) 5 (τ (i + 6) 13) (i + 6) 11 = 0
      · rw [if_pos c6]; exact TW.mk (tb_next hi h1) (by decide)
      · rw [if_neg c6]; exact TW.mk (tb_next hi (tb_putLocal (h1 _ _ (by unfold inB; omega)) h1)) (by decide)
    · rw [if_neg c5]; exact TW.mk (tb_next hi h) (by decide)
  · rw [if_neg c4]; exact ⟨h, h _ _ (by unfold inB; omega)⟩
theorem tb_steps {π : Sg} {i : Nat} (hi : i < 24) (hp : ∀ q, bnd (π 3 q)) : ∀ (n : Nat) (τ : Sg) (w : Int32), TB τ → bnd w → TB (m_steps π i n τ w) := by
  intro n
  induction n with
  | zero => intro τ w h _; exact h
  | succ n ih =>
    intro τ w h hw
    unfold m_steps
    by_cases c1 : w = -4
    · rw [if_pos c1]; exact h
    · rw [if_neg c1]
      by_cases c2 : w = 0
      · rw [if_pos c2]
        obtain ⟨g1, g2⟩ := tb_goOn hi hp h
        exact ih _ _ g1 g2
      · rw [if_neg c2]
        obtain ⟨g1, g2⟩ := tb_leave hi hw h
        exact ih _ _ g1 g2
theorem tb_turn {τ π : Sg} {i : Nat} (hi : i < 24) (hp : ∀ q, bnd (π 3 q)) (h : TB τ) : TB (m_turn τ π i) := by
  have h1 : TB (up2 (up2 τ 0 9 (τ 0 9 + 1)) 100 2 0) := (h.off (by unfold inB; omega)).off (by unfold inB; omega)
  unfold m_turn
  obtain ⟨g1, g2⟩ := tb_beginTurn hi h1
  exact tb_steps hi hp 1000 _ _ g1 g2
theorem tb_takeReady {τ : Sg} (h : TB τ) : TB (m_takeReadyW τ) := by
  unfold m_takeReadyW
  by_cases c : ¬ 0 < τ 0 7
  · rw [if_pos c]; exact h
  · rw [if_neg c]
    refine (h.keep (fun a b hab => ?_)).off (by unfold inB; omega)
    unfold inB at hab
    rw [shift_other 24 0 τ a (by omega)]
theorem takeReady_lt {τ : Sg} {i : Nat} (h : m_takeReady τ = some i) : i < 24 := by
  unfold m_takeReady at h
  by_cases c : ¬ 0 < τ 0 7
  · rw [if_pos c] at h; cases h
  · rw [if_neg c] at h; exact m_at_lt h (by decide)
theorem tb_turns {π : Sg} (hp : ∀ q, bnd (π 3 q)) : ∀ (n k : Nat) (τ : Sg), TB τ → TB (m_turns π n k τ).1 := by
  intro n
  induction n with
  | zero => intro k τ h; exact h
  | succ n ih =>
    intro k τ h
    unfold m_turns
    cases e : m_takeReady τ with
    | none => exact tb_takeReady h
    | some i => exact ih (k + 1) _ (tb_turn (takeReady_lt e) hp (tb_takeReady h))
-- TIME
theorem tb_tickS : ∀ (n j : Nat) (τ : Sg), n + j = 40 → TB τ → TB (m_tickScopes n j τ) := by
  intro n
  induction n with
  | zero => intro j τ _ h; exact h
  | succ n ih =>
    intro j τ hn h
    show TB (m_tickScopes n (j + 1) _)
    refine ih (j + 1) _ (by omega) ?_
    by_cases c1 : m_isLive τ j = true
    · rw [if_pos c1]
      by_cases c2 : τ (j + 54) 7 = τ 0 8
      · rw [if_pos c2]; exact tb_cancel (by omega) h
      · rw [if_neg c2]; exact h
    · rw [if_neg c1]; exact h
theorem tb_tickT : ∀ (n j : Nat) (τ : Sg), n + j = 24 → TB τ → TB (m_tickTasks n j τ) := by
  intro n
  induction n with
  | zero => intro j τ _ h; exact h
  | succ n ih =>
    intro j τ hn h
    show TB (m_tickTasks n (j + 1) _)
    refine ih (j + 1) _ (by omega) ?_
    by_cases c1 : m_waitsAt τ j 1 = true
    · rw [if_pos c1]
      by_cases c2 : τ (j + 6) 12 = τ 0 8
      · rw [if_pos c2]; exact h.mr (by omega)
      · rw [if_neg c2]; exact h
    · rw [if_neg c1]; exact h
theorem tb_tick {τ : Sg} (h : TB τ) : TB (m_tickOnceW τ) := tb_tickT 24 0 _ rfl (tb_tickS 40 0 _ rfl (h.off (by unfold inB; omega)))
