/-! THE ROW THROUGH ALL STEPS: the end of a TASK, leaving, a line, the beginning of a turn, TIME -/
theorem endWay_other {τ : Sg} {i a b : Nat} {w : Int32} (h : ¬ (a = i + 6 ∧ (b = 3 ∨ b = 5))) : m_endWay τ i w a b = τ a b := by
  unfold m_endWay
  by_cases c : w ≤ 0
  · rw [if_pos c, if_pos c, up2_o (by omega)]
  · rw [if_neg c, if_neg c, up2_o (by omega), up2_o (by omega)]
theorem endWay_state (τ : Sg) (i : Nat) (w : Int32) : m_endWay τ i w (i + 6) 3 = if w ≤ 0 then (if w = -3 then 4 else 2) else 3 := by
  unfold m_endWay
  by_cases c : w ≤ 0
  · rw [if_pos c, if_pos c, up2_same]
  · rw [if_neg c, if_neg c, up2_o (by omega), up2_same]
theorem endWay_ne (τ : Sg) (i : Nat) (w : Int32) : m_endWay τ i w (i + 6) 3 ≠ 0 := by
  rw [endWay_state]
  by_cases c : w ≤ 0
  · rw [if_pos c]
    by_cases d : w = -3
    · rw [if_pos d]; decide
    · rw [if_neg d]; decide
  · rw [if_neg c]; decide
theorem rs_endWay {τ : Sg} {i : Nat} {w : Int32} (h : RS τ (some i)) : RS (m_endWay τ i w) none := by
  obtain ⟨⟨L, hL⟩, _⟩ := h
  refine ⟨⟨L, ready_leave hL (endWay_other (by omega)) (fun j => endWay_other (by omega)) (fun q hq hn => endWay_other (by omega)) (endWay_ne τ i w)⟩, fun q hq => by cases hq⟩
theorem rs_freeOf {τ : Sg} {r : Option Nat} {i k : Nat} (hk : k < 2) (h : RS τ r) : RS (m_freeOf τ i k) r := by
  unfold m_freeOf
  by_cases c : τ (k + 94) 1 = nI i
  · rw [if_pos c]; exact rs_freeLock hk h
  · rw [if_neg c]; exact h
theorem rs_tellFail {τ : Sg} {r : Option Nat} {i k : Nat} (hk : k < 40) (h : RS τ r) : RS (m_tellFail τ i k) r := by
  unfold m_tellFail
  by_cases c : τ (i + 6) 3 = 3
  · rw [if_pos c]
    dsimp only
    have h1 : RS (up2 τ (k + 54) 12 (τ (k + 54) 12 + 1)) r := h.up (by omega) (by omega) (by omega)
    by_cases d : up2 τ (k + 54) 12 (τ (k + 54) 12 + 1) (k + 54) 13 = -1
    · rw [if_pos d]; exact rs_cancel hk (h1.up (by omega) (by omega) (by omega))
    · rw [if_neg d]; exact rs_cancel hk h1
  · rw [if_neg c]; exact h
theorem rs_tellClose {τ : Sg} {r : Option Nat} {k : Nat} (h : RS τ r) : RS (m_tellClose τ k) r := by
  unfold m_tellClose
  by_cases c : τ (k + 54) 1 = 1
  · rw [if_pos c]
    by_cases d : τ (k + 54) 11 < τ (k + 54) 10
    · rw [if_pos d]; exact h
    · rw [if_neg d]
      have h1 : RS (up2 τ (k + 54) 1 2) r := h.up (by omega) (by omega) (by omega)
      dsimp only
      cases e : m_at (up2 τ (k + 54) 1 2 (k + 54) 2) 24 with
      | none => exact h1
      | some q =>
        dsimp only
        by_cases f : m_waitsAt (up2 τ (k + 54) 1 2) q 5 = true
        · rw [if_pos f]; exact h1.mr (m_at_lt e (by decide)) (one_ne (waitsAt_iff.mp f).1)
        · rw [if_neg f]; exact h1
  · rw [if_neg c]; exact h
theorem rs_tellOver {τ : Sg} {r : Option Nat} {i k : Nat} (hk : k < 40) (h : RS τ r) : RS (m_tellOver τ i k) r := rs_tellClose (rs_tellFail hk (h.up (by omega) (by omega) (by omega)))
theorem rs_endLast {τ : Sg} {r : Option Nat} {i : Nat} (h : RS τ r) : RS (m_endLast τ i) r := by
  unfold m_endLast
  cases e : m_at (τ (i + 6) 6) 40 with
  | none => exact h
  | some k => exact rs_tellOver (m_at_lt e (by decide)) h
theorem rs_endTask {τ : Sg} {i : Nat} {w : Int32} (h : RS τ (some i)) : RS (m_endTask τ i w) none := rs_endLast (rs_freeOf (by decide) (rs_freeOf (by decide) (rs_endWay h)))
/-- what takeOffScope needs, so that its way is none that ends a turn -/
def WOK (τ : Sg) : Prop := WayOk τ ∧ (∀ q, q < 24 → τ (q + 6) 5 ≠ -4 ∨ τ (q + 6) 3 ≠ 3) ∧ ∀ k q, k < 40 → m_at (τ (k + 54) 13) 24 = some q → τ (q + 6) 3 = 3
theorem cancel_other {τ : Sg} {k a b : Nat} {r : Option Nat} (hk : k < 40) (h : RS τ r) (h1 : a ≠ 5) (h2 : ¬ (a = 0 ∧ b = 7)) (h3 : ¬ (6 ≤ a ∧ a < 30 ∧ b = 3)) (h4 : ¬ (a = k + 54 ∧ b = 5)) : m_cancelScope τ k a b = τ a b := by
  obtain ⟨⟨L, hL⟩, hr⟩ := h
  exact (cancel_spec hk hL (fun i hi => (hr i hi).2)).2.1 a b h1 h2 h3 h4
/-- a CANCEL makes READY what waited, and changes nothing else of a TASK's state -/
theorem cancel_state {τ : Sg} {k i : Nat} {r : Option Nat} (hk : k < 40) (hi : i < 24) (h : RS τ r) : m_cancelScope τ k (i + 6) 3 = τ (i + 6) 3 ∨ (τ (i + 6) 3 = 1 ∧ τ (i + 6) 9 ≠ 5 ∧ m_cancelScope τ k (i + 6) 3 = 0) := by
  obtain ⟨⟨L, hL⟩, hr⟩ := h
  obtain ⟨_, _, g3, g4⟩ := cancel_spec hk hL (fun i hi => (hr i hi).2)
  cases c : m_cancels τ k with
  | false => rw [g4 c]; exact Or.inl rfl
  | true =>
    rw [(g3 c).2 i hi]
    by_cases z : τ (i + 6) 3 = 1 ∧ τ (i + 6) 9 ≠ 5 ∧ m_isHit (up2 τ (k + 54) 5 1) i (-1) = true
    · rw [if_pos z]; exact Or.inr ⟨z.1, z.2.1, rfl⟩
    · rw [if_neg z]; exact Or.inl rfl
theorem cancel_WOK {τ : Sg} {k : Nat} {r : Option Nat} (hk : k < 40) (h : RS τ r) (hw : WOK τ) : WOK (m_cancelScope τ k) := by
  obtain ⟨w1, w2, w3⟩ := hw
  refine ⟨fun q hq => ?_, fun q hq => ?_, fun q t hq ht => ?_⟩
  · rw [cancel_other hk h (by omega) (by omega) (by omega) (by omega)]; exact w1 q hq
  · rw [cancel_other hk h (by omega) (by omega) (by omega) (by omega)]
    rcases w2 q hq with z | z
    · exact Or.inl z
    · refine Or.inr ?_
      rcases cancel_state hk hq h with y | y
      · rw [y]; exact z
      · rw [y.2.2]; decide
  · rw [cancel_other hk h (by omega) (by omega) (by omega) (by omega)] at ht
    have h3 := w3 q t hq ht
    rcases cancel_state hk (m_at_lt ht (by decide)) h with y | y
    · rw [y]; exact h3
    · rw [h3] at y; exact absurd y.1 (by decide)
theorem rs_leave {τ : Sg} {i : Nat} {w : Int32} (hw : w ≠ -4) (hk : WOK τ) (h : RS τ (some i)) : RW i (m_leave τ i w) := by
  unfold m_leave
  cases e : m_at (τ (i + 6) 7) 40 with
  | none => exact RW.stop (rs_endTask h)
  | some k =>
    have hk40 := m_at_lt e (by decide)
    have h1 : RS (if w ≤ 0 then τ else m_cancelScope τ k) (some i) ∧ WOK (if w ≤ 0 then τ else m_cancelScope τ k) := by
      by_cases c : w ≤ 0
      · rw [if_pos c]; exact ⟨h, hk⟩
      · rw [if_neg c]; exact ⟨rs_cancel hk40 h, cancel_WOK hk40 h hk⟩
    dsimp only
    revert h1
    generalize (if w ≤ 0 then τ else m_cancelScope τ k) = σ
    rintro ⟨h1, h2⟩
    have h3 : RS (up2 (up2 σ (k + 54) 1 1) (k + 54) 9 w) (some i) := (h1.up (by omega) (by omega) (by omega)).up (by omega) (by omega) (by omega)
    by_cases c : up2 (up2 σ (k + 54) 1 1) (k + 54) 9 w (k + 54) 10 ≤ up2 (up2 σ (k + 54) 1 1) (k + 54) 9 w (k + 54) 11
    · rw [if_pos c]
      refine rs_takeOff (fun q hq => ?_) (fun q hq => ?_) (fun q t hq ht => ?_) (h3.up (by omega) (by omega) (by omega))
      · rw [up2_o (by omega)]
        by_cases d : q = k
        · subst d; rw [up2_same]; exact hw
        · rw [up2_o (by omega), up2_o (by omega)]; exact h2.1 q hq
      · rw [up2_o (by omega), up2_o (by omega), up2_o (by omega), up2_o (by omega), up2_o (by omega), up2_o (by omega)]; exact h2.2.1 q hq
      · rw [up2_o (by omega), up2_o (by omega), up2_o (by omega)] at ht
        have ht' := m_at_lt ht (by decide)
        rw [up2_o (by omega), up2_o (by omega), up2_o (by omega)]; exact h2.2.2 q t hq ht
    · rw [if_neg c]; exact RW.stop (rs_bw h3)
theorem rs_doLine {τ π : Sg} {i : Nat} {k a b : Int32} (hf : FreshT τ) (ha : k = 6 → a ≠ -4) (h : RS τ (some i)) : RW i (m_doLine τ π i k a b) := by
  have hi := (h.2 i rfl).1
  unfold m_doLine
  by_cases c0 : k = 0
  · rw [if_pos c0]; exact RW.go0 (rs_add h)
  rw [if_neg c0]
  by_cases c1 : k = 1
  · rw [if_pos c1]; exact RW.go0 (rs_get h)
  rw [if_neg c1]
  by_cases c2 : k = 2
  · rw [if_pos c2]; exact RW.go0 (rs_put hi h)
  rw [if_neg c2]
  by_cases c3 : k = 3
  · rw [if_pos c3]; exact RW.go0 (rs_loop hi h)
  rw [if_neg c3]
  by_cases c4 : k = 4
  · rw [if_pos c4]; exact RW.go0 (rs_skip h)
  rw [if_neg c4]
  by_cases c5 : k = 5
  · rw [if_pos c5]; exact RW.go (by decide) h
  rw [if_neg c5]
  by_cases c6 : k = 6
  · rw [if_pos c6]; exact RW.go (ha c6) h
  rw [if_neg c6]
  by_cases c7 : k = 7
  · rw [if_pos c7]; exact rs_opn h
  rw [if_neg c7]
  by_cases c8 : k = 8
  · rw [if_pos c8]; exact rs_opn h
  rw [if_neg c8]
  by_cases c9 : k = 9
  · rw [if_pos c9]
    refine RW.go ?_ h
    by_cases d : τ (i + 6) 7 = -1
    · rw [if_pos d]; decide
    · rw [if_neg d]; decide
  rw [if_neg c9]
  by_cases c10 : k = 10
  · rw [if_pos c10]; exact rs_spawn hf h
  rw [if_neg c10]
  by_cases c11 : k = 11
  · rw [if_pos c11]; exact rs_stop h
  rw [if_neg c11]
  by_cases c12 : k = 12
  · rw [if_pos c12]; exact rs_sleep h
  rw [if_neg c12]
  by_cases c13 : k = 13
  · rw [if_pos c13]; exact rs_lck h
  rw [if_neg c13]
  by_cases c14 : k = 14
  · rw [if_pos c14]; exact rs_fre h
  rw [if_neg c14]
  by_cases c15 : k = 15
  · rw [if_pos c15]; exact rs_send h
  rw [if_neg c15]
  by_cases c16 : k = 16
  · rw [if_pos c16]; exact rs_take h
  rw [if_neg c16]
  by_cases c17 : k = 17
  · rw [if_pos c17]; exact rs_nd h
  rw [if_neg c17]
  by_cases c18 : k = 18
  · rw [if_pos c18]; exact rs_pick hi h
  rw [if_neg c18]; exact RW.go (by decide) h
/-- a FAIL's number in the program is none of the other ways -/
def PWay (π : Sg) : Prop := ∀ q, π 2 q = 6 → π 3 q ≠ -4
theorem rs_goLine {τ π : Sg} {i q : Nat} (hf : FreshT τ) (hp : PWay π) (h : RS τ (some i)) : RW i (m_goLine τ π i q) := by
  unfold m_goLine
  by_cases c1 : m_isWait (π 2 q) = true
  · rw [if_pos c1]
    by_cases c2 : m_isHit τ i (-1) = true
    · rw [if_pos c2]; exact RW.go (by decide) h
    · rw [if_neg c2]; exact rs_doLine hf (hp q) h
  · rw [if_neg c1]; exact rs_doLine hf (hp q) h
theorem fresh_keep {τ σ : Sg} (h : FreshT τ) (h1 : σ 0 1 = τ 0 1) (h3 : ∀ i, i < 24 → σ (i + 6) 3 = τ (i + 6) 3) : FreshT σ := fun i hi => by
  rw [h1] at hi
  rw [h3 i (m_at_lt hi (by decide))]; exact h i hi
theorem rs_goOn {τ π : Sg} {i : Nat} (hf : FreshT τ) (hp : PWay π) (h : RS τ (some i)) : RW i (m_goOn τ π i) := by
  unfold m_goOn
  by_cases c1 : m_placeOf (τ (i + 6) 2) (τ (i + 6) 4) = -1
  · rw [if_pos c1]; exact RW.go (by decide) h
  · rw [if_neg c1]
    by_cases c2 : τ (i + 6) 4 < m_linesOf π (τ (i + 6) 2)
    · rw [if_pos c2]
      by_cases c3 : τ 100 2 < 100
      · rw [if_pos c3]
        dsimp only
        refine rs_goLine (fresh_keep hf ?_ (fun q hq => ?_)) hp ((h.up (by omega) (by omega) (by omega)).up (by omega) (by omega) (by omega))
        · rw [up2_o (by omega), up2_o (by omega)]
        · rw [up2_o (by omega), up2_o (by omega)]
      · rw [if_neg c3]; exact RW.go (by decide) h
    · rw [if_neg c2]; exact RW.go (by decide) h
theorem rs_beginTurn {τ : Sg} {i : Nat} (hk : WOK τ) (h : RS τ (some i)) : RW i (m_beginTurn τ i) := by
  have hi := (h.2 i rfl).1
  unfold m_beginTurn
  by_cases c1 : τ (i + 6) 9 = 0
  · rw [if_pos c1]; exact RW.go0 h
  rw [if_neg c1]
  by_cases c2 : τ (i + 6) 9 = 5
  · rw [if_pos c2]; exact rs_takeOff hk.1 hk.2.1 hk.2.2 h
  rw [if_neg c2]
  by_cases c3 : m_isHit τ i (-1) = true
  · rw [if_pos c3]; exact RW.go (by decide) (rs_giveBack h)
  rw [if_neg c3]
  by_cases c4 : τ (i + 6) 15 ≤ 0
  · rw [if_pos c4]
    by_cases c5 : τ (i + 6) 9 = 4
    · rw [if_pos c5]
      dsimp only
      have h1 : RS (up2 τ (i + 6) 5 (τ (i + 6) 13)) (some i) := h.up (by omega) (by omega) (by omega)
      by_cases c6 : up2 τ (i + 6) 5 (τ (i + 6) 13) (i + 6) 11 = 0
      · rw [if_pos c6]; exact RW.go0 (rs_next h1)
      · rw [if_neg c6]; exact RW.go0 (rs_next (rs_putLocal hi h1))
    · rw [if_neg c5]; exact RW.go0 (rs_next h)
  · rw [if_neg c4]
    refine RW.go (fun z => ?_) h
    rw [z] at c4
    exact c4 (by decide)
-- TIME
theorem rs_tickS {r : Option Nat} : ∀ (n j : Nat) (τ : Sg), n + j = 40 → RS τ r → RS (m_tickScopes n j τ) r := by
  intro n
  induction n with
  | zero => intro j τ _ h; exact h
  | succ n ih =>
    intro j τ hn h
    show RS (m_tickScopes n (j + 1) _) r
    refine ih (j + 1) _ (by omega) ?_
    by_cases c1 : m_isLive τ j = true
    · rw [if_pos c1]
      by_cases c2 : τ (j + 54) 7 = τ 0 8
      · rw [if_pos c2]; exact rs_cancel (by omega) h
      · rw [if_neg c2]; exact h
    · rw [if_neg c1]; exact h
theorem rs_tickT {r : Option Nat} : ∀ (n j : Nat) (τ : Sg), n + j = 24 → RS τ r → RS (m_tickTasks n j τ) r := by
  intro n
  induction n with
  | zero => intro j τ _ h; exact h
  | succ n ih =>
    intro j τ hn h
    show RS (m_tickTasks n (j + 1) _) r
    refine ih (j + 1) _ (by omega) ?_
    by_cases c1 : m_waitsAt τ j 1 = true
    · rw [if_pos c1]
      by_cases c2 : τ (j + 6) 12 = τ 0 8
      · rw [if_pos c2]; exact h.mr (by omega) (one_ne (waitsAt_iff.mp c1).1)
      · rw [if_neg c2]; exact h
    · rw [if_neg c1]; exact h
theorem rs_tick {τ : Sg} {r : Option Nat} (h : RS τ r) : RS (m_tickOnceW τ) r := rs_tickT 24 0 _ rfl (rs_tickS 40 0 _ rfl (h.up (by omega) (by omega) (by omega)))
