/-! ALL OF IT, as a TASK ends -/
section INV
variable {π τ σ ρ : Sg} {T S t U : Nat} {st : Nat → List Nat} {r m x : Option Nat}
theorem endWay_ovr (τ : Sg) (i : Nat) (w : Int32) : ovr (m_endWay τ i w) i := by
  unfold ovr
  rw [endWay_state]
  by_cases c : w ≤ 0
  · rw [if_pos c]
    by_cases d : w = -3
    · rw [if_pos d]; exact Or.inr (Or.inr rfl)
    · rw [if_neg d]; exact Or.inl rfl
  · rw [if_neg c]; exact Or.inr (Or.inl rfl)
theorem inv_endWay {i : Nat} {w : Int32} (he : st i = []) (h : Inv π T S t U st (some i) (some i) none τ) : Inv π T S t U st none none (some i) (m_endWay τ i w) := by
  obtain ⟨hi, h0⟩ := h.run
  obtain ⟨⟨a1, a2, a3, a4⟩, ⟨b1, b2, b3, b4, b5, b6⟩, ⟨d1, d2⟩, ⟨e1, e2, e3⟩, f⟩ := id h
  have hT := a1.1
  have hS := a1.2.1
  have ov := endWay_ovr τ i w
  have hR := rs_endWay (w := w) a4
  have oth : ∀ a b, ¬ (a = i + 6 ∧ (b = 3 ∨ b = 5)) → m_endWay τ i w a b = τ a b := fun a b hn => endWay_other hn
  have there : m_endWay τ i w (i + 6) 3 = 3 → 0 < m_endWay τ i w (i + 6) 5 := by
    intro z
    rw [endWay_state] at z
    unfold m_endWay
    by_cases c : w ≤ 0
    · rw [if_pos c] at z
      by_cases d : w = -3
      · rw [if_pos d] at z; exact absurd z (by decide)
      · rw [if_neg d] at z; exact absurd z (by decide)
    · rw [if_neg c, if_neg c, up2_same]
      exact Int32.not_le.mp c
  revert ov hR oth there
  generalize m_endWay τ i w = σ
  intro ov hR oth there
  have na : ¬ ali σ i := fun z => ali_not_ovr z ov
  have ni1 : σ (i + 6) 3 ≠ 1 := fun z => na (Or.inr z)
  have tq : ∀ q, q ≠ i → ∀ b, σ (q + 6) b = τ (q + 6) b := fun q hn b => oth _ _ (by omega)
  have ti : ∀ b, b ≠ 3 → b ≠ 5 → σ (i + 6) b = τ (i + 6) b := fun b y1 y2 => oth _ _ (by omega)
  have t6 : ∀ q, σ (q + 6) 6 = τ (q + 6) 6 := fun q => oth _ _ (by omega)
  have sc : ∀ p, p < 40 → ∀ b, σ (p + 54) b = τ (p + 54) b := fun p hp b => oth _ _ (by omega)
  have lv : ∀ p, p < 40 → m_isLive σ p = m_isLive τ p := fun p hp => by unfold m_isLive; rw [sc p hp]
  have al : ∀ q, q ≠ i → (ali σ q ↔ ali τ q) := fun q hn => by unfold ali; rw [tq q hn]
  have wf : ∀ q w y, m_waitsFor σ q w y = true → q ≠ i ∧ m_waitsFor τ q w y = true := fun q w y hz => by
    have hn : q ≠ i := fun z => by
      have := waits_one hz
      rw [z] at this
      exact ni1 this
    refine ⟨hn, ?_⟩
    unfold m_waitsFor m_waitsAt at hz ⊢
    rw [tq q hn, tq q hn, tq q hn, tq q hn] at hz
    exact hz
  refine ⟨⟨?_, fun p hp => ?_, ⟨⟨fun o ho => ?_, fun p hp hl2 => ?_⟩, fun q hq hn => ?_⟩, hR⟩, ⟨fun q hq => ?_, fun k hk => ?_, fun k hk => ?_, fun p hp h1 => ?_, fun q hq h3 => ?_, ?_⟩, ⟨fun q hq h1 h5 => ?_, fun q hq => ?_⟩, ⟨fun c hc => ?_, fun c hc => ?_, fun c hc => ?_⟩, ⟨?_, f.2.1, fun p hp => ?_⟩⟩
  · obtain ⟨_, _, y3, y4, y5, y6, y7, y8⟩ := a1
    refine ⟨hT, hS, by rw [oth _ _ (by omega)]; exact y3, by rw [oth _ _ (by omega)]; exact y4, fun q hq => ?_, fun q h1 h2 => ?_, fun p hp => ?_, fun p h1 h2 => ?_⟩
    · by_cases e : q = i
      · subst e; exact Or.inr ov
      · unfold ali ovr; rw [tq q e]; exact y5 q hq
    · have hn : q ≠ i := fun z => by
        have := (y6 q h1 h2).1
        rw [z, h0] at this; exact absurd this (by decide)
      rw [tq q hn, tq q hn, tq q hn, tq q hn, tq q hn, tq q hn]
      exact y6 q h1 h2
    · rw [sc p (by omega)]; exact y7 p hp
    · rw [sc p h2, sc p h2, sc p h2, sc p h2, sc p h2, sc p h2]; exact y8 p h1 h2
  · obtain ⟨o, o1, o2, o3⟩ := a2 p hp
    refine ⟨o, o1, by rw [sc p (by omega)]; exact o2, ?_⟩
    rw [sc p (by omega), sc p (by omega), t6]; exact o3
  · have hlt : ∀ p ∈ st o, p < 40 := Chain.lt _ _ (a3.1.1 o ho).1
    refine (a3.1.1 o ho).keep (oth _ _ (by omega)) (oth _ _ (by omega)) (fun p hp => ⟨sc p (hlt p hp) 1, sc p (hlt p hp) 2, sc p (hlt p hp) 3⟩) (fun hne => ?_)
    have e : o ≠ i := fun z => hne (by rw [z]; exact he)
    rw [mode_ne e]
    unfold m_mode
    rw [tq o e, tq o e]
  · rw [lv p hp] at hl2; exact a3.1.2 p hp hl2
  · by_cases e : q = i
    · subst e; exact he
    · exact a3.2 q hq (fun z => hn ((al q e).mpr z))
  · rw [t6]
    rcases b1 q hq with y | ⟨p, y1, y2, ⟨o, y3, y4⟩, y5⟩
    · exact Or.inl y
    · refine Or.inr ⟨p, y1, y2, ⟨o, y3, by rw [sc p (by omega)]; exact y4⟩, fun z => ?_⟩
      rw [lv p (by omega)]
      refine y5 (Or.inl ?_)
      rcases z with z | z
      · by_cases e : q = i
        · subst e; exact absurd z na
        · exact (al q e).mp z
      · rw [← Option.some.inj z]; exact Or.inl h0
  · have c1 : cnt (isI σ k) 24 = cnt (isI τ k) 24 := cnt_congr 24 (fun q hq => by unfold isI; rw [t6])
    have c2 : cnt (ovI σ (some i) k) 24 = cnt (ovI τ none k) 24 := cnt_congr 24 (fun q hq => by
      unfold ovI
      rw [decide_eq_decide, t6]
      by_cases e : q = i
      · subst e
        exact ⟨fun z => absurd rfl z.2.2, fun z => absurd z.2.1 (ali_not_ovr (Or.inl h0))⟩
      · unfold ovr
        rw [tq q e]
        exact ⟨fun z => ⟨z.1, z.2.1, by intro y; cases y⟩, fun z => ⟨z.1, z.2.1, fun y => e (Option.some.inj y).symm⟩⟩)
    have c3 : cnt (faI σ (some i) k) 24 = cnt (faI τ none k) 24 := cnt_congr 24 (fun q hq => by
      unfold faI
      rw [decide_eq_decide, t6]
      by_cases e : q = i
      · subst e
        exact ⟨fun z => absurd rfl z.2.2, fun z => by rw [h0] at z; exact absurd z.2.1 (by decide)⟩
      · rw [tq q e]
        exact ⟨fun z => ⟨z.1, z.2.1, by intro y; cases y⟩, fun z => ⟨z.1, z.2.1, fun y => e (Option.some.inj y).symm⟩⟩)
    rw [c1, c2, c3, sc k (by omega), sc k (by omega), sc k (by omega)]
    exact b2 k hk
  · rw [sc k (by omega), sc k (by omega)]
    rcases b3 k hk with ⟨y1, y2⟩ | ⟨q, y1, y2, y3, y4, y5, y6⟩
    · refine Or.inl ⟨y1, fun q hq h1 h2 => ?_⟩
      by_cases e : q = i
      · rw [e]
      · rw [t6] at h1
        rw [tq q e] at h2
        have := y2 q hq h1 h2
        cases this
    · have e : q ≠ i := fun z => by rw [z, h0] at y4; exact absurd y4 (by decide)
      exact Or.inr ⟨q, y1, y2, by rw [t6]; exact y3, by rw [tq q e]; exact y4, fun z => e (Option.some.inj z).symm, y6⟩
  · rw [sc p (by omega)] at h1
    obtain ⟨q, q1, q2, q3⟩ := b4 p hp h1
    refine ⟨q, q1, by rw [t6]; exact q2, ?_⟩
    by_cases e : q = i
    · rw [e]; exact Or.inr rfl
    · exact Or.inl ((al q e).mpr (q3.elim id (fun z => by cases z)))
  · by_cases e : q = i
    · subst e; exact there h3
    · rw [tq q e] at h3
      rw [tq q e]; exact b5 q hq h3
  · exact ⟨fun p hp => by rw [sc p hp]; exact b6.1 p hp, fun p hp => by rw [sc p (by omega)]; exact b6.2 p hp⟩
  · have hne : q ≠ i := fun z => by rw [z] at h1; exact ni1 h1
    rw [tq q hne] at h1 h5
    rw [← d1 q hq h1 h5]
    exact isHit_congr (fun p hp b _ => sc p hp b) (t6 q) (oth _ _ (by omega))
  · obtain ⟨b, w1, w2, w3⟩ := d2 q hq
    refine ⟨b, w1, by rw [oth _ _ (by omega)]; exact w2, fun ha => ?_⟩
    have e : q ≠ i := fun z => by rw [z] at ha; exact na ha
    obtain ⟨l, g1, g2, g3, g4⟩ := w3 ((al q e).mp ha)
    refine ⟨l, g1, by rw [tq q e]; exact g2, fun _ => by rw [tq q e]; exact g3 (fun z => e (Option.some.inj z).symm), fun hs => ?_⟩
    rw [tq q e] at hs
    rw [tq q e 9]
    rcases g4 hs with y | y
    · exact Or.inl y
    · exact Or.inr ⟨y.1, y.2.same (tq q e)⟩
  · rw [oth (c + 94) 1 (by omega)]
    rcases e1 c hc with ⟨y1, y2⟩ | ⟨p, y1, y2, y3, y4⟩
    · exact Or.inl ⟨y1, fun q hq z => y2 q hq (wf q _ _ z).2⟩
    · refine Or.inr ⟨p, y1, y2, ?_, fun z => y4 (wf p _ _ z).2⟩
      by_cases e : p = i
      · rw [e]; exact Or.inr rfl
      · exact Or.inl ((al p e).mpr (y3.elim id (fun z => by cases z)))
  · obtain ⟨z0, n, z1, z2, z3, z4⟩ := e2 c hc
    refine ⟨by rw [oth _ _ (by omega)]; exact z0, n, z1, by rw [oth _ _ (by omega)]; exact z2, fun q hq hw => ?_, fun q hq hw => z4 q hq (wf q _ _ hw).2⟩
    obtain ⟨y1, y2, y3⟩ := z3 q hq (wf q _ _ hw).2
    exact ⟨y1, by rw [oth _ _ (by omega)]; exact y2, fun p hp z => y3 p hp (wf p _ _ z).2⟩
  · obtain ⟨n, z1, z2, z3⟩ := e3 c hc
    refine ⟨n, z1, by rw [oth _ _ (by omega)]; exact z2, Nat.le_trans (cnt_mono2 24 (fun q hq hz => ?_)) z3⟩
    unfold gvI at hz ⊢
    rw [decide_eq_true_iff] at hz ⊢
    obtain ⟨x3, x14, x9, x10, _⟩ := hz
    have e : q ≠ i := fun z => by rw [z] at x3; exact na (Or.inl x3)
    rw [tq q e] at x3 x14 x9 x10
    exact ⟨x3, x14, x9, x10, fun z => e (Option.some.inj z).symm⟩
  · rw [oth _ _ (by omega)]; exact f.1
  · rw [lv p (by omega), sc p (by omega), sc p (by omega), sc p (by omega)]; exact f.2.2 p hp
theorem inv_freeOf {i c : Nat} (hc : c < 2) (h : Inv π T S t U st r m x τ) : Inv π T S t U st r m x (m_freeOf τ i c) := by
  unfold m_freeOf
  by_cases d : τ (c + 94) 1 = nI i
  · rw [if_pos d]; exact inv_freeLock hc h
  · rw [if_neg d]; exact h
theorem freeOf_fr {i c : Nat} (hc : c < 2) : Fr τ (m_freeOf τ i c) := by
  unfold m_freeOf
  by_cases d : τ (c + 94) 1 = nI i
  · rw [if_pos d]; exact fr_freeLock hc
  · rw [if_neg d]; exact Fr.refl τ
theorem freeOf_other {i c a b : Nat} (h1 : ¬ (a = c + 94 ∧ (b = 1 ∨ b = 2))) (h2 : ¬ (6 ≤ a ∧ a < 30 ∧ (b = 3 ∨ b = 14))) (h5 : a ≠ 5) (h0 : ¬ (a = 0 ∧ b = 7)) : m_freeOf τ i c a b = τ a b := by
  unfold m_freeOf
  by_cases d : τ (c + 94) 1 = nI i
  · rw [if_pos d]; exact freeLock_other h1 h2 h5 h0
  · rw [if_neg d]
theorem freeOf_not {i c : Nat} (hi : i < 24) (h1 : τ (i + 6) 3 ≠ 1) : m_freeOf τ i c (c + 94) 1 ≠ nI i := by
  unfold m_freeOf
  by_cases d : τ (c + 94) 1 = nI i
  · rw [if_pos d]
    unfold m_freeLock
    cases f : m_firstWaiting (up2 τ (c + 94) 1 (-1)) 2 (nI c) with
    | none =>
      dsimp only
      rw [up2_same]; exact neg1_ne (by omega)
    | some q =>
      obtain ⟨hq, hw⟩ := firstWaiting_some f
      dsimp only
      rw [mr_other (by omega) (by omega) (by omega), up2_o (by omega)]
      unfold m_giveTo
      rw [up2_o (by omega), up2_same]
      intro z
      have e := nI_inj (by omega) (by omega) z
      have := waits_one hw
      rw [e, up2_o (by omega)] at this
      exact h1 this
  · rw [if_neg d]; exact d
theorem ik_none {i : Nat} (h : IK τ (some i)) (hn : ∀ c, c < 2 → τ (c + 94) 1 ≠ nI i) : IK τ none := fun c hc => by
  rcases h c hc with ⟨y1, y2⟩ | ⟨p, y1, y2, y3, y4⟩
  · exact Or.inl ⟨y1, y2⟩
  · refine Or.inr ⟨p, y1, y2, Or.inl (y3.elim id (fun z => ?_)), y4⟩
    rw [← Option.some.inj z] at y2
    exact absurd y2 (hn c hc)
/-- it was IN no SCOPE -/
theorem inv_x {i : Nat} (ho : ovr τ i) (h6 : τ (i + 6) 6 = -1) (hn : ∀ c, c < 2 → τ (c + 94) 1 ≠ nI i) (h : Inv π T S t U st r m (some i) τ) : Inv π T S t U st r m none τ := by
  obtain ⟨a, ⟨b1, b2, b3, b4, b5, b6⟩, d, ⟨e1, e2, e3⟩, f⟩ := h
  have hS := a.1.2.1
  have nk : ∀ q k, k < S → τ (q + 6) 6 = nI k → q ≠ i := fun q k hk z w => by
    rw [w, h6] at z; exact neg1_ne (by omega) z
  have nx : ∀ q, q ≠ i → (some i ≠ some q ∧ (none : Option Nat) ≠ some q) := fun q hq => ⟨fun z => hq (Option.some.inj z).symm, by intro z; cases z⟩
  refine ⟨a, ⟨fun q hq => ?_, fun k hk => ?_, fun k hk => ?_, fun k hk h1 => ?_, b5, b6⟩, d, ⟨ik_none e1 hn, e2, e3⟩, f⟩
  · rcases b1 q hq with y | ⟨p, y1, y2, y3, y5⟩
    · exact Or.inl y
    · exact Or.inr ⟨p, y1, y2, y3, fun z => y5 (z.elim Or.inl (fun w => by cases w))⟩
  · have c2 : cnt (ovI τ none k) 24 = cnt (ovI τ (some i) k) 24 := cnt_congr 24 (fun q hq => by
      unfold ovI
      rw [decide_eq_decide]
      exact ⟨fun z => ⟨z.1, z.2.1, (nx q (nk q k hk z.1)).1⟩, fun z => ⟨z.1, z.2.1, by intro y; cases y⟩⟩)
    have c3 : cnt (faI τ none k) 24 = cnt (faI τ (some i) k) 24 := cnt_congr 24 (fun q hq => by
      unfold faI
      rw [decide_eq_decide]
      exact ⟨fun z => ⟨z.1, z.2.1, (nx q (nk q k hk z.1)).1⟩, fun z => ⟨z.1, z.2.1, by intro y; cases y⟩⟩)
    rw [c2, c3]; exact b2 k hk
  · rcases b3 k hk with ⟨y1, y2⟩ | ⟨q, y1, y2, y3, y4, y5, y6⟩
    · refine Or.inl ⟨y1, fun q hq h1 h2 => ?_⟩
      exact absurd (y2 q hq h1 h2) (nx q (nk q k hk h1)).1
    · exact Or.inr ⟨q, y1, y2, y3, y4, (by intro z; cases z), y6⟩
  · obtain ⟨q, q1, q2, q3⟩ := b4 k hk h1
    exact ⟨q, q1, q2, Or.inl (q3.elim id (fun z => absurd z (nx q (nk q k hk q2)).1))⟩
end INV
