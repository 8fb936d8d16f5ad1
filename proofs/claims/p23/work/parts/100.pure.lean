/-! ALL OF IT, as the SCOPE hears that one in it is over -/
section INV
variable {π τ σ ρ : Sg} {T S t U : Nat} {st : Nat → List Nat} {r m x : Option Nat}
theorem IG.same (h : IG τ π T m st) (hT : T ≤ 24) (he : ∀ q, q < 24 → ∀ b, σ (q + 6) b = τ (q + 6) b) : IG σ π T m st := fun q hq => by
  have ee := he q (by omega)
  obtain ⟨b, w1, w2, w3⟩ := h q hq
  refine ⟨b, w1, by rw [ee]; exact w2, fun ha => ?_⟩
  unfold ali at ha
  rw [ee] at ha
  obtain ⟨l, g1, g2, g3, g4⟩ := w3 ha
  refine ⟨l, g1, by rw [ee]; exact g2, by rw [ee]; exact g3, fun hs => ?_⟩
  rw [ee] at hs
  rw [ee 9]
  rcases g4 hs with y | y
  · exact Or.inl y
  · exact Or.inr ⟨y.1, y.2.same ee⟩
/-- all of it, but that of one SCOPE it isn't said yet that it WAITS for somebody -/
def InvK (π : Sg) (T S t U : Nat) (st : Nat → List Nat) (k : Nat) (τ : Sg) : Prop :=
  (IT τ T S ∧ IU τ T S ∧ IS τ none st ∧ RS τ none) ∧ (E1 τ S none ∧ E2 τ S none ∧ E3 τ S none ∧ (∀ p, p < S → p ≠ k → τ (p + 54) 1 = 1 → ∃ q, q < 24 ∧ τ (q + 6) 6 = nI p ∧ ali τ q) ∧ E5 τ ∧ E6 τ S) ∧ (IH τ ∧ IG τ π T none st) ∧ (IK τ none ∧ (∀ c, c < 2 → IC1 τ c) ∧ ∀ c, c < 2 → IC2 τ none U c) ∧ ID τ S t
theorem invK_of {i k : Nat} (hi : i < 24) (ho : ovr ρ i) (h6 : ρ (i + 6) 6 = nI k) (hkS : k < S) (hn : ∀ c, c < 2 → ρ (c + 94) 1 ≠ nI i) (h : Inv π T S t U st none none (some i) ρ)
    (hb : ∀ a b, ¬ (a = k + 54 ∧ (b = 11 ∨ b = 12 ∨ b = 13)) → τ a b = ρ a b) (u11 : τ (k + 54) 11 = ρ (k + 54) 11 + 1) (u12 : τ (k + 54) 12 = if ρ (i + 6) 3 = 3 then ρ (k + 54) 12 + 1 else ρ (k + 54) 12) (u13 : τ (k + 54) 13 = if ρ (i + 6) 3 = 3 ∧ ρ (k + 54) 13 = -1 then nI i else ρ (k + 54) 13)
    (hf : Fr τ σ) (hR : RS σ none) (hH : IH τ → IH σ) (hlc : ∀ a b, a ≠ 5 → ¬ (a = 0 ∧ b = 7) → ¬ (6 ≤ a ∧ a < 30 ∧ b = 3) → ¬ (a = k + 54 ∧ b = 5) → σ a b = τ a b) (h5 : ρ (i + 6) 3 = 3 → σ (k + 54) 5 ≠ 0) : InvK π T S t U st k σ := by
  have g0 := h.g0
  obtain ⟨⟨a1, a2, a3, a4⟩, ⟨b1, b2, b3, b4, b5, b6⟩, ⟨d1, d2⟩, ⟨e1, e2, e3⟩, f⟩ := id h
  have hT := a1.1
  have hS := a1.2.1
  have tk : ∀ q, q < 24 → ∀ b, τ (q + 6) b = ρ (q + 6) b := fun q hq b => hb _ _ (by omega)
  have sc : ∀ p, p < 40 → p ≠ k → ∀ b, τ (p + 54) b = ρ (p + 54) b := fun p hp hn b => hb _ _ (by omega)
  have sk : ∀ p, p < 40 → ∀ b, b ≠ 11 → b ≠ 12 → b ≠ 13 → τ (p + 54) b = ρ (p + 54) b := fun p hp b y1 y2 y3 => hb _ _ (by omega)
  have al : ∀ q, q < 24 → (ali τ q ↔ ali ρ q) := fun q hq => by unfold ali; rw [tk q hq]
  have lv : ∀ p, p < 40 → m_isLive τ p = m_isLive ρ p := fun p hp => by unfold m_isLive; rw [sk p hp 1 (by decide) (by decide) (by decide)]
  have ks : Ks ρ τ := ⟨fun q hq b _ => tk q hq b, fun c hc => ⟨fun b => hb _ _ (by omega), fun b => hb _ _ (by omega)⟩⟩
  have nx : ∀ q, q ≠ i → (some i ≠ some q ∧ (none : Option Nat) ≠ some q) := fun q hq => ⟨fun z => hq (Option.some.inj z).symm, by intro z; cases z⟩
  have ik : ∀ q p, p < S → p ≠ k → ρ (q + 6) 6 = nI p → q ≠ i := fun q p hp hpk z w => by
    rw [w, h6] at z
    exact hpk (nI_inj (by omega) (by omega) z).symm
  -- before the CANCEL
  have t1 : IT τ T S := by
    obtain ⟨_, _, y3, y4, y5, y6, y7, y8⟩ := a1
    refine ⟨hT, hS, by rw [hb _ _ (by omega)]; exact y3, by rw [hb _ _ (by omega)]; exact y4, fun q hq => ?_, fun q h1 h2 => ?_, fun p hp => ?_, fun p h1 h2 => ?_⟩
    · unfold ali ovr; rw [tk q (by omega)]; exact y5 q hq
    · rw [tk q h2, tk q h2, tk q h2, tk q h2, tk q h2, tk q h2]; exact y6 q h1 h2
    · rw [sk p (by omega) 1 (by decide) (by decide) (by decide)]; exact y7 p hp
    · rw [sc p h2 (by omega), sc p h2 (by omega), sc p h2 (by omega), sc p h2 (by omega), sc p h2 (by omega), sc p h2 (by omega)]; exact y8 p h1 h2
  have t2 : IU τ T S := fun p hp => by
    obtain ⟨o, o1, o2, o3⟩ := a2 p hp
    refine ⟨o, o1, by rw [sk p (by omega) 2 (by decide) (by decide) (by decide)]; exact o2, ?_⟩
    rw [sk p (by omega) 3 (by decide) (by decide) (by decide), sk p (by omega) 4 (by decide) (by decide) (by decide), tk o (by omega)]; exact o3
  have t3 : IS τ none st := by
    refine ⟨⟨fun o ho => ?_, fun p hp hl2 => ?_⟩, fun q hq hn => a3.2 q hq (fun z => hn ((al q hq).mpr z))⟩
    · have hlt : ∀ p ∈ st o, p < 40 := Chain.lt _ _ (a3.1.1 o ho).1
      exact (a3.1.1 o ho).keep (tk o ho 7) (tk o ho 8) (fun p hp => ⟨sk p (hlt p hp) 1 (by decide) (by decide) (by decide), sk p (hlt p hp) 2 (by decide) (by decide) (by decide), sk p (hlt p hp) 3 (by decide) (by decide) (by decide)⟩) (fun _ => by unfold m_mode; rw [tk o ho, tk o ho])
    · rw [lv p hp] at hl2; exact a3.1.2 p hp hl2
  have t4 : E1 τ S none := fun q hq => by
    rw [tk q hq]
    rcases b1 q hq with y | ⟨p, y1, y2, ⟨o, y3, y4⟩, y5⟩
    · exact Or.inl y
    · refine Or.inr ⟨p, y1, y2, ⟨o, y3, by rw [sk p (by omega) 2 (by decide) (by decide) (by decide)]; exact y4⟩, fun z => ?_⟩
      rw [lv p (by omega)]
      exact y5 (z.elim (fun w => Or.inl ((al q hq).mp w)) (fun w => by cases w))
  have t5 : E2 τ S none := fun p hp => by
    have c1 : cnt (isI τ p) 24 = cnt (isI ρ p) 24 := cnt_congr 24 (fun q hq => by unfold isI; rw [tk q hq])
    obtain ⟨g1, g2, g3⟩ := b2 p hp
    by_cases e : p = k
    · subst e
      have hPi : ovI ρ (some i) p i = false := by
        unfold ovI; rw [decide_eq_false_iff_not]; exact fun z => z.2.2 rfl
      have hQi : ovI τ none p i = true := by
        unfold ovI; rw [decide_eq_true_iff]
        unfold ovr; rw [tk i hi 3, tk i hi 6]
        exact ⟨h6, ho, by intro z; cases z⟩
      have hoth : ∀ j, j ≠ i → j < 24 → ovI ρ (some i) p j = ovI τ none p j := fun j hj hj2 => by
        unfold ovI ovr
        rw [decide_eq_decide, tk j hj2 3, tk j hj2 6]
        exact ⟨fun z => ⟨z.1, z.2.1, (nx j hj).2⟩, fun z => ⟨z.1, z.2.1, (nx j hj).1⟩⟩
      have hl1 := cnt_less (P := ovI ρ (some i) p) (Q := ovI τ none p) (q := i) 24 hi (fun j hj hz => by
        by_cases d : j = i
        · subst d; rw [hPi] at hz; cases hz
        · rw [← hoth j d hj]; exact hz) hPi hQi
      have hl2 := cnt_add1 (P := ovI τ none p) (Q := ovI ρ (some i) p) (q := i) 24 (fun j hj d hz => by rw [hoth j d hj]; exact hz)
      rw [if_pos hi] at hl2
      have c2 : cnt (ovI τ none p) 24 = cnt (ovI ρ (some i) p) 24 + 1 := by omega
      have c3 : τ (p + 54) 12 = nI (cnt (faI τ none p) 24) := by
        have hoth2 : ∀ j, j ≠ i → j < 24 → faI ρ (some i) p j = faI τ none p j := fun j hj hj2 => by
          unfold faI
          rw [decide_eq_decide, tk j hj2 3, tk j hj2 6]
          exact ⟨fun z => ⟨z.1, z.2.1, (nx j hj).2⟩, fun z => ⟨z.1, z.2.1, (nx j hj).1⟩⟩
        have hPi2 : faI ρ (some i) p i = false := by
          unfold faI; rw [decide_eq_false_iff_not]; exact fun z => z.2.2 rfl
        rw [u12]
        by_cases d3 : ρ (i + 6) 3 = 3
        · rw [if_pos d3, g3, nI_1]
          have hQi2 : faI τ none p i = true := by
            unfold faI; rw [decide_eq_true_iff, tk i hi 3, tk i hi 6]
            exact ⟨h6, d3, by intro z; cases z⟩
          have hl1 := cnt_less (P := faI ρ (some i) p) (Q := faI τ none p) (q := i) 24 hi (fun j hj hz => by
            by_cases d : j = i
            · subst d; rw [hPi2] at hz; cases hz
            · rw [← hoth2 j d hj]; exact hz) hPi2 hQi2
          have hl2 := cnt_add1 (P := faI τ none p) (Q := faI ρ (some i) p) (q := i) 24 (fun j hj d hz => by rw [hoth2 j d hj]; exact hz)
          rw [if_pos hi] at hl2
          rw [show cnt (faI τ none p) 24 = cnt (faI ρ (some i) p) 24 + 1 from by omega]
        · rw [if_neg d3, g3]
          rw [cnt_congr (P := faI τ none p) (Q := faI ρ (some i) p) 24 (fun j hj => by
            by_cases d : j = i
            · subst d
              rw [hPi2]
              unfold faI; rw [decide_eq_false_iff_not, tk j hi 3]; exact fun z => d3 z.2.1
            · exact (hoth2 j d hj).symm)]
      exact ⟨by rw [c1, hb _ _ (by omega)]; exact g1, by rw [c2, u11, g2, nI_1], c3⟩
    · have c2 : cnt (ovI τ none p) 24 = cnt (ovI ρ (some i) p) 24 := cnt_congr 24 (fun q hq => by
        unfold ovI ovr
        rw [decide_eq_decide, tk q hq 3, tk q hq 6]
        exact ⟨fun z => ⟨z.1, z.2.1, (nx q (ik q p hp e z.1)).1⟩, fun z => ⟨z.1, z.2.1, by intro w; cases w⟩⟩)
      have c3 : cnt (faI τ none p) 24 = cnt (faI ρ (some i) p) 24 := cnt_congr 24 (fun q hq => by
        unfold faI
        rw [decide_eq_decide, tk q hq 3, tk q hq 6]
        exact ⟨fun z => ⟨z.1, z.2.1, (nx q (ik q p hp e z.1)).1⟩, fun z => ⟨z.1, z.2.1, by intro w; cases w⟩⟩)
      rw [c1, c2, c3, sc p (by omega) e, sc p (by omega) e, sc p (by omega) e]
      exact ⟨g1, g2, g3⟩
  have t6 : E5 τ := fun q hq h3 => by
    rw [tk q hq] at h3
    rw [tk q hq]; exact b5 q hq h3
  have t7 : E6 τ S := ⟨fun p hp => by rw [sk p hp 9 (by decide) (by decide) (by decide)]; exact b6.1 p hp, fun p hp => by rw [sk p (by omega) 8 (by decide) (by decide) (by decide)]; exact b6.2 p hp⟩
  have t8 : ID τ S t := by
    refine ⟨by rw [hb _ _ (by omega)]; exact f.1, f.2.1, fun p hp => ?_⟩
    rw [lv p (by omega), sk p (by omega) 5 (by decide) (by decide) (by decide), sk p (by omega) 6 (by decide) (by decide) (by decide), sk p (by omega) 7 (by decide) (by decide) (by decide)]; exact f.2.2 p hp
  have t9 : IH τ := fun q hq h1 h9 => by
    rw [tk q hq] at h1 h9
    rw [← d1 q hq h1 h9]
    exact isHit_congr (fun p hp b hb => sk p hp b (by omega) (by omega) (by omega)) (tk q hq 6) (tk q hq 7)
  have lo : ∀ q, q < 24 → ∀ b, b ≠ 3 → σ (q + 6) b = τ (q + 6) b := fun q hq b hb3 => hlc _ _ (by omega) (by omega) (by omega) (by omega)
  have sb : ∀ p, p < 40 → ∀ b, b ≠ 5 → σ (p + 54) b = τ (p + 54) b := fun p hp b hb5 => hlc _ _ (by omega) (by omega) (by omega) (by omega)
  refine ⟨⟨t1.fr hf, t2.fr hT hS hf, t3.fr hf, hR⟩, ⟨t4.fr hS hf, t5.fr hS hf, fun p hp => ?_, fun p hp hpk h1 => ?_, t6.fr hf, t7.fr hS hf⟩, ⟨hH t9, (d2.same hT tk).fr0 hT hf (fun q hq => lo q hq 4 (by decide))⟩, ⟨((ik_none e1 hn).ks ks).fr hf (fun c hc => hlc _ _ (by omega) (by omega) (by omega) (by omega)), fun c hc => ((e2 c hc).ks hc ks).fr hf (hlc _ _ (by omega) (by omega) (by omega) (by omega)) (hlc _ _ (by omega) (by omega) (by omega) (by omega)) (hlc _ _ (by omega) (by omega) (by omega) (by omega)), fun c hc => ((e3 c hc).ks hc ks).fr hf (fun q hq h1 h9 => ?_) (fun q hq _ => ⟨lo q hq 10 (by decide), lo q hq 14 (by decide)⟩) (hlc _ _ (by omega) (by omega) (by omega) (by omega))⟩, t8.fr hS hf⟩
  · -- E3
    have m5 : ρ (p + 54) 5 ≠ 0 → σ (p + 54) 5 ≠ 0 := fun z => by
      rw [← sk p (by omega) 5 (by decide) (by decide) (by decide)] at z
      rcases hf.can (k := p) (by omega) with y | y
      · rw [y]; exact z
      · rw [y.2]; decide
    have s3 : ∀ q, q < 24 → (σ (q + 6) 3 = 3 ↔ ρ (q + 6) 3 = 3) := fun q hq => by
      rw [hf.is hq (by decide) (by decide), tk q hq]
    have s6 : ∀ q, q < 24 → σ (q + 6) 6 = ρ (q + 6) 6 := fun q hq => by rw [lo q hq 6 (by decide), tk q hq]
    rw [sb p (by omega) 13 (by decide)]
    by_cases e : p = k
    · subst e
      rw [u13]
      by_cases d3 : ρ (i + 6) 3 = 3
      · by_cases d13 : ρ (p + 54) 13 = -1
        · rw [if_pos ⟨d3, d13⟩]
          exact Or.inr ⟨i, hi, rfl, by rw [s6 i hi]; exact h6, (s3 i hi).mpr d3, by (intro z; cases z), h5 d3⟩
        · rw [if_neg (fun z => d13 z.2)]
          rcases b3 p hp with ⟨y1, y2⟩ | ⟨q, y1, y2, y3, y4, y5, y6⟩
          · exact absurd y1 d13
          · exact Or.inr ⟨q, y1, y2, by rw [s6 q y1]; exact y3, (s3 q y1).mpr y4, (by intro z; cases z), m5 y6⟩
      · rw [if_neg (fun z => d3 z.1)]
        rcases b3 p hp with ⟨y1, y2⟩ | ⟨q, y1, y2, y3, y4, y5, y6⟩
        · refine Or.inl ⟨y1, fun q hq h1 h2 => ?_⟩
          rw [s6 q hq] at h1
          have h2' := (s3 q hq).mp h2
          have := Option.some.inj (y2 q hq h1 h2')
          rw [← this] at h2'
          exact absurd h2' d3
        · exact Or.inr ⟨q, y1, y2, by rw [s6 q y1]; exact y3, (s3 q y1).mpr y4, (by intro z; cases z), m5 y6⟩
    · rw [sc p (by omega) e]
      rcases b3 p hp with ⟨y1, y2⟩ | ⟨q, y1, y2, y3, y4, y5, y6⟩
      · refine Or.inl ⟨y1, fun q hq h1 h2 => ?_⟩
        rw [s6 q hq] at h1
        exact absurd (y2 q hq h1 ((s3 q hq).mp h2)) (nx q (ik q p hp e h1)).1
      · exact Or.inr ⟨q, y1, y2, by rw [s6 q y1]; exact y3, (s3 q y1).mpr y4, (by intro z; cases z), m5 y6⟩
  · rw [sb p (by omega) 1 (by decide), sc p (by omega) hpk] at h1
    obtain ⟨q, q1, q2, q3⟩ := b4 p hp h1
    refine ⟨q, q1, by rw [lo q q1 6 (by decide), tk q q1]; exact q2, ?_⟩
    rw [hf.al q1, al q q1]
    exact q3.elim id (fun z => absurd z (nx q (ik q p hp hpk q2)).1)
  · rw [tk q hq] at h1 h9 ⊢
    exact g0 q hq h1 h9
/-- what it hears, but for its closing -/
theorem invK_tell {i k : Nat} (hi : i < 24) (ho : ovr ρ i) (h6 : ρ (i + 6) 6 = nI k) (hkS : k < S) (hn : ∀ c, c < 2 → ρ (c + 94) 1 ≠ nI i) (h : Inv π T S t U st none none (some i) ρ) :
    InvK π T S t U st k (m_tellFail (up2 ρ (k + 54) 11 (ρ (k + 54) 11 + 1)) i k) ∧ (m_tellFail (up2 ρ (k + 54) 11 (ρ (k + 54) 11 + 1)) i k) (k + 54) 1 = ρ (k + 54) 1 := by
  have hS := h.1.1.2.1
  have a4 := h.1.2.2.2
  have hlive : m_isLive ρ k = true := by
    rcases h.2.1.1 i hi with y | ⟨p, y1, y2, _, y5⟩
    · rw [y] at h6; exact absurd h6 (neg1_ne (by omega))
    · rw [h6] at y2
      have e := nI_inj (by omega) (by omega) y2
      subst e
      exact y5 (Or.inr rfl)
  unfold m_tellFail
  rw [up2_o (show ¬ (i + 6 = k + 54 ∧ 3 = 11) by omega)]
  by_cases d3 : ρ (i + 6) 3 = 3
  · rw [if_pos d3]
    dsimp only
    rw [up2_o (show ¬ (k + 54 = k + 54 ∧ 12 = 11) by omega)]
    rw [up2_o (show ¬ (k + 54 = k + 54 ∧ 13 = 12) by omega), up2_o (show ¬ (k + 54 = k + 54 ∧ 13 = 11) by omega)]
    -- the state before the CANCEL
    have key : ∀ τ : Sg, (∀ a b, ¬ (a = k + 54 ∧ (b = 11 ∨ b = 12 ∨ b = 13)) → τ a b = ρ a b) → τ (k + 54) 11 = ρ (k + 54) 11 + 1 → τ (k + 54) 12 = ρ (k + 54) 12 + 1 → τ (k + 54) 13 = (if ρ (k + 54) 13 = -1 then nI i else ρ (k + 54) 13) → InvK π T S t U st k (m_cancelScope τ k) ∧ m_cancelScope τ k (k + 54) 1 = ρ (k + 54) 1 := fun τ hb u11 u12 u13 => by
      have hRt : RS τ none := a4.keep (hb _ _ (by omega)) (fun j => hb _ _ (by omega)) (fun q hq => hb _ _ (by omega))
      refine ⟨invK_of hi ho h6 hkS hn h hb u11 (by rw [if_pos d3]; exact u12) (by
        rw [u13]
        by_cases d : ρ (k + 54) 13 = -1
        · rw [if_pos d, if_pos ⟨d3, d⟩]
        · rw [if_neg d, if_neg (fun z => d z.2)]) fr_cancel (rs_cancel (by omega) hRt) (fun hI => ih_cancel (by omega) hRt hI) (fun a b h1 h2 h3 h4 => cancelScope_other h1 h2 h3 h4) (fun _ => ?_), ?_⟩
      · have hlt : m_isLive τ k = true := by unfold m_isLive; rw [hb _ _ (by omega)]; exact hlive
        by_cases d5 : τ (k + 54) 5 = 0
        · obtain ⟨⟨L, hL⟩, hr⟩ := hRt
          have := (cancel_spec (show k < 40 by omega) hL (fun i hi => (hr i hi).2)).2.2.1 (by unfold m_cancels; rw [if_pos hlt, if_pos d5])
          rw [this.1]; decide
        · have e : m_cancelScope τ k = τ := by unfold m_cancelScope; rw [if_pos hlt, if_neg d5]
          rw [e]; exact d5
      · rw [cancelScope_other (by omega) (by omega) (by omega) (by omega)]; exact hb _ _ (by omega)
    by_cases d : ρ (k + 54) 13 = -1
    · rw [if_pos d]
      refine key _ (fun a b hab => ?_) ?_ ?_ ?_
      · rw [up2_o (by omega), up2_o (by omega), up2_o (by omega)]
      · rw [up2_o (by omega), up2_o (by omega), up2_same]
      · rw [up2_o (by omega), up2_same]
      · rw [up2_same, if_pos d]
    · rw [if_neg d]
      refine key _ (fun a b hab => ?_) ?_ ?_ ?_
      · rw [up2_o (by omega), up2_o (by omega)]
      · rw [up2_o (by omega), up2_same]
      · rw [up2_same]
      · rw [up2_o (by omega), up2_o (by omega), if_neg d]
  · rw [if_neg d3]
    refine ⟨invK_of hi ho h6 hkS hn h (fun a b hab => up2_o (by omega)) (up2_same _ _ _ _) (by rw [if_neg d3, up2_o (by omega)]) (by rw [if_neg (fun z => d3 z.1), up2_o (by omega)]) (Fr.refl _) (a4.keep (up2_o (by omega)) (fun j => up2_o (by omega)) (fun q hq => up2_o (by omega))) id (fun _ _ _ _ _ _ => rfl) (fun z => absurd z d3), ?_⟩
    rw [up2_o (by omega)]
end INV
