/-! ALL OF IT, through the end of a TASK and through leaving -/
section INV
variable {π τ σ ρ : Sg} {T S t U : Nat} {st : Nat → List Nat} {r m x : Option Nat}
theorem inv_ofK {k : Nat} (h : InvK π T S t U st k τ) (hk : τ (k + 54) 1 = 1 → ∃ q, q < 24 ∧ τ (q + 6) 6 = nI k ∧ ali τ q) : Inv π T S t U st none none none τ := by
  obtain ⟨a, ⟨b1, b2, b3, b4, b5, b6⟩, d, e, f⟩ := h
  refine ⟨a, ⟨b1, b2, b3, fun p hp h1 => ?_, b5, b6⟩, d, e, f⟩
  by_cases c : p = k
  · subst c
    obtain ⟨q, q1, q2, q3⟩ := hk h1
    exact ⟨q, q1, q2, Or.inl q3⟩
  · obtain ⟨q, q1, q2, q3⟩ := b4 p hp c h1
    exact ⟨q, q1, q2, Or.inl q3⟩
theorem inv_close {k : Nat} (hkS : k < S) (hl : m_isLive τ k = true) (h : InvK π T S t U st k τ) : Inv π T S t U st none none none (m_tellClose τ k) := by
  obtain ⟨⟨a1, a2, a3, a4⟩, ⟨b1, b2, b3, b4, b5, b6⟩, ⟨d1, d2⟩, ⟨e1, e2, e3⟩, f⟩ := id h
  have hT := a1.1
  have hS := a1.2.1
  unfold m_tellClose
  by_cases c1 : τ (k + 54) 1 = 1
  · rw [if_pos c1]
    by_cases c2 : τ (k + 54) 11 < τ (k + 54) 10
    · rw [if_pos c2]
      exact inv_ofK h (fun _ => some_left a1 hkS b2 (fun z => absurd c2 (Int32.not_lt.mpr z)))
    · rw [if_neg c2]
      have hmem := all_over hkS hS b2 (Int32.not_lt.mp c2)
      obtain ⟨o, ho, hko⟩ := a3.1.2 k (by omega) hl
      obtain ⟨s1, s2, s3, s4, s5, s6⟩ := a3.1.1 o ho
      -- it lies on top
      obtain ⟨L, hL⟩ : ∃ L, st o = k :: L := by
        cases hL : st o with
        | nil => rw [hL] at hko; cases hko
        | cons p L =>
          rw [hL] at hko
          rcases List.mem_cons.mp hko with z | z
          · exact ⟨L, by rw [z]⟩
          · have := s6 k (by rw [hL]; exact z)
            rw [c1] at this
            exact absurd this (by decide)
      have hm := s5 k L hL
      rw [c1] at hm
      have hmo : τ (o + 6) 9 = 5 ∧ τ (o + 6) 3 = 1 := by
        unfold m_mode at hm
        rw [if_neg (by intro z; cases z)] at hm
        by_cases y9 : τ (o + 6) 9 = 5
        · rw [if_pos y9] at hm
          by_cases y3 : τ (o + 6) 3 = 1
          · exact ⟨y9, y3⟩
          · rw [if_neg y3] at hm; exact absurd hm (by decide)
        · rw [if_neg y9] at hm; exact absurd hm (by decide)
      obtain ⟨o9, o3⟩ := hmo
      have hopen : τ (k + 54) 2 = nI o := s4 k hko
      dsimp only
      rw [up2_o (show ¬ (k + 54 = k + 54 ∧ 2 = 1) by omega), hopen, m_at_nI ho (by decide)]
      dsimp only
      rw [if_pos (waitsAt_iff.mpr ⟨by rw [up2_o (by omega)]; exact o3, by rw [up2_o (by omega)]; exact o9⟩)]
      have hR : RS (m_makeReady (up2 τ (k + 54) 1 2) o) none := (a4.up (by omega) (by omega) (by omega)).mr ho (by rw [up2_o (by omega), o3]; decide)
      have oth : ∀ a b, ¬ (a = k + 54 ∧ b = 1) → ¬ (a = o + 6 ∧ b = 3) → a ≠ 5 → ¬ (a = 0 ∧ b = 7) → m_makeReady (up2 τ (k + 54) 1 2) o a b = τ a b := fun a b h1 h2 h3 h4 => by
        rw [mr_other h2 h3 h4, up2_o h1]
      have u1 : m_makeReady (up2 τ (k + 54) 1 2) o (k + 54) 1 = 2 := by
        rw [mr_other (by omega) (by omega) (by omega), up2_same]
      have v3 : m_makeReady (up2 τ (k + 54) 1 2) o (o + 6) 3 = 0 := mr_0 _ _
      revert hR oth u1 v3
      generalize m_makeReady (up2 τ (k + 54) 1 2) o = σ
      intro hR oth u1 v3
      have tq : ∀ q, q < 24 → q ≠ o → ∀ b, σ (q + 6) b = τ (q + 6) b := fun q hq hn b => oth _ _ (by omega) (by omega) (by omega) (by omega)
      have tk : ∀ q, q < 24 → ∀ b, b ≠ 3 → σ (q + 6) b = τ (q + 6) b := fun q hq b hb => oth _ _ (by omega) (by omega) (by omega) (by omega)
      have sc : ∀ p, p < 40 → p ≠ k → ∀ b, σ (p + 54) b = τ (p + 54) b := fun p hp hn b => oth _ _ (by omega) (by omega) (by omega) (by omega)
      have sk : ∀ p, p < 40 → ∀ b, b ≠ 1 → σ (p + 54) b = τ (p + 54) b := fun p hp b hb => oth _ _ (by omega) (by omega) (by omega) (by omega)
      have hf : Fs τ σ := fun q hq => by
        by_cases e : q = o
        · subst e
          unfold ali ovr
          rw [v3, o3]
          refine ⟨⟨fun _ => Or.inr rfl, fun _ => Or.inl rfl⟩, ⟨fun z => ?_, fun z => ?_⟩, ⟨fun z => absurd z (by decide), fun z => absurd z (by decide)⟩, tk q hq 6 (by decide), fun _ => tk q hq 5 (by decide)⟩
          · rcases z with z | z | z <;> exact absurd z (by decide)
          · rcases z with z | z | z <;> exact absurd z (by decide)
        · unfold ali ovr
          rw [tq q hq e]
          exact ⟨Iff.rfl, Iff.rfl, Iff.rfl, tq q hq e 6, fun _ => tq q hq e 5⟩
      have hs : Ss τ σ := fun p hp => by
        rw [sk p hp 5 (by decide)]
        exact ⟨id, fun b hb => sk p hp b (by omega)⟩
      have lv : ∀ p, p < 40 → m_isLive σ p = true → p ≠ k ∧ m_isLive τ p = true := fun p hp hl => by
        have hn : p ≠ k := fun z => by rw [z] at hl; exact not_live2 u1 hl
        refine ⟨hn, ?_⟩
        unfold m_isLive at hl ⊢
        rw [sc p hp hn] at hl
        exact hl
      have wf : ∀ q, q < 24 → ∀ w y, m_waitsFor σ q w y = true → q ≠ o ∧ m_waitsFor τ q w y = true := fun q hq w y hz => by
        have hn : q ≠ o := fun z => by
          have := waits_one hz
          rw [z, v3] at this
          exact absurd this (by decide)
        refine ⟨hn, ?_⟩
        unfold m_waitsFor m_waitsAt at hz ⊢
        rw [tq q hq hn, tq q hq hn, tq q hq hn, tq q hq hn] at hz
        exact hz
      refine ⟨⟨?_, fun p hp => ?_, ⟨⟨fun o' ho' => ?_, fun p hp hl2 => ?_⟩, fun q hq hn => ?_⟩, hR⟩, ⟨fun q hq => ?_, b2.fs hS hf hs, b3.fs hS hf hs, fun p hp h1 => ?_, b5.fs hf, ?_⟩, ⟨fun q hq h1 h5 => ?_, fun q hq => ?_⟩, ⟨fun c hc => ?_, fun c hc => ?_, fun c hc => ?_⟩, ⟨?_, f.2.1, fun p hp => ?_⟩⟩
      · obtain ⟨_, _, y3, y4, y5, y6, y7, y8⟩ := a1
        refine ⟨hT, hS, by rw [oth _ _ (by omega) (by omega) (by omega) (by omega)]; exact y3, by rw [oth _ _ (by omega) (by omega) (by omega) (by omega)]; exact y4, fun q hq => ?_, fun q h1 h2 => ?_, fun p hp => ?_, fun p h1 h2 => ?_⟩
        · rcases y5 q hq with z | z
          · exact Or.inl ((hf q (by omega)).1.mpr z)
          · exact Or.inr ((hf q (by omega)).2.1.mpr z)
        · have hn : q ≠ o := fun z => by
            have := (y6 q h1 h2).1
            rw [z, o3] at this; exact absurd this (by decide)
          rw [tq q h2 hn, tq q h2 hn, tq q h2 hn, tq q h2 hn, tq q h2 hn, tq q h2 hn]; exact y6 q h1 h2
        · by_cases e : p = k
          · subst e; exact Or.inr (Or.inr u1)
          · rw [sc p (by omega) e]; exact y7 p hp
        · rw [sc p h2 (by omega), sc p h2 (by omega), sc p h2 (by omega), sc p h2 (by omega), sc p h2 (by omega), sc p h2 (by omega)]; exact y8 p h1 h2
      · obtain ⟨o', o1', o2', o3'⟩ := a2 p hp
        refine ⟨o', o1', by rw [sk p (by omega) 2 (by decide)]; exact o2', ?_⟩
        rw [sk p (by omega) 3 (by decide), sk p (by omega) 4 (by decide), tk o' (by omega) 6 (by decide)]; exact o3'
      · have hlt : ∀ p ∈ st o', p < 40 := Chain.lt _ _ (a3.1.1 o' ho').1
        by_cases e : o' = o
        · subst e
          have nd := s3
          rw [hL] at nd
          have nd2 := (List.nodup_cons.mp nd).1
          refine ⟨?_, by rw [tk o' ho' 8 (by decide)]; exact s2, s3, fun p hp => by rw [sk p (hlt p hp) 2 (by decide)]; exact s4 p hp, fun p L' hL' => ?_, fun p hp => ?_⟩
          · rw [tk o' ho' 7 (by decide)]
            exact Chain.keep _ _ (fun p hp => sk p (hlt p hp) 3 (by decide)) s1
          · rw [hL] at hL'
            cases hL'
            rw [u1]
            unfold m_mode
            rw [if_neg (by intro z; cases z), if_pos (by rw [tk o' ho' 9 (by decide)]; exact o9), if_neg (by rw [v3]; decide)]
          · have hpk : p ≠ k := fun z => by
              rw [hL] at hp
              subst z
              exact nd2 hp
            rw [sc p (hlt p (List.mem_of_mem_tail hp)) hpk]; exact s6 p hp
        · have hpk : ∀ p ∈ st o', p ≠ k := fun p hp z => by
            have := (a3.1.1 o' ho').2.2.2.1 p hp
            rw [z, hopen] at this
            exact e (nI_inj (by omega) (by omega) this).symm
          exact (a3.1.1 o' ho').keep (tq o' ho' e 7) (tq o' ho' e 8) (fun p hp => ⟨sc p (hlt p hp) (hpk p hp) 1, sc p (hlt p hp) (hpk p hp) 2, sc p (hlt p hp) (hpk p hp) 3⟩) (fun _ => by unfold m_mode; rw [tq o' ho' e, tq o' ho' e])
      · obtain ⟨_, hl3⟩ := lv p hp hl2
        exact a3.1.2 p hp hl3
      · exact a3.2 q hq (fun z => hn ((hf q hq).1.mpr z))
      · rw [tk q hq 6 (by decide)]
        rcases b1 q hq with y | ⟨p, y1, y2, ⟨o', y3, y4⟩, y5⟩
        · exact Or.inl y
        · refine Or.inr ⟨p, y1, y2, ⟨o', y3, by rw [sk p (by omega) 2 (by decide)]; exact y4⟩, fun z => ?_⟩
          have hz : ali τ q := z.elim (fun w => (hf q hq).1.mp w) (fun w => by cases w)
          have hn : p ≠ k := fun w => by rw [w] at y2; exact hmem q hq y2 hz
          unfold m_isLive
          rw [sc p (by omega) hn]
          exact y5 (Or.inl hz)
      · have hn : p ≠ k := fun z => by rw [z, u1] at h1; exact absurd h1 (by decide)
        rw [sc p (by omega) hn] at h1
        obtain ⟨q, q1, q2, q3⟩ := b4 p hp hn h1
        exact ⟨q, q1, by rw [tk q q1 6 (by decide)]; exact q2, Or.inl ((hf q q1).1.mpr q3)⟩
      · exact ⟨fun p hp => by rw [sk p hp 9 (by decide)]; exact b6.1 p hp, fun p hp => by rw [sk p (by omega) 8 (by decide)]; exact b6.2 p hp⟩
      · have hne : q ≠ o := fun z => by rw [z, v3] at h1; exact absurd h1 (by decide)
        rw [tq q hq hne] at h1 h5
        rw [close_hit a1 a2 a3 b1 ho hL hmem (fun p hp hn b _ => sc p hp hn b) hq hne h1 h5 (tq q hq hne 6) (tq q hq hne 7)]
        exact d1 q hq h1 h5
      · obtain ⟨b, w1, w2, w3⟩ := d2 q hq
        have hq24 : q < 24 := by omega
        refine ⟨b, w1, by rw [tk q hq24 2 (by decide)]; exact w2, fun ha => ?_⟩
        obtain ⟨l, g1, g2, g3, g4⟩ := w3 ((hf q hq24).1.mp ha)
        refine ⟨l, g1, by rw [tk q hq24 4 (by decide)]; exact g2, by rw [tk q hq24 9 (by decide)]; exact g3, fun hs => ?_⟩
        have hne : q ≠ o := fun z => by rw [z, v3] at hs; exact absurd hs (by decide)
        rw [tq q hq24 hne] at hs
        rw [tq q hq24 hne 9]
        rcases g4 hs with y | y
        · exact Or.inl y
        · exact Or.inr ⟨y.1, y.2.same (tq q hq24 hne)⟩
      · rw [oth (c + 94) 1 (by omega) (by omega) (by omega) (by omega)]
        rcases e1 c hc with ⟨y1, y2⟩ | ⟨p, y1, y2, y3, y4⟩
        · exact Or.inl ⟨y1, fun q hq z => y2 q hq (wf q hq _ _ z).2⟩
        · exact Or.inr ⟨p, y1, y2, y3.elim (fun y => Or.inl ((hf p y1).1.mpr y)) Or.inr, fun z => y4 (wf p y1 _ _ z).2⟩
      · obtain ⟨z0, n, z1, z2, z3, z4⟩ := e2 c hc
        refine ⟨by rw [oth _ _ (by omega) (by omega) (by omega) (by omega)]; exact z0, n, z1, by rw [oth _ _ (by omega) (by omega) (by omega) (by omega)]; exact z2, fun q hq hw => ?_, fun q hq hw => z4 q hq (wf q hq _ _ hw).2⟩
        obtain ⟨y1, y2, y3⟩ := z3 q hq (wf q hq _ _ hw).2
        exact ⟨y1, by rw [oth _ _ (by omega) (by omega) (by omega) (by omega)]; exact y2, fun p hp z => y3 p hp (wf p hp _ _ z).2⟩
      · obtain ⟨n, z1, z2, z3⟩ := e3 c hc
        refine ⟨n, z1, by rw [oth _ _ (by omega) (by omega) (by omega) (by omega)]; exact z2, Nat.le_trans (cnt_mono2 24 (fun q hq hz => ?_)) z3⟩
        unfold gvI at hz ⊢
        rw [decide_eq_true_iff] at hz ⊢
        obtain ⟨x3, x14, x9, x10, xr⟩ := hz
        rw [tk q hq 9 (by decide)] at x9
        have e : q ≠ o := fun z => by rw [z, o9] at x9; exact absurd x9 (by decide)
        rw [tq q hq e] at x3 x14 x10
        exact ⟨x3, x14, x9, x10, xr⟩
      · rw [oth _ _ (by omega) (by omega) (by omega) (by omega)]; exact f.1
      · rw [sk p (by omega) 5 (by decide), sk p (by omega) 6 (by decide), sk p (by omega) 7 (by decide)]
        exact ⟨(f.2.2 p hp).1, fun hl => (f.2.2 p hp).2 (lv p (by omega) hl).2⟩
  · rw [if_neg c1]
    exact inv_ofK h (fun z => absurd z c1)
theorem inv_endTask {i : Nat} {w : Int32} (he : st i = []) (h : Inv π T S t U st (some i) (some i) none τ) : Inv π T S t U st none none none (m_endTask τ i w) := by
  obtain ⟨hi, h0⟩ := h.run
  have h1 := inv_endWay (w := w) he h
  have o1 := endWay_ovr τ i w
  unfold m_endTask
  revert h1 o1
  generalize m_endWay τ i w = ρ
  intro h1 o1
  have h2 := inv_freeOf (i := i) (c := 0) (by decide) h1
  have h3 := inv_freeOf (i := i) (c := 1) (by decide) h2
  have f2 : Fr ρ (m_freeOf ρ i 0) := freeOf_fr (by decide)
  have f3 : Fr (m_freeOf ρ i 0) (m_freeOf (m_freeOf ρ i 0) i 1) := freeOf_fr (by decide)
  have o2 : ovr (m_freeOf ρ i 0) i := (f2.ovq hi).mpr o1
  have o3 : ovr (m_freeOf (m_freeOf ρ i 0) i 1) i := (f3.ovq hi).mpr o2
  have hn : ∀ c, c < 2 → m_freeOf (m_freeOf ρ i 0) i 1 (c + 94) 1 ≠ nI i := fun c hc => by
    have n1 : ∀ σ : Sg, ovr σ i → σ (i + 6) 3 ≠ 1 := fun σ ho z => ali_not_ovr (Or.inr z) ho
    rcases (show c = 0 ∨ c = 1 by omega) with e | e
    · subst e
      rw [freeOf_other (by omega) (by omega) (by omega) (by omega)]
      exact freeOf_not hi (n1 _ o1)
    · subst e
      exact freeOf_not hi (n1 _ o2)
  revert h3 o3 hn
  generalize m_freeOf (m_freeOf ρ i 0) i 1 = ρ2
  intro h3 o3 hn
  unfold m_endLast
  have hS := h3.1.1.2.1
  rcases h3.2.1.1 i hi with y | ⟨k, y1, y2, y3, y5⟩
  · rw [y, m_at_neg]
    exact inv_x o3 y hn h3
  · rw [y2, m_at_nI (show k < 40 by omega) (by decide)]
    obtain ⟨g1, g2⟩ := invK_tell hi o3 y2 y1 hn h3
    refine inv_close y1 ?_ g1
    unfold m_isLive
    rw [g2]
    exact y5 (Or.inr rfl)
/-- one step out -/
theorem inv_leave {i : Nat} {w : Int32} (hw : w ≠ -4) (h : Inv π T S t U st (some i) (some i) none τ) : (∃ σ, m_leave τ i w = (σ, -4) ∧ Inv π T S t U st none none none σ) ∨ ∃ σ w' k L, st i = k :: L ∧ m_leave τ i w = (σ, w') ∧ w' ≠ -4 ∧ Inv π T S t U (popS st i L) (some i) (some i) none σ ∧ σ 100 2 = τ 100 2 := by
  obtain ⟨hi, h0⟩ := h.run
  rcases top_of h.1.2.2.1 hi with ⟨z1, z2⟩ | ⟨k, L, z1, z2, z3, _⟩
  · refine Or.inl ⟨_, ?_, inv_endTask (w := w) z1 h⟩
    unfold m_leave
    rw [z2, m_at_neg]
  · have hkm : k ∈ st i := by rw [z1]; exact List.mem_cons_self
    have hkS := stack_lt h.1.1 h.1.2.2.1 hi hkm
    have h1 : Inv π T S t U st (some i) (some i) none (if w ≤ 0 then τ else m_cancelScope τ k) ∧ (if w ≤ 0 then τ else m_cancelScope τ k) (i + 6) 7 = nI k ∧ (if w ≤ 0 then τ else m_cancelScope τ k) 100 2 = τ 100 2 := by
      by_cases c : w ≤ 0
      · rw [if_pos c]; exact ⟨h, z2, rfl⟩
      · rw [if_neg c]; exact ⟨inv_cancel z3 h, by rw [cancelScope_other (by omega) (by omega) (by omega) (by omega)]; exact z2, cancelScope_other (by omega) (by omega) (by omega) (by omega)⟩
    unfold m_leave
    rw [z2, m_at_nI z3 (by decide)]
    dsimp only
    revert h1
    generalize (if w ≤ 0 then τ else m_cancelScope τ k) = ρ
    rintro ⟨h1, h7, h100⟩
    have hR3 : RS (up2 (up2 ρ (k + 54) 1 1) (k + 54) 9 w) (some i) := (h1.1.2.2.2.up (by omega) (by omega) (by omega)).up (by omega) (by omega) (by omega)
    rw [up2_o (show ¬ (k + 54 = k + 54 ∧ 10 = 9) by omega), up2_o (show ¬ (k + 54 = k + 54 ∧ 10 = 1) by omega), up2_o (show ¬ (k + 54 = k + 54 ∧ 11 = 9) by omega), up2_o (show ¬ (k + 54 = k + 54 ∧ 11 = 1) by omega)]
    by_cases c : ρ (k + 54) 10 ≤ ρ (k + 54) 11
    · rw [if_pos c]
      have hmem := all_over hkS h1.1.1.2.1 h1.2.1.2.1 c
      refine Or.inr ?_
      have hp : Inv π T S t U (popS st i L) (some i) (some i) none (up2 (up2 (up2 (up2 (up2 ρ (k + 54) 1 1) (k + 54) 9 w) (k + 54) 1 2) (i + 6) 7 (up2 (up2 (up2 ρ (k + 54) 1 1) (k + 54) 9 w) (k + 54) 1 2 (k + 54) 3)) (i + 6) 8 (up2 (up2 (up2 ρ (k + 54) 1 1) (k + 54) 9 w) (k + 54) 1 2 (i + 6) 8 - 1)) := by
        refine inv_pop (Or.inl rfl) z1 (fun a b g1 g2 => ?_) ?_ ?_ ?_ ?_ hmem h1
        · rw [up2_o (by omega), up2_o (by omega), up2_o (by omega), up2_o (by omega), up2_o (by omega)]
        · rw [up2_o (by omega), up2_o (by omega), up2_same]
        · rw [up2_o (by omega), up2_o (by omega), up2_o (by omega), up2_same]; exact hw
        · rw [up2_o (by omega), up2_same, up2_o (by omega), up2_o (by omega), up2_o (by omega)]
        · rw [up2_same, up2_o (by omega), up2_o (by omega), up2_o (by omega)]
      obtain ⟨σ, w', g1, g2, g3, g4⟩ := takeOff_inv (τ := up2 (up2 (up2 ρ (k + 54) 1 1) (k + 54) 9 w) (k + 54) 1 2) hkS (by rw [up2_o (by omega), up2_o (by omega), up2_o (by omega)]; exact h7) hp
      refine ⟨σ, w', k, L, z1, g1, g2, g3, ?_⟩
      rw [g4, up2_o (by omega), up2_o (by omega), up2_o (by omega)]; exact h100
    · rw [if_neg c]
      refine Or.inl ⟨_, rfl, ?_⟩
      refine inv_leaveWait z1 (fun a b g1 g2 g3 => ?_) ?_ ?_ ?_ ?_ (rs_bw hR3) (some_left h1.1.1 hkS h1.2.1.2.1 c) h1
      · rw [bw_other (by omega) (by omega), up2_o (by omega), up2_o (by omega)]
      · exact (bw_fields _ i 5 (nI k)).1
      · exact (bw_fields _ i 5 (nI k)).2.1
      · rw [bw_other (by omega) (by omega), up2_o (by omega), up2_same]
      · rw [bw_other (by omega) (by omega), up2_same]; exact hw
end INV
