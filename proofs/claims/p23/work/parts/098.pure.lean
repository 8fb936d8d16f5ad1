/-! ALL OF IT, as a SCOPE is taken off its stack -/
def popS (st : Nat → List Nat) (i : Nat) (L : List Nat) (o : Nat) : List Nat := if o = i then L else st o
theorem popS_i (st : Nat → List Nat) (i : Nat) (L : List Nat) : popS st i L i = L := if_pos rfl
theorem popS_ne {st : Nat → List Nat} {i o : Nat} {L : List Nat} (h : o ≠ i) : popS st i L o = st o := if_neg h
section INV
variable {π τ σ : Sg} {T S t U : Nat} {st : Nat → List Nat} {r m x : Option Nat}
theorem inv_pop {i k : Nat} {L : List Nat} (hm : m = some i ∨ (m = none ∧ τ (i + 6) 9 = 5)) (hk : st i = k :: L) (oth : ∀ a b, ¬ (a = k + 54 ∧ (b = 1 ∨ b = 9)) → ¬ (a = i + 6 ∧ (b = 7 ∨ b = 8)) → σ a b = τ a b) (u1 : σ (k + 54) 1 = 2) (u9 : σ (k + 54) 9 ≠ -4) (v7 : σ (i + 6) 7 = τ (k + 54) 3) (v8 : σ (i + 6) 8 = τ (i + 6) 8 - 1)
    (hmem : ∀ q, q < 24 → τ (q + 6) 6 = nI k → ¬ ali τ q) (h : Inv π T S t U st (some i) m none τ) : Inv π T S t U (popS st i L) (some i) (some i) none σ := by
  obtain ⟨hi, h0⟩ := h.run
  obtain ⟨⟨a1, a2, a3, a4⟩, ⟨b1, b2, b3, b4, b5, b6⟩, ⟨d1, d2⟩, ⟨e1, e2, e3⟩, f⟩ := id h
  have hT := a1.1
  have hS := a1.2.1
  obtain ⟨s1, s2, s3, s4, s5, s6⟩ := a3.1.1 i hi
  have hkm : k ∈ st i := by rw [hk]; exact List.mem_cons_self
  have hkS := stack_lt a1 a3 hi hkm
  have hko : τ (k + 54) 2 = nI i := s4 k hkm
  have nd := s3
  rw [hk] at nd
  have nd2 := (List.nodup_cons.mp nd).1
  have tk : ∀ q, q < 24 → ∀ b, b ≠ 7 → b ≠ 8 → σ (q + 6) b = τ (q + 6) b := fun q hq b y1 y2 => oth _ _ (by omega) (by omega)
  have tq : ∀ q, q < 24 → q ≠ i → ∀ b, σ (q + 6) b = τ (q + 6) b := fun q hq hn b => oth _ _ (by omega) (by omega)
  have sc : ∀ p, p < 40 → p ≠ k → ∀ b, σ (p + 54) b = τ (p + 54) b := fun p hp hn b => oth _ _ (by omega) (by omega)
  have sk : ∀ p, p < 40 → ∀ b, b ≠ 1 → b ≠ 9 → σ (p + 54) b = τ (p + 54) b := fun p hp b y1 y2 => oth _ _ (by omega) (by omega)
  have al : ∀ q, q < 24 → (ali σ q ↔ ali τ q) := fun q hq => by unfold ali; rw [tk q hq 3 (by decide) (by decide)]
  have hf : Fs τ σ := fun q hq => by
    unfold ovr
    rw [tk q hq 3 (by decide) (by decide)]
    exact ⟨al q hq, Iff.rfl, Iff.rfl, tk q hq 6 (by decide) (by decide), fun _ => tk q hq 5 (by decide) (by decide)⟩
  have hs : Ss τ σ := fun p hp => by
    rw [sk p hp 5 (by decide) (by decide)]
    exact ⟨id, fun b hb => sk p hp b (by omega) (by omega)⟩
  have ks : Ks τ σ := ⟨fun q hq b hb => tk q hq b (by omega) (by omega), fun c hc => ⟨fun b => oth _ _ (by omega) (by omega), fun b => oth _ _ (by omega) (by omega)⟩⟩
  have lv : ∀ p, p < 40 → m_isLive σ p = true → p ≠ k ∧ m_isLive τ p = true := fun p hp hl => by
    have hn : p ≠ k := fun z => by rw [z] at hl; exact not_live2 u1 hl
    refine ⟨hn, ?_⟩
    unfold m_isLive at hl ⊢
    rw [sc p hp hn] at hl
    exact hl
  have md : ∀ o, o < 24 → o ≠ i → m_mode σ (some i) o = m_mode τ m o := fun o ho hn => by
    unfold m_mode
    rw [tq o ho hn 9, tq o ho hn 3, if_neg (fun z => hn (Option.some.inj z).symm)]
    rcases hm with y | ⟨y, _⟩
    · rw [y, if_neg (fun z => hn (Option.some.inj z).symm)]
    · rw [y, if_neg (show ¬ (none : Option Nat) = some o from by intro z; cases z)]
  have mn : ∀ q, q ≠ i → m ≠ some q := fun q hn => by
    rcases hm with y | ⟨y, _⟩
    · rw [y]; exact fun z => hn (Option.some.inj z).symm
    · rw [y]; intro z; cases z
  refine ⟨⟨?_, fun p hp => ?_, ⟨⟨fun o ho => ?_, fun p hp hl2 => ?_⟩, fun q hq hn => ?_⟩, a4.keep (oth _ _ (by omega) (by omega)) (fun j => oth _ _ (by omega) (by omega)) (fun q hq => tk q hq 3 (by decide) (by decide))⟩, ⟨fun q hq => ?_, b2.fs hS hf hs, b3.fs hS hf hs, fun p hp h1 => ?_, b5.fs hf, ?_⟩, ⟨fun q hq h1 h5 => ?_, fun q hq => ?_⟩, ⟨e1.ks ks, fun c hc => (e2 c hc).ks hc ks, fun c hc => ?_⟩, ⟨?_, f.2.1, fun p hp => ?_⟩⟩
  · obtain ⟨_, _, y3, y4, y5, y6, y7, y8⟩ := a1
    have hiT : i < T := by
      rcases Nat.lt_or_ge i T with w | w
      · exact w
      · have := (y6 i w hi).1
        rw [h0] at this; exact absurd this (by decide)
    refine ⟨hT, hS, by rw [oth _ _ (by omega) (by omega)]; exact y3, by rw [oth _ _ (by omega) (by omega)]; exact y4, fun q hq => ?_, fun q h1 h2 => ?_, fun p hp => ?_, fun p h1 h2 => ?_⟩
    · unfold ali ovr; rw [tk q (by omega) 3 (by decide) (by decide)]; exact y5 q hq
    · rw [tq q h2 (by omega), tq q h2 (by omega), tq q h2 (by omega), tq q h2 (by omega), tq q h2 (by omega), tq q h2 (by omega)]
      exact y6 q h1 h2
    · by_cases e : p = k
      · subst e; exact Or.inr (Or.inr u1)
      · rw [sc p (by omega) e]; exact y7 p hp
    · rw [sc p h2 (by omega), sc p h2 (by omega), sc p h2 (by omega), sc p h2 (by omega), sc p h2 (by omega), sc p h2 (by omega)]
      exact y8 p h1 h2
  · obtain ⟨o, o1, o2, o3⟩ := a2 p hp
    refine ⟨o, o1, by rw [sk p (by omega) 2 (by decide) (by decide)]; exact o2, ?_⟩
    rw [sk p (by omega) 3 (by decide) (by decide), sk p (by omega) 4 (by decide) (by decide), tk o (by omega) 6 (by decide) (by decide)]; exact o3
  · have hlt : ∀ p ∈ st o, p < 40 := Chain.lt _ _ (a3.1.1 o ho).1
    by_cases e : o = i
    · subst e
      rw [popS_i]
      have hLm : ∀ p ∈ L, p ∈ st o ∧ p ≠ k := fun p hp => ⟨by rw [hk]; exact List.mem_cons_of_mem _ hp, fun z => nd2 (by rw [← z]; exact hp)⟩
      rw [hk] at s1 s2 s6
      refine ⟨?_, ?_, (List.nodup_cons.mp nd).2, fun p hp => ?_, fun p L' hL => ?_, fun p hp => ?_⟩
      · rw [v7]
        exact Chain.keep _ _ (fun p hp => sk p (hlt p (hLm p hp).1) 3 (by decide) (by decide)) s1.2.2
      · rw [v8, s2, List.length_cons, nI_pred]
      · rw [sk p (hlt p (hLm p hp).1) 2 (by decide) (by decide)]; exact s4 p (hLm p hp).1
      · have hp : p ∈ L := by rw [hL]; exact List.mem_cons_self
        rw [mode_i, sc p (hlt p (hLm p hp).1) (hLm p hp).2]; exact s6 p hp
      · have hp2 := List.mem_of_mem_tail hp
        rw [sc p (hlt p (hLm p hp2).1) (hLm p hp2).2]; exact s6 p hp2
    · rw [popS_ne e]
      have hpk : ∀ p ∈ st o, p ≠ k := fun p hp z => by
        have := (a3.1.1 o ho).2.2.2.1 p hp
        rw [z, hko] at this
        exact e (nI_inj (by omega) (by omega) this).symm
      exact (a3.1.1 o ho).keep (tq o ho e 7) (tq o ho e 8) (fun p hp => ⟨sc p (hlt p hp) (hpk p hp) 1, sc p (hlt p hp) (hpk p hp) 2, sc p (hlt p hp) (hpk p hp) 3⟩) (fun _ => md o ho e)
  · obtain ⟨hn, hl3⟩ := lv p hp hl2
    obtain ⟨o, o1, o2⟩ := a3.1.2 p hp hl3
    refine ⟨o, o1, ?_⟩
    by_cases e : o = i
    · subst e
      rw [popS_i]
      rw [hk] at o2
      rcases List.mem_cons.mp o2 with z | z
      · exact absurd z hn
      · exact z
    · rw [popS_ne e]; exact o2
  · have hne : q ≠ i := fun z => hn (by rw [z]; exact (al i hi).mpr (Or.inl h0))
    rw [popS_ne hne]
    exact a3.2 q hq (fun z => hn ((al q hq).mpr z))
  · rw [tk q hq 6 (by decide) (by decide)]
    rcases b1 q hq with y | ⟨p, y1, y2, ⟨o, y3, y4⟩, y5⟩
    · exact Or.inl y
    · refine Or.inr ⟨p, y1, y2, ⟨o, y3, by rw [sk p (by omega) 2 (by decide) (by decide)]; exact y4⟩, fun z => ?_⟩
      have hz : ali τ q := z.elim (fun w => (al q hq).mp w) (fun w => by cases w)
      have hn : p ≠ k := fun w => by rw [w] at y2; exact hmem q hq y2 hz
      unfold m_isLive
      rw [sc p (by omega) hn]
      exact y5 (Or.inl hz)
  · have hn : p ≠ k := fun z => by rw [z, u1] at h1; exact absurd h1 (by decide)
    rw [sc p (by omega) hn] at h1
    obtain ⟨q, q1, q2, q3⟩ := b4 p hp h1
    exact ⟨q, q1, by rw [tk q q1 6 (by decide) (by decide)]; exact q2, q3.elim (fun y => Or.inl ((al q q1).mpr y)) Or.inr⟩
  · refine ⟨fun p hp => ?_, fun p hp => by rw [sk p (by omega) 8 (by decide) (by decide)]; exact b6.2 p hp⟩
    by_cases e : p = k
    · subst e; exact u9
    · rw [sc p hp e]; exact b6.1 p hp
  · rw [tk q hq 3 (by decide) (by decide)] at h1
    rw [tk q hq 9 (by decide) (by decide)] at h5
    have hne : q ≠ i := fun z => by rw [z, h0] at h1; exact absurd h1 (by decide)
    rw [close_hit a1 a2 a3 b1 hi hk hmem (fun p hp hn b _ => sc p hp hn b) hq hne h1 h5 (tk q hq 6 (by decide) (by decide)) (tq q hq hne 7)]
    exact d1 q hq h1 h5
  · obtain ⟨b, w1, w2, w3⟩ := d2 q hq
    have hq24 : q < 24 := by omega
    refine ⟨b, w1, by rw [tk q hq24 2 (by decide) (by decide)]; exact w2, fun ha => ?_⟩
    obtain ⟨l, g1, g2, g3, g4⟩ := w3 ((al q hq24).mp ha)
    rw [tk q hq24 3 (by decide) (by decide), tk q hq24 4 (by decide) (by decide), tk q hq24 9 (by decide) (by decide)]
    by_cases e : q = i
    · subst e
      exact ⟨l, g1, g2, fun z => absurd rfl z, fun z => by rw [h0] at z; exact absurd z (by decide)⟩
    · refine ⟨l, g1, g2, fun _ => g3 (mn q e), fun hs => ?_⟩
      rw [popS_ne e]
      rcases g4 hs with y | y
      · exact Or.inl y
      · exact Or.inr ⟨y.1, y.2.same (tq q hq24 e)⟩
  · obtain ⟨n, z1, z2, z3⟩ := (e3 c hc).ks hc ks
    refine ⟨n, z1, z2, Nat.le_trans ?_ z3⟩
    rcases hm with y | ⟨y, _⟩
    · rw [y]; exact Nat.le_refl _
    · rw [y]; exact gv_le
  · rw [oth _ _ (by omega) (by omega)]; exact f.1
  · rw [sk p (by omega) 5 (by decide) (by decide), sk p (by omega) 6 (by decide) (by decide), sk p (by omega) 7 (by decide) (by decide)]
    exact ⟨(f.2.2 p hp).1, fun hl => (f.2.2 p hp).2 (lv p (by omega) hl).2⟩
/-- how it goes on behind a SCOPE -/
theorem goOn_after {i k : Nat} (hkS : k < S) (h : Inv π T S t U st (some i) (some i) none τ) : ∃ σ w, m_wayOut τ i k = (σ, w) ∧ w ≠ -4 ∧ Inv π T S t U st (some i) (some i) none σ ∧ σ 100 2 = τ 100 2 := by
  have hS := h.1.1.2.1
  obtain ⟨w1, w2⟩ := h.2.1.2.2.2.2.2
  have hg : Inv π T S t U st (some i) (some i) none (m_goesOn τ i k) ∧ m_goesOn τ i k 100 2 = τ 100 2 := by
    obtain ⟨l, l1, l2⟩ := w2 k hkS
    obtain ⟨hi, h0⟩ := h.run
    refine ⟨inv_loc (((Lcl.refl τ i).up (Or.inl ⟨rfl, Or.inr rfl⟩)).up (Or.inl ⟨rfl, Or.inl rfl⟩)) ⟨l, l1, ?_⟩ h, ?_⟩
    · unfold m_goesOn
      rw [up2_same, up2_o (by omega), l2]
    · unfold m_goesOn
      rw [up2_o (by omega), up2_o (by omega)]
  unfold m_wayOut
  by_cases c1 : τ (k + 54) 9 = -1
  · rw [if_pos c1]; exact ⟨_, _, rfl, by decide, hg⟩
  · rw [if_neg c1]
    by_cases c2 : τ (k + 54) 9 = -3
    · rw [if_pos c2]
      by_cases c3 : τ (k + 54) 5 = 0
      · rw [if_pos c3]; exact ⟨_, _, rfl, w1 k (by omega), h, rfl⟩
      · rw [if_neg c3]; exact ⟨_, _, rfl, by decide, hg⟩
    · rw [if_neg c2]; exact ⟨_, _, rfl, w1 k (by omega), h, rfl⟩
theorem takeOff_inv {i k : Nat} (hkS : k < S) (h7 : τ (i + 6) 7 = nI k)
    (h : Inv π T S t U st (some i) (some i) none (up2 (up2 τ (i + 6) 7 (τ (k + 54) 3)) (i + 6) 8 (τ (i + 6) 8 - 1))) : ∃ σ w, m_takeOff τ i = (σ, w) ∧ w ≠ -4 ∧ Inv π T S t U st (some i) (some i) none σ ∧ σ 100 2 = τ 100 2 := by
  have hS := h.1.1.2.1
  obtain ⟨hi, h0⟩ := h.run
  have e0 : up2 τ (i + 6) 7 (τ (k + 54) 3) (i + 6) 8 = τ (i + 6) 8 := up2_o (by omega)
  unfold m_takeOff
  rw [h7, m_at_nI (show k < 40 by omega) (by decide)]
  dsimp only
  rw [e0]
  have e1 : up2 (up2 τ (i + 6) 7 (τ (k + 54) 3)) (i + 6) 8 (τ (i + 6) 8 - 1) 100 2 = τ 100 2 := by rw [up2_o (by omega), up2_o (by omega)]
  revert h e1
  generalize up2 (up2 τ (i + 6) 7 (τ (k + 54) 3)) (i + 6) 8 (τ (i + 6) 8 - 1) = ρ
  intro h e1
  by_cases c1 : 0 < ρ (k + 54) 9
  · rw [if_pos c1]
    obtain ⟨σ, w, g1, g2, g3, g4⟩ := goOn_after hkS h
    exact ⟨σ, w, g1, g2, g3, by rw [g4, e1]⟩
  · rw [if_neg c1]
    cases e : m_at (ρ (k + 54) 13) 24 with
    | none =>
      obtain ⟨σ, w, g1, g2, g3, g4⟩ := goOn_after hkS h
      exact ⟨σ, w, g1, g2, g3, by rw [g4, e1]⟩
    | some q =>
      refine ⟨_, _, rfl, fun z => ?_, h, e1⟩
      have hq := m_at_lt e (by decide)
      have hx := m_at_eq e
      rcases h.2.1.2.2.1 k hkS with ⟨y, _⟩ | ⟨q', y1, y2, y3, y4, _⟩
      · rw [y] at hx; exact neg1_ne (by omega) hx
      · rw [y2] at hx
        have e2 : q' = q := nI_inj (by omega) (by omega) hx
        subst e2
        have := h.2.1.2.2.2.2.1 q' y1 y4
        rw [z] at this
        exact absurd this (by decide)
end INV
