/-! ALL OF IT, as SCOPES are left: one that is CLOSED lies on nobody's way who WAITS -/
theorem Chain.below {τ : Sg} : ∀ (L : List Nat) (x : Int32), Chain τ L x → ∀ p ∈ L, τ (p + 54) 3 = -1 ∨ ∃ q, τ (p + 54) 3 = nI q ∧ q ∈ L.tail := by
  intro L
  induction L with
  | nil => intro x _ p hp; cases hp
  | cons k L ih =>
    intro x h p hp
    obtain ⟨h1, h2, h3⟩ := h
    rcases List.mem_cons.mp hp with e | e
    · subst e
      cases L with
      | nil => exact Or.inl h3
      | cons q L =>
        obtain ⟨g1, g2, g3⟩ := h3
        exact Or.inr ⟨q, g1, List.mem_cons_self⟩
    · rcases ih _ h3 p e with z | ⟨q, z1, z2⟩
      · exact Or.inl z
      · exact Or.inr ⟨q, z1, List.mem_of_mem_tail z2⟩
/-- who is HIT, if no SCOPE becomes CLOSED -/
theorem hit_2 {τ σ : Sg} {also : Int32} (h : ∀ k, k < 40 → (τ (k + 54) 1 = 2 ↔ σ (k + 54) 1 = 2) ∧ ∀ b, (b = 4 ∨ b = 5 ∨ b = 6) → τ (k + 54) b = σ (k + 54) b) : ∀ (n : Nat) (x : Int32), m_hit τ also n x = m_hit σ also n x := by
  intro n
  induction n with
  | zero => intro x; rfl
  | succ n ih =>
    intro x
    unfold m_hit
    by_cases c1 : x < 0
    · rw [if_pos c1, if_pos c1]
    · rw [if_neg c1, if_neg c1]
      by_cases c2 : 40 ≤ x
      · rw [if_pos c2, if_pos c2]
      · rw [if_neg c2, if_neg c2]
        have hk : x.toNatClampNeg < 40 := in_lt (in_of c1 c2 (by decide))
        obtain ⟨g1, g2⟩ := h _ hk
        rw [g2 4 (Or.inl rfl), g2 5 (Or.inr (Or.inl rfl)), g2 6 (Or.inr (Or.inr rfl)), ih]
        by_cases c3 : τ (x.toNatClampNeg + 54) 1 = 2
        · rw [if_pos c3, if_pos (g1.mp c3)]
        · rw [if_neg c3, if_neg (fun z => c3 (g1.mpr z))]
section INV
variable {π τ σ : Sg} {T S t U : Nat} {st : Nat → List Nat} {r m x : Option Nat}
theorem mode_n5b {o : Nat} (h5 : τ (o + 6) 9 ≠ 5) : m_mode τ m o = 0 := by
  unfold m_mode
  by_cases c : m = some o
  · rw [if_pos c]
  · rw [if_neg c, if_neg h5]
theorem mem_ali (h : IS τ m st) {o k : Nat} (ho : o < 24) (hk : k ∈ st o) : ali τ o := by
  by_cases c : ali τ o
  · exact c
  · rw [h.2 o ho c] at hk; cases hk
/-- a SCOPE of which all are over: closing it hits nobody -/
theorem close_hit {o k : Nat} (a1 : IT τ T S) (a2 : IU τ T S) (a3 : IS τ m st) (b1 : E1 τ S none) (ho : o < 24) {L : List Nat} (hk : st o = k :: L) (hmem : ∀ q, q < 24 → τ (q + 6) 6 = nI k → ¬ ali τ q)
    (hs : ∀ p, p < 40 → p ≠ k → ∀ b, (b = 1 ∨ b = 4 ∨ b = 5 ∨ b = 6) → σ (p + 54) b = τ (p + 54) b) {j : Nat} (hj : j < 24) (hne : j ≠ o) (h1 : τ (j + 6) 3 = 1) (h9 : τ (j + 6) 9 ≠ 5) (h6 : σ (j + 6) 6 = τ (j + 6) 6) (h7 : σ (j + 6) 7 = τ (j + 6) 7) : m_isHit σ j (-1) = m_isHit τ j (-1) := by
  have hS := a1.2.1
  have hT := a1.1
  have hko : τ (k + 54) 2 = nI o := (a3.1.1 o ho).2.2.2.1 k (by rw [hk]; exact List.mem_cons_self)
  have nd := (a3.1.1 o ho).2.2.1
  rw [hk] at nd
  have nd2 := (List.nodup_cons.mp nd).1
  refine (isHit_alive (Al := fun p => m_isLive τ p = true ∧ p ≠ k) (fun p hp ha => ?_) (fun p hp ha b hb => (hs p hp ha.2 b hb).symm) h6.symm h7.symm ?_).symm
  · -- the way outwards
    have hpS := a1.sltL hp ha.1
    obtain ⟨o', o1, o2, o3⟩ := a2 p hpS
    obtain ⟨o'', p1, p2⟩ := a3.1.2 p hp ha.1
    have e : o'' = o' := by
      have := (a3.1.1 o'' p1).2.2.2.1 p p2
      rw [o2] at this
      exact nI_inj (by omega) (by omega) this.symm
    subst e
    have hal := mem_ali a3 p1 p2
    rcases o3 with ⟨_, z⟩ | ⟨q, q1, q2, q3⟩
    · rw [z]
      rcases b1 o'' p1 with y | ⟨k', y1, y2, y3, y4⟩
      · exact Or.inl y
      · refine Or.inr ⟨k', by omega, y2, y4 (Or.inl hal), fun w => ?_⟩
        rw [w] at y2
        exact hmem o'' p1 y2 hal
    · refine Or.inr ⟨q, by omega, q3, ?_⟩
      obtain ⟨c1, _, _, c4, _, c6⟩ := a3.1.1 o'' p1
      rcases Chain.below _ _ c1 p p2 with w | ⟨q', w1, w2⟩
      · rw [q2] at w; exact absurd w.symm (neg1_ne (by omega))
      · have hq' : q' < 40 := Chain.lt _ _ c1 q' (List.mem_of_mem_tail w2)
        rw [q2] at w1
        have e2 : q = q' := nI_inj (by omega) (by omega) w1
        subst e2
        refine ⟨live_iff.mpr (Or.inl (c6 q w2)), fun w => ?_⟩
        subst w
        have h3 := c4 q (List.mem_of_mem_tail w2)
        rw [hko] at h3
        have e3 : o = o'' := nI_inj (by omega) (by omega) h3
        subst e3
        rw [hk] at w2
        exact nd2 w2
  · -- where it begins
    have hal : ali τ j := Or.inr h1
    by_cases c : τ (j + 6) 7 = -1
    · rw [if_pos c]
      rcases b1 j hj with y | ⟨k', y1, y2, y3, y4⟩
      · exact Or.inl y
      · refine Or.inr ⟨k', by omega, y2, y4 (Or.inl hal), fun w => ?_⟩
        rw [w] at y2
        exact hmem j hj y2 hal
    · rw [if_neg c]
      rcases top_of a3 hj with ⟨_, z⟩ | ⟨p, L', z1, z2, z3, z4, z5, _⟩
      · exact absurd z c
      · refine Or.inr ⟨p, z3, z2, live_iff.mpr (Or.inl ?_), fun w => ?_⟩
        · rw [z4]; exact mode_n5b h9
        · subst w
          rw [hko] at z5
          exact hne (nI_inj (by omega) (by omega) z5).symm
/-- all that were IN it are over, by its numbers -/
theorem all_over {k : Nat} (hk : k < S) (hS : S ≤ 40) (b2 : E2 τ S none) (h : τ (k + 54) 10 ≤ τ (k + 54) 11) : ∀ q, q < 24 → τ (q + 6) 6 = nI k → ¬ ali τ q := by
  obtain ⟨c1, c2, _⟩ := b2 k hk
  rw [c1, c2] at h
  have l1 := cnt_le (isI τ k) 24
  have l2 := cnt_le (ovI τ none k) 24
  have h2 := (nI_leI (by omega) (by omega)).mp h
  intro q hq hin hal
  have := cnt_less (P := ovI τ none k) (Q := isI τ k) (q := q) 24 hq (fun i hi hz => by
    unfold ovI at hz; unfold isI
    rw [decide_eq_true_iff] at hz ⊢; exact hz.1) (by
    unfold ovI; rw [decide_eq_false_iff_not]; exact fun z => ali_not_ovr hal z.2.1) (by unfold isI; rw [decide_eq_true_iff]; exact hin)
  omega
theorem some_left {k : Nat} (a1 : IT τ T S) (hk : k < S) (b2 : E2 τ S none) (h : ¬ τ (k + 54) 10 ≤ τ (k + 54) 11) : ∃ q, q < 24 ∧ τ (q + 6) 6 = nI k ∧ ali τ q := by
  obtain ⟨c1, c2, _⟩ := b2 k hk
  have hS := a1.2.1
  rw [c1, c2] at h
  have l1 := cnt_le (isI τ k) 24
  have l2 := cnt_le (ovI τ none k) 24
  have h2 : ¬ cnt (isI τ k) 24 ≤ cnt (ovI τ none k) 24 := fun z => h ((nI_leI (by omega) (by omega)).mpr z)
  refine Classical.byContradiction (fun hn => h2 ?_)
  refine cnt_mono2 24 (fun q hq hz => ?_)
  unfold isI at hz
  unfold ovI
  rw [decide_eq_true_iff] at hz ⊢
  refine ⟨hz, ?_, by intro z; cases z⟩
  have hqT : q < T := a1.lt hq (fun z => by
    rcases Nat.lt_or_ge q T with w | w
    · rcases a1.2.2.2.2.1 q w with y | y
      · rcases y with y | y <;> rw [y] at z <;> exact absurd z (by decide)
      · rcases y with y | y | y <;> rw [y] at z <;> exact absurd z (by decide)
    · have := (a1.2.2.2.2.2.1 q w hq).2.1
      rw [this] at hz
      exact neg1_ne (by omega) hz)
  rcases a1.2.2.2.2.1 q hqT with y | y
  · exact absurd ⟨q, hq, hz, y⟩ hn
  · exact y
/-- it is LEAVING, and one WAITS for those IN it -/
theorem inv_leaveWait {i k : Nat} {L : List Nat} (hk : st i = k :: L) (oth : ∀ a b, ¬ (a = i + 6 ∧ (b = 3 ∨ 9 ≤ b)) → ¬ (a = 0 ∧ b = 11) → ¬ (a = k + 54 ∧ (b = 1 ∨ b = 9)) → σ a b = τ a b) (v3 : σ (i + 6) 3 = 1) (v9 : σ (i + 6) 9 = 5) (u1 : σ (k + 54) 1 = 1) (u9 : σ (k + 54) 9 ≠ -4)
    (hR : RS σ none) (hw : ∃ q, q < 24 ∧ τ (q + 6) 6 = nI k ∧ ali τ q) (h : Inv π T S t U st (some i) (some i) none τ) : Inv π T S t U st none none none σ := by
  obtain ⟨hi, h0⟩ := h.run
  obtain ⟨⟨a1, a2, a3, a4⟩, ⟨b1, b2, b3, b4, b5, b6⟩, ⟨d1, d2⟩, ⟨e1, e2, e3⟩, f⟩ := id h
  have hT := a1.1
  have hS := a1.2.1
  have hiT := a1.ltA hi (Or.inl h0)
  obtain ⟨s1, s2, s3, s4, s5, s6⟩ := a3.1.1 i hi
  have hkm : k ∈ st i := by rw [hk]; exact List.mem_cons_self
  have hkS := stack_lt a1 a3 hi hkm
  have hk0 : τ (k + 54) 1 = 0 := by rw [s5 k L hk, mode_i]
  have hko : τ (k + 54) 2 = nI i := s4 k hkm
  have tq : ∀ q, q < 24 → q ≠ i → ∀ b, σ (q + 6) b = τ (q + 6) b := fun q hq hn b => oth _ _ (by omega) (by omega) (by omega)
  have ti : ∀ b, b ≠ 3 → b < 9 → σ (i + 6) b = τ (i + 6) b := fun b x1 x2 => oth _ _ (by omega) (by omega) (by omega)
  have sc : ∀ p, p < 40 → p ≠ k → ∀ b, σ (p + 54) b = τ (p + 54) b := fun p hp hn b => oth _ _ (by omega) (by omega) (by omega)
  have sk : ∀ p, p < 40 → ∀ b, b ≠ 1 → b ≠ 9 → σ (p + 54) b = τ (p + 54) b := fun p hp b x1 x2 => oth _ _ (by omega) (by omega) (by omega)
  have hf : Fs τ σ := fun q hq => by
    by_cases e : q = i
    · subst e
      unfold ali ovr
      rw [v3, h0]
      refine ⟨⟨fun _ => Or.inl rfl, fun _ => Or.inr rfl⟩, ⟨fun z => ?_, fun z => ?_⟩, ⟨fun z => absurd z (by decide), fun z => absurd z (by decide)⟩, ti 6 (by decide) (by decide), fun _ => ti 5 (by decide) (by decide)⟩
      · rcases z with z | z | z <;> exact absurd z (by decide)
      · rcases z with z | z | z <;> exact absurd z (by decide)
    · unfold ali ovr
      rw [tq q hq e]
      exact ⟨Iff.rfl, Iff.rfl, Iff.rfl, tq q hq e 6, fun _ => tq q hq e 5⟩
  have hs : Ss τ σ := fun p hp => by
    rw [sk p hp 5 (by decide) (by decide)]
    exact ⟨id, fun b hb => sk p hp b (by omega) (by omega)⟩
  have hl : ∀ p, p < 40 → m_isLive σ p = m_isLive τ p := fun p hp => by
    by_cases e : p = k
    · subst e
      rw [live_iff.mpr (Or.inr u1), live_iff.mpr (Or.inl hk0)]
    · unfold m_isLive; rw [sc p hp e]
  have wf : ∀ q, q < 24 → ∀ w y, w ≠ 5 → m_waitsFor σ q w y = true → q ≠ i ∧ m_waitsFor τ q w y = true := fun q hq w y hw5 hz => by
    have hn : q ≠ i := fun z => by
      have := (waitsFor_iff.mp hz).2.1
      rw [z, v9] at this
      exact hw5 this.symm
    refine ⟨hn, ?_⟩
    unfold m_waitsFor m_waitsAt at hz ⊢
    rw [tq q hq hn, tq q hq hn, tq q hq hn, tq q hq hn] at hz
    exact hz
  refine ⟨⟨?_, fun p hp => ?_, ⟨⟨fun o ho => ?_, fun p hp hl2 => ?_⟩, fun q hq hn => ?_⟩, hR⟩, ⟨b1.fs hS hf hs hl, b2.fs hS hf hs, b3.fs hS hf hs, fun p hp h1 => ?_, b5.fs hf, ?_⟩, ⟨fun q hq h1 h5 => ?_, fun q hq => ?_⟩, ⟨fun c hc => ?_, fun c hc => ?_, fun c hc => ?_⟩, ⟨?_, f.2.1, fun p hp => ?_⟩⟩
  · obtain ⟨_, _, y3, y4, y5, y6, y7, y8⟩ := a1
    refine ⟨hT, hS, by rw [oth _ _ (by omega) (by omega) (by omega)]; exact y3, by rw [oth _ _ (by omega) (by omega) (by omega)]; exact y4, fun q hq => ?_, fun q h1 h2 => ?_, fun p hp => ?_, fun p h1 h2 => ?_⟩
    · rcases y5 q hq with z | z
      · exact Or.inl ((hf q (by omega)).1.mpr z)
      · exact Or.inr ((hf q (by omega)).2.1.mpr z)
    · rw [tq q h2 (by omega), tq q h2 (by omega), tq q h2 (by omega), tq q h2 (by omega), tq q h2 (by omega), tq q h2 (by omega)]
      exact y6 q h1 h2
    · by_cases e : p = k
      · subst e; exact Or.inr (Or.inl u1)
      · rw [sc p (by omega) e]; exact y7 p hp
    · rw [sc p h2 (by omega), sc p h2 (by omega), sc p h2 (by omega), sc p h2 (by omega), sc p h2 (by omega), sc p h2 (by omega)]
      exact y8 p h1 h2
  · obtain ⟨o, o1, o2, o3⟩ := a2 p hp
    refine ⟨o, o1, by rw [sk p (by omega) 2 (by decide) (by decide)]; exact o2, ?_⟩
    rw [sk p (by omega) 3 (by decide) (by decide), sk p (by omega) 4 (by decide) (by decide), oth (o + 6) 6 (by omega) (by omega) (by omega)]; exact o3
  · have hlt : ∀ p ∈ st o, p < 40 := Chain.lt _ _ (a3.1.1 o ho).1
    by_cases e : o = i
    · subst e
      refine ⟨?_, by rw [ti 8 (by decide) (by decide)]; exact s2, s3, fun p hp => by rw [sk p (hlt p hp) 2 (by decide) (by decide)]; exact s4 p hp, fun p L' hL => ?_, fun p hp => ?_⟩
      · rw [ti 7 (by decide) (by decide)]
        exact Chain.keep _ _ (fun p hp => sk p (hlt p hp) 3 (by decide) (by decide)) s1
      · rw [hk] at hL
        cases hL
        rw [u1]
        unfold m_mode
        rw [if_neg (by intro z; cases z), if_pos v9, if_pos v3]
      · have hpk : p ≠ k := fun z => by
          rw [hk] at s3 hp
          subst z
          exact (List.nodup_cons.mp s3).1 hp
        rw [sc p (hlt p (List.mem_of_mem_tail hp)) hpk]; exact s6 p hp
    · have hpk : ∀ p ∈ st o, p ≠ k := fun p hp z => by
        have := (a3.1.1 o ho).2.2.2.1 p hp
        rw [z, hko] at this
        exact e (nI_inj (by omega) (by omega) this).symm
      refine (a3.1.1 o ho).keep (tq o ho e 7) (tq o ho e 8) (fun p hp => ⟨sc p (hlt p hp) (hpk p hp) 1, sc p (hlt p hp) (hpk p hp) 2, sc p (hlt p hp) (hpk p hp) 3⟩) (fun _ => ?_)
      rw [mode_ne e]
      unfold m_mode
      rw [tq o ho e 9, tq o ho e 3]
  · rw [hl p hp] at hl2; exact a3.1.2 p hp hl2
  · exact a3.2 q hq (fun z => hn ((hf q hq).1.mpr z))
  · by_cases e : p = k
    · subst e
      obtain ⟨q, q1, q2, q3⟩ := hw
      exact ⟨q, q1, by rw [(hf q q1).2.2.2.1]; exact q2, Or.inl ((hf q q1).1.mpr q3)⟩
    · rw [sc p (by omega) e] at h1
      obtain ⟨q, q1, q2, q3⟩ := b4 p hp h1
      exact ⟨q, q1, by rw [(hf q q1).2.2.2.1]; exact q2, q3.elim (fun y => Or.inl ((hf q q1).1.mpr y)) Or.inr⟩
  · refine ⟨fun p hp => ?_, fun p hp => by rw [sk p (by omega) 8 (by decide) (by decide)]; exact b6.2 p hp⟩
    by_cases e : p = k
    · subst e; exact u9
    · rw [sc p hp e]; exact b6.1 p hp
  · have hne : q ≠ i := fun z => h5 (by rw [z]; exact v9)
    rw [tq q hq hne] at h1 h5
    rw [← d1 q hq h1 h5]
    unfold m_isHit
    rw [tq q hq hne, tq q hq hne]
    refine hit_2 (fun p hp => ⟨?_, fun b hb => sk p hp b (by omega) (by omega)⟩) 40 _
    by_cases e : p = k
    · subst e; rw [u1, hk0]; exact ⟨fun z => absurd z (by decide), fun z => absurd z (by decide)⟩
    · rw [sc p hp e]
  · obtain ⟨b, w1, w2, w3⟩ := d2 q hq
    have hq24 : q < 24 := by omega
    by_cases e : q = i
    · subst e
      obtain ⟨l, g1, g2, _, _⟩ := w3 (Or.inl h0)
      refine ⟨b, w1, by rw [ti 2 (by decide) (by decide)]; exact w2, fun _ => ⟨l, g1, by rw [ti 4 (by decide) (by decide)]; exact g2, fun _ _ z => absurd v9 z, fun _ => Or.inl ⟨v9, by rw [hk]; exact List.cons_ne_nil _ _⟩⟩⟩
    · have ee : ∀ b, σ (q + 6) b = τ (q + 6) b := tq q hq24 e
      refine ⟨b, w1, by rw [ee]; exact w2, fun ha => ?_⟩
      obtain ⟨l, g1, g2, g3, g4⟩ := w3 ((hf q hq24).1.mp ha)
      refine ⟨l, g1, by rw [ee]; exact g2, fun _ => ?_, fun hs => ?_⟩
      · rw [ee]; exact g3 (fun z => e (Option.some.inj z).symm)
      · rw [ee] at hs
        rw [ee 9]
        rcases g4 hs with y | y
        · exact Or.inl y
        · exact Or.inr ⟨y.1, y.2.same ee⟩
  · rw [oth (c + 94) 1 (by omega) (by omega) (by omega)]
    rcases e1 c hc with ⟨y1, y2⟩ | ⟨p, y1, y2, y3, y4⟩
    · exact Or.inl ⟨y1, fun q hq z => y2 q hq (wf q hq _ _ (by decide) z).2⟩
    · exact Or.inr ⟨p, y1, y2, y3.elim (fun y => Or.inl ((hf p y1).1.mpr y)) Or.inr, fun z => y4 (wf p y1 _ _ (by decide) z).2⟩
  · obtain ⟨z0, n, z1, z2, z3, z4⟩ := e2 c hc
    refine ⟨by rw [oth _ _ (by omega) (by omega) (by omega)]; exact z0, n, z1, by rw [oth _ _ (by omega) (by omega) (by omega)]; exact z2, fun q hq hw => ?_, fun q hq hw => z4 q hq (wf q hq _ _ (by decide) hw).2⟩
    obtain ⟨y1, y2, y3⟩ := z3 q hq (wf q hq _ _ (by decide) hw).2
    exact ⟨y1, by rw [oth _ _ (by omega) (by omega) (by omega)]; exact y2, fun p hp z => y3 p hp (wf p hp _ _ (by decide) z).2⟩
  · obtain ⟨n, z1, z2, z3⟩ := e3 c hc
    refine ⟨n, z1, by rw [oth _ _ (by omega) (by omega) (by omega)]; exact z2, Nat.le_trans (cnt_mono2 24 (fun q hq hz => ?_)) z3⟩
    unfold gvI at hz ⊢
    rw [decide_eq_true_iff] at hz ⊢
    obtain ⟨x3, x14, x9, x10, _⟩ := hz
    by_cases e : q = i
    · subst e; rw [v3] at x3; exact absurd x3 (by decide)
    · rw [tq q hq e] at x3 x14 x9 x10
      exact ⟨x3, x14, x9, x10, fun z => e (Option.some.inj z).symm⟩
  · rw [oth _ _ (by omega) (by omega) (by omega)]; exact f.1
  · rw [hl p (by omega), sk p (by omega) 5 (by decide) (by decide), sk p (by omega) 6 (by decide) (by decide), sk p (by omega) 7 (by decide) (by decide)]
    exact f.2.2 p hp
end INV
