/-! ALL OF IT, as a TASK is made -/
theorem neg1_ne {k : Nat} (hk : k < 2 ^ 31) : (-1 : Int32) ≠ nI k := fun z => by
  have : (-1 : Int32) < 0 := by decide
  rw [z] at this
  exact nI_pos hk this
section INV
variable {π τ σ : Sg} {T S t U : Nat} {st : Nat → List Nat} {r m : Option Nat}
theorem inv_make {b8 : Nat} {inn : Int32} (hT24 : T < 24) (hb : b8 < 8)
    (oth : ∀ a b, ¬ (a = T + 6 ∧ (b = 2 ∨ b = 3 ∨ b = 6)) → ¬ (a = 0 ∧ (b = 1 ∨ b = 7)) → a ≠ 5 → ¬ (54 ≤ a ∧ a < 94 ∧ b = 10) → σ a b = τ a b)
    (v2 : σ (T + 6) 2 = nI b8) (v3 : σ (T + 6) 3 = 0) (v6 : σ (T + 6) 6 = inn) (w1 : σ 0 1 = nI (T + 1))
    (hin : inn = -1 ∨ ∃ k, k < S ∧ inn = nI k ∧ (∃ o, o < T ∧ τ (k + 54) 2 = nI o) ∧ m_isLive τ k = true)
    (h10 : ∀ k, k < 40 → σ (k + 54) 10 = if inn = nI k then τ (k + 54) 10 + 1 else τ (k + 54) 10)
    (hR : RS σ r) (h : Inv π T S t U st r m none τ) : Inv π (T + 1) S t U st r m none σ := by
  obtain ⟨⟨a1, a2, a3, a4⟩, ⟨b1, b2, b3, b4, b5, b6⟩, ⟨d1, d2⟩, ⟨e1, e2, e3⟩, f⟩ := id h
  have hS := a1.2.1
  obtain ⟨f3, f6, f7, f8, f9, f4⟩ := a1.2.2.2.2.2.1 T (Nat.le_refl T) hT24
  have tq : ∀ q, q ≠ T → ∀ b, b ≠ 10 ∨ q < 48 → σ (q + 6) b = τ (q + 6) b := fun q hn b hb => oth _ _ (by omega) (by omega) (by omega) (by omega)
  have tT : ∀ b, b ≠ 2 → b ≠ 3 → b ≠ 6 → σ (T + 6) b = τ (T + 6) b := fun b x1 x2 x3 => oth _ _ (by omega) (by omega) (by omega) (by omega)
  have sc : ∀ k, k < 40 → ∀ b, b ≠ 10 → σ (k + 54) b = τ (k + 54) b := fun k hk b hb => oth _ _ (by omega) (by omega) (by omega) (by omega)
  have lv : ∀ k, k < 40 → m_isLive σ k = m_isLive τ k := fun k hk => by unfold m_isLive; rw [sc k hk 1 (by decide)]
  have al : ∀ q, q < 24 → q ≠ T → (ali σ q ↔ ali τ q) := fun q hq hn => by unfold ali; rw [tq q hn 3 (by omega)]
  have nT : ¬ ali τ T := by unfold ali; rw [f3]; rintro (z | z) <;> exact absurd z (by decide)
  have wf : ∀ q, q < 24 → ∀ w x, m_waitsFor σ q w x = true → q ≠ T ∧ m_waitsFor τ q w x = true := fun q hq w x hw => by
    have hn : q ≠ T := fun z => by
      have := waits_one hw
      rw [z, v3] at this
      exact absurd this (by decide)
    refine ⟨hn, ?_⟩
    unfold m_waitsFor m_waitsAt at hw ⊢
    rw [tq q hn 3 (by omega), tq q hn 9 (by omega), tq q hn 10 (by omega), tq q hn 11 (by omega)] at hw
    exact hw
  have lk : ∀ c, c < 2 → ∀ b, σ (c + 94) b = τ (c + 94) b := fun c hc b => oth _ _ (by omega) (by omega) (by omega) (by omega)
  have ch : ∀ c, c < 2 → ∀ b, σ (c + 96) b = τ (c + 96) b := fun c hc b => oth _ _ (by omega) (by omega) (by omega) (by omega)
  have md : ∀ o, o < 24 → o ≠ T → m_mode σ m o = m_mode τ m o := fun o ho hn => by
    unfold m_mode; rw [tq o hn 9 (by omega), tq o hn 3 (by omega)]
  have inT : ∀ k, k < 40 → τ (T + 6) 6 ≠ nI k := fun k hk => by rw [f6]; exact neg1_ne (by omega)
  refine ⟨⟨?_, ?_, ?_, hR⟩, ⟨?_, ?_, ?_, ?_, ?_, ?_⟩, ⟨?_, ?_⟩, ⟨?_, fun c hc => ?_, fun c hc => ?_⟩, ?_⟩
  · -- IT
    refine ⟨by omega, hS, w1, by rw [oth _ _ (by omega) (by omega) (by omega) (by omega)]; exact a1.2.2.2.1, fun q hq => ?_, fun q h1 h2 => ?_, fun k hk => ?_, fun k h1 h2 => ?_⟩
    · by_cases e : q = T
      · subst e; exact Or.inl (Or.inl v3)
      · unfold ali ovr; rw [tq q e 3 (by omega)]; exact a1.2.2.2.2.1 q (by omega)
    · rw [tq q (by omega) 3 (by omega), tq q (by omega) 6 (by omega), tq q (by omega) 7 (by omega), tq q (by omega) 8 (by omega), tq q (by omega) 9 (by omega), tq q (by omega) 4 (by omega)]
      exact a1.2.2.2.2.2.1 q (by omega) h2
    · rw [sc k (by omega) 1 (by decide)]; exact a1.2.2.2.2.2.2.1 k hk
    · obtain ⟨z1, z5, z10, z11, z12, z13⟩ := a1.2.2.2.2.2.2.2 k h1 h2
      rw [sc k h2 1 (by decide), sc k h2 5 (by decide), sc k h2 11 (by decide), sc k h2 12 (by decide), sc k h2 13 (by decide), h10 k h2]
      refine ⟨z1, z5, ?_, z11, z12, z13⟩
      rw [if_neg, z10]
      intro z
      rcases hin with y | ⟨k', y1, y2, _, _⟩
      · rw [y] at z; exact neg1_ne (by omega) z
      · rw [y2] at z
        have := nI_inj (by omega) (by omega) z
        omega
  · -- IU
    intro k hk
    obtain ⟨o, o1, o2, o3⟩ := a2 k hk
    refine ⟨o, by omega, by rw [sc k (by omega) 2 (by decide)]; exact o2, ?_⟩
    rw [sc k (by omega) 3 (by decide), sc k (by omega) 4 (by decide), tq o (by omega) 6 (by omega)]; exact o3
  · -- IS
    refine ⟨⟨fun o ho => ?_, fun k hk hl => ?_⟩, fun q hq hn => ?_⟩
    · have hlt : ∀ k ∈ st o, k < 40 := Chain.lt _ _ (a3.1.1 o ho).1
      have hs : ∀ k ∈ st o, σ (k + 54) 1 = τ (k + 54) 1 ∧ σ (k + 54) 2 = τ (k + 54) 2 ∧ σ (k + 54) 3 = τ (k + 54) 3 := fun k hk => ⟨sc k (hlt k hk) 1 (by decide), sc k (hlt k hk) 2 (by decide), sc k (hlt k hk) 3 (by decide)⟩
      by_cases e : o = T
      · subst e
        exact (a3.1.1 o ho).keep (tT 7 (by decide) (by decide) (by decide)) (tT 8 (by decide) (by decide) (by decide)) hs (fun z => absurd (a3.2 o ho nT) z)
      · exact (a3.1.1 o ho).keep (tq o e 7 (by omega)) (tq o e 8 (by omega)) hs (fun _ => md o ho e)
    · rw [lv k hk] at hl; exact a3.1.2 k hk hl
    · by_cases e : q = T
      · subst e; exact a3.2 q hq nT
      · exact a3.2 q hq (fun z => hn ((al q hq e).mpr z))
  · -- E1
    intro q hq
    by_cases e : q = T
    · subst e
      rw [v6]
      rcases hin with y | ⟨k, y1, y2, ⟨o, y3, y4⟩, y5⟩
      · exact Or.inl y
      · exact Or.inr ⟨k, y1, y2, ⟨o, y3, by rw [sc k (by omega) 2 (by decide)]; exact y4⟩, fun _ => by rw [lv k (by omega)]; exact y5⟩
    · rw [tq q e 6 (by omega)]
      rcases b1 q hq with y | ⟨k, y1, y2, ⟨o, y3, y4⟩, y5⟩
      · exact Or.inl y
      · refine Or.inr ⟨k, y1, y2, ⟨o, y3, by rw [sc k (by omega) 2 (by decide)]; exact y4⟩, fun z => ?_⟩
        rw [lv k (by omega)]
        exact y5 (z.elim (fun y => Or.inl ((al q hq e).mp y)) Or.inr)
  · -- E2
    intro k hk
    obtain ⟨g10, g11, g12⟩ := b2 k hk
    have c2 : cnt (ovI σ none k) 24 = cnt (ovI τ none k) 24 := cnt_congr 24 (fun q hq => by
      unfold ovI
      rw [decide_eq_decide]
      by_cases e : q = T
      · subst e
        constructor
        · intro z
          have := z.2.1
          unfold ovr at this
          rw [v3] at this
          rcases this with y | y | y <;> exact absurd y (by decide)
        · intro z; exact absurd z.1 (inT k (by omega))
      · unfold ovr; rw [tq q e 6 (by omega), tq q e 3 (by omega)])
    have c3 : cnt (faI σ none k) 24 = cnt (faI τ none k) 24 := cnt_congr 24 (fun q hq => by
      unfold faI
      rw [decide_eq_decide]
      by_cases e : q = T
      · subst e
        constructor
        · intro z
          have := z.2.1
          rw [v3] at this
          exact absurd this (by decide)
        · intro z; exact absurd z.1 (inT k (by omega))
      · rw [tq q e 6 (by omega), tq q e 3 (by omega)])
    rw [c2, c3, sc k (by omega) 11 (by decide), sc k (by omega) 12 (by decide), h10 k (by omega)]
    refine ⟨?_, g11, g12⟩
    by_cases e : inn = nI k
    · rw [if_pos e, cnt_one (P := isI τ k) (Q := isI σ k) (i := T) (by unfold isI; rw [decide_eq_false_iff_not]; exact inT k (by omega)) (by unfold isI; rw [decide_eq_true_iff, v6]; exact e) (fun j hj => by unfold isI; rw [tq j hj 6 (by omega)]) 24, if_pos hT24, g10, nI_1]
    · rw [if_neg e, g10]
      rw [cnt_congr (P := isI σ k) (Q := isI τ k) 24 (fun q hq => by
        unfold isI
        by_cases d : q = T
        · subst d
          rw [decide_eq_decide, v6]
          exact ⟨fun z => absurd z e, fun z => absurd z (inT k (by omega))⟩
        · rw [tq q d 6 (by omega)])]
  · -- E3
    intro k hk
    rw [sc k (by omega) 13 (by decide), sc k (by omega) 5 (by decide)]
    rcases b3 k hk with ⟨y1, y2⟩ | ⟨q, y1, y2, y3, y4, y5, y6⟩
    · refine Or.inl ⟨y1, fun q hq h1 h2 => ?_⟩
      by_cases e : q = T
      · subst e; rw [v3] at h2; exact absurd h2 (by decide)
      · rw [tq q e 6 (by omega)] at h1
        rw [tq q e 3 (by omega)] at h2
        exact y2 q hq h1 h2
    · have e : q ≠ T := fun z => by rw [z, f3] at y4; exact absurd y4 (by decide)
      exact Or.inr ⟨q, y1, y2, by rw [tq q e 6 (by omega)]; exact y3, by rw [tq q e 3 (by omega)]; exact y4, y5, y6⟩
  · -- E4
    intro k hk h1
    rw [sc k (by omega) 1 (by decide)] at h1
    obtain ⟨q, y1, y2, y3⟩ := b4 k hk h1
    have e : q ≠ T := fun z => by rw [z] at y2; exact inT k (by omega) y2
    exact ⟨q, y1, by rw [tq q e 6 (by omega)]; exact y2, y3.elim (fun y => Or.inl ((al q y1 e).mpr y)) Or.inr⟩
  · -- E5
    intro q hq h3
    by_cases e : q = T
    · subst e; rw [v3] at h3; exact absurd h3 (by decide)
    · rw [tq q e 3 (by omega)] at h3
      rw [tq q e 5 (by omega)]; exact b5 q hq h3
  · exact ⟨fun k hk => by rw [sc k hk 9 (by decide)]; exact b6.1 k hk, fun k hk => by rw [sc k (by omega) 8 (by decide)]; exact b6.2 k hk⟩
  · -- IH
    intro q hq h1 h9
    by_cases e : q = T
    · subst e; rw [v3] at h1; exact absurd h1 (by decide)
    · rw [tq q e 3 (by omega)] at h1
      rw [tq q e 9 (by omega)] at h9
      rw [← d1 q hq h1 h9]
      exact isHit_congr (fun k hk b hb => sc k hk b (by omega)) (tq q e 6 (by omega)) (tq q e 7 (by omega))
  · -- IG
    intro q hq
    by_cases e : q = T
    · subst e
      refine ⟨b8, hb, v2, fun _ => ⟨0, by omega, by rw [tT 4 (by decide) (by decide) (by decide)]; exact f4, fun _ z => ?_, fun z => by rw [v3] at z; exact absurd z (by decide)⟩⟩
      rw [tT 9 (by decide) (by decide) (by decide), f9] at z
      exact absurd rfl z
    · obtain ⟨b, g1, g2, g3⟩ := d2 q (by omega)
      have ee : ∀ b, σ (q + 6) b = τ (q + 6) b := fun b => tq q e b (by omega)
      refine ⟨b, g1, by rw [ee]; exact g2, fun ha => ?_⟩
      obtain ⟨l, k1, k2, k3, k4⟩ := g3 ((al q (by omega) e).mp ha)
      refine ⟨l, k1, by rw [ee]; exact k2, by rw [ee]; exact k3, fun hs => ?_⟩
      rw [ee] at hs
      rw [ee 9]
      rcases k4 hs with y | y
      · exact Or.inl y
      · exact Or.inr ⟨y.1, y.2.same ee⟩
  · -- IK
    intro c hc
    rw [lk c hc]
    rcases e1 c hc with ⟨y1, y2⟩ | ⟨p, y1, y2, y3, y4⟩
    · exact Or.inl ⟨y1, fun q hq z => y2 q hq (wf q hq _ _ z).2⟩
    · have e : p ≠ T := fun z => by rw [z] at y3; exact y3.elim nT (fun y => by cases y)
      exact Or.inr ⟨p, y1, y2, y3.elim (fun y => Or.inl ((al p y1 e).mpr y)) Or.inr, fun z => y4 (wf p y1 _ _ z).2⟩
  · obtain ⟨z0, n, z1, z2, z3, z4⟩ := e2 c hc
    refine ⟨by rw [ch c hc]; exact z0, n, z1, by rw [ch c hc]; exact z2, fun q hq hw => ?_, fun q hq hw => z4 q hq (wf q hq _ _ hw).2⟩
    obtain ⟨y1, y2, y3⟩ := z3 q hq (wf q hq _ _ hw).2
    exact ⟨y1, by rw [ch c hc]; exact y2, fun p hp z => y3 p hp (wf p hp _ _ z).2⟩
  · obtain ⟨n, z1, z2, z3⟩ := e3 c hc
    refine ⟨n, z1, by rw [ch c hc]; exact z2, Nat.le_trans (cnt_mono2 24 (fun q hq hz => ?_)) z3⟩
    unfold gvI at hz ⊢
    by_cases e : q = T
    · subst e
      rw [decide_eq_true_iff] at hz
      have := hz.2.2.1
      rw [tT 9 (by decide) (by decide) (by decide), f9] at this
      exact absurd this (by decide)
    · rw [tq q e 3 (by omega), tq q e 9 (by omega), tq q e 10 (by omega), tq q e 14 (by omega)] at hz
      exact hz
  · refine ⟨by rw [oth _ _ (by omega) (by omega) (by omega) (by omega)]; exact f.1, f.2.1, fun k hk => ?_⟩
    rw [lv k (by omega), sc k (by omega) 5 (by decide), sc k (by omega) 6 (by decide), sc k (by omega) 7 (by decide)]; exact f.2.2 k hk
theorem makeTask_eq {b x : Int32} (h : τ 0 1 = nI T) (hT : T < 24) : m_makeTaskW τ b x = m_makeReady (up2 (up2 (up2 τ (T + 6) 2 b) (T + 6) 6 x) 0 1 (nI (T + 1))) T := by
  unfold m_makeTaskW
  rw [h, m_at_nI hT (by decide)]
  dsimp only
  rw [up2_o (a := 0) (by omega), up2_o (a := 0) (by omega), h, nI_1]
theorem makeTask_oth {b x : Int32} (h : τ 0 1 = nI T) (hT : T < 24) {a c : Nat} (h1 : ¬ (a = T + 6 ∧ (c = 2 ∨ c = 3 ∨ c = 6))) (h2 : ¬ (a = 0 ∧ (c = 1 ∨ c = 7))) (h5 : a ≠ 5) : m_makeTaskW τ b x a c = τ a c := by
  rw [makeTask_eq h hT, mr_other (by omega) h5 (by omega), up2_o (by omega), up2_o (by omega), up2_o (by omega)]
theorem makeTask_at {b x : Int32} (h : τ 0 1 = nI T) (hT : T < 24) : m_makeTaskW τ b x (T + 6) 2 = b ∧ m_makeTaskW τ b x (T + 6) 3 = 0 ∧ m_makeTaskW τ b x (T + 6) 6 = x ∧ m_makeTaskW τ b x 0 1 = nI (T + 1) := by
  rw [makeTask_eq h hT]
  refine ⟨?_, mr_0 _ _, ?_, ?_⟩
  · rw [mr_other (by omega) (by omega) (by omega), up2_o (by omega), up2_o (by omega), up2_same]
  · rw [mr_other (by omega) (by omega) (by omega), up2_o (by omega), up2_same]
  · rw [mr_other (by omega) (by omega) (by omega), up2_same]
theorem freshT_of (h : IT τ T S) : FreshT τ := fun i hi => by
  rw [h.2.2.1] at hi
  have h24 := m_at_lt hi (by decide)
  have := m_at_eq hi
  have e : T = i := nI_inj (by have := h.1; omega) (by omega) this
  rw [(h.2.2.2.2.2.1 i (by omega) h24).1]; decide
/-- from outside -/
theorem inv_start {b8 : Nat} (hT24 : T < 24) (hb : b8 < 8) (h : Inv π T S t U st r m none τ) : Inv π (T + 1) S t U st r m none (m_makeTaskW τ (nI b8) (-1)) := by
  have hT := h.1.1.2.2.1
  obtain ⟨v2, v3, v6, w1⟩ := makeTask_at (b := nI b8) (x := -1) hT hT24
  refine inv_make hT24 hb (fun a b h1 h2 h3 _ => makeTask_oth hT hT24 h1 h2 h3) v2 v3 v6 w1 (Or.inl rfl) (fun k hk => ?_) (rs_makeTask (freshT_of h.1.1) h.1.2.2.2) h
  rw [if_neg (neg1_ne (by omega))]
  exact makeTask_oth hT hT24 (by omega) (by omega) (by omega)
/-- by a LINE -/
theorem inv_spawn {i p : Nat} {a : Int32} (hp : π 0 0 = nI p) (hp8 : p ≤ 8) (ha : ∃ n, n < 8 ∧ a = nI n) (hl : ∃ l, l < 12 ∧ τ (i + 6) 4 = nI l) (h : Inv π T S t U st (some i) (some i) none τ) :
    (m_spawn τ π i a = (τ, 1) ∨ m_spawn τ π i a = (τ, 2)) ∨ ∃ σ, m_spawn τ π i a = (σ, 0) ∧ Inv π (T + 1) S t U st (some i) (some i) none σ ∧ σ (i + 6) 8 = τ (i + 6) 8 ∧ σ 100 2 = τ 100 2 := by
  obtain ⟨hi, h0⟩ := h.run
  obtain ⟨n, hn, rfl⟩ := ha
  obtain ⟨l, l1, l2⟩ := hl
  have hT := h.1.1.2.2.1
  have hiT := h.1.1.ltA hi (Or.inl h0)
  rcases top_of h.1.2.2.1 hi with ⟨_, z⟩ | ⟨k, L, z1, z2, z3, z4, z5, _⟩
  · refine Or.inl (Or.inl ?_)
    unfold m_spawn
    rw [z, m_at_neg]
  · have hkS := stack_lt h.1.1 h.1.2.2.1 hi (show k ∈ st i by rw [z1]; exact List.mem_cons_self)
    rw [mode_i] at z4
    unfold m_spawn
    rw [z2, m_at_nI z3 (by decide)]
    dsimp only
    by_cases c1 : π 0 0 ≤ nI n
    · rw [if_pos c1]; exact Or.inl (Or.inr rfl)
    · rw [if_neg c1]
      have hnb : n < 8 := hn
      rcases Nat.lt_or_ge T 24 with hT24 | hT24
      · have em : m_makeTask τ = nI T := by unfold m_makeTask; rw [hT, m_at_nI hT24 (by decide)]
        rw [em, if_neg (fun z => neg1_ne (by omega) z.symm)]
        refine Or.inr ⟨_, rfl, ?_⟩
        obtain ⟨v2, v3, v6, w1⟩ := makeTask_at (b := nI n) (x := nI k) hT hT24
        have hM : Inv π (T + 1) S t U st (some i) (some i) none (up2 (m_makeTaskW τ (nI n) (nI k)) (k + 54) 10 (m_makeTaskW τ (nI n) (nI k) (k + 54) 10 + 1)) := by
          refine inv_make hT24 hnb (fun a b h1 h2 h3 h4 => ?_) ?_ ?_ ?_ ?_ (inn := nI k) (Or.inr ⟨k, hkS, rfl, ⟨i, hiT, z5⟩, live_iff.mpr (Or.inl z4)⟩) (fun q hq => ?_) ((rs_makeTask (freshT_of h.1.1) h.1.2.2.2).up (by omega) (by omega) (by omega)) h
          · rw [up2_o (by omega)]; exact makeTask_oth hT hT24 h1 h2 h3
          · rw [up2_o (by omega)]; exact v2
          · rw [up2_o (by omega)]; exact v3
          · rw [up2_o (by omega)]; exact v6
          · rw [up2_o (by omega)]; exact w1
          · by_cases e : q = k
            · subst e; rw [up2_same, if_pos rfl, makeTask_oth hT hT24 (by omega) (by omega) (by omega)]
            · rw [up2_o (by omega), if_neg (fun z => e (nI_inj (by omega) (by omega) z.symm)), makeTask_oth hT hT24 (by omega) (by omega) (by omega)]
        refine ⟨inv_loc (((Lcl.refl _ i).up (Or.inl ⟨rfl, Or.inr rfl⟩)).up (Or.inl ⟨rfl, Or.inl rfl⟩)) ⟨l + 1, by omega, ?_⟩ hM, ?_, ?_⟩
        · unfold m_next
          rw [up2_same, up2_o (by omega), up2_o (by omega), makeTask_oth hT hT24 (by omega) (by omega) (by omega), l2, nI_1]
        · unfold m_next
          rw [up2_o (by omega), up2_o (by omega), up2_o (by omega), makeTask_oth hT hT24 (by omega) (by omega) (by omega)]
        · unfold m_next
          rw [up2_o (by omega), up2_o (by omega), up2_o (by omega), makeTask_oth hT hT24 (by omega) (by omega) (by omega)]
      · have em : m_makeTask τ = -1 := by
          unfold m_makeTask m_at
          rw [hT, if_neg (nI_pos (by have := h.1.1.1; omega)), if_pos ((nI_leI (by decide) (by have := h.1.1.1; omega)).mpr hT24)]
        have ew : m_makeTaskW τ (nI n) (nI k) = τ := by
          unfold m_makeTaskW m_at
          rw [hT, if_neg (nI_pos (by have := h.1.1.1; omega)), if_pos ((nI_leI (by decide) (by have := h.1.1.1; omega)).mpr hT24)]
        rw [em, if_pos rfl, ew]
        exact Or.inl (Or.inr rfl)
end INV
