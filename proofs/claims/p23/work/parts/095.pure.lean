/-! ALL OF IT, as a SCOPE is opened -/
def pushS (st : Nat → List Nat) (i S o : Nat) : List Nat := if o = i then S :: st i else st o
theorem pushS_i (st : Nat → List Nat) (i S : Nat) : pushS st i S i = S :: st i := if_pos rfl
theorem pushS_ne {st : Nat → List Nat} {i S o : Nat} (h : o ≠ i) : pushS st i S o = st o := if_neg h
section INV
variable {π τ σ : Sg} {T S t U : Nat} {st : Nat → List Nat} {r m : Option Nat}
/-- what LOCKS and CHANNELS hang on -/
def Ks (τ σ : Sg) : Prop := (∀ q, q < 24 → ∀ b, b = 3 ∨ b = 9 ∨ b = 10 ∨ b = 11 ∨ b = 14 → σ (q + 6) b = τ (q + 6) b) ∧ ∀ c, c < 2 → (∀ b, σ (c + 94) b = τ (c + 94) b) ∧ ∀ b, σ (c + 96) b = τ (c + 96) b
theorem Ks.wf (h : Ks τ σ) {q : Nat} (hq : q < 24) (w x : Int32) : m_waitsFor σ q w x = m_waitsFor τ q w x := by
  unfold m_waitsFor m_waitsAt
  rw [h.1 q hq 3 (by omega), h.1 q hq 9 (by omega), h.1 q hq 10 (by omega), h.1 q hq 11 (by omega)]
theorem IK.ks {x : Option Nat} (h : IK τ x) (hk : Ks τ σ) : IK σ x := fun c hc => by
  rw [(hk.2 c hc).1 1]
  rcases h c hc with ⟨a, b⟩ | ⟨p, a1, a2, a3, a4⟩
  · exact Or.inl ⟨a, fun q hq => by rw [hk.wf hq]; exact b q hq⟩
  · refine Or.inr ⟨p, a1, a2, ?_, by rw [hk.wf a1]; exact a4⟩
    unfold ali; rw [hk.1 p a1 3 (by omega)]; exact a3
theorem IC1.ks {c : Nat} (hc : c < 2) (h : IC1 τ c) (hk : Ks τ σ) : IC1 σ c := by
  obtain ⟨a, n, b1, b2, b3, b4⟩ := h
  refine ⟨by rw [(hk.2 c hc).2 0]; exact a, n, b1, by rw [(hk.2 c hc).2 2]; exact b2, fun q hq hw => ?_, fun q hq hw => ?_⟩
  · rw [hk.wf hq] at hw
    obtain ⟨d1, d2, d3⟩ := b3 q hq hw
    exact ⟨d1, by rw [(hk.2 c hc).2 3]; exact d2, fun p hp => by rw [hk.wf hp]; exact d3 p hp⟩
  · rw [hk.wf hq] at hw; exact b4 q hq hw
theorem IC2.ks {c : Nat} (hc : c < 2) (h : IC2 τ m U c) (hk : Ks τ σ) : IC2 σ m U c := by
  obtain ⟨n, a, b, d⟩ := h
  refine ⟨n, a, by rw [(hk.2 c hc).2 4]; exact b, Nat.le_trans (cnt_mono2 24 (fun q hq hz => ?_)) d⟩
  unfold gvI at hz ⊢
  rw [hk.1 q hq 3 (by omega), hk.1 q hq 9 (by omega), hk.1 q hq 10 (by omega), hk.1 q hq 14 (by omega)] at hz
  exact hz
/-- what lies on a stack was opened -/
theorem stack_st (h : IS τ m st) {o k : Nat} (ho : o < 24) (hk : k ∈ st o) : τ (k + 54) 1 = 0 ∨ τ (k + 54) 1 = 1 ∨ τ (k + 54) 1 = 2 := by
  obtain ⟨_, _, _, _, e, f⟩ := h.1.1 o ho
  cases hL : st o with
  | nil => rw [hL] at hk; cases hk
  | cons a L =>
    rw [hL] at hk
    rcases List.mem_cons.mp hk with z | z
    · rw [z, e a L hL]
      unfold m_mode
      by_cases c1 : m = some o
      · rw [if_pos c1]; exact Or.inl rfl
      · rw [if_neg c1]
        by_cases c2 : τ (o + 6) 9 = 5
        · rw [if_pos c2]
          by_cases c3 : τ (o + 6) 3 = 1
          · rw [if_pos c3]; exact Or.inr (Or.inl rfl)
          · rw [if_neg c3]; exact Or.inr (Or.inr rfl)
        · rw [if_neg c2]; exact Or.inl rfl
    · exact Or.inl (f k (by rw [hL]; exact z))
theorem stack_lt (hT : IT τ T S) (h : IS τ m st) {o k : Nat} (ho : o < 24) (hk : k ∈ st o) : k < S := by
  refine hT.slt (Chain.lt _ _ (h.1.1 o ho).1 k hk) (fun z => ?_)
  rcases stack_st h ho hk with e | e | e <;> rw [e] at z <;> exact absurd z (by decide)
/-- a TASK's top -/
theorem top_of (h : IS τ m st) {o : Nat} (ho : o < 24) : (st o = [] ∧ τ (o + 6) 7 = -1) ∨ ∃ k L, st o = k :: L ∧ τ (o + 6) 7 = nI k ∧ k < 40 ∧ τ (k + 54) 1 = m_mode τ m o ∧ τ (k + 54) 2 = nI o ∧ Chain τ L (τ (k + 54) 3) := by
  obtain ⟨a, b, c, d, e, f⟩ := h.1.1 o ho
  cases hL : st o with
  | nil => rw [hL] at a; exact Or.inl ⟨rfl, a⟩
  | cons k L =>
    rw [hL] at a
    obtain ⟨a1, a2, a3⟩ := a
    exact Or.inr ⟨k, L, rfl, a1, a2, e k L hL, d k (by rw [hL]; exact List.mem_cons_self), a3⟩
/-- where one's way outwards begins, and how it goes on: below S -/
theorem way_start (hT : IT τ T S) (h : IS τ m st) (h1 : E1 τ S none) {q : Nat} (hq : q < 24) : (if τ (q + 6) 7 = -1 then τ (q + 6) 6 else τ (q + 6) 7) = -1 ∨ ∃ k, k < 40 ∧ (if τ (q + 6) 7 = -1 then τ (q + 6) 6 else τ (q + 6) 7) = nI k ∧ k < S := by
  have hS := hT.2.1
  by_cases c : τ (q + 6) 7 = -1
  · rw [if_pos c]
    rcases h1 q hq with a | ⟨k, a1, a2, _⟩
    · exact Or.inl a
    · exact Or.inr ⟨k, by omega, a2, a1⟩
  · rw [if_neg c]
    rcases top_of h hq with ⟨_, z⟩ | ⟨k, L, z1, z2, z3, _⟩
    · exact absurd z c
    · exact Or.inr ⟨k, z3, z2, stack_lt hT h hq (by rw [z1]; exact List.mem_cons_self)⟩
theorem way_next (hT : IT τ T S) (hU : IU τ T S) (h1 : E1 τ S none) {k : Nat} (hk : k < S) : τ (k + 54) 4 = -1 ∨ ∃ q, q < 40 ∧ τ (k + 54) 4 = nI q ∧ q < S := by
  have hS := hT.2.1
  have hT24 := hT.1
  obtain ⟨o, o1, o2, o3⟩ := hU k hk
  rcases o3 with ⟨_, z⟩ | ⟨q, q1, _, q3⟩
  · rw [z]
    rcases h1 o (by omega) with a | ⟨k, a1, a2, _⟩
    · exact Or.inl a
    · exact Or.inr ⟨k, by omega, a2, a1⟩
  · exact Or.inr ⟨q, by omega, q3, by omega⟩
theorem inv_opn {i : Nat} {sh dl ln : Int32} (hS40 : S < 40) (hsd : sh ≠ 0 → dl = -1) (hdl : dl = -1 ∨ ∃ d, t < d ∧ d ≤ t + 20 ∧ dl = nI d) (hln : ∃ l, l ≤ 12 ∧ ln = nI l) (hl : ∃ l, l < 12 ∧ τ (i + 6) 4 = nI l)
    (h : Inv π T S t U st (some i) (some i) none τ) : ∃ σ, m_opn τ i sh dl ln = (σ, 0) ∧ Inv π T (S + 1) t U (pushS st i S) (some i) (some i) none σ ∧ σ (i + 6) 8 = τ (i + 6) 8 + 1 ∧ σ 100 2 = τ 100 2 := by
  obtain ⟨hi, h0⟩ := h.run
  obtain ⟨⟨a1, a2, a3, a4⟩, ⟨b1, b2, b3, b4, b5, b6⟩, ⟨d1, d2⟩, ⟨e1, e2, e3⟩, f⟩ := id h
  have hT := a1.1
  have hiT := a1.ltA hi (Or.inl h0)
  have hR := rs_opn (s := sh) (d := dl) (l := ln) a4
  obtain ⟨l, l1, l2⟩ := hl
  have eq : m_opn τ i sh dl ln = ((m_opn τ i sh dl ln).1, 0) := by
    unfold m_opn
    rw [a1.2.2.2.1, m_at_nI hS40 (by decide)]
  have e0 : (m_opn τ i sh dl ln).1 = m_next (up2 (up2 (up2 (m_begin τ S i sh dl ln) 0 3 (m_begin τ S i sh dl ln 0 3 + 1)) (i + 6) 7 (nI S)) (i + 6) 8 (up2 (up2 (m_begin τ S i sh dl ln) 0 3 (m_begin τ S i sh dl ln 0 3 + 1)) (i + 6) 7 (nI S) (i + 6) 8 + 1)) i := by
    unfold m_opn
    rw [a1.2.2.2.1, m_at_nI hS40 (by decide)]
  have hRS : RS (m_opn τ i sh dl ln).1 (some i) := by
    unfold RW at hR
    rw [eq] at hR
    dsimp only at hR
    rw [if_neg (by decide)] at hR
    exact hR
  refine ⟨_, eq, ?_⟩
  revert hRS e0
  generalize (m_opn τ i sh dl ln).1 = σ
  intro e0 hRS
  -- what changes
  have oth : ∀ a b, ¬ (a = S + 54 ∧ (b = 1 ∨ b = 2 ∨ b = 3 ∨ b = 4 ∨ b = 6 ∨ b = 7 ∨ b = 8)) → ¬ (a = 0 ∧ b = 3) → ¬ (a = i + 6 ∧ (b = 4 ∨ b = 7 ∨ b = 8)) → σ a b = τ a b := fun a b h1 h2 h3 => by
    rw [e0]
    unfold m_next m_begin
    dsimp only
    rw [up2_o (by omega), up2_o (by omega), up2_o (by omega), up2_o (by omega), up2_o (by omega), up2_o (by omega), up2_o (by omega), up2_o (by omega), up2_o (by omega), up2_o (by omega), up2_o (by omega)]
  have v1 : σ (S + 54) 1 = 0 := by
    rw [e0]; unfold m_next m_begin; dsimp only
    rw [up2_o (by omega), up2_o (by omega), up2_o (by omega), up2_o (by omega), up2_o (by omega), up2_o (by omega), up2_o (by omega), up2_o (by omega), up2_o (by omega), up2_o (by omega), up2_same]
  have v2 : σ (S + 54) 2 = nI i := by
    rw [e0]; unfold m_next m_begin; dsimp only
    rw [up2_o (by omega), up2_o (by omega), up2_o (by omega), up2_o (by omega), up2_o (by omega), up2_o (by omega), up2_o (by omega), up2_o (by omega), up2_o (by omega), up2_same]
  have v3 : σ (S + 54) 3 = τ (i + 6) 7 := by
    rw [e0]; unfold m_next m_begin; dsimp only
    rw [up2_o (by omega), up2_o (by omega), up2_o (by omega), up2_o (by omega), up2_o (by omega), up2_o (by omega), up2_o (by omega), up2_o (by omega), up2_same, up2_o (by omega), up2_o (by omega)]
  have v4 : σ (S + 54) 4 = if τ (i + 6) 7 = -1 then τ (i + 6) 6 else τ (i + 6) 7 := by
    rw [e0]; unfold m_next m_begin; dsimp only
    rw [up2_o (by omega), up2_o (by omega), up2_o (by omega), up2_o (by omega), up2_o (by omega), up2_o (by omega), up2_o (by omega), up2_same]
    simp only [up2_o (show ¬ (i + 6 = S + 54 ∧ 7 = 3) by omega), up2_o (show ¬ (i + 6 = S + 54 ∧ 7 = 2) by omega), up2_o (show ¬ (i + 6 = S + 54 ∧ 7 = 1) by omega), up2_o (show ¬ (i + 6 = S + 54 ∧ 6 = 3) by omega), up2_o (show ¬ (i + 6 = S + 54 ∧ 6 = 2) by omega), up2_o (show ¬ (i + 6 = S + 54 ∧ 6 = 1) by omega)]
  have v6 : σ (S + 54) 6 = sh := by
    rw [e0]; unfold m_next m_begin; dsimp only
    rw [up2_o (by omega), up2_o (by omega), up2_o (by omega), up2_o (by omega), up2_o (by omega), up2_o (by omega), up2_same]
  have v7 : σ (S + 54) 7 = dl := by
    rw [e0]; unfold m_next m_begin; dsimp only
    rw [up2_o (by omega), up2_o (by omega), up2_o (by omega), up2_o (by omega), up2_o (by omega), up2_same]
  have v8 : σ (S + 54) 8 = ln := by
    rw [e0]; unfold m_next m_begin; dsimp only
    rw [up2_o (by omega), up2_o (by omega), up2_o (by omega), up2_o (by omega), up2_same]
  have w3 : σ 0 3 = nI (S + 1) := by
    rw [e0]; unfold m_next m_begin; dsimp only
    rw [up2_o (by omega), up2_o (by omega), up2_o (by omega), up2_same, up2_o (by omega), up2_o (by omega), up2_o (by omega), up2_o (by omega), up2_o (by omega), up2_o (by omega), up2_o (by omega), a1.2.2.2.1, nI_1]
  have w7 : σ (i + 6) 7 = nI S := by
    rw [e0]; unfold m_next m_begin; dsimp only
    rw [up2_o (by omega), up2_o (by omega), up2_same]
  have w8 : σ (i + 6) 8 = τ (i + 6) 8 + 1 := by
    rw [e0]; unfold m_next m_begin; dsimp only
    rw [up2_o (by omega), up2_same, up2_o (by omega), up2_o (by omega), up2_o (by omega), up2_o (by omega), up2_o (by omega), up2_o (by omega), up2_o (by omega), up2_o (by omega), up2_o (by omega)]
  have w4 : σ (i + 6) 4 = nI (l + 1) := by
    rw [e0]; unfold m_next m_begin; dsimp only
    rw [up2_same, up2_o (by omega), up2_o (by omega), up2_o (by omega), up2_o (by omega), up2_o (by omega), up2_o (by omega), up2_o (by omega), up2_o (by omega), up2_o (by omega), up2_o (by omega), l2, nI_1]
  clear e0
  refine ⟨?_, w8, oth _ _ (by omega) (by omega) (by omega)⟩
  have sc : ∀ k, k < 40 → k ≠ S → ∀ b, σ (k + 54) b = τ (k + 54) b := fun k hk hn b => oth _ _ (by omega) (by omega) (by omega)
  have tk : ∀ q, q < 24 → ∀ b, b ≠ 4 → b ≠ 7 → b ≠ 8 → σ (q + 6) b = τ (q + 6) b := fun q hq b x1 x2 x3 => oth _ _ (by omega) (by omega) (by omega)
  have tq : ∀ q, q < 24 → q ≠ i → ∀ b, σ (q + 6) b = τ (q + 6) b := fun q hq hn b => oth _ _ (by omega) (by omega) (by omega)
  have al : ∀ q, q < 24 → (ali σ q ↔ ali τ q) := fun q hq => by unfold ali; rw [tk q hq 3 (by decide) (by decide) (by decide)]
  have lv : ∀ k, k < 40 → k ≠ S → m_isLive σ k = m_isLive τ k := fun k hk hn => by unfold m_isLive; rw [sc k hk hn]
  have ks : Ks τ σ := ⟨fun q hq b hb => tk q hq b (by omega) (by omega) (by omega), fun c hc => ⟨fun b => oth _ _ (by omega) (by omega) (by omega), fun b => oth _ _ (by omega) (by omega) (by omega)⟩⟩
  have no : ∀ q, q < 24 → τ (q + 6) 6 ≠ nI S := fun q hq z => by
    rcases b1 q hq with y | ⟨k, y1, y2, _⟩
    · rw [y] at z
      have : (-1 : Int32) < 0 := by decide
      rw [z] at this
      exact nI_pos (by omega) this
    · rw [y2] at z
      have := nI_inj (by omega) (by omega) z
      omega
  have md : ∀ o, o < 24 → o ≠ i → m_mode σ (some i) o = m_mode τ (some i) o := fun o ho hn => by
    unfold m_mode; rw [tq o ho hn 9, tq o ho hn 3]
  obtain ⟨f3, f6, f7, f8, f9, f4⟩ : τ (S + 54) 1 = -1 ∧ τ (S + 54) 5 = 0 ∧ τ (S + 54) 10 = 0 ∧ τ (S + 54) 11 = 0 ∧ τ (S + 54) 12 = 0 ∧ τ (S + 54) 13 = -1 := a1.2.2.2.2.2.2.2 S (Nat.le_refl S) hS40
  have ss : ∀ b, b = 5 ∨ b = 9 ∨ 10 ≤ b → σ (S + 54) b = τ (S + 54) b := fun b hb => oth _ _ (by omega) (by omega) (by omega)
  refine ⟨⟨?_, ?_, ?_, hRS⟩, ⟨?_, ?_, ?_, ?_, ?_, ?_⟩, ⟨?_, ?_⟩, ⟨e1.ks ks, fun c hc => (e2 c hc).ks hc ks, fun c hc => (e3 c hc).ks hc ks⟩, ?_⟩
  · -- IT
    refine ⟨hT, by omega, by rw [oth _ _ (by omega) (by omega) (by omega)]; exact a1.2.2.1, w3, fun q hq => ?_, fun q h1 h2 => ?_, fun k hk => ?_, fun k h1 h2 => ?_⟩
    · unfold ali ovr; rw [tk q (by omega) 3 (by decide) (by decide) (by decide)]; exact a1.2.2.2.2.1 q hq
    · rw [tq q h2 (by omega), tq q h2 (by omega), tq q h2 (by omega), tq q h2 (by omega), tq q h2 (by omega), tq q h2 (by omega)]
      exact a1.2.2.2.2.2.1 q h1 h2
    · by_cases e : k = S
      · subst e; exact Or.inl v1
      · rw [sc k (by omega) e]; exact a1.2.2.2.2.2.2.1 k (by omega)
    · rw [sc k h2 (by omega), sc k h2 (by omega), sc k h2 (by omega), sc k h2 (by omega), sc k h2 (by omega), sc k h2 (by omega)]
      exact a1.2.2.2.2.2.2.2 k (by omega) h2
  · -- IU
    intro k hk
    by_cases e : k = S
    · subst e
      refine ⟨i, hiT, v2, ?_⟩
      rw [v3, v4]
      rcases top_of a3 hi with ⟨_, z⟩ | ⟨q, L, z1, z2, z3, _⟩
      · rw [z, if_pos rfl, tk i hi 6 (by decide) (by decide) (by decide)]; exact Or.inl ⟨rfl, rfl⟩
      · have hq := stack_lt a1 a3 hi (show q ∈ st i by rw [z1]; exact List.mem_cons_self)
        rw [z2, if_neg (fun z => by
          have : (-1 : Int32) < 0 := by decide
          rw [← z] at this
          exact nI_pos (by omega) this)]
        exact Or.inr ⟨q, hq, rfl, rfl⟩
    · obtain ⟨o, o1, o2, o3⟩ := a2 k (by omega)
      refine ⟨o, o1, by rw [sc k (by omega) e]; exact o2, ?_⟩
      rw [sc k (by omega) e, sc k (by omega) e, tk o (by omega) 6 (by decide) (by decide) (by decide)]; exact o3
  · -- IS
    refine ⟨⟨fun o ho => ?_, fun k hk hl => ?_⟩, fun q hq hn => ?_⟩
    · by_cases e : o = i
      · subst e
        rw [pushS_i]
        obtain ⟨c1, c2, c3, c4, c5, c6⟩ := a3.1.1 o ho
        have hlt : ∀ k ∈ st o, k < S := fun k hk => stack_lt a1 a3 ho hk
        refine ⟨⟨w7, hS40, ?_⟩, ?_, ?_, fun k hk => ?_, fun k L' hL => ?_, fun k hk => ?_⟩
        · rw [v3]
          exact Chain.keep _ _ (fun k hk => sc k (by have := hlt k hk; omega) (by have := hlt k hk; omega) 3) c1
        · rw [w8, c2, nI_1]; rfl
        · exact List.nodup_cons.mpr ⟨fun z => by have := hlt S z; omega, c3⟩
        · rcases List.mem_cons.mp hk with z | z
          · rw [z]; exact v2
          · have := hlt k z
            rw [sc k (by omega) (by omega)]; exact c4 k z
        · cases hL; rw [mode_i]; exact v1
        · have hk2 : k ∈ st o := hk
          have := hlt k hk2
          rw [sc k (by omega) (by omega)]
          cases hLL : st o with
          | nil => rw [hLL] at hk2; cases hk2
          | cons a L =>
            rw [hLL] at hk2
            rcases List.mem_cons.mp hk2 with z | z
            · rw [z, c5 a L hLL, mode_i]
            · exact c6 k (by rw [hLL]; exact z)
      · rw [pushS_ne e]
        have hlt : ∀ k ∈ st o, k < S := fun k hk => stack_lt a1 a3 ho hk
        exact (a3.1.1 o ho).keep (tq o ho e 7) (tq o ho e 8) (fun k hk => ⟨sc k (by have := hlt k hk; omega) (by have := hlt k hk; omega) 1, sc k (by have := hlt k hk; omega) (by have := hlt k hk; omega) 2, sc k (by have := hlt k hk; omega) (by have := hlt k hk; omega) 3⟩) (fun _ => md o ho e)
    · by_cases e : k = S
      · subst e; exact ⟨i, hi, by rw [pushS_i]; exact List.mem_cons_self⟩
      · rw [lv k hk e] at hl
        obtain ⟨o, o1, o2⟩ := a3.1.2 k hk hl
        refine ⟨o, o1, ?_⟩
        by_cases z : o = i
        · subst z; rw [pushS_i]; exact List.mem_cons_of_mem _ o2
        · rw [pushS_ne z]; exact o2
    · have hne : q ≠ i := fun z => hn (by rw [z]; exact (al i hi).mpr (Or.inl h0))
      rw [pushS_ne hne]
      exact a3.2 q hq (fun z => hn ((al q hq).mpr z))
  · -- E1
    intro q hq
    rw [tk q hq 6 (by decide) (by decide) (by decide)]
    rcases b1 q hq with y | ⟨k, y1, y2, ⟨o, y3, y4⟩, y5⟩
    · exact Or.inl y
    · refine Or.inr ⟨k, by omega, y2, ⟨o, y3, by rw [sc k (by omega) (by omega)]; exact y4⟩, fun z => ?_⟩
      rw [lv k (by omega) (by omega)]
      exact y5 (z.elim (fun y => Or.inl ((al q hq).mp y)) Or.inr)
  · -- E2
    intro k hk
    have c1 : cnt (isI σ k) 24 = cnt (isI τ k) 24 := cnt_congr 24 (fun q hq => by
      unfold isI; rw [tk q hq 6 (by decide) (by decide) (by decide)])
    have c2 : cnt (ovI σ none k) 24 = cnt (ovI τ none k) 24 := cnt_congr 24 (fun q hq => by
      unfold ovI ovr; rw [tk q hq 6 (by decide) (by decide) (by decide), tk q hq 3 (by decide) (by decide) (by decide)])
    have c3 : cnt (faI σ none k) 24 = cnt (faI τ none k) 24 := cnt_congr 24 (fun q hq => by
      unfold faI; rw [tk q hq 6 (by decide) (by decide) (by decide), tk q hq 3 (by decide) (by decide) (by decide)])
    rw [c1, c2, c3]
    by_cases e : k = S
    · subst e
      rw [ss 10 (by omega), ss 11 (by omega), ss 12 (by omega), f7, f8, f9]
      have z1 : cnt (isI τ k) 24 = 0 := by
        refine Nat.le_zero.mp (Nat.le_trans (cnt_mono2 (Q := fun _ => false) 24 (fun q hq hz => ?_)) (by decide))
        unfold isI at hz
        rw [decide_eq_true_iff] at hz
        exact absurd hz (no q hq)
      have z2 : cnt (ovI τ none k) 24 = 0 := by
        refine Nat.le_zero.mp (Nat.le_trans (cnt_mono2 (Q := fun _ => false) 24 (fun q hq hz => ?_)) (by decide))
        unfold ovI at hz
        rw [decide_eq_true_iff] at hz
        exact absurd hz.1 (no q hq)
      have z3 : cnt (faI τ none k) 24 = 0 := by
        refine Nat.le_zero.mp (Nat.le_trans (cnt_mono2 (Q := fun _ => false) 24 (fun q hq hz => ?_)) (by decide))
        unfold faI at hz
        rw [decide_eq_true_iff] at hz
        exact absurd hz.1 (no q hq)
      rw [z1, z2, z3]; exact ⟨rfl, rfl, rfl⟩
    · rw [sc k (by omega) e, sc k (by omega) e, sc k (by omega) e]; exact b2 k (by omega)
  · -- E3
    intro k hk
    by_cases e : k = S
    · subst e
      refine Or.inl ⟨by rw [ss 13 (by omega)]; exact f4, fun q hq h1 _ => ?_⟩
      rw [tk q hq 6 (by decide) (by decide) (by decide)] at h1
      exact absurd h1 (no q hq)
    · rw [sc k (by omega) e, sc k (by omega) e]
      rcases b3 k (by omega) with ⟨y1, y2⟩ | ⟨q, y1, y2, y3, y4, y5, y6⟩
      · refine Or.inl ⟨y1, fun q hq h1 h2 => y2 q hq ?_ ?_⟩
        · rw [← tk q hq 6 (by decide) (by decide) (by decide)]; exact h1
        · rw [← tk q hq 3 (by decide) (by decide) (by decide)]; exact h2
      · exact Or.inr ⟨q, y1, y2, by rw [tk q y1 6 (by decide) (by decide) (by decide)]; exact y3, by rw [tk q y1 3 (by decide) (by decide) (by decide)]; exact y4, y5, y6⟩
  · -- E4
    intro k hk h1
    by_cases e : k = S
    · subst e; rw [v1] at h1; exact absurd h1 (by decide)
    · rw [sc k (by omega) e] at h1
      obtain ⟨q, y1, y2, y3⟩ := b4 k (by omega) h1
      exact ⟨q, y1, by rw [tk q y1 6 (by decide) (by decide) (by decide)]; exact y2, y3.elim (fun y => Or.inl ((al q y1).mpr y)) Or.inr⟩
  · -- E5
    intro q hq h3
    rw [tk q hq 3 (by decide) (by decide) (by decide)] at h3
    rw [tk q hq 5 (by decide) (by decide) (by decide)]; exact b5 q hq h3
  · refine ⟨fun k hk => ?_, fun k hk => ?_⟩
    · by_cases e : k = S
      · subst e; rw [ss 9 (by omega)]; exact b6.1 k hk
      · rw [sc k hk e]; exact b6.1 k hk
    · by_cases e : k = S
      · subst e; rw [v8]; exact hln
      · rw [sc k (by omega) e]; exact b6.2 k (by omega)
  · -- IH
    intro q hq h1 h9
    rw [tk q hq 3 (by decide) (by decide) (by decide)] at h1
    rw [tk q hq 9 (by decide) (by decide) (by decide)] at h9
    have hne : q ≠ i := fun z => by rw [z, h0] at h1; exact absurd h1 (by decide)
    rw [← d1 q hq h1 h9]
    exact (isHit_alive (Al := fun k => k < S) (fun k _ hk => way_next a1 a2 b1 hk) (fun k hk hk2 b _ => (sc k hk (by omega) b).symm) (tq q hq hne 6).symm (tq q hq hne 7).symm (way_start a1 a3 b1 hq)).symm
  · -- IG
    intro q hq
    obtain ⟨b, g1, g2, g3⟩ := d2 q hq
    refine ⟨b, g1, by rw [tk q (by omega) 2 (by decide) (by decide) (by decide)]; exact g2, fun ha => ?_⟩
    obtain ⟨l', k1, k2, k3, k4⟩ := g3 ((al q (by omega)).mp ha)
    by_cases e : q = i
    · subst e
      exact ⟨l + 1, by omega, w4, fun z => absurd rfl z, fun z => by rw [tk q hi 3 (by decide) (by decide) (by decide), h0] at z; exact absurd z (by decide)⟩
    · have ee := tq q (by omega) e
      refine ⟨l', k1, by rw [ee]; exact k2, by rw [ee]; exact k3, fun hs => ?_⟩
      rw [ee] at hs
      rw [ee 9, pushS_ne e]
      rcases k4 hs with y | y
      · exact Or.inl y
      · exact Or.inr ⟨y.1, y.2.same ee⟩
  · -- ID
    refine ⟨by rw [oth _ _ (by omega) (by omega) (by omega)]; exact f.1, f.2.1, fun k hk => ?_⟩
    by_cases e : k = S
    · subst e
      rw [v6, v7]
      exact ⟨hsd, fun _ _ => hdl⟩
    · rw [lv k (by omega) e, sc k (by omega) e, sc k (by omega) e, sc k (by omega) e]; exact f.2.2 k (by omega)
end INV
