/-! ALL OF IT TOGETHER: r is off the row (its turn has begun), m is on its way (its stack's top is OPEN) -/
theorem cnt_mono2 {P Q : Nat → Bool} : ∀ n, (∀ i, i < n → P i = true → Q i = true) → cnt P n ≤ cnt Q n := by
  intro n
  induction n with
  | zero => intro _; exact Nat.le_refl 0
  | succ n ih =>
    intro h
    have h1 := ih (fun i hi => h i (by omega))
    show cnt P n + _ ≤ cnt Q n + _
    by_cases c : P n = true
    · rw [if_pos c, if_pos (h n (by omega) c)]; omega
    · rw [if_neg c]; omega
theorem IC2.fr {τ σ : Sg} {r : Option Nat} {U c : Nat} (h : IC2 τ r U c) (hf : Fr τ σ) (hg : ∀ q, q < 24 → τ (q + 6) 3 = 1 → τ (q + 6) 9 ≠ 5 → τ (q + 6) 14 = 0) (he : ∀ q, q < 24 → τ (q + 6) 9 = 4 → σ (q + 6) 10 = τ (q + 6) 10 ∧ σ (q + 6) 14 = τ (q + 6) 14) (h4 : σ (c + 96) 4 = τ (c + 96) 4) : IC2 σ r U c := by
  obtain ⟨n, a, b, d⟩ := h
  refine ⟨n, a, by rw [h4]; exact b, Nat.le_trans (cnt_mono2 24 (fun q hq hz => ?_)) d⟩
  unfold gvI at hz ⊢
  rw [decide_eq_true_iff] at hz ⊢
  obtain ⟨z3, z14, z9, z10, zr⟩ := hz
  rw [hf.fld (b := 9) hq (by omega)] at z9
  obtain ⟨e10, e14⟩ := he q hq z9
  rw [e14] at z14
  rw [e10] at z10
  refine ⟨?_, z14, z9, z10, zr⟩
  rcases hf.st hq with y | ⟨y1, _, y3⟩
  · rw [← y]; exact z3
  · exact absurd (hg q hq y1 y3) z14
/-- the ways by which SCOPES are left, and where one goes on behind them -/
def E6 (τ : Sg) (S : Nat) : Prop := WayOk τ ∧ ∀ k, k < S → ∃ l, l ≤ 12 ∧ τ (k + 54) 8 = nI l
theorem E6.fr {τ σ : Sg} {S : Nat} (h : E6 τ S) (hS : S ≤ 40) (hf : Fr τ σ) : E6 σ S := ⟨h.1.fr hf, fun k hk => by
  rw [hf.sc (b := 8) (by omega) (by decide)]; exact h.2 k hk⟩
def Inv (π : Sg) (T S t U : Nat) (st : Nat → List Nat) (r m x : Option Nat) (τ : Sg) : Prop :=
  (IT τ T S ∧ IU τ T S ∧ IS τ m st ∧ RS τ r) ∧ (E1 τ S x ∧ E2 τ S x ∧ E3 τ S x ∧ E4 τ S x ∧ E5 τ ∧ E6 τ S) ∧ (IH τ ∧ IG τ π T m st) ∧ (IK τ x ∧ (∀ c, c < 2 → IC1 τ c) ∧ ∀ c, c < 2 → IC2 τ m U c) ∧ ID τ S t
section INV
variable {π τ σ : Sg} {T S t U : Nat} {st : Nat → List Nat} {r m x : Option Nat}
theorem Inv.fr {r' : Option Nat} (h : Inv π T S t U st r m x τ) (hf : Fr τ σ) (hR : RS σ r') (hH : IH σ) (hl : ∀ q, q < T → τ (q + 6) 3 = 0 → σ (q + 6) 4 = τ (q + 6) 4 ∨ (m = some q ∧ ∃ l, l ≤ 12 ∧ σ (q + 6) 4 = nI l)) (hK : IK σ x) (h1 : ∀ c, c < 2 → IC1 σ c) {U' : Nat} (h2 : ∀ c, c < 2 → IC2 σ m U' c) : Inv π T S t U' st r' m x σ := by
  obtain ⟨⟨a1, a2, a3, _⟩, ⟨b1, b2, b3, b4, b5, b6⟩, ⟨_, d2⟩, _, f⟩ := h
  have hT : T ≤ 24 := a1.1
  have hS : S ≤ 40 := a1.2.1
  exact ⟨⟨a1.fr hf, a2.fr hT hS hf, a3.fr hf, hR⟩, ⟨b1.fr hS hf, b2.fr hS hf, b3.fr hS hf, b4.fr hS hf, b5.fr hf, b6.fr hS hf⟩, ⟨hH, d2.fr hT hf hl⟩, ⟨hK, h1, h2⟩, f.fr hS hf⟩
/-- who WAITS was given nothing -/
theorem Inv.g0 (h : Inv π T S t U st r m x τ) : ∀ q, q < 24 → τ (q + 6) 3 = 1 → τ (q + 6) 9 ≠ 5 → τ (q + 6) 14 = 0 := fun q hq h1 h5 => by
  obtain ⟨⟨a1, _⟩, _, ⟨_, d2⟩, _⟩ := h
  obtain ⟨b, _, _, g⟩ := d2 q (a1.ltA hq (Or.inr h1))
  obtain ⟨l, _, _, _, g4⟩ := g (Or.inr h1)
  rcases g4 h1 with z | z
  · exact absurd z.1 h5
  · exact z.2.2.2.1
theorem inv_cancel {k : Nat} (hk : k < 40) (h : Inv π T S t U st r m x τ) : Inv π T S t U st r m x (m_cancelScope τ k) := by
  have g0 := h.g0
  obtain ⟨⟨a1, a2, a3, a4⟩, _, ⟨d1, d2⟩, ⟨e1, e2, e3⟩, f⟩ := id h
  refine h.fr fr_cancel (rs_cancel hk a4) (ih_cancel hk a4 d1) (fun q hq _ => Or.inl (cancelScope_other (by have := a1.1; omega) (by omega) (by omega) (by have := a1.1; omega))) (e1.fr fr_cancel (fun c hc => cancelScope_other (by omega) (by omega) (by omega) (by omega))) (fun c hc => (e2 c hc).fr fr_cancel (cancelScope_other (by omega) (by omega) (by omega) (by omega)) (cancelScope_other (by omega) (by omega) (by omega) (by omega)) (cancelScope_other (by omega) (by omega) (by omega) (by omega))) (fun c hc => (e3 c hc).fr fr_cancel g0 (fun q hq _ => ⟨cancelScope_other (by omega) (by omega) (by omega) (by omega), cancelScope_other (by omega) (by omega) (by omega) (by omega)⟩) (cancelScope_other (by omega) (by omega) (by omega) (by omega)))
theorem Inv.run {i : Nat} (h : Inv π T S t U st (some i) m x τ) : i < 24 ∧ τ (i + 6) 3 = 0 := h.1.2.2.2.2 i rfl
/-- what the one whose turn it is does for itself -/
theorem inv_loc {i : Nat} (hL : Lcl τ σ i) (hl : ∃ l, l ≤ 12 ∧ σ (i + 6) 4 = nI l) (h : Inv π T S t U st (some i) (some i) x τ) : Inv π T S t U st (some i) (some i) x σ := by
  have g0 := h.g0
  obtain ⟨hi, h0⟩ := h.run
  obtain ⟨⟨a1, a2, a3, a4⟩, _, ⟨d1, d2⟩, ⟨e1, e2, e3⟩, f⟩ := id h
  have hT := a1.1
  have hf := Fr.loc hi h0 hL
  refine h.fr hf (a4.keep (hL _ _ (by omega) (by omega) (by omega) (by omega)) (fun j => hL _ _ (by omega) (by omega) (by omega) (by omega)) (fun q hq => hL _ _ (by omega) (by omega) (by omega) (by omega))) (d1.fr hf (fun k hk => hL _ _ (by omega) (by omega) (by omega) (by omega))) (fun q hq _ => ?_) (e1.fr hf (fun c hc => hL _ _ (by omega) (by omega) (by omega) (by omega))) (fun c hc => (e2 c hc).fr hf (hL _ _ (by omega) (by omega) (by omega) (by omega)) (hL _ _ (by omega) (by omega) (by omega) (by omega)) (hL _ _ (by omega) (by omega) (by omega) (by omega))) (fun c hc => (e3 c hc).fr hf g0 (fun q hq _ => ⟨hL _ _ (by omega) (by omega) (by omega) (by omega), hL _ _ (by omega) (by omega) (by omega) (by omega)⟩) (hL _ _ (by omega) (by omega) (by omega) (by omega)))
  by_cases e : q = i
  · subst e; exact Or.inr ⟨rfl, hl⟩
  · exact Or.inl (hL _ _ (by omega) (by omega) (by omega) (by omega))
/-- a LOCK that nobody holds -/
theorem inv_giveTo {i c : Nat} (hc : c < 2) (hf0 : τ (c + 94) 1 = -1) (h : Inv π T S t U st (some i) m x τ) : Inv π T S t U st (some i) m x (m_giveTo τ c i) := by
  have g0 := h.g0
  obtain ⟨hi, h0⟩ := h.run
  obtain ⟨⟨a1, a2, a3, a4⟩, _, ⟨d1, d2⟩, ⟨e1, e2, e3⟩, f⟩ := id h
  have hT := a1.1
  have hf : Fr τ (m_giveTo τ c i) := fr_giveTo hc
  refine h.fr hf (rs_giveTo a4) (d1.fr hf (fun k hk => giveTo_other (by omega))) (fun q hq _ => Or.inl (giveTo_other (by omega))) (fun p hp => ?_) (fun p hp => (e2 p hp).fr hf (giveTo_other (by omega)) (giveTo_other (by omega)) (giveTo_other (by omega))) (fun p hp => (e3 p hp).fr hf g0 (fun q hq _ => ⟨giveTo_other (by omega), giveTo_other (by omega)⟩) (giveTo_other (by omega)))
  have hw : m_waitsFor (m_giveTo τ c i) i 2 (nI p) ≠ true := fun z => by
    have := waits_one z
    rw [giveTo_other (by omega), h0] at this
    exact absurd this (by decide)
  by_cases e : p = c
  · subst e
    refine Or.inr ⟨i, hi, ?_, Or.inl (Or.inl (by rw [giveTo_other (by omega)]; exact h0)), hw⟩
    unfold m_giveTo
    rw [up2_o (by omega), up2_same]
  · rw [giveTo_other (by omega)]
    rcases e1 p hp with ⟨a, b⟩ | ⟨q, b1, b2, b3, b4⟩
    · exact Or.inl ⟨a, fun q hq z => b q hq (hf.wf hq z)⟩
    · exact Or.inr ⟨q, b1, b2, b3.elim (fun y => Or.inl ((hf.al b1).mpr y)) Or.inr, fun z => b4 (hf.wf b1 z)⟩
/-- a LOCK is FREED -/
theorem freeLock_other {c a b : Nat} (h1 : ¬ (a = c + 94 ∧ (b = 1 ∨ b = 2))) (h2 : ¬ (6 ≤ a ∧ a < 30 ∧ (b = 3 ∨ b = 14))) (h5 : a ≠ 5) (h0 : ¬ (a = 0 ∧ b = 7)) : m_freeLock τ c a b = τ a b := by
  unfold m_freeLock
  cases e : m_firstWaiting (up2 τ (c + 94) 1 (-1)) 2 (nI c) with
  | none =>
    dsimp only
    rw [up2_o (by omega)]
  | some p =>
    have hp := (firstWaiting_some e).1
    dsimp only
    rw [mr_other (by omega) h5 h0, up2_o (by omega), giveTo_other (by omega), up2_o (by omega)]
theorem freeLock_14 {c q : Nat} (hc : c < 2) (hq : q < 24) (h9 : τ (q + 6) 9 ≠ 2) : m_freeLock τ c (q + 6) 14 = τ (q + 6) 14 := by
  unfold m_freeLock
  cases e : m_firstWaiting (up2 τ (c + 94) 1 (-1)) 2 (nI c) with
  | none =>
    dsimp only
    rw [up2_o (by omega)]
  | some p =>
    obtain ⟨hp, hw⟩ := firstWaiting_some e
    have h2 := (waitsFor_iff.mp hw).2.1
    rw [up2_o (by omega)] at h2
    have hne : p ≠ q := fun z => h9 (by rw [← z]; exact h2)
    dsimp only
    rw [mr_other (by omega) (by omega) (by omega), up2_o (by omega), giveTo_other (by omega), up2_o (by omega)]
theorem ik_freeLock {c : Nat} (hc : c < 2) (h : IK τ x) : IK (m_freeLock τ c) x := fun p hp => by
  have hf : Fr τ (m_freeLock τ c) := fr_freeLock hc
  by_cases e : p = c
  · subst e
    cases f : m_firstWaiting (up2 τ (p + 94) 1 (-1)) 2 (nI p) with
    | none =>
      refine Or.inl ⟨?_, fun q hq hz => ?_⟩
      · unfold m_freeLock; rw [f]; dsimp only; rw [up2_same]
      · have z := hf.wf hq hz
        have y := firstWaiting_none f q hq
        have y2 : m_waitsFor (up2 τ (p + 94) 1 (-1)) q 2 (nI p) = m_waitsFor τ q 2 (nI p) := by
          unfold m_waitsFor m_waitsAt
          rw [up2_o (by omega), up2_o (by omega), up2_o (by omega), up2_o (by omega)]
        rw [y2, z] at y
        cases y
    | some q =>
      obtain ⟨hq, hw⟩ := firstWaiting_some f
      have e1 : m_freeLock τ p = m_makeReady (up2 (m_giveTo (up2 τ (p + 94) 1 (-1)) p q) (q + 6) 14 1) q := by
        unfold m_freeLock; dsimp only; rw [f]
      refine Or.inr ⟨q, hq, ?_, Or.inl (Or.inl ?_), fun z => ?_⟩
      · rw [e1, mr_other (by omega) (by omega) (by omega), up2_o (by omega)]
        unfold m_giveTo
        rw [up2_o (by omega), up2_same]
      · rw [e1]; exact mr_0 _ _
      · have := waits_one z
        rw [e1, mr_0] at this
        exact absurd this (by decide)
  · rw [freeLock_other (by omega) (by omega) (by omega) (by omega)]
    rcases h p hp with ⟨a, b⟩ | ⟨q, b1, b2, b3, b4⟩
    · exact Or.inl ⟨a, fun q hq z => b q hq (hf.wf hq z)⟩
    · exact Or.inr ⟨q, b1, b2, b3.elim (fun y => Or.inl ((hf.al b1).mpr y)) Or.inr, fun z => b4 (hf.wf b1 z)⟩
theorem inv_freeLock {c : Nat} (hc : c < 2) (h : Inv π T S t U st r m x τ) : Inv π T S t U st r m x (m_freeLock τ c) := by
  have g0 := h.g0
  obtain ⟨⟨a1, a2, a3, a4⟩, _, ⟨d1, d2⟩, ⟨e1, e2, e3⟩, f⟩ := id h
  have hT := a1.1
  have hf : Fr τ (m_freeLock τ c) := fr_freeLock hc
  exact h.fr hf (rs_freeLock hc a4) (d1.fr hf (fun k hk => freeLock_other (by omega) (by omega) (by omega) (by omega))) (fun q hq _ => Or.inl (freeLock_other (by omega) (by omega) (by omega) (by omega))) (ik_freeLock hc e1) (fun p hp => (e2 p hp).fr hf (freeLock_other (by omega) (by omega) (by omega) (by omega)) (freeLock_other (by omega) (by omega) (by omega) (by omega)) (freeLock_other (by omega) (by omega) (by omega) (by omega))) (fun p hp => (e3 p hp).fr hf g0 (fun q hq h9 => ⟨freeLock_other (by omega) (by omega) (by omega) (by omega), freeLock_14 hc hq (by rw [h9]; decide)⟩) (freeLock_other (by omega) (by omega) (by omega) (by omega)))
end INV
