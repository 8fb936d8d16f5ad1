/-! ALL OF IT, through what CHANNELS do -/
theorem m_at_eq {x : Int32} {N k : Nat} (h : m_at x N = some k) : x = nI k := by
  unfold m_at at h
  by_cases c1 : x < 0
  · rw [if_pos c1] at h; cases h
  · rw [if_neg c1] at h
    by_cases c2 : nI N ≤ x
    · rw [if_pos c2] at h; cases h
    · rw [if_neg c2] at h
      cases h
      exact nI_cl c1
theorem cnt_add1 {P Q : Nat → Bool} {q : Nat} : ∀ n, (∀ i, i < n → i ≠ q → P i = true → Q i = true) → cnt P n ≤ cnt Q n + (if q < n then 1 else 0) := by
  intro n
  induction n with
  | zero => intro _; exact Nat.zero_le _
  | succ n ih =>
    intro h
    have h1 := ih (fun i hi => h i (by omega))
    show cnt P n + _ ≤ cnt Q n + _ + _
    by_cases e : q = n
    · subst e
      rw [if_neg (Nat.lt_irrefl q)] at h1
      rw [if_pos (Nat.lt_succ_self q)]
      by_cases c : P q = true
      · rw [if_pos c]; omega
      · rw [if_neg c]; omega
    · have e2 : (if q < n then 1 else 0) = (if q < n + 1 then 1 else 0) := by
        by_cases d : q < n
        · rw [if_pos d, if_pos (by omega)]
        · rw [if_neg d, if_neg (by omega)]
      rw [e2] at h1
      by_cases c : P n = true
      · rw [if_pos c, if_pos (h n (by omega) (fun z => e z.symm) c)]; omega
      · rw [if_neg c]; omega
theorem cnt_less {P Q : Nat → Bool} {q : Nat} : ∀ n, q < n → (∀ i, i < n → P i = true → Q i = true) → P q = false → Q q = true → cnt P n + 1 ≤ cnt Q n := by
  intro n
  induction n with
  | zero => intro h; omega
  | succ n ih =>
    intro hq h h1 h2
    have hm := cnt_mono2 n (fun i hi => h i (by omega))
    show cnt P n + _ + 1 ≤ cnt Q n + _
    by_cases e : q = n
    · subst e
      rw [h1, h2, if_pos rfl, if_neg (by decide)]; omega
    · have := ih (by omega) (fun i hi => h i (by omega)) h1 h2
      by_cases c : P n = true
      · rw [if_pos c, if_pos (h n (by omega) c)]; omega
      · rw [if_neg c]; omega
section INV
variable {π τ σ : Sg} {T S t U : Nat} {st : Nat → List Nat} {r m x : Option Nat}
theorem giveValue_eq {c q : Nat} {v : Int32} (hc : c < 2) : m_giveValue τ q (nI c) v = m_makeReady (up2 (up2 (up2 (up2 τ (q + 6) 13 v) (q + 6) 10 (nI c)) (q + 6) 14 1) (c + 96) 4 (up2 (up2 (up2 τ (q + 6) 13 v) (q + 6) 10 (nI c)) (q + 6) 14 1 (c + 96) 4 + 1)) q := by
  unfold m_giveValue
  rw [m_at_nI hc (by decide)]
theorem giveValue_other {c q a b : Nat} {v : Int32} (hc : c < 2) (h1 : ¬ (a = q + 6 ∧ (b = 3 ∨ b = 10 ∨ b = 13 ∨ b = 14))) (h2 : ¬ (a = c + 96 ∧ b = 4)) (h5 : a ≠ 5) (h0 : ¬ (a = 0 ∧ b = 7)) : m_giveValue τ q (nI c) v a b = τ a b := by
  rw [giveValue_eq hc, mr_other (by omega) h5 h0, up2_o (by omega), up2_o (by omega), up2_o (by omega), up2_o (by omega)]
theorem giveValue_at {c q : Nat} {v : Int32} (hc : c < 2) (hq : q < 24) : m_giveValue τ q (nI c) v (q + 6) 10 = nI c ∧ m_giveValue τ q (nI c) v (c + 96) 4 = τ (c + 96) 4 + 1 := by
  rw [giveValue_eq hc]
  refine ⟨?_, ?_⟩
  · rw [mr_other (by omega) (by omega) (by omega), up2_o (by omega), up2_o (by omega), up2_same]
  · rw [mr_other (by omega) (by omega) (by omega), up2_same, up2_o (by omega), up2_o (by omega), up2_o (by omega)]
theorem ic2_giveValue {c q V : Nat} {v : Int32} (hc : c < 2) (hq : q < 24) (hV : V < 2 ^ 31 - 1) (h : IC2 τ m V c) : IC2 (m_giveValue τ q (nI c) v) m (V + 1) c := by
  obtain ⟨n, a, b, d⟩ := h
  refine ⟨n + 1, by omega, ?_, ?_⟩
  · rw [(giveValue_at hc hq).2, b, nI_1]
  · refine Nat.le_trans (cnt_add1 (Q := gvI τ m c) (q := q) 24 (fun i hi hn hz => ?_)) (by rw [if_pos hq]; omega)
    unfold gvI at hz ⊢
    rw [giveValue_other hc (by omega) (by omega) (by omega) (by omega), giveValue_other hc (by omega) (by omega) (by omega) (by omega), giveValue_other hc (by omega) (by omega) (by omega) (by omega), giveValue_other hc (by omega) (by omega) (by omega) (by omega)] at hz
    exact hz
theorem ic2_giveValue2 {c p q V : Nat} {v : Int32} (hc : c < 2) (hp : p < 2) (hne : p ≠ c) (hq : q < 24) (h : IC2 τ m V p) : IC2 (m_giveValue τ q (nI c) v) m V p := by
  obtain ⟨n, a, b, d⟩ := h
  refine ⟨n, a, by rw [giveValue_other hc (by omega) (by omega) (by omega) (by omega)]; exact b, Nat.le_trans (cnt_mono2 24 (fun i hi hz => ?_)) d⟩
  unfold gvI at hz ⊢
  by_cases e : i = q
  · subst e
    rw [decide_eq_true_iff] at hz
    have z := hz.2.2.2.1
    rw [(giveValue_at hc hi).1] at z
    exact absurd (nI_inj (by omega) (by omega) z).symm hne
  · rw [giveValue_other hc (by omega) (by omega) (by omega) (by omega), giveValue_other hc (by omega) (by omega) (by omega) (by omega), giveValue_other hc (by omega) (by omega) (by omega) (by omega), giveValue_other hc (by omega) (by omega) (by omega) (by omega)] at hz
    exact hz
/-- one that WAITS for a VALUE is given one: all but the count of those taken -/
theorem inv_giveValue {c q U' : Nat} {v : Int32} (hc : c < 2) (hq : q < 24) (hw : m_waitsFor τ q 4 (nI c) = true) (h : Inv π T S t U st r m x τ) (h2 : ∀ p, p < 2 → IC2 (m_giveValue τ q (nI c) v) m U' p) : Inv π T S t U' st r m x (m_giveValue τ q (nI c) v) := by
  obtain ⟨w1, w2, _⟩ := waitsFor_iff.mp hw
  obtain ⟨⟨a1, a2, a3, a4⟩, _, ⟨d1, d2⟩, ⟨e1, e2, e3⟩, f⟩ := id h
  have hT := a1.1
  have hf : Fr τ (m_giveValue τ q (nI c) v) := fr_giveValue hq w1 (by rw [w2]; decide)
  exact h.fr hf (rs_giveValue hq w1 a4) (d1.fr hf (fun k hk => giveValue_other hc (by omega) (by omega) (by omega) (by omega))) (fun p hp _ => Or.inl (giveValue_other hc (by omega) (by omega) (by omega) (by omega))) (e1.fr hf (fun p hp => giveValue_other hc (by omega) (by omega) (by omega) (by omega))) (fun p hp => (e2 p hp).fr hf (giveValue_other hc (by omega) (by omega) (by omega) (by omega)) (giveValue_other hc (by omega) (by omega) (by omega) (by omega)) (giveValue_other hc (by omega) (by omega) (by omega) (by omega))) h2
/-- a VALUE comes in -/
theorem addLast_2 {c n : Nat} {v : Int32} (hn : n < 27) (h : τ (c + 96) 2 = nI n) : m_addLast τ c v (c + 96) 2 = nI (n + 1) := by
  unfold m_addLast
  rw [if_neg (by rw [h]; exact nI_pos (by omega)), if_neg (by rw [h]; intro z; have := (nI_leI (a := 27) (by decide) (by omega)).mp z; omega)]
  rw [up2_same, up2_a (by omega), h, nI_1]
theorem inv_addLast {c : Nat} {v : Int32} (hc : c < 2) (hr : ¬ τ (c + 96) 0 ≤ τ (c + 96) 2) (hw : ∀ p, p < 24 → m_waitsFor τ p 4 (nI c) ≠ true) (h : Inv π T S t U st r m x τ) : Inv π T S t U st r m x (m_addLast τ c v) := by
  have g0 := h.g0
  obtain ⟨⟨a1, a2, a3, a4⟩, _, ⟨d1, d2⟩, ⟨e1, e2, e3⟩, f⟩ := id h
  have hT := a1.1
  have hf : Fr τ (m_addLast τ c v) := fr_addLast hc
  refine h.fr hf (rs_addLast hc a4) (d1.fr hf (fun k hk => addLast_other (by omega) (by omega))) (fun p hp _ => Or.inl (addLast_other (by omega) (by omega))) (e1.fr hf (fun p hp => addLast_other (by omega) (by omega))) (fun p hp => ?_) (fun p hp => (e3 p hp).fr hf g0 (fun q hq _ => ⟨addLast_other (by omega) (by omega), addLast_other (by omega) (by omega)⟩) (addLast_other (by omega) (by omega)))
  by_cases e : p = c
  · subst e
    obtain ⟨b0, n, b1, b2, b3, b4⟩ := e2 p hp
    have hn : n = 0 := by
      rw [b0, b2] at hr
      rcases Nat.lt_or_ge n 1 with z | z
      · omega
      · exact absurd ((nI_leI (a := 1) (by decide) (by omega)).mpr z) hr
    subst hn
    refine ⟨by rw [addLast_other (by omega) (by omega)]; exact b0, 1, by omega, addLast_2 (by omega) b2, fun q hq hz => ?_, fun q hq hz => absurd (hf.wf hq hz) (hw q hq)⟩
    have := (b3 q hq (hf.wf hq hz)).1
    omega
  · exact (e2 p hp).fr hf (addLast_other (by omega) (by omega)) (addLast_other (by omega) (by omega)) (addLast_other (by omega) (by omega))
theorem dropFirst_2 {c n : Nat} (hc : c < 2) (hn : n ≤ 27) (h : τ (c + 96) 2 = nI n) : m_dropFirst τ c (c + 96) 2 = nI (n - 1) := by
  unfold m_dropFirst
  rw [up2_same, ds_other c 27 0 τ (c + 96) (by omega), h]
  by_cases e : n = 0
  · subst e
    rw [if_pos (by decide)]; rfl
  · obtain ⟨k, rfl⟩ : ∃ k, n = k + 1 := ⟨n - 1, by omega⟩
    rw [if_neg (fun z : nI (k + 1) ≤ 0 => by have := (nI_leI (a := k + 1) (b := 0) (by omega) (by omega)).mp z; omega), nI_pred]; rfl
/-- what taking a VALUE changes -/
theorem takeValue_other {c a b : Nat} (hc : c < 2) (h1 : ¬ (6 ≤ a ∧ a < 30 ∧ b = 3)) (h2 : ¬ (a = c + 96 ∧ (b = 2 ∨ b = 4))) (h3 : a ≠ c + 98) (h5 : a ≠ 5) (h0 : ¬ (a = 0 ∧ b = 7)) : m_takeValueW τ (nI c) a b = τ a b := by
  unfold m_takeValueW
  rw [m_at_nI hc (by decide)]
  dsimp only
  cases f : m_firstWaiting τ 3 (nI c) with
  | none =>
    dsimp only
    rw [up2_o (by omega), dropFirst_other (by omega) (by omega)]
  | some q =>
    have hq := (firstWaiting_some f).1
    dsimp only
    rw [up2_o (by omega), mr_other (by omega) h5 h0]
    by_cases d : τ (c + 96) 2 = 0
    · rw [if_pos d]
    · rw [if_neg d, addLast_other (by omega) (by omega), dropFirst_other (by omega) (by omega)]
theorem takeValue_4 {c : Nat} (hc : c < 2) : m_takeValueW τ (nI c) (c + 96) 4 = τ (c + 96) 4 + 1 := by
  unfold m_takeValueW
  rw [m_at_nI hc (by decide)]
  dsimp only
  cases f : m_firstWaiting τ 3 (nI c) with
  | none =>
    dsimp only
    rw [up2_same, dropFirst_other (by omega) (by omega)]
  | some q =>
    have hq := (firstWaiting_some f).1
    dsimp only
    rw [up2_same, mr_other (by omega) (by omega) (by omega)]
    by_cases d : τ (c + 96) 2 = 0
    · rw [if_pos d]
    · rw [if_neg d, addLast_other (by omega) (by omega), dropFirst_other (by omega) (by omega)]
theorem takeValue_2 {c : Nat} (hc : c < 2) (h : IC1 τ c) : m_takeValueW τ (nI c) (c + 96) 2 = τ (c + 96) 2 ∨ (m_firstWaiting τ 3 (nI c) = none ∧ ∀ n, n ≤ 27 → τ (c + 96) 2 = nI n → m_takeValueW τ (nI c) (c + 96) 2 = nI (n - 1)) := by
  unfold m_takeValueW
  rw [m_at_nI hc (by decide)]
  dsimp only
  cases f : m_firstWaiting τ 3 (nI c) with
  | none =>
    refine Or.inr ⟨rfl, fun n hn h2 => ?_⟩
    dsimp only
    rw [up2_j (by decide)]
    exact dropFirst_2 hc hn h2
  | some q =>
    obtain ⟨hq, hw⟩ := firstWaiting_some f
    obtain ⟨b0, n, b1, b2, b3, b4⟩ := h
    have h1 := (b3 q hq hw).1
    refine Or.inl ?_
    dsimp only
    rw [up2_j (by decide), mr_other (by omega) (by omega) (by omega), if_neg (by rw [b2]; exact fun z : nI n = nI 0 => by have := nI_inj (by omega) (by omega) z; omega)]
    rw [addLast_2 (n := n - 1) (by omega) (dropFirst_2 hc b1 b2), b2, show n - 1 + 1 = n from by omega]
theorem inv_takeValue {c : Nat} (hc : c < 2) (hU : U < 2 ^ 31 - 1) (h : Inv π T S t U st r m x τ) : Inv π T S t (U + 1) st r m x (m_takeValueW τ (nI c)) := by
  have g0 := h.g0
  obtain ⟨⟨a1, a2, a3, a4⟩, _, ⟨d1, d2⟩, ⟨e1, e2, e3⟩, f⟩ := id h
  have hT := a1.1
  have hf : Fr τ (m_takeValueW τ (nI c)) := fr_takeValue
  refine h.fr hf (rs_takeValue a4) (d1.fr hf (fun k hk => takeValue_other hc (by omega) (by omega) (by omega) (by omega) (by omega))) (fun p hp _ => Or.inl (takeValue_other hc (by omega) (by omega) (by omega) (by omega) (by omega))) (e1.fr hf (fun p hp => takeValue_other hc (by omega) (by omega) (by omega) (by omega) (by omega))) (fun p hp => ?_) (fun p hp => ?_)
  · by_cases e : p = c
    · subst e
      obtain ⟨b0, n, b1, b2, b3, b4⟩ := e2 p hp
      have h3 : m_takeValueW τ (nI p) (p + 96) 3 = τ (p + 96) 3 := takeValue_other hc (by omega) (by omega) (by omega) (by omega) (by omega)
      have h0 : m_takeValueW τ (nI p) (p + 96) 0 = τ (p + 96) 0 := takeValue_other hc (by omega) (by omega) (by omega) (by omega) (by omega)
      rcases takeValue_2 hc (e2 p hp) with z | ⟨z1, z2⟩
      · exact (e2 p hp).fr hf h0 z h3
      · refine ⟨by rw [h0]; exact b0, n - 1, by omega, z2 n b1 b2, fun q hq hz => ?_, fun q hq hz => ?_⟩
        · have := firstWaiting_none z1 q hq
          rw [hf.wf hq hz] at this
          cases this
        · have := b4 q hq (hf.wf hq hz)
          omega
    · exact (e2 p hp).fr hf (takeValue_other hc (by omega) (by omega) (by omega) (by omega) (by omega)) (takeValue_other hc (by omega) (by omega) (by omega) (by omega) (by omega)) (takeValue_other hc (by omega) (by omega) (by omega) (by omega) (by omega))
  · by_cases e : p = c
    · subst e
      obtain ⟨n, b1, b2, b3⟩ := e3 p hp
      have h4 := (IC2.fr (σ := up2 (m_takeValueW τ (nI p)) (p + 96) 4 (τ (p + 96) 4)) (e3 p hp) (r := m) (Fr.of (t5_takeValue.up (by omega)) (sz_takeValue.up (by omega))) g0 (fun q hq _ => ⟨by rw [up2_o (by omega)]; exact takeValue_other hc (by omega) (by omega) (by omega) (by omega) (by omega), by rw [up2_o (by omega)]; exact takeValue_other hc (by omega) (by omega) (by omega) (by omega) (by omega)⟩) (up2_same _ _ _ _))
      obtain ⟨n', b1', b2', b3'⟩ := h4
      have e5 : cnt (gvI (m_takeValueW τ (nI p)) m p) 24 = cnt (gvI (up2 (m_takeValueW τ (nI p)) (p + 96) 4 (τ (p + 96) 4)) m p) 24 := cnt_congr 24 (fun q hq => by
        unfold gvI
        rw [up2_o (by omega), up2_o (by omega), up2_o (by omega), up2_o (by omega)])
      rw [up2_same] at b2'
      refine ⟨n' + 1, by omega, by rw [takeValue_4 hc, b2', nI_1], by rw [e5]; omega⟩
    · obtain ⟨n, b1, b2, b3⟩ := (e3 p hp).fr hf g0 (fun q hq _ => ⟨takeValue_other hc (by omega) (by omega) (by omega) (by omega) (by omega), takeValue_other hc (by omega) (by omega) (by omega) (by omega) (by omega)⟩) (takeValue_other hc (by omega) (by omega) (by omega) (by omega) (by omega))
      exact ⟨n, by omega, b2, b3⟩
end INV
