/-! ALL OF IT, through END, giving back, beginning to WAIT -/
theorem fic_iff {τ : Sg} {q : Nat} {x p0 : Int32} : m_fic τ q x p0 = true ↔ τ (q + 6) 3 = 1 ∧ (τ (q + 6) 9 = 3 ∨ τ (q + 6) 9 = 4) ∧ (if τ (q + 6) 11 = 0 then τ (q + 6) 10 = x else p0 ≠ 0) := by
  unfold m_fic
  by_cases c1 : τ (q + 6) 3 = 1
  · rw [if_pos c1]
    by_cases c2 : τ (q + 6) 9 = 3
    · rw [if_pos c2]
      by_cases c3 : τ (q + 6) 11 = 0
      · rw [if_pos c3, if_pos c3]
        by_cases c4 : τ (q + 6) 10 = x
        · rw [if_pos c4]; exact ⟨fun _ => ⟨c1, Or.inl c2, c4⟩, fun _ => rfl⟩
        · rw [if_neg c4]; exact ⟨fun z => (by cases z), fun z => absurd z.2.2 c4⟩
      · rw [if_neg c3, if_neg c3]
        by_cases c4 : p0 = 0
        · rw [if_pos c4]; exact ⟨fun z => (by cases z), fun z => absurd c4 z.2.2⟩
        · rw [if_neg c4]; exact ⟨fun _ => ⟨c1, Or.inl c2, c4⟩, fun _ => rfl⟩
    · rw [if_neg c2]
      by_cases c5 : τ (q + 6) 9 = 4
      · rw [if_pos c5]
        by_cases c3 : τ (q + 6) 11 = 0
        · rw [if_pos c3, if_pos c3]
          by_cases c4 : τ (q + 6) 10 = x
          · rw [if_pos c4]; exact ⟨fun _ => ⟨c1, Or.inr c5, c4⟩, fun _ => rfl⟩
          · rw [if_neg c4]; exact ⟨fun z => (by cases z), fun z => absurd z.2.2 c4⟩
        · rw [if_neg c3, if_neg c3]
          by_cases c4 : p0 = 0
          · rw [if_pos c4]; exact ⟨fun z => (by cases z), fun z => absurd c4 z.2.2⟩
          · rw [if_neg c4]; exact ⟨fun _ => ⟨c1, Or.inr c5, c4⟩, fun _ => rfl⟩
      · rw [if_neg c5]; exact ⟨fun z => (by cases z), fun z => z.2.1.elim (fun y => absurd y c2) (fun y => absurd y c5)⟩
  · rw [if_neg c1]; exact ⟨fun z => (by cases z), fun z => absurd z.1 c1⟩
theorem endLoop_other {x p0 : Int32} {a b : Nat} (h1 : ¬ (6 ≤ a ∧ a < 30 ∧ (b = 3 ∨ b = 15))) (h5 : a ≠ 5) (h0 : ¬ (a = 0 ∧ b = 7)) : ∀ (n : Nat) (τ : Sg), m_endLoop x p0 n τ a b = τ a b := by
  intro n
  induction n with
  | zero => intro τ; rfl
  | succ n ih =>
    intro τ
    unfold m_endLoop
    cases e : m_firstInVain τ x p0 with
    | none => rfl
    | some q =>
      have hq := (firstInVain_some e).1
      dsimp only
      rw [ih, mr_other (by omega) h5 h0, up2_o (by omega)]
/-- behind it nobody WAITS in vain -/
theorem endLoop_none {x p0 : Int32} : ∀ (n : Nat) (τ : Sg), cnt (fun q => m_fic τ q x p0) 24 ≤ n → ∀ q, q < 24 → m_fic (m_endLoop x p0 n τ) q x p0 = false := by
  intro n
  induction n with
  | zero => intro τ h q hq; exact cnt_zero (P := fun q => m_fic τ q x p0) 24 (by omega) q hq
  | succ n ih =>
    intro τ h q hq
    unfold m_endLoop
    cases e : m_firstInVain τ x p0 with
    | none => exact firstInVain_none e q hq
    | some p =>
      obtain ⟨hp, hw⟩ := firstInVain_some e
      dsimp only
      generalize hv : (if τ (p + 6) 9 = 3 then (5 : Int32) else 6) = v
      refine ih _ ?_ q hq
      have hs : ∀ i, i < 24 → i ≠ p → m_fic (m_makeReady (up2 τ (p + 6) 15 v) p) i x p0 = m_fic τ i x p0 := fun i hi hne => by
        unfold m_fic
        rw [mr_other (by omega) (by omega) (by omega), mr_other (by omega) (by omega) (by omega), mr_other (by omega) (by omega) (by omega), mr_other (by omega) (by omega) (by omega), up2_o (by omega), up2_o (by omega), up2_o (by omega), up2_o (by omega)]
      have hz : m_fic (m_makeReady (up2 τ (p + 6) 15 v) p) p x p0 = false := by
        cases z : m_fic (m_makeReady (up2 τ (p + 6) 15 v) p) p x p0 with
        | false => rfl
        | true =>
          have := (fic_iff.mp z).1
          rw [mr_0] at this
          exact absurd this (by decide)
      have hl := cnt_less (P := fun i => m_fic (m_makeReady (up2 τ (p + 6) 15 v) p) i x p0) (Q := fun i => m_fic τ i x p0) (q := p) 24 hp (fun i hi hP => by
        by_cases d : i = p
        · subst d; exact hw
        · rw [← hs i hi d]; exact hP) hz hw
      omega
theorem putEnd_eq {τ : Sg} {c : Nat} (hc : c < 2) : m_putEnd τ (nI c) = m_endLoop (nI c) (bI (m_allEnded (up2 τ (c + 96) 3 1))) 24 (up2 τ (c + 96) 3 1) := by
  unfold m_putEnd
  rw [m_at_nI hc (by decide)]
theorem putEnd_other {τ : Sg} {c a b : Nat} (hc : c < 2) (h1 : ¬ (6 ≤ a ∧ a < 30 ∧ (b = 3 ∨ b = 15))) (h2 : ¬ (a = c + 96 ∧ b = 3)) (h5 : a ≠ 5) (h0 : ¬ (a = 0 ∧ b = 7)) : m_putEnd τ (nI c) a b = τ a b := by
  rw [putEnd_eq hc, endLoop_other h1 h5 h0, up2_o (by omega)]
section INV
variable {π τ σ : Sg} {T S t U : Nat} {st : Nat → List Nat} {r m x : Option Nat}
theorem Inv.p0 (h : Inv π T S t U st r m x τ) {q : Nat} (hq : q < 24) (h1 : τ (q + 6) 3 = 1) (h9 : τ (q + 6) 9 = 2 ∨ τ (q + 6) 9 = 3) : tgt01 τ q ∧ τ (q + 6) 11 = 0 := by
  have h5 : τ (q + 6) 9 ≠ 5 := by rcases h9 with e | e <;> rw [e] <;> decide
  obtain ⟨⟨a1, _⟩, _, ⟨_, d2⟩, _⟩ := h
  obtain ⟨b, _, _, g⟩ := d2 q (a1.ltA hq (Or.inr h1))
  obtain ⟨l, _, _, _, g4⟩ := g (Or.inr h1)
  rcases g4 h1 with z | z
  · exact absurd z.1 h5
  · exact z.2.2.2.2.2.1 h9
theorem inv_putEnd {c : Nat} (hc : c < 2) (h : Inv π T S t U st r m x τ) : Inv π T S t U st r m x (m_putEnd τ (nI c)) := by
  have g0 := h.g0
  obtain ⟨⟨a1, a2, a3, a4⟩, _, ⟨d1, d2⟩, ⟨e1, e2, e3⟩, f⟩ := id h
  have hT := a1.1
  have hf : Fr τ (m_putEnd τ (nI c)) := fr_putEnd
  refine h.fr hf (rs_putEnd a4) (d1.fr hf (fun k hk => putEnd_other hc (by omega) (by omega) (by omega) (by omega))) (fun p hp _ => Or.inl (putEnd_other hc (by omega) (by omega) (by omega) (by omega))) (e1.fr hf (fun p hp => putEnd_other hc (by omega) (by omega) (by omega) (by omega))) (fun p hp => ?_) (fun p hp => (e3 p hp).fr hf g0 (fun q hq _ => ⟨putEnd_other hc (by omega) (by omega) (by omega) (by omega), putEnd_other hc (by omega) (by omega) (by omega) (by omega)⟩) (putEnd_other hc (by omega) (by omega) (by omega) (by omega)))
  by_cases e : p = c
  · subst e
    obtain ⟨b0, n, b1, b2, b3, b4⟩ := e2 p hp
    refine ⟨by rw [putEnd_other hc (by omega) (by omega) (by omega) (by omega)]; exact b0, n, b1, by rw [putEnd_other hc (by omega) (by omega) (by omega) (by omega)]; exact b2, fun q hq hz => ?_, fun q hq hz => b4 q hq (hf.wf hq hz)⟩
    exfalso
    have hz2 := hf.wf hq hz
    obtain ⟨y1, y2, y3⟩ := waitsFor_iff.mp hz2
    obtain ⟨x1, x2⟩ := h.p0 hq y1 (Or.inr y2)
    have y4 : τ (q + 6) 10 = nI p := y3.elim id (fun y => absurd x2 y)
    have hn := endLoop_none (x := nI p) (p0 := bI (m_allEnded (up2 τ (p + 96) 3 1))) 24 (up2 τ (p + 96) 3 1) (cnt_le _ 24) q hq
    rw [← putEnd_eq hc] at hn
    obtain ⟨v1, v2⟩ := hf.wt hq (waits_one hz)
    have hy : m_fic (m_putEnd τ (nI p)) q (nI p) (bI (m_allEnded (up2 τ (p + 96) 3 1))) = true := fic_iff.mpr ⟨waits_one hz, Or.inl (by rw [v2 9]; exact y2), by rw [v2 11, if_pos x2, v2 10]; exact y4⟩
    rw [hy] at hn
    cases hn
  · exact (e2 p hp).fr hf (putEnd_other hc (by omega) (by omega) (by omega) (by omega)) (putEnd_other hc (by omega) (by omega) (by omega) (by omega)) (putEnd_other hc (by omega) (by omega) (by omega) (by omega))
/-- a turn begins, behind no SCOPE -/
theorem mode_n5 {i o : Nat} (h5 : τ (i + 6) 9 ≠ 5) : m_mode τ (some i) o = m_mode τ none o := by
  unfold m_mode
  by_cases e : o = i
  · subst e
    rw [if_pos rfl, if_neg (by intro z; cases z), if_neg h5]
  · rw [if_neg (fun z => e (Option.some.inj z).symm), if_neg (show ¬ (none : Option Nat) = some o from by intro z; cases z)]
theorem gv_le {i c : Nat} : cnt (gvI τ (some i) c) 24 ≤ cnt (gvI τ none c) 24 := cnt_mono2 24 (fun q hq hz => by
  unfold gvI at hz ⊢
  rw [decide_eq_true_iff] at hz ⊢
  exact ⟨hz.1, hz.2.1, hz.2.2.1, hz.2.2.2.1, by intro z; cases z⟩)
theorem inv_begin {i : Nat} (h5 : τ (i + 6) 9 ≠ 5) (h : Inv π T S t U st r none x τ) : Inv π T S t U st r (some i) x τ := by
  obtain ⟨⟨a1, a2, a3, a4⟩, b, ⟨d1, d2⟩, ⟨e1, e2, e3⟩, f⟩ := id h
  refine ⟨⟨a1, a2, ⟨⟨fun o ho => ?_, a3.1.2⟩, a3.2⟩, a4⟩, b, ⟨d1, fun q hq => ?_⟩, ⟨e1, e2, fun c hc => ?_⟩, f⟩
  · exact (a3.1.1 o ho).keep rfl rfl (fun k hk => ⟨rfl, rfl, rfl⟩) (fun _ => mode_n5 h5)
  · obtain ⟨b, h1, h2, h3⟩ := d2 q hq
    refine ⟨b, h1, h2, fun ha => ?_⟩
    obtain ⟨l, g1, g2, g3, g4⟩ := h3 ha
    exact ⟨l, g1, g2, fun _ => g3 (by intro z; cases z), g4⟩
  · obtain ⟨n, x1, x2, x3⟩ := e3 c hc
    exact ⟨n, x1, x2, Nat.le_trans gv_le x3⟩
theorem addFirst_2 {c n : Nat} {v : Int32} (hc : c < 2) (hn : n ≤ 27) (h : τ (c + 96) 2 = nI n) : m_addFirst τ c v (c + 96) 2 = nI (if n < 27 then n + 1 else n) := by
  unfold m_addFirst
  rw [if_neg (by rw [h]; exact nI_pos (by omega))]
  by_cases e : n < 27
  · rw [if_pos (by rw [h]; exact (nI_ltI (b := 27) (by omega) (by decide)).mpr e), if_pos e]
    rw [up2_same, up2_a (by omega), us_other c _ τ (c + 96) (by omega), h, nI_1]
  · rw [if_neg (by rw [h]; exact fun z => e ((nI_ltI (b := 27) (by omega) (by decide)).mp z)), if_neg e]
    exact h
theorem fr_addFirst {c : Nat} {v : Int32} (hc : c < 2) : Fr τ (m_addFirst τ c v) := Fr.of t5_addFirst (sz_addFirst hc)
theorem inv_addFirst {c : Nat} {v : Int32} (hc : c < 2) (hw : ∀ p, p < 24 → m_waitsFor τ p 4 (nI c) ≠ true) (h : Inv π T S t U st r m x τ) : Inv π T S t U st r m x (m_addFirst τ c v) := by
  have g0 := h.g0
  obtain ⟨⟨a1, a2, a3, a4⟩, _, ⟨d1, d2⟩, ⟨e1, e2, e3⟩, f⟩ := id h
  have hT := a1.1
  have hf : Fr τ (m_addFirst τ c v) := fr_addFirst hc
  refine h.fr hf (rs_addFirst hc a4) (d1.fr hf (fun k hk => addFirst_other (by omega) (by omega))) (fun p hp _ => Or.inl (addFirst_other (by omega) (by omega))) (e1.fr hf (fun p hp => addFirst_other (by omega) (by omega))) (fun p hp => ?_) (fun p hp => (e3 p hp).fr hf g0 (fun q hq _ => ⟨addFirst_other (by omega) (by omega), addFirst_other (by omega) (by omega)⟩) (addFirst_other (by omega) (by omega)))
  by_cases e : p = c
  · subst e
    obtain ⟨b0, n, b1, b2, b3, b4⟩ := e2 p hp
    refine ⟨by rw [addFirst_other (by omega) (by omega)]; exact b0, _, ?_, addFirst_2 hc b1 b2, fun q hq hz => ?_, fun q hq hz => absurd (hf.wf hq hz) (hw q hq)⟩
    · by_cases d : n < 27
      · rw [if_pos d]; omega
      · rw [if_neg d]; omega
    · obtain ⟨y1, y2, y3⟩ := b3 q hq (hf.wf hq hz)
      refine ⟨?_, by rw [addFirst_other (by omega) (by omega)]; exact y2, fun q2 hq2 z => y3 q2 hq2 (hf.wf hq2 z)⟩
      by_cases d : n < 27
      · rw [if_pos d]; omega
      · rw [if_neg d]; omega
  · exact (e2 p hp).fr hf (addFirst_other (by omega) (by omega)) (addFirst_other (by omega) (by omega)) (addFirst_other (by omega) (by omega))
/-- what was given goes back, as the turn begins with CANCEL -/
theorem inv_giveBack {i : Nat} (hU : U < 2 ^ 31 - 1) (h5 : τ (i + 6) 9 ≠ 5) (h : Inv π T S t U st (some i) none x τ) : Inv π T S t U st (some i) (some i) x (m_giveBack τ i (τ (i + 6) 9)) := by
  obtain ⟨hi, h0⟩ := h.run
  have hb := inv_begin h5 h
  unfold m_giveBack
  by_cases c14 : τ (i + 6) 14 = 0
  · rw [if_pos c14]; exact hb
  rw [if_neg c14]
  unfold m_giveBackL
  by_cases c2 : τ (i + 6) 9 = 2
  · rw [if_pos c2]
    have hC : ∀ σ : Sg, m_giveBackC σ i (τ (i + 6) 9) = σ := fun σ => by
      unfold m_giveBackC
      rw [if_neg (by rw [c2]; decide)]
    rw [hC]
    cases e : m_at (τ (i + 6) 10) 2 with
    | none => exact hb
    | some k => exact inv_freeLock (m_at_lt e (by decide)) hb
  · rw [if_neg c2]
    unfold m_giveBackC
    by_cases c4 : τ (i + 6) 9 = 4
    · rw [if_pos c4]
      cases e : m_at (τ (i + 6) 10) 2 with
      | none => exact hb
      | some k =>
        have hk := m_at_lt e (by decide)
        have hx := m_at_eq e
        -- one less is taken
        have e3n := h.2.2.2.1.2.2
        obtain ⟨n, n1, n2, n3⟩ := e3n k hk
        have hless : cnt (gvI τ (some i) k) 24 + 1 ≤ cnt (gvI τ none k) 24 := by
          refine cnt_less (q := i) 24 hi (fun q hq hz => ?_) ?_ ?_
          · unfold gvI at hz ⊢
            rw [decide_eq_true_iff] at hz ⊢
            exact ⟨hz.1, hz.2.1, hz.2.2.1, hz.2.2.2.1, by intro z; cases z⟩
          · unfold gvI
            rw [decide_eq_false_iff_not]
            exact fun z => z.2.2.2.2 rfl
          · unfold gvI
            rw [decide_eq_true_iff]
            exact ⟨h0, c14, c4, hx, by intro z; cases z⟩
        obtain ⟨n', rfl⟩ : ∃ n', n = n' + 1 := ⟨n - 1, by omega⟩
        have hT : T ≤ 24 := h.1.1.1
        -- the state with one less
        have e1 : τ (k + 96) 4 - 1 = nI n' := by rw [n2, nI_pred]
        have g0 := hb.g0
        have hIC : ∀ p, p < 2 → p ≠ k → IC2 (up2 τ (k + 96) 4 (τ (k + 96) 4 - 1)) (some i) U p := fun p hp hne => by
          obtain ⟨a, a1, a2, a3⟩ := hb.2.2.2.1.2.2 p hp
          refine ⟨a, a1, by rw [up2_o (by omega)]; exact a2, Nat.le_trans (cnt_mono2 24 (fun q hq hz => ?_)) a3⟩
          unfold gvI at hz ⊢
          rw [up2_o (by omega), up2_o (by omega), up2_o (by omega), up2_o (by omega)] at hz
          exact hz
        have hICk : IC2 (up2 τ (k + 96) 4 (τ (k + 96) 4 - 1)) (some i) n' k := by
          refine ⟨n', Nat.le_refl _, by rw [up2_same, e1], ?_⟩
          refine Nat.le_trans (cnt_mono2 (Q := gvI τ (some i) k) 24 (fun q hq hz => ?_)) (by omega)
          unfold gvI at hz ⊢
          rw [up2_o (by omega), up2_o (by omega), up2_o (by omega), up2_o (by omega)] at hz
          exact hz
        have hf : Fr τ (up2 τ (k + 96) 4 (τ (k + 96) 4 - 1)) := Fr.of ((T5.refl τ 24 24).up (by omega)) ((SZ.refl τ).up (by omega))
        have h1 : Inv π T S t U st (some i) (some i) x (up2 τ (k + 96) 4 (τ (k + 96) 4 - 1)) := by
          obtain ⟨⟨a1, a2, a3, a4⟩, _, ⟨d1, d2⟩, ⟨k1, k2, k3⟩, f⟩ := id hb
          refine hb.fr hf (a4.up (by omega) (by omega) (by omega)) (d1.fr hf (fun k hk => up2_o (by omega))) (fun q hq _ => Or.inl (up2_o (by omega))) (k1.fr hf (fun c hc => up2_o (by omega))) (fun p hp => (k2 p hp).fr hf (up2_o (by omega)) (up2_o (by omega)) (up2_o (by omega))) (fun p hp => ?_)
          by_cases d : p = k
          · subst d
            obtain ⟨a, z1, z2, z3⟩ := hICk
            exact ⟨a, by omega, z2, z3⟩
          · exact hIC p hp d
        dsimp only
        rw [up2_o (show ¬ (i + 6 = k + 96 ∧ 10 = 4) by omega), up2_o (show ¬ (i + 6 = k + 96 ∧ 13 = 4) by omega), hx]
        cases w : m_firstWaiting (up2 τ (k + 96) 4 (τ (k + 96) 4 - 1)) 4 (nI k) with
        | none =>
          refine inv_addFirst hk (fun p hp hz => ?_) h1
          have := firstWaiting_none w p hp
          rw [hz] at this
          cases this
        | some q =>
          obtain ⟨hq, hw⟩ := firstWaiting_some w
          refine inv_giveValue hk hq hw h1 (fun p hp => ?_)
          by_cases d : p = k
          · subst d
            obtain ⟨a, z1, z2, z3⟩ := ic2_giveValue (v := τ (i + 6) 13) hk hq (by omega) hICk
            exact ⟨a, by omega, z2, z3⟩
          · exact ic2_giveValue2 hk hp d hq (hIC p hp d)
    · rw [if_neg c4]; exact hb
end INV
