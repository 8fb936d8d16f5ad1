/-! ALL OF IT, through a LINE -/
/-- the LINES of the BODIES, as section 1 has them -/
def PL (k a c : Int32) : Prop := (k = 3 ∨ k = 4 ∨ k = 7 ∨ k = 8 → ∃ n, n ≤ 12 ∧ c = nI n) ∧ (k = 6 → a ≠ -4) ∧ (k = 7 → a = 0 ∨ ∃ d, 1 ≤ d ∧ d ≤ 20 ∧ a = nI d) ∧ (k = 10 → ∃ n, n < 8 ∧ a = nI n)
def IP (π : Sg) (B : Nat) : Prop := π 0 0 = nI B ∧ B ≤ 8 ∧ (∀ b, b < 8 → ∃ n, n ≤ 12 ∧ π 1 b = nI n) ∧ ∀ b l, b < 8 → l < 12 → nI l < π 1 b → PL (π 2 (b * 12 + l)) (π 3 (b * 12 + l)) (π 4 (b * 12 + l))
section INV
variable {π τ σ ρ : Sg} {T S t U : Nat} {st : Nat → List Nat} {r m x : Option Nat}
theorem inv_U {U' : Nat} (hU : U ≤ U') (h : Inv π T S t U st r m x τ) : Inv π T S t U' st r m x τ := by
  obtain ⟨a, b, d, ⟨e1, e2, e3⟩, f⟩ := h
  exact ⟨a, b, d, ⟨e1, e2, fun c hc => by
    obtain ⟨n, n1, n2⟩ := e3 c hc
    exact ⟨n, by omega, n2⟩⟩, f⟩
/-- what comes of a step of the turn of i -/
def Out (π : Sg) (i T S t U : Nat) (st : Nat → List Nat) (τ : Sg) (p : Sg × Int32) : Prop := ∃ T' S' st', T ≤ T' ∧ S ≤ S' ∧ Mo τ p.1 ∧ ((p.2 = -4 ∧ Inv π T' S' t U st' none none none p.1) ∨ (p.2 ≠ -4 ∧ Inv π T' S' t U st' (some i) (some i) none p.1 ∧ p.1 100 2 = τ 100 2 ∧ (st' i).length + S = (st i).length + S'))
theorem Out.same {i : Nat} {w : Int32} (hw : w ≠ -4) (h : Inv π T S t U st (some i) (some i) none τ) : Out π i T S t U st τ (τ, w) := ⟨T, S, st, Nat.le_refl _, Nat.le_refl _, Mo.refl τ, Or.inr ⟨hw, h, rfl, rfl⟩⟩
theorem Out.go {i : Nat} {w : Int32} (hw : w ≠ -4) (hm : Mo τ σ) (h : Inv π T S t U st (some i) (some i) none σ) (h1 : σ 100 2 = τ 100 2) : Out π i T S t U st τ (σ, w) := ⟨T, S, st, Nat.le_refl _, Nat.le_refl _, hm, Or.inr ⟨hw, h, h1, rfl⟩⟩
theorem Out.stop {i : Nat} (hm : Mo τ σ) (h : Inv π T S t U st none none none σ) : Out π i T S t U st τ (σ, -4) := ⟨T, S, st, Nat.le_refl _, Nat.le_refl _, hm, Or.inl ⟨rfl, h⟩⟩
theorem Lcl.mo {i : Nat} (hi : i < 24) (h0 : τ (i + 6) 3 = 0) (h : Lcl τ σ i) (h9 : σ 0 9 = τ 0 9) : Mo τ σ := (Fr.loc hi h0 h).mo h9
theorem next_line (τ : Sg) (i : Nat) : m_next τ i (i + 6) 4 = τ (i + 6) 4 + 1 := up2_same _ _ _ _
/-- the next LINE, behind a move -/
theorem out_next {i l : Nat} (hm : Mo τ σ) (h : Inv π T S t U st (some i) (some i) none σ) (hl : l < 12) (h4 : σ (i + 6) 4 = nI l) (h1 : σ 100 2 = τ 100 2) : Out π i T S t U st τ (m_next σ i, 0) := by
  obtain ⟨hi, h0⟩ := h.run
  have hL : Lcl σ (m_next σ i) i := (Lcl.refl σ i).up (Or.inl ⟨rfl, Or.inl rfl⟩)
  refine Out.go (by decide) (hm.trans (hL.mo hi h0 (up2_o (by omega)))) (inv_loc hL ⟨l + 1, by omega, ?_⟩ h) ?_
  · rw [next_line, h4, nI_1]
  · unfold m_next; rw [up2_o (by omega)]; exact h1
/-- what it does for itself, then the next LINE -/
theorem out_locN {i l : Nat} (h : Inv π T S t U st (some i) (some i) none τ) (hL : Lcl τ σ i) (h9 : σ 0 9 = τ 0 9) (h1 : σ 100 2 = τ 100 2) (hl : l < 12) (h4 : τ (i + 6) 4 = nI l) (h44 : σ (i + 6) 4 = τ (i + 6) 4) : Out π i T S t U st τ (m_next σ i, 0) := by
  obtain ⟨hi, h0⟩ := h.run
  exact out_next (hL.mo hi h0 h9) (inv_loc hL ⟨l, by omega, by rw [h44]; exact h4⟩ h) hl (by rw [h44]; exact h4) h1
theorem out_loc {i : Nat} (h : Inv π T S t U st (some i) (some i) none τ) (hL : Lcl τ σ i) (h9 : σ 0 9 = τ 0 9) (h1 : σ 100 2 = τ 100 2) (hl : ∃ l, l ≤ 12 ∧ σ (i + 6) 4 = nI l) : Out π i T S t U st τ (σ, 0) := by
  obtain ⟨hi, h0⟩ := h.run
  exact Out.go (by decide) (hL.mo hi h0 h9) (inv_loc hL hl h) h1
theorem putLocal_other {i a b : Nat} {p v : Int32} (h : a ≠ i + 30) : m_putLocal τ i p v a b = τ a b := by
  unfold m_putLocal
  by_cases c1 : p < 0
  · rw [if_pos c1]
  · rw [if_neg c1]
    by_cases c2 : 4 ≤ p
    · rw [if_pos c2]
    · rw [if_neg c2, up2_a h]
theorem putLocal_loc {i : Nat} {p v : Int32} : Lcl τ (m_putLocal τ i p v) i := fun a b _ h2 _ _ => putLocal_other h2
theorem mo_opn {i : Nat} {sh dl ln : Int32} (h : Inv π T S t U st (some i) (some i) none τ) (hS40 : S < 40) : Mo τ (m_opn τ i sh dl ln).1 := by
  obtain ⟨hi, h0⟩ := h.run
  have e3 := h.1.1.2.2.2.1
  refine ⟨(tk_opn (t := 24)).mt h0 (fun z => absurd z (by omega)), fun p hp => ?_, ?_⟩
  · obtain ⟨f1, f5, _⟩ := h.1.1.2.2.2.2.2.2.2 S (Nat.le_refl S) hS40
    unfold m_opn
    rw [e3, m_at_nI hS40 (by decide)]
    dsimp only
    unfold m_next
    by_cases e : p = S
    · subst e
      rw [f1, f5]
      exact ⟨Or.inr (Or.inl rfl), fun z => absurd rfl z, fun z => absurd z (by decide)⟩
    · have hb : ∀ b, b = 1 ∨ b = 5 → m_begin τ S i sh dl ln (p + 54) b = τ (p + 54) b := fun b _ => begin_other (by omega)
      simp only [up2_o (show ¬ (p + 54 = i + 6 ∧ 1 = 4) by omega), up2_o (show ¬ (p + 54 = i + 6 ∧ 1 = 8) by omega), up2_o (show ¬ (p + 54 = i + 6 ∧ 1 = 7) by omega), up2_o (show ¬ (p + 54 = 0 ∧ 1 = 3) by omega), up2_o (show ¬ (p + 54 = i + 6 ∧ 5 = 4) by omega), up2_o (show ¬ (p + 54 = i + 6 ∧ 5 = 8) by omega), up2_o (show ¬ (p + 54 = i + 6 ∧ 5 = 7) by omega), up2_o (show ¬ (p + 54 = 0 ∧ 5 = 3) by omega), hb 1 (Or.inl rfl), hb 5 (Or.inr rfl)]
      exact ⟨Or.inl rfl, id, fun _ => trivial⟩
  · unfold m_opn
    rw [e3, m_at_nI hS40 (by decide)]
    dsimp only
    unfold m_next
    rw [up2_o (by omega), up2_o (by omega), up2_o (by omega), up2_o (by omega), begin_other (by omega)]
theorem mo_spawn {i : Nat} {a : Int32} (h : Inv π T S t U st (some i) (some i) none τ) : Mo τ (m_spawn τ π i a).1 := by
  obtain ⟨hi, h0⟩ := h.run
  have e1 := h.1.1.2.2.1
  have h24 := h.1.1.1
  refine ⟨(tk_spawn e1 h24).mt h0 (fun z => (h.1.1.2.2.2.2.2.1 T (Nat.le_refl T) z).1), ?_⟩
  unfold m_spawn
  cases e : m_at (τ (i + 6) 7) 40 with
  | none => exact ⟨(Mo.refl τ).2.1, rfl⟩
  | some k =>
    have hk := m_at_lt e (by decide)
    dsimp only
    by_cases c1 : π 0 0 ≤ a
    · rw [if_pos c1]; exact ⟨(Mo.refl τ).2.1, rfl⟩
    · rw [if_neg c1]
      have hM : ∀ p b, (54 ≤ p ∧ p < 94 ∨ p = 0 ∧ b = 9) → m_makeTaskW τ a (nI k) p b = τ p b := fun p b hpb => by
        rcases Nat.lt_or_ge T 24 with z | z
        · exact makeTask_oth e1 z (by omega) (by omega) (by omega)
        · have ew : m_makeTaskW τ a (nI k) = τ := by
            unfold m_makeTaskW m_at
            rw [e1, if_neg (nI_pos (by omega)), if_pos ((nI_leI (by decide) (by omega)).mpr z)]
          rw [ew]
      by_cases c2 : m_makeTask τ = -1
      · rw [if_pos c2]
        exact ⟨Ms.cell (fun p hp => ⟨hM _ _ (by omega), hM _ _ (by omega)⟩), hM _ _ (by omega)⟩
      · rw [if_neg c2]
        dsimp only
        unfold m_next
        refine ⟨Ms.cell (fun p hp => ⟨?_, ?_⟩), ?_⟩
        · rw [up2_o (by omega), up2_o (by omega), up2_o (by omega)]; exact hM _ _ (by omega)
        · rw [up2_o (by omega), up2_o (by omega), up2_o (by omega)]; exact hM _ _ (by omega)
        · rw [up2_o (by omega), up2_o (by omega), up2_o (by omega)]; exact hM _ _ (by omega)
theorem out_opn {i l : Nat} {sh dl ln : Int32} (hsd : sh ≠ 0 → dl = -1) (hdl : dl = -1 ∨ ∃ d, t < d ∧ d ≤ t + 20 ∧ dl = nI d) (hln : ∃ l, l ≤ 12 ∧ ln = nI l) (hl : l < 12) (h4 : τ (i + 6) 4 = nI l)
    (h : Inv π T S t U st (some i) (some i) none τ) : Out π i T S t U st τ (m_opn τ i sh dl ln) := by
  rcases Nat.lt_or_ge S 40 with c | c
  · obtain ⟨σ, g1, g2, g3, g4⟩ := inv_opn c hsd hdl hln ⟨l, hl, h4⟩ h
    have hm := mo_opn (sh := sh) (dl := dl) (ln := ln) h c
    rw [g1] at hm ⊢
    refine ⟨T, S + 1, pushS st i S, Nat.le_refl _, by omega, hm, Or.inr ⟨(show (0 : Int32) ≠ -4 by decide), g2, g4, ?_⟩⟩
    rw [pushS_i, List.length_cons]; omega
  · have e : m_opn τ i sh dl ln = (τ, 3) := by
      unfold m_opn m_at
      rw [h.1.1.2.2.2.1, if_neg (nI_pos (by have := h.1.1.2.1; omega)), if_pos ((nI_leI (by decide) (by have := h.1.1.2.1; omega)).mpr c)]
    rw [e]; exact Out.same (by decide) h
theorem out_stop {i l : Nat} (hl : l < 12) (h4 : τ (i + 6) 4 = nI l) (h : Inv π T S t U st (some i) (some i) none τ) : Out π i T S t U st τ (m_stop τ i) := by
  unfold m_stop
  cases e : m_at (τ (i + 6) 7) 40 with
  | none => exact Out.same (by decide) h
  | some k =>
    have hk := m_at_lt e (by decide)
    obtain ⟨hi, h0⟩ := h.run
    exact out_next (fr_cancel.mo (cancelScope_other (by omega) (by omega) (by omega) (by omega))) (inv_cancel hk h) hl (by rw [cancelScope_other (by omega) (by omega) (by omega) (by omega)]; exact h4) (cancelScope_other (by omega) (by omega) (by omega) (by omega))
/-- a WAIT begins -/
theorem Bw.mo {i : Nat} (hB : Bw τ σ i) (hi : i < 24) (h0 : τ (i + 6) 3 = 0) : Mo τ σ := by
  refine ⟨fun q hq ho b => ?_, Ms.cell (fun p hp => ⟨hB.1 _ _ (by omega) (by omega), hB.1 _ _ (by omega) (by omega)⟩), hB.1 _ _ (by omega) (by omega)⟩
  have : q ≠ i := fun z => (ovr_ne ho).1 (by rw [z]; exact h0)
  exact hB.1 _ _ (by omega) (by omega)
theorem not_wf {q : Nat} {w w' y : Int32} (h : τ (q + 6) 9 = w) (hn : w ≠ w') : m_waitsFor τ q w' y ≠ true := fun z => by
  have := (waitsFor_iff.mp z).2.1
  rw [h] at this; exact hn this
theorem out_sleep {i b l : Nat} {a : Int32} (hb : b < 8) (h2 : τ (i + 6) 2 = nI b) (hl : l < 12) (h4 : τ (i + 6) 4 = nI l) (hlen : nI l < π 1 b) (hk : π 2 (b * 12 + l) = 12) (hnh : m_isHit τ i (-1) = false) (h : Inv π T S t U st (some i) (some i) none τ) : Out π i T S t U st τ (m_sleep τ i a, -4) := by
  obtain ⟨hi, h0⟩ := h.run
  have hB : Bw τ (m_sleep τ i a) i := (bw_Bw τ i 1 (-1)).up (by decide)
  have hR : RS (m_sleep τ i a) none := (rs_bw h.1.2.2.2).up (by omega) (by omega) (by omega)
  obtain ⟨f3, f9, f10, f11, f14, f15⟩ := bw_fields τ i 1 (-1)
  have e : ∀ b, b ≠ 12 → m_sleep τ i a (i + 6) b = m_beginWait τ i 1 (-1) (i + 6) b := fun b hb => up2_o (by omega)
  have e9 : m_sleep τ i a (i + 6) 9 = 1 := by rw [e 9 (by decide)]; exact f9
  refine Out.stop (hB.mo hi h0) (inv_bw hB hR hnh (by rw [e9]; decide) ⟨b, l, hb, hl, h2, h4, hlen, ?_, ?_, ?_, ?_, ?_⟩ (fun c hc z => absurd z (not_wf e9 (by decide))) (fun c hc z => absurd z (not_wf e9 (by decide))) (fun c hc z => absurd z (not_wf e9 (by decide))) h)
  · rw [hk, e9]; exact Or.inl ⟨rfl, rfl⟩
  · rw [e 14 (by decide)]; exact f14
  · rw [e 15 (by decide)]; exact f15
  · rw [e9]; rintro (z | z) <;> exact absurd z (by decide)
  · rw [e9]; intro z; exact absurd z (by decide)
theorem tgt_of {c : Nat} (hc : c < 2) {x : Int32} (hx : x = nI c) : x = 0 ∨ x = 1 := by
  rcases (show c = 0 ∨ c = 1 by omega) with e | e
  · subst e; exact Or.inl hx
  · subst e; exact Or.inr hx
theorem wf_tgt {q c k : Nat} {w : Int32} (hc : c < 2) (hk : k < 2) (h : m_waitsFor τ q w (nI c) = true) (h10 : τ (q + 6) 10 = nI k) (h11 : τ (q + 6) 11 = 0) : c = k := by
  rcases (waitsFor_iff.mp h).2.2 with z | z
  · rw [h10] at z; exact nI_inj (by omega) (by omega) z.symm
  · exact absurd h11 z
theorem out_lck {i b l : Nat} {a : Int32} (hb : b < 8) (h2 : τ (i + 6) 2 = nI b) (hl : l < 12) (h4 : τ (i + 6) 4 = nI l) (hlen : nI l < π 1 b) (hk : π 2 (b * 12 + l) = 13) (hnh : m_isHit τ i (-1) = false) (h : Inv π T S t U st (some i) (some i) none τ) : Out π i T S t U st τ (m_lck τ i a) := by
  obtain ⟨hi, h0⟩ := h.run
  unfold m_lck
  cases e : m_at a 2 with
  | none => exact Out.same (by decide) h
  | some k =>
    have hk2 := m_at_lt e (by decide)
    have hx := m_at_eq e
    dsimp only
    by_cases c1 : τ (k + 94) 1 = nI i
    · rw [if_pos c1]; exact Out.same (by decide) h
    · rw [if_neg c1]
      by_cases c2 : τ (k + 94) 1 = -1
      · rw [if_pos c2]
        exact out_next ((fr_giveTo hk2).mo (giveTo_other (by omega))) (inv_giveTo hk2 c2 h) hl (by rw [giveTo_other (by omega)]; exact h4) (giveTo_other (by omega))
      · rw [if_neg c2]
        have hB := bw_Bw τ i 2 a
        obtain ⟨f3, f9, f10, f11, f14, f15⟩ := bw_fields τ i 2 a
        refine Out.stop (hB.mo hi h0) (inv_bw hB (rs_bw h.1.2.2.2) hnh (by rw [f9]; decide) ⟨b, l, hb, hl, h2, h4, hlen, ?_, f14, f15, fun _ => ⟨?_, f11⟩, ?_⟩ (fun c hc z => ?_) (fun c hc z => absurd z (not_wf f9 (by decide))) (fun c hc z => absurd z (not_wf f9 (by decide))) h)
        · rw [hk, f9]; exact Or.inr (Or.inl ⟨rfl, rfl⟩)
        · unfold tgt01; rw [f10]; exact tgt_of hk2 hx
        · rw [f9]; intro z; exact absurd z (by decide)
        · have := wf_tgt hc hk2 z (by rw [f10]; exact hx) f11
          subst this
          exact ⟨c2, c1⟩
theorem out_fre {i l : Nat} {a : Int32} (hl : l < 12) (h4 : τ (i + 6) 4 = nI l) (h : Inv π T S t U st (some i) (some i) none τ) : Out π i T S t U st τ (m_fre τ i a) := by
  obtain ⟨hi, h0⟩ := h.run
  unfold m_fre
  cases e : m_at a 2 with
  | none => exact Out.same (by decide) h
  | some k =>
    have hk2 := m_at_lt e (by decide)
    dsimp only
    by_cases c1 : τ (k + 94) 1 = nI i
    · rw [if_pos c1]
      exact out_next ((fr_freeLock hk2).mo (freeLock_other (by omega) (by omega) (by omega) (by omega))) (inv_freeLock hk2 h) hl (by rw [freeLock_other (by omega) (by omega) (by omega) (by omega)]; exact h4) (freeLock_other (by omega) (by omega) (by omega) (by omega))
    · rw [if_neg c1]; exact Out.same (by decide) h
theorem out_send {i b l : Nat} {a : Int32} (hU : U < 2 ^ 31 - 1) (hb : b < 8) (h2 : τ (i + 6) 2 = nI b) (hl : l < 12) (h4 : τ (i + 6) 4 = nI l) (hlen : nI l < π 1 b) (hk : π 2 (b * 12 + l) = 15) (hnh : m_isHit τ i (-1) = false) (h : Inv π T S t U st (some i) (some i) none τ) : Out π i T S t (U + 1) st τ (m_send τ i a) := by
  obtain ⟨hi, h0⟩ := h.run
  have hu := inv_U (Nat.le_succ U) h
  unfold m_send
  cases e : m_at a 2 with
  | none => exact Out.same (by decide) hu
  | some k =>
    have hk2 := m_at_lt e (by decide)
    have hx := m_at_eq e
    dsimp only
    by_cases c1 : τ (k + 96) 3 = 0
    · rw [if_pos c1]
      cases f : m_firstWaiting τ 4 a with
      | some q =>
        obtain ⟨hq, hw⟩ := firstWaiting_some f
        have w1 := waits_one hw
        have w2 := (waitsFor_iff.mp hw).2.1
        rw [hx] at hw ⊢
        have hne : q ≠ i := fun z => by rw [z, h0] at w1; exact absurd w1 (by decide)
        refine out_next ((fr_giveValue hq w1 (by rw [w2]; decide)).mo (giveValue_other hk2 (by omega) (by omega) (by omega) (by omega))) (inv_giveValue hk2 hq hw h (fun p hp => ?_)) hl ?_ ?_
        · by_cases d : p = k
          · subst d; exact ic2_giveValue hk2 hq hU (h.2.2.2.1.2.2 p hp)
          · obtain ⟨n, n1, n2, n3⟩ := ic2_giveValue2 (v := τ (i + 6) 5) hk2 hp d hq (h.2.2.2.1.2.2 p hp)
            exact ⟨n, by omega, n2, n3⟩
        · rw [giveValue_other hk2 (by omega) (by omega) (by omega) (by omega)]; exact h4
        · exact giveValue_other hk2 (by omega) (by omega) (by omega) (by omega)
      | none =>
        have fn := firstWaiting_none f
        rw [hx] at fn
        have fn2 : ∀ p, p < 24 → m_waitsFor τ p 4 (nI k) ≠ true := fun p hp z => by rw [fn p hp] at z; cases z
        dsimp only
        by_cases c2 : τ (k + 96) 0 ≤ τ (k + 96) 2
        · rw [if_pos c2]
          have hB : Bw τ (up2 (m_beginWait τ i 3 a) (i + 6) 13 (m_beginWait τ i 3 a (i + 6) 5)) i := (bw_Bw τ i 3 a).up (by decide)
          have hR : RS (up2 (m_beginWait τ i 3 a) (i + 6) 13 (m_beginWait τ i 3 a (i + 6) 5)) none := (rs_bw h.1.2.2.2).up (by omega) (by omega) (by omega)
          obtain ⟨f3, f9, f10, f11, f14, f15⟩ := bw_fields τ i 3 a
          revert hB hR
          have ee : ∀ b, b ≠ 13 → up2 (m_beginWait τ i 3 a) (i + 6) 13 (m_beginWait τ i 3 a (i + 6) 5) (i + 6) b = m_beginWait τ i 3 a (i + 6) b := fun b hb => up2_o (by omega)
          revert ee
          generalize up2 (m_beginWait τ i 3 a) (i + 6) 13 (m_beginWait τ i 3 a (i + 6) 5) = σ
          intro ee hB hR
          rw [← ee 9 (by decide)] at f9
          rw [← ee 10 (by decide)] at f10
          rw [← ee 11 (by decide)] at f11
          rw [← ee 14 (by decide)] at f14
          rw [← ee 15 (by decide)] at f15
          refine Out.stop (hB.mo hi h0) (inv_U (Nat.le_succ U) (inv_bw hB hR hnh (by rw [f9]; decide) ⟨b, l, hb, hl, h2, h4, hlen, ?_, f14, f15, fun _ => ⟨?_, f11⟩, ?_⟩ (fun c hc z => absurd z (not_wf f9 (by decide))) (fun c hc z => ?_) (fun c hc z => absurd z (not_wf f9 (by decide))) h))
          · rw [hk, f9]; exact Or.inr (Or.inr (Or.inl ⟨rfl, rfl⟩))
          · unfold tgt01; rw [f10]; exact tgt_of hk2 hx
          · rw [f9]; intro z; exact absurd z (by decide)
          · have := wf_tgt hc hk2 z (by rw [f10]; exact hx) f11
            subst this
            exact ⟨c2, c1, fn2⟩
        · rw [if_neg c2]
          exact out_next ((fr_addLast hk2).mo (addLast_other (by omega) (by omega))) (inv_addLast hk2 c2 fn2 hu) hl (by rw [addLast_other (by omega) (by omega)]; exact h4) (addLast_other (by omega) (by omega))
    · rw [if_neg c1]; exact Out.same (by decide) hu
theorem hasValue_false {k : Nat} (hk : k < 2) (h : m_hasValue τ (nI k) ≠ true) : ¬ 0 < τ (k + 96) 2 ∧ ∀ p, p < 24 → m_waitsFor τ p 3 (nI k) ≠ true := by
  unfold m_hasValue at h
  rw [m_at_nI hk (by decide)] at h
  dsimp only at h
  by_cases c : 0 < τ (k + 96) 2
  · rw [if_pos c] at h; exact absurd rfl h
  · rw [if_neg c] at h
    refine ⟨c, fun p hp z => ?_⟩
    cases f : m_firstWaiting τ 3 (nI k) with
    | none => have := firstWaiting_none f p hp; rw [z] at this; cases this
    | some q => rw [f] at h; exact absurd rfl h
theorem hasValue_at {x : Int32} (h : m_hasValue τ x = true) : ∃ k, k < 2 ∧ x = nI k := by
  unfold m_hasValue at h
  cases e : m_at x 2 with
  | none => rw [e] at h; cases h
  | some k => exact ⟨k, m_at_lt e (by decide), m_at_eq e⟩
theorem out_take {i b l : Nat} {a : Int32} (hU : U < 2 ^ 31 - 1) (hb : b < 8) (h2 : τ (i + 6) 2 = nI b) (hl : l < 12) (h4 : τ (i + 6) 4 = nI l) (hlen : nI l < π 1 b) (hk : π 2 (b * 12 + l) = 16) (hnh : m_isHit τ i (-1) = false) (h : Inv π T S t U st (some i) (some i) none τ) : Out π i T S t (U + 1) st τ (m_take τ i a) := by
  obtain ⟨hi, h0⟩ := h.run
  have hu := inv_U (Nat.le_succ U) h
  unfold m_take
  by_cases c : m_hasValue τ a = true
  · rw [if_pos c]
    obtain ⟨k, hk2, hx⟩ := hasValue_at c
    rw [hx]
    have hV := inv_takeValue hk2 hU h
    have hm : Mo τ (m_takeValueW τ (nI k)) := fr_takeValue.mo (takeValue_other hk2 (by omega) (by omega) (by omega) (by omega) (by omega))
    have hL : Lcl (m_takeValueW τ (nI k)) (up2 (m_takeValueW τ (nI k)) (i + 6) 5 (m_takeValue τ (nI k))) i := (Lcl.refl _ i).up (Or.inl ⟨rfl, Or.inr rfl⟩)
    have h44 : m_takeValueW τ (nI k) (i + 6) 4 = nI l := by rw [takeValue_other hk2 (by omega) (by omega) (by omega) (by omega) (by omega)]; exact h4
    obtain ⟨hi', h0'⟩ := hV.run
    refine out_next (hm.trans (hL.mo hi' h0' (up2_o (by omega)))) (inv_loc hL ⟨l, by omega, by rw [up2_o (by omega)]; exact h44⟩ hV) hl (by rw [up2_o (by omega)]; exact h44) ?_
    rw [up2_o (by omega)]; exact takeValue_other hk2 (by omega) (by omega) (by omega) (by omega) (by omega)
  · rw [if_neg c]
    cases e : m_at a 2 with
    | none => exact Out.same (by decide) hu
    | some k =>
      have hk2 := m_at_lt e (by decide)
      have hx := m_at_eq e
      dsimp only
      by_cases c1 : τ (k + 96) 3 = 0
      · rw [if_pos c1]
        rw [hx] at c
        obtain ⟨g1, g2⟩ := hasValue_false hk2 c
        have hB := bw_Bw τ i 4 a
        obtain ⟨f3, f9, f10, f11, f14, f15⟩ := bw_fields τ i 4 a
        refine Out.stop (hB.mo hi h0) (inv_U (Nat.le_succ U) (inv_bw hB (rs_bw h.1.2.2.2) hnh (by rw [f9]; decide) ⟨b, l, hb, hl, h2, h4, hlen, ?_, f14, f15, ?_, fun _ => Or.inl ⟨?_, f11⟩⟩ (fun c hc z => absurd z (not_wf f9 (by decide))) (fun c hc z => absurd z (not_wf f9 (by decide))) (fun c hc z => ?_) h))
        · rw [hk, f9]; exact Or.inr (Or.inr (Or.inr ⟨Or.inl rfl, rfl⟩))
        · rw [f9]; rintro (z | z) <;> exact absurd z (by decide)
        · unfold tgt01; rw [f10]; exact tgt_of hk2 hx
        · have := wf_tgt hc hk2 z (by rw [f10]; exact hx) f11
          subst this
          exact ⟨g1, g2⟩
      · rw [if_neg c1]; exact Out.same (by decide) hu
theorem out_pick1 {i l k : Nat} (hU : U < 2 ^ 31 - 1) (hk2 : k < 2) (hl : l < 12) (h4 : τ (i + 6) 4 = nI l) (h : Inv π T S t U st (some i) (some i) none τ) : Out π i T S t (U + 1) st τ (m_pick1 τ i (nI k), 0) := by
  have hV := inv_takeValue hk2 hU h
  have hm : Mo τ (m_takeValueW τ (nI k)) := fr_takeValue.mo (takeValue_other hk2 (by omega) (by omega) (by omega) (by omega) (by omega))
  obtain ⟨hi', h0'⟩ := hV.run
  have hL : Lcl (m_takeValueW τ (nI k)) (m_putLocal (up2 (m_takeValueW τ (nI k)) (i + 6) 5 (m_takeValue τ (nI k))) i 3 (nI k)) i := ((Lcl.refl _ i).up (Or.inl ⟨rfl, Or.inr rfl⟩)).trans putLocal_loc
  have h44 : m_putLocal (up2 (m_takeValueW τ (nI k)) (i + 6) 5 (m_takeValue τ (nI k))) i 3 (nI k) (i + 6) 4 = nI l := by rw [putLocal_other (by omega), up2_o (by omega), takeValue_other hk2 (by omega) (by omega) (by omega) (by omega) (by omega)]; exact h4
  unfold m_pick1
  refine out_next (hm.trans (hL.mo hi' h0' ?_)) (inv_loc hL ⟨l, by omega, h44⟩ hV) hl h44 ?_
  · rw [putLocal_other (by omega), up2_o (by omega)]
  · rw [putLocal_other (by omega), up2_o (by omega)]; exact takeValue_other hk2 (by omega) (by omega) (by omega) (by omega) (by omega)
theorem out_pick {i b l : Nat} (hU : U < 2 ^ 31 - 1) (hb : b < 8) (h2 : τ (i + 6) 2 = nI b) (hl : l < 12) (h4 : τ (i + 6) 4 = nI l) (hlen : nI l < π 1 b) (hk : π 2 (b * 12 + l) = 18) (hnh : m_isHit τ i (-1) = false) (h : Inv π T S t U st (some i) (some i) none τ) : Out π i T S t (U + 1) st τ (m_pick τ i) := by
  obtain ⟨hi, h0⟩ := h.run
  have hu := inv_U (Nat.le_succ U) h
  unfold m_pick
  by_cases c0 : m_hasValue τ 0 = true
  · rw [if_pos c0]; exact out_pick1 (k := 0) hU (by decide) hl h4 h
  rw [if_neg c0]
  by_cases c1 : m_hasValue τ 1 = true
  · rw [if_pos c1]; exact out_pick1 (k := 1) hU (by decide) hl h4 h
  rw [if_neg c1]
  by_cases c2 : m_allEnded τ = true
  · rw [if_pos c2]; exact Out.same (by decide) hu
  rw [if_neg c2]
  have hB : Bw τ (up2 (m_beginWait τ i 4 (-1)) (i + 6) 11 1) i := (bw_Bw τ i 4 (-1)).up (by decide)
  have hR : RS (up2 (m_beginWait τ i 4 (-1)) (i + 6) 11 1) none := (rs_bw h.1.2.2.2).up (by omega) (by omega) (by omega)
  obtain ⟨f3, f9, f10, f11, f14, f15⟩ := bw_fields τ i 4 (-1)
  have ee : ∀ b, b ≠ 11 → up2 (m_beginWait τ i 4 (-1)) (i + 6) 11 1 (i + 6) b = m_beginWait τ i 4 (-1) (i + 6) b := fun b hb => up2_o (by omega)
  have e11 : up2 (m_beginWait τ i 4 (-1)) (i + 6) 11 1 (i + 6) 11 = 1 := up2_same _ _ _ _
  revert hB hR ee e11
  generalize up2 (m_beginWait τ i 4 (-1)) (i + 6) 11 1 = σ
  intro hB hR ee e11
  rw [← ee 9 (by decide)] at f9
  rw [← ee 14 (by decide)] at f14
  rw [← ee 15 (by decide)] at f15
  refine Out.stop (hB.mo hi h0) (inv_U (Nat.le_succ U) (inv_bw hB hR hnh (by rw [f9]; decide) ⟨b, l, hb, hl, h2, h4, hlen, ?_, f14, f15, ?_, fun _ => Or.inr ?_⟩ (fun c hc z => absurd z (not_wf f9 (by decide))) (fun c hc z => absurd z (not_wf f9 (by decide))) (fun c hc _ => ?_) h))
  · rw [hk, f9]; exact Or.inr (Or.inr (Or.inr ⟨Or.inr rfl, rfl⟩))
  · rw [f9]; rintro (z | z) <;> exact absurd z (by decide)
  · rw [e11]; decide
  · rcases (show c = 0 ∨ c = 1 by omega) with e | e
    · subst e; exact hasValue_false (by decide) c0
    · subst e; exact hasValue_false (by decide) c1
theorem out_nd {i l : Nat} {a : Int32} (hl : l < 12) (h4 : τ (i + 6) 4 = nI l) (h : Inv π T S t U st (some i) (some i) none τ) : Out π i T S t U st τ (m_nd τ i a) := by
  obtain ⟨hi, h0⟩ := h.run
  unfold m_nd
  cases e : m_at a 2 with
  | none => exact Out.same (by decide) h
  | some k =>
    have hk2 := m_at_lt e (by decide)
    have hx := m_at_eq e
    dsimp only
    by_cases c1 : τ (k + 96) 3 = 0
    · rw [if_pos c1, hx]
      exact out_next (fr_putEnd.mo (putEnd_other hk2 (by omega) (by omega) (by omega) (by omega))) (inv_putEnd hk2 h) hl (by rw [putEnd_other hk2 (by omega) (by omega) (by omega) (by omega)]; exact h4) (putEnd_other hk2 (by omega) (by omega) (by omega) (by omega))
    · rw [if_neg c1]; exact Out.same (by decide) h
end INV
