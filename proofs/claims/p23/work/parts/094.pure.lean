/-! ALL OF IT, as the one whose turn it is begins to WAIT -/
/-- nobody ends, nobody begins, nobody moves -/
def Fs (τ σ : Sg) : Prop := ∀ q, q < 24 → (ali σ q ↔ ali τ q) ∧ (ovr σ q ↔ ovr τ q) ∧ (σ (q + 6) 3 = 3 ↔ τ (q + 6) 3 = 3) ∧ σ (q + 6) 6 = τ (q + 6) 6 ∧ (τ (q + 6) 3 = 3 → σ (q + 6) 5 = τ (q + 6) 5)
def Ss (τ σ : Sg) : Prop := ∀ k, k < 40 → (τ (k + 54) 5 ≠ 0 → σ (k + 54) 5 ≠ 0) ∧ ∀ b, b = 2 ∨ b = 10 ∨ b = 11 ∨ b = 12 ∨ b = 13 → σ (k + 54) b = τ (k + 54) b
theorem E1.fs {τ σ : Sg} {S : Nat} {x : Option Nat} (h : E1 τ S x) (hS : S ≤ 40) (hf : Fs τ σ) (hs : Ss τ σ) (hl : ∀ k, k < 40 → m_isLive σ k = m_isLive τ k) : E1 σ S x := fun q hq => by
  obtain ⟨f1, f2, f3, f4, f5⟩ := hf q hq
  rw [f4]
  rcases h q hq with a | ⟨k, a1, a2, ⟨o, a3, a4⟩, a5⟩
  · exact Or.inl a
  · obtain ⟨s2, s3⟩ := hs k (by omega)
    refine Or.inr ⟨k, a1, a2, ⟨o, a3, ?_⟩, fun z => ?_⟩
    · rw [s3 2 (by omega)]; exact a4
    · rw [hl k (by omega)]
      exact a5 (z.elim (fun y => Or.inl (f1.mp y)) Or.inr)
theorem E2.fs {τ σ : Sg} {S : Nat} {x : Option Nat} (h : E2 τ S x) (hS : S ≤ 40) (hf : Fs τ σ) (hs : Ss τ σ) : E2 σ S x := fun k hk => by
  obtain ⟨s2, s3⟩ := hs k (by omega)
  have e1 : cnt (isI σ k) 24 = cnt (isI τ k) 24 := cnt_congr 24 (fun q hq => by
    unfold isI; rw [(hf q hq).2.2.2.1])
  have e2 : cnt (ovI σ x k) 24 = cnt (ovI τ x k) 24 := cnt_congr 24 (fun q hq => by
    unfold ovI; rw [decide_eq_decide, (hf q hq).2.2.2.1, (hf q hq).2.1])
  have e3 : cnt (faI σ x k) 24 = cnt (faI τ x k) 24 := cnt_congr 24 (fun q hq => by
    unfold faI; rw [decide_eq_decide, (hf q hq).2.2.2.1, (hf q hq).2.2.1])
  rw [e1, e2, e3, s3 10 (by omega), s3 11 (by omega), s3 12 (by omega)]
  exact h k hk
theorem E3.fs {τ σ : Sg} {S : Nat} {x : Option Nat} (h : E3 τ S x) (hS : S ≤ 40) (hf : Fs τ σ) (hs : Ss τ σ) : E3 σ S x := fun k hk => by
  obtain ⟨s2, s3⟩ := hs k (by omega)
  rw [s3 13 (by omega)]
  rcases h k hk with ⟨a1, a2⟩ | ⟨q, a1, a2, a3, a4, a5, a6⟩
  · refine Or.inl ⟨a1, fun q hq h1 h2 => a2 q hq ?_ ?_⟩
    · rw [← (hf q hq).2.2.2.1]; exact h1
    · exact (hf q hq).2.2.1.mp h2
  · refine Or.inr ⟨q, a1, a2, ?_, ?_, a5, s2 a6⟩
    · rw [(hf q a1).2.2.2.1]; exact a3
    · exact (hf q a1).2.2.1.mpr a4
theorem E5.fs {τ σ : Sg} (h : E5 τ) (hf : Fs τ σ) : E5 σ := fun q hq h3 => by
  have e := (hf q hq).2.2.1.mp h3
  rw [(hf q hq).2.2.2.2 e]
  exact h q hq e
def Bw (τ σ : Sg) (i : Nat) : Prop := (∀ a b, ¬ (a = i + 6 ∧ (b = 3 ∨ 9 ≤ b)) → ¬ (a = 0 ∧ b = 11) → σ a b = τ a b) ∧ σ (i + 6) 3 = 1
theorem bw_Bw (τ : Sg) (i : Nat) (w x : Int32) : Bw τ (m_beginWait τ i w x) i := ⟨fun a b h1 h2 => bw_other (by omega) h2, (bw_fields τ i w x).1⟩
theorem Bw.up {τ σ : Sg} {i j : Nat} {v : Int32} (h : Bw τ σ i) (hj : 9 ≤ j) : Bw τ (up2 σ (i + 6) j v) i := ⟨fun a b h1 h2 => by rw [up2_o (by omega)]; exact h.1 a b h1 h2, by rw [up2_o (by omega)]; exact h.2⟩
theorem Bw.fs {τ σ : Sg} {i : Nat} (h : Bw τ σ i) (h0 : τ (i + 6) 3 = 0) : Fs τ σ := fun q hq => by
  by_cases e : q = i
  · subst e
    unfold ali ovr
    rw [h.2, h0]
    refine ⟨⟨fun _ => Or.inl rfl, fun _ => Or.inr rfl⟩, ⟨fun z => ?_, fun z => ?_⟩, ⟨fun z => absurd z (by decide), fun z => absurd z (by decide)⟩, h.1 _ _ (by omega) (by omega), fun _ => h.1 _ _ (by omega) (by omega)⟩
    · rcases z with z | z | z <;> exact absurd z (by decide)
    · rcases z with z | z | z <;> exact absurd z (by decide)
  · unfold ali ovr
    rw [h.1 (q + 6) 3 (by omega) (by omega)]
    exact ⟨Iff.rfl, Iff.rfl, Iff.rfl, h.1 _ _ (by omega) (by omega), fun _ => h.1 _ _ (by omega) (by omega)⟩
theorem Ss.cell {τ σ : Sg} (h : ∀ k, k < 40 → ∀ b, σ (k + 54) b = τ (k + 54) b) : Ss τ σ := fun k hk => by
  rw [h k hk 5]
  exact ⟨id, fun b _ => h k hk b⟩
theorem Bw.ss {τ σ : Sg} {i : Nat} (h : Bw τ σ i) (hi : i < 24) : Ss τ σ := Ss.cell (fun k hk b => h.1 _ _ (by omega) (by omega))
theorem Bw.wf {τ σ : Sg} {i q : Nat} {w x : Int32} (h : Bw τ σ i) (hne : q ≠ i) : m_waitsFor σ q w x = m_waitsFor τ q w x := by
  unfold m_waitsFor m_waitsAt
  rw [h.1 (q + 6) 3 (by omega) (by omega), h.1 (q + 6) 9 (by omega) (by omega), h.1 (q + 6) 10 (by omega) (by omega), h.1 (q + 6) 11 (by omega) (by omega)]
theorem IT.bw {τ σ : Sg} {T S i : Nat} (h : IT τ T S) (hi : i < T) (hB : Bw τ σ i) : IT σ T S := by
  obtain ⟨a, b, c, d, e, f, g, j⟩ := h
  refine ⟨a, b, by rw [hB.1 _ _ (by omega) (by omega)]; exact c, by rw [hB.1 _ _ (by omega) (by omega)]; exact d, fun q hq => ?_, fun q h1 h2 => ?_, fun k hk => ?_, fun k h1 h2 => ?_⟩
  · by_cases z : q = i
    · subst z; exact Or.inl (Or.inr hB.2)
    · unfold ali ovr; rw [hB.1 (q + 6) 3 (by omega) (by omega)]; exact e q hq
  · rw [hB.1 (q + 6) 3 (by omega) (by omega), hB.1 (q + 6) 6 (by omega) (by omega), hB.1 (q + 6) 7 (by omega) (by omega), hB.1 (q + 6) 8 (by omega) (by omega), hB.1 (q + 6) 9 (by omega) (by omega), hB.1 (q + 6) 4 (by omega) (by omega)]
    exact f q h1 h2
  · rw [hB.1 (k + 54) 1 (by omega) (by omega)]; exact g k hk
  · rw [hB.1 (k + 54) 1 (by omega) (by omega), hB.1 (k + 54) 5 (by omega) (by omega), hB.1 (k + 54) 10 (by omega) (by omega), hB.1 (k + 54) 11 (by omega) (by omega), hB.1 (k + 54) 12 (by omega) (by omega), hB.1 (k + 54) 13 (by omega) (by omega)]
    exact j k h1 h2
section INV
variable {π τ σ : Sg} {T S t U : Nat} {st : Nat → List Nat}
/-- the way outwards, and who is HIT, if the SCOPES are as they were -/
theorem Bw.hit {i q : Nat} (hB : Bw τ σ i) (hi : i < 24) : m_isHit σ q (-1) = m_isHit τ q (-1) := isHit_congr (fun k hk b _ => hB.1 _ _ (by omega) (by omega)) (hB.1 _ _ (by omega) (by omega)) (hB.1 _ _ (by omega) (by omega))
theorem inv_bw {i : Nat} (hB : Bw τ σ i) (hR : RS σ none) (hnh : m_isHit τ i (-1) = false) (h9 : σ (i + 6) 9 ≠ 5) (hW : ∃ b l, b < 8 ∧ l < 12 ∧ τ (i + 6) 2 = nI b ∧ τ (i + 6) 4 = nI l ∧ WA σ π i b l)
    (hK : ∀ c, c < 2 → m_waitsFor σ i 2 (nI c) = true → τ (c + 94) 1 ≠ -1 ∧ τ (c + 94) 1 ≠ nI i)
    (hC3 : ∀ c, c < 2 → m_waitsFor σ i 3 (nI c) = true → τ (c + 96) 0 ≤ τ (c + 96) 2 ∧ τ (c + 96) 3 = 0 ∧ ∀ p, p < 24 → m_waitsFor τ p 4 (nI c) ≠ true)
    (hC4 : ∀ c, c < 2 → m_waitsFor σ i 4 (nI c) = true → ¬ 0 < τ (c + 96) 2 ∧ ∀ p, p < 24 → m_waitsFor τ p 3 (nI c) ≠ true)
    (h : Inv π T S t U st (some i) (some i) none τ) : Inv π T S t U st none none none σ := by
  obtain ⟨hi, h0⟩ := h.run
  obtain ⟨⟨a1, a2, a3, a4⟩, ⟨b1, b2, b3, b4, b5, b6⟩, ⟨d1, d2⟩, ⟨e1, e2, e3⟩, f⟩ := id h
  have hT := a1.1
  have hS := a1.2.1
  have hiT := a1.ltA hi (Or.inl h0)
  have hf := hB.fs h0
  have hs := hB.ss hi
  have sc : ∀ k, k < 40 → ∀ b, σ (k + 54) b = τ (k + 54) b := fun k hk b => hB.1 _ _ (by omega) (by omega)
  refine ⟨⟨a1.bw hiT hB, fun k hk => ?_, ⟨⟨fun o ho => ?_, fun k hk hl => ?_⟩, fun q hq hn => ?_⟩, hR⟩, ⟨b1.fs hS hf hs (fun k hk => by unfold m_isLive; rw [sc k hk]), b2.fs hS hf hs, b3.fs hS hf hs, fun k hk h1 => ?_, b5.fs hf, ?_⟩, ⟨fun q hq h1 h5 => ?_, fun q hq => ?_⟩, ⟨fun c hc => ?_, fun c hc => ?_, fun c hc => ?_⟩, ⟨?_, f.2.1, fun k hk => ?_⟩⟩
  · obtain ⟨o, o1, o2, o3⟩ := a2 k hk
    refine ⟨o, o1, by rw [sc k (by omega)]; exact o2, ?_⟩
    rw [sc k (by omega), sc k (by omega), hB.1 (o + 6) 6 (by omega) (by omega)]; exact o3
  · have hlt : ∀ k ∈ st o, k < 40 := Chain.lt _ _ (a3.1.1 o ho).1
    refine (a3.1.1 o ho).keep (hB.1 _ _ (by omega) (by omega)) (hB.1 _ _ (by omega) (by omega)) (fun k hk => ⟨sc k (hlt k hk) 1, sc k (hlt k hk) 2, sc k (hlt k hk) 3⟩) (fun _ => ?_)
    by_cases e : o = i
    · subst e
      rw [mode_i]
      unfold m_mode
      rw [if_neg (by intro z; cases z), if_neg h9]
    · rw [mode_ne e]
      unfold m_mode
      rw [hB.1 (o + 6) 9 (by omega) (by omega), hB.1 (o + 6) 3 (by omega) (by omega)]
  · unfold m_isLive at hl
    rw [sc k hk 1] at hl
    exact a3.1.2 k hk hl
  · exact a3.2 q hq (fun z => hn ((hf q hq).1.mpr z))
  · rw [sc k (by omega)] at h1
    obtain ⟨q, q1, q2, q3⟩ := b4 k hk h1
    exact ⟨q, q1, by rw [(hf q q1).2.2.2.1]; exact q2, q3.elim (fun y => Or.inl ((hf q q1).1.mpr y)) Or.inr⟩
  · exact ⟨fun k hk => by rw [sc k hk]; exact b6.1 k hk, fun k hk => by rw [sc k (by omega)]; exact b6.2 k hk⟩
  · rw [hB.hit hi]
    by_cases e : q = i
    · subst e; exact hnh
    · rw [hB.1 (q + 6) 3 (by omega) (by omega)] at h1
      rw [hB.1 (q + 6) 9 (by omega) (by omega)] at h5
      exact d1 q hq h1 h5
  · by_cases e : q = i
    · subst e
      obtain ⟨b, l, w1, w2, w3, w4, w5⟩ := hW
      refine ⟨b, w1, by rw [hB.1 _ _ (by omega) (by omega)]; exact w3, fun _ => ⟨l, by omega, by rw [hB.1 _ _ (by omega) (by omega)]; exact w4, fun _ _ _ => w2, fun _ => Or.inr ⟨h9, w5⟩⟩⟩
    · obtain ⟨b, w1, w2, w3⟩ := d2 q hq
      have ee : ∀ b, σ (q + 6) b = τ (q + 6) b := fun b => hB.1 _ _ (by omega) (by omega)
      refine ⟨b, w1, by rw [ee]; exact w2, fun ha => ?_⟩
      unfold ali at ha
      rw [ee 3] at ha
      obtain ⟨l, g1, g2, g3, g4⟩ := w3 ha
      refine ⟨l, g1, by rw [ee]; exact g2, fun _ => ?_, fun hs => ?_⟩
      · rw [ee]; exact g3 (fun z => e (Option.some.inj z).symm)
      · rw [ee] at hs
        rw [ee 9]
        rcases g4 hs with y | y
        · exact Or.inl y
        · exact Or.inr ⟨y.1, y.2.same ee⟩
  · rw [hB.1 (c + 94) 1 (by omega) (by omega)]
    rcases e1 c hc with ⟨y1, y2⟩ | ⟨p, y1, y2, y3, y4⟩
    · refine Or.inl ⟨y1, fun q hq z => ?_⟩
      by_cases e : q = i
      · subst e; exact absurd y1 (hK c hc z).1
      · rw [hB.wf e] at z; exact y2 q hq z
    · refine Or.inr ⟨p, y1, y2, y3.elim (fun y => Or.inl ((hf p y1).1.mpr y)) Or.inr, fun z => ?_⟩
      by_cases e : p = i
      · subst e; exact absurd y2 (hK c hc z).2
      · rw [hB.wf e] at z; exact y4 z
  · obtain ⟨z0, n, z1, z2, z3, z4⟩ := e2 c hc
    refine ⟨by rw [hB.1 _ _ (by omega) (by omega)]; exact z0, n, z1, by rw [hB.1 _ _ (by omega) (by omega)]; exact z2, fun q hq hw => ?_, fun q hq hw => ?_⟩
    · rw [hB.1 (c + 96) 3 (by omega) (by omega)]
      by_cases e : q = i
      · subst e
        obtain ⟨y1, y2, y3⟩ := hC3 c hc hw
        refine ⟨?_, y2, fun p hp hv => ?_⟩
        · rw [z0, z2] at y1
          exact (nI_leI (a := 1) (by decide) (by omega)).mp y1
        · by_cases e2 : p = q
          · subst e2
            have v1 := (waitsFor_iff.mp hw).2.1
            have v2 := (waitsFor_iff.mp hv).2.1
            rw [v1] at v2
            exact absurd v2 (by decide)
          · rw [hB.wf e2] at hv; exact y3 p hp hv
      · rw [hB.wf e] at hw
        obtain ⟨y1, y2, y3⟩ := z3 q hq hw
        refine ⟨y1, y2, fun p hp hv => ?_⟩
        by_cases e2 : p = i
        · subst e2; exact (hC4 c hc hv).2 q hq hw
        · rw [hB.wf e2] at hv; exact y3 p hp hv
    · by_cases e : q = i
      · subst e
        have y := (hC4 c hc hw).1
        rw [z2] at y
        rcases Nat.lt_or_ge 0 n with x | x
        · exact absurd ((nI_ltI (a := 0) (by decide) (by omega)).mpr x) y
        · omega
      · rw [hB.wf e] at hw; exact z4 q hq hw
  · obtain ⟨n, z1, z2, z3⟩ := e3 c hc
    refine ⟨n, z1, by rw [hB.1 _ _ (by omega) (by omega)]; exact z2, Nat.le_trans (cnt_mono2 24 (fun q hq hz => ?_)) z3⟩
    unfold gvI at hz ⊢
    rw [decide_eq_true_iff] at hz ⊢
    obtain ⟨v3, v14, v9, v10, _⟩ := hz
    by_cases e : q = i
    · subst e; rw [hB.2] at v3; exact absurd v3 (by decide)
    · have ee : ∀ b, σ (q + 6) b = τ (q + 6) b := fun b => hB.1 _ _ (by omega) (by omega)
      rw [ee] at v3 v14 v9 v10
      exact ⟨v3, v14, v9, v10, fun z => e (Option.some.inj z).symm⟩
  · rw [hB.1 _ _ (by omega) (by omega)]; exact f.1
  · unfold m_isLive
    rw [sc k (by omega) 6, sc k (by omega) 7, sc k (by omega) 1, sc k (by omega) 5]
    exact f.2.2 k hk
end INV
