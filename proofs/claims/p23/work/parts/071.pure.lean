/-! WHO IS HIT hangs on the SCOPES and on where a TASK is; a CANCEL wakes just those -/
theorem hit_congr {τ σ : Sg} {also : Int32} (h : ∀ k, k < 40 → ∀ b, (b = 1 ∨ b = 4 ∨ b = 5 ∨ b = 6) → τ (k + 54) b = σ (k + 54) b) : ∀ (n : Nat) (x : Int32), m_hit τ also n x = m_hit σ also n x := by
  intro n
  induction n with
  | zero => intro x; rfl
  | succ n ih =>
    intro x
    unfold m_hit
    by_cases c1 : x < 0
    · rw [if_pos c1, if_pos c1]
    · rw [if_neg c1, if_neg c1]
      by_cases c2 : 40 ≤ x
      · rw [if_pos c2, if_pos c2]
      · rw [if_neg c2, if_neg c2]
        have hk : x.toNatClampNeg < 40 := in_lt (in_of c1 c2 (by decide))
        rw [h _ hk 1 (Or.inl rfl), h _ hk 4 (Or.inr (Or.inl rfl)), h _ hk 5 (Or.inr (Or.inr (Or.inl rfl))), h _ hk 6 (Or.inr (Or.inr (Or.inr rfl))), ih]
theorem isHit_congr {τ σ : Sg} {also : Int32} {i : Nat} (h : ∀ k, k < 40 → ∀ b, (b = 1 ∨ b = 4 ∨ b = 5 ∨ b = 6) → τ (k + 54) b = σ (k + 54) b) (h6 : τ (i + 6) 6 = σ (i + 6) 6) (h7 : τ (i + 6) 7 = σ (i + 6) 7) : m_isHit τ i also = m_isHit σ i also := by
  unfold m_isHit
  rw [h6, h7, hit_congr h]
theorem isHit_mr {τ : Sg} {also : Int32} {i j : Nat} (hj : j < 24) : m_isHit (m_makeReady τ j) i also = m_isHit τ i also := by
  refine isHit_congr (fun k hk b hb => ?_) ?_ ?_
  · rw [mr_other (by omega) (by omega) (by omega)]
  · rw [mr_other (by omega) (by omega) (by omega)]
  · rw [mr_other (by omega) (by omega) (by omega)]
/-- what a CANCEL does to the TASKS -/
theorem wake_spec : ∀ (n j : Nat) (σ : Sg) (L : List Nat) (r : Option Nat), n + j = 24 → ReadyIs σ L r → (∀ i, r = some i → σ (i + 6) 3 = 0) →
    (∃ L', ReadyIs (m_wakeHit n j σ) L' r) ∧ (∀ i, i < 24 → m_wakeHit n j σ (i + 6) 3 = if j ≤ i ∧ σ (i + 6) 3 = 1 ∧ σ (i + 6) 9 ≠ 5 ∧ m_isHit σ i (-1) = true then 0 else σ (i + 6) 3) ∧
    (∀ a b, a ≠ 5 → ¬ (a = 0 ∧ b = 7) → ¬ (6 ≤ a ∧ a < 30 ∧ b = 3) → m_wakeHit n j σ a b = σ a b) := by
  intro n
  induction n with
  | zero =>
    intro j σ L r hn h _
    refine ⟨⟨L, h⟩, fun i hi => ?_, fun a b _ _ _ => rfl⟩
    rw [if_neg (by omega)]; rfl
  | succ n ih =>
    intro j σ L r hn h hr
    have hj : j < 24 := by omega
    -- one step
    by_cases hc : σ (j + 6) 3 = 1 ∧ σ (j + 6) 9 ≠ 5 ∧ m_isHit σ j (-1) = true
    · have e : m_wakeHit (n + 1) j σ = m_wakeHit n (j + 1) (m_makeReady σ j) := by
        show m_wakeHit n (j + 1) _ = _
        rw [if_pos hc.1, if_neg hc.2.1, if_pos hc.2.2]
      have hs : σ (j + 6) 3 ≠ 0 := by rw [hc.1]; decide
      have hrj : r ≠ some j := fun q => hs (hr j q)
      have h1 := ready_mr h hj hs hrj
      have hl := h.lt hj (h.not_in hs)
      obtain ⟨g1, g2, g3⟩ := ih (j + 1) (m_makeReady σ j) (L ++ [j]) r (by omega) h1 (fun i hi => by
        by_cases q : i = j
        · subst q; exact absurd hi hrj
        · rw [mr_other (by omega) (by omega) (by omega)]; exact hr i hi)
      rw [e]
      refine ⟨g1, fun i hi => ?_, fun a b ha hb hab => ?_⟩
      · rw [g2 i hi]
        by_cases q : i = j
        · subst q
          rw [if_neg (by omega), mr_state h.1 hl, if_pos ⟨Nat.le_refl _, hc⟩]
        · rw [mr_other (by omega) (by omega) (by omega), mr_other (by omega) (by omega) (by omega), isHit_mr hj]
          by_cases z : j ≤ i ∧ σ (i + 6) 3 = 1 ∧ σ (i + 6) 9 ≠ 5 ∧ m_isHit σ i (-1) = true
          · rw [if_pos z, if_pos ⟨by omega, z.2⟩]
          · rw [if_neg z, if_neg (fun y => z ⟨by omega, y.2⟩)]
      · rw [g3 a b ha hb hab, mr_other (by omega) ha hb]
    · have e : m_wakeHit (n + 1) j σ = m_wakeHit n (j + 1) σ := by
        show m_wakeHit n (j + 1) _ = _
        by_cases c1 : σ (j + 6) 3 = 1
        · rw [if_pos c1]
          by_cases c2 : σ (j + 6) 9 = 5
          · rw [if_pos c2]
          · rw [if_neg c2, if_neg (fun c3 => hc ⟨c1, c2, c3⟩)]
        · rw [if_neg c1]
      obtain ⟨g1, g2, g3⟩ := ih (j + 1) σ L r (by omega) h hr
      rw [e]
      refine ⟨g1, fun i hi => ?_, g3⟩
      rw [g2 i hi]
      by_cases z : j ≤ i ∧ σ (i + 6) 3 = 1 ∧ σ (i + 6) 9 ≠ 5 ∧ m_isHit σ i (-1) = true
      · rw [if_pos z, if_pos ⟨by
          have h1 := z.1
          have h2 : i ≠ j := fun q => hc (q ▸ z.2)
          omega, z.2⟩]
      · rw [if_neg z, if_neg (fun y => z ⟨by omega, y.2⟩)]
/-- a SCOPE that is CANCELLED now: what it does -/
theorem cancel_spec {τ : Sg} {k : Nat} {L : List Nat} {r : Option Nat} (hk : k < 40) (h : ReadyIs τ L r) (hr : ∀ i, r = some i → τ (i + 6) 3 = 0) :
    (∃ L', ReadyIs (m_cancelScope τ k) L' r) ∧ (∀ a b, a ≠ 5 → ¬ (a = 0 ∧ b = 7) → ¬ (6 ≤ a ∧ a < 30 ∧ b = 3) → ¬ (a = k + 54 ∧ b = 5) → m_cancelScope τ k a b = τ a b) ∧
    (m_cancels τ k = true → m_cancelScope τ k (k + 54) 5 = 1 ∧ ∀ i, i < 24 → m_cancelScope τ k (i + 6) 3 = if τ (i + 6) 3 = 1 ∧ τ (i + 6) 9 ≠ 5 ∧ m_isHit (up2 τ (k + 54) 5 1) i (-1) = true then 0 else τ (i + 6) 3) ∧
    (m_cancels τ k = false → m_cancelScope τ k = τ) := by
  have hR : ReadyIs (up2 τ (k + 54) 5 1) L r := by
    refine ⟨⟨?_, h.1.2.1, fun j i hj => ?_⟩, h.2.1, fun i hi => ?_, fun i hi h0 hn => ?_⟩
    · rw [up2_a (by omega)]; exact h.1.1
    · rw [up2_a (by omega)]; exact h.1.2.2 j i hj
    · rw [up2_o (by omega)]; exact h.2.2.1 i hi
    · rw [up2_o (by omega)] at h0; exact h.2.2.2 i hi h0 hn
  obtain ⟨g1, g2, g3⟩ := wake_spec 24 0 (up2 τ (k + 54) 5 1) L r rfl hR (fun i hi => by rw [up2_o (by omega)]; exact hr i hi)
  by_cases hc : m_cancels τ k = true
  · have e : m_cancelScope τ k = m_wakeHit 24 0 (up2 τ (k + 54) 5 1) := by
      unfold m_cancels at hc
      unfold m_cancelScope
      by_cases c1 : m_isLive τ k = true
      · rw [if_pos c1] at hc ⊢
        by_cases c2 : τ (k + 54) 5 = 0
        · rw [if_pos c2]
        · rw [if_neg c2] at hc; cases hc
      · rw [if_neg c1] at hc; cases hc
    rw [e]
    refine ⟨g1, fun a b h1 h2 h3 h4 => ?_, fun _ => ⟨?_, fun i hi => ?_⟩, fun q => by rw [hc] at q; cases q⟩
    · rw [g3 a b h1 h2 h3, up2_o h4]
    · rw [g3 _ _ (by omega) (by omega) (by omega), up2_same]
    · rw [g2 i hi, up2_o (by omega), up2_o (by omega)]
      by_cases z : τ (i + 6) 3 = 1 ∧ τ (i + 6) 9 ≠ 5 ∧ m_isHit (up2 τ (k + 54) 5 1) i (-1) = true
      · rw [if_pos z, if_pos ⟨Nat.zero_le _, z⟩]
      · rw [if_neg z, if_neg (fun y => z y.2)]
  · have e : m_cancelScope τ k = τ := by
      unfold m_cancels at hc
      unfold m_cancelScope
      by_cases c1 : m_isLive τ k = true
      · rw [if_pos c1] at hc ⊢
        by_cases c2 : τ (k + 54) 5 = 0
        · rw [if_pos c2] at hc; exact absurd rfl hc
        · rw [if_neg c2]
      · rw [if_neg c1]
    rw [e]
    exact ⟨⟨L, h⟩, fun _ _ _ _ _ _ => rfl, fun q => absurd q hc, fun _ => rfl⟩
