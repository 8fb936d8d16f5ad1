/-! WHAT STAYS: who is over stays as he is; SCOPES only go on to LEAVING and CLOSED; what is CANCELLED stays so -/
def ms1 (a b : Int32) : Prop := a = b ∨ a = -1 ∨ (a = 0 ∧ (b = 1 ∨ b = 2)) ∨ (a = 1 ∧ b = 2)
theorem ms1_trans {a b c : Int32} (h1 : ms1 a b) (h2 : ms1 b c) : ms1 a c := by
  unfold ms1 at *
  rcases h1 with e | e | ⟨e, f⟩ | ⟨e, f⟩
  · rw [e]; exact h2
  · exact Or.inr (Or.inl e)
  · rcases f with f | f
    · rcases h2 with g | g | ⟨g, _⟩ | ⟨_, g⟩
      · exact Or.inr (Or.inr (Or.inl ⟨e, Or.inl (by rw [← g, f])⟩))
      · rw [f] at g; exact absurd g (by decide)
      · rw [f] at g; exact absurd g (by decide)
      · exact Or.inr (Or.inr (Or.inl ⟨e, Or.inr g⟩))
    · rcases h2 with g | g | ⟨g, _⟩ | ⟨g, _⟩
      · exact Or.inr (Or.inr (Or.inl ⟨e, Or.inr (by rw [← g, f])⟩))
      · rw [f] at g; exact absurd g (by decide)
      · rw [f] at g; exact absurd g (by decide)
      · rw [f] at g; exact absurd g (by decide)
  · rcases h2 with g | g | ⟨g, _⟩ | ⟨g, _⟩
    · exact Or.inr (Or.inr (Or.inr ⟨e, by rw [← g, f]⟩))
    · rw [f] at g; exact absurd g (by decide)
    · rw [f] at g; exact absurd g (by decide)
    · rw [f] at g; exact absurd g (by decide)
def Ms (τ σ : Sg) : Prop := ∀ k, k < 40 → ms1 (τ (k + 54) 1) (σ (k + 54) 1) ∧ (τ (k + 54) 5 ≠ 0 → σ (k + 54) 5 ≠ 0) ∧ (τ (k + 54) 1 = 2 → σ (k + 54) 5 = τ (k + 54) 5)
theorem ms1_2 {b : Int32} (h : ms1 2 b) : b = 2 := by
  rcases h with e | e | ⟨e, _⟩ | ⟨e, _⟩
  · exact e.symm
  · exact absurd e (by decide)
  · exact absurd e (by decide)
  · exact absurd e (by decide)
theorem Ms.trans {τ σ ρ : Sg} (h1 : Ms τ σ) (h2 : Ms σ ρ) : Ms τ ρ := fun k hk => by
  obtain ⟨a1, a2, a3⟩ := h1 k hk
  obtain ⟨b1, b2, b3⟩ := h2 k hk
  refine ⟨ms1_trans a1 b1, fun z => b2 (a2 z), fun z => ?_⟩
  have : σ (k + 54) 1 = 2 := by rw [z] at a1; exact ms1_2 a1
  rw [b3 this, a3 z]
theorem Ms.cell {τ σ : Sg} (h : ∀ k, k < 40 → σ (k + 54) 1 = τ (k + 54) 1 ∧ σ (k + 54) 5 = τ (k + 54) 5) : Ms τ σ := fun k hk => by
  obtain ⟨a, b⟩ := h k hk
  rw [a, b]
  exact ⟨Or.inl rfl, id, fun _ => rfl⟩
theorem Fr.ms {τ σ : Sg} (h : Fr τ σ) : Ms τ σ := fun k hk => by
  rw [h.sc (b := 1) hk (by decide)]
  refine ⟨Or.inl rfl, fun z => ?_, fun z => h.dead hk (not_live2 z)⟩
  rcases h.can (k := k) hk with y | y
  · rw [y]; exact z
  · rw [y.2]; decide
/-- a LEAVING or CLOSED one -/
theorem Ms.set {τ : Sg} {k : Nat} {v : Int32} (h : ms1 (τ (k + 54) 1) v) : Ms τ (up2 τ (k + 54) 1 v) := fun p hp => by
  rw [up2_o (a := p + 54) (b := 5) (by omega)]
  refine ⟨?_, id, fun _ => rfl⟩
  by_cases e : p = k
  · subst e; rw [up2_same]; exact h
  · rw [up2_o (by omega)]; exact Or.inl rfl
def Mt (τ σ : Sg) : Prop := ∀ q, q < 24 → ovr τ q → ∀ b, σ (q + 6) b = τ (q + 6) b
theorem Mt.trans {τ σ ρ : Sg} (h1 : Mt τ σ) (h2 : Mt σ ρ) : Mt τ ρ := fun q hq ho b => by
  have e := h1 q hq ho
  have ho2 : ovr σ q := by unfold ovr; rw [e 3]; exact ho
  rw [h2 q hq ho2 b, e b]
theorem ovr_ne {τ : Sg} {q : Nat} (h : ovr τ q) : τ (q + 6) 3 ≠ 0 ∧ τ (q + 6) 3 ≠ 1 ∧ τ (q + 6) 3 ≠ -1 := by
  rcases h with e | e | e <;> rw [e] <;> decide
theorem Fr.mt {τ σ : Sg} (h : Fr τ σ) : Mt τ σ := fun q hq ho => h.ov hq (ovr_ne ho).1 (ovr_ne ho).2.1
theorem TK.mt {τ σ : Sg} {i t : Nat} (h : TK τ σ i t) (hi : τ (i + 6) 3 = 0) (ht : t < 24 → τ (t + 6) 3 = -1) : Mt τ σ := fun q hq ho b => by
  obtain ⟨n0, n1, n2⟩ := ovr_ne ho
  have e1 : q ≠ i := fun z => n0 (by rw [z]; exact hi)
  have e2 : q ≠ t := fun z => n2 (by rw [z]; exact ht (by omega))
  rcases h q hq e1 e2 with a | ⟨a, _⟩
  · exact a b
  · exact absurd a n1
def Mo (τ σ : Sg) : Prop := Mt τ σ ∧ Ms τ σ ∧ σ 0 9 = τ 0 9
theorem Mo.refl (τ : Sg) : Mo τ τ := ⟨fun _ _ _ _ => rfl, Ms.cell (fun _ _ => ⟨rfl, rfl⟩), rfl⟩
theorem Mo.trans {τ σ ρ : Sg} (h1 : Mo τ σ) (h2 : Mo σ ρ) : Mo τ ρ := ⟨h1.1.trans h2.1, h1.2.1.trans h2.2.1, by rw [h2.2.2, h1.2.2]⟩
theorem Fr.mo {τ σ : Sg} (h : Fr τ σ) (h9 : σ 0 9 = τ 0 9) : Mo τ σ := ⟨h.mt, h.ms, h9⟩
-- the end of a TASK
theorem takeOff_oth {τ : Sg} {i a b : Nat} (h : a ≠ i + 6) : (m_takeOff τ i).1 a b = τ a b := by
  have ho : ∀ (ρ : Sg) (k : Nat), (m_wayOut ρ i k).1 a b = ρ a b := fun ρ k => by
    unfold m_wayOut m_goesOn
    by_cases c1 : ρ (k + 54) 9 = -1
    · rw [if_pos c1]; dsimp only; rw [up2_a h, up2_a h]
    · rw [if_neg c1]
      by_cases c2 : ρ (k + 54) 9 = -3
      · rw [if_pos c2]
        by_cases c3 : ρ (k + 54) 5 = 0
        · rw [if_pos c3]
        · rw [if_neg c3]; dsimp only; rw [up2_a h, up2_a h]
      · rw [if_neg c2]
  unfold m_takeOff
  cases e : m_at (τ (i + 6) 7) 40 with
  | none => rfl
  | some k =>
    dsimp only
    by_cases c : 0 < up2 (up2 τ (i + 6) 7 (τ (k + 54) 3)) (i + 6) 8 (up2 τ (i + 6) 7 (τ (k + 54) 3) (i + 6) 8 - 1) (k + 54) 9
    · rw [if_pos c, ho, up2_a h, up2_a h]
    · rw [if_neg c]
      cases f : m_at (up2 (up2 τ (i + 6) 7 (τ (k + 54) 3)) (i + 6) 8 (up2 τ (i + 6) 7 (τ (k + 54) 3) (i + 6) 8 - 1) (k + 54) 13) 24 with
      | none => dsimp only; rw [ho, up2_a h, up2_a h]
      | some q => dsimp only; rw [up2_a h, up2_a h]
theorem freeOf_ms {τ : Sg} {i c : Nat} (hc : c < 2) : Ms τ (m_freeOf τ i c) ∧ m_freeOf τ i c 0 9 = τ 0 9 := ⟨(freeOf_fr hc).ms, freeOf_other (by omega) (by omega) (by omega) (by omega)⟩
theorem tellOver_ms {τ : Sg} {i k : Nat} (hk : k < 40) : Ms τ (m_tellOver τ i k) ∧ m_tellOver τ i k 0 9 = τ 0 9 := by
  have h1 : Ms τ (up2 τ (k + 54) 11 (τ (k + 54) 11 + 1)) ∧ up2 τ (k + 54) 11 (τ (k + 54) 11 + 1) 0 9 = τ 0 9 := ⟨Ms.cell (fun p hp => ⟨up2_o (by omega), up2_o (by omega)⟩), up2_o (by omega)⟩
  unfold m_tellOver
  revert h1
  generalize up2 τ (k + 54) 11 (τ (k + 54) 11 + 1) = ρ
  intro h1
  have h2 : Ms ρ (m_tellFail ρ i k) ∧ m_tellFail ρ i k 0 9 = ρ 0 9 := by
    unfold m_tellFail
    by_cases c : ρ (i + 6) 3 = 3
    · rw [if_pos c]
      dsimp only
      have key : ∀ σ : Sg, (∀ p, p < 40 → σ (p + 54) 1 = ρ (p + 54) 1 ∧ σ (p + 54) 5 = ρ (p + 54) 5) → σ 0 9 = ρ 0 9 → Ms ρ (m_cancelScope σ k) ∧ m_cancelScope σ k 0 9 = ρ 0 9 := fun σ e1 e2 =>
        ⟨(Ms.cell e1).trans fr_cancel.ms, by rw [cancelScope_other (by omega) (by omega) (by omega) (by omega)]; exact e2⟩
      by_cases d : up2 ρ (k + 54) 12 (ρ (k + 54) 12 + 1) (k + 54) 13 = -1
      · rw [if_pos d]
        exact key _ (fun p hp => ⟨by rw [up2_o (by omega), up2_o (by omega)], by rw [up2_o (by omega), up2_o (by omega)]⟩) (by rw [up2_o (by omega), up2_o (by omega)])
      · rw [if_neg d]
        exact key _ (fun p hp => ⟨by rw [up2_o (by omega)], by rw [up2_o (by omega)]⟩) (by rw [up2_o (by omega)])
    · rw [if_neg c]; exact ⟨(Mo.refl ρ).2.1, rfl⟩
  refine ⟨h1.1.trans (h2.1.trans ?_), ?_⟩
  · generalize m_tellFail ρ i k = σ
    unfold m_tellClose
    by_cases c1 : σ (k + 54) 1 = 1
    · rw [if_pos c1]
      by_cases c2 : σ (k + 54) 11 < σ (k + 54) 10
      · rw [if_pos c2]; exact (Mo.refl σ).2.1
      · rw [if_neg c2]
        have hs : Ms σ (up2 σ (k + 54) 1 2) := Ms.set (by rw [c1]; exact Or.inr (Or.inr (Or.inr ⟨rfl, rfl⟩)))
        dsimp only
        cases e : m_at (up2 σ (k + 54) 1 2 (k + 54) 2) 24 with
        | none => exact hs
        | some q =>
          have hq := m_at_lt e (by decide)
          dsimp only
          by_cases c3 : m_waitsAt (up2 σ (k + 54) 1 2) q 5 = true
          · rw [if_pos c3]
            exact hs.trans (Ms.cell (fun p hp => ⟨mr_other (by omega) (by omega) (by omega), mr_other (by omega) (by omega) (by omega)⟩))
          · rw [if_neg c3]; exact hs
    · rw [if_neg c1]; exact (Mo.refl σ).2.1
  · rw [← h1.2, ← h2.2]
    generalize m_tellFail ρ i k = σ
    unfold m_tellClose
    by_cases c1 : σ (k + 54) 1 = 1
    · rw [if_pos c1]
      by_cases c2 : σ (k + 54) 11 < σ (k + 54) 10
      · rw [if_pos c2]
      · rw [if_neg c2]
        cases e : m_at (up2 σ (k + 54) 1 2 (k + 54) 2) 24 with
        | none => exact up2_o (by omega)
        | some q =>
          have hq := m_at_lt e (by decide)
          dsimp only
          by_cases c3 : m_waitsAt (up2 σ (k + 54) 1 2) q 5 = true
          · rw [if_pos c3, mr_other (by omega) (by omega) (by omega), up2_o (by omega)]
          · rw [if_neg c3, up2_o (by omega)]
    · rw [if_neg c1]
theorem endTask_ms {τ : Sg} {i : Nat} {w : Int32} (hi : i < 24) : Ms τ (m_endTask τ i w) ∧ m_endTask τ i w 0 9 = τ 0 9 := by
  have h1 : Ms τ (m_endWay τ i w) ∧ m_endWay τ i w 0 9 = τ 0 9 := ⟨Ms.cell (fun p hp => ⟨endWay_other (by omega), endWay_other (by omega)⟩), endWay_other (by omega)⟩
  have h2 := freeOf_ms (τ := m_endWay τ i w) (i := i) (c := 0) (by decide)
  have h3 := freeOf_ms (τ := m_freeOf (m_endWay τ i w) i 0) (i := i) (c := 1) (by decide)
  have h4 : Ms (m_freeOf (m_freeOf (m_endWay τ i w) i 0) i 1) (m_endTask τ i w) ∧ m_endTask τ i w 0 9 = m_freeOf (m_freeOf (m_endWay τ i w) i 0) i 1 0 9 := by
    unfold m_endTask m_endLast
    generalize m_freeOf (m_freeOf (m_endWay τ i w) i 0) i 1 = ρ
    cases e : m_at (ρ (i + 6) 6) 40 with
    | none => exact ⟨(Mo.refl ρ).2.1, rfl⟩
    | some k => exact tellOver_ms (m_at_lt e (by decide))
  exact ⟨h1.1.trans (h2.1.trans (h3.1.trans h4.1)), by rw [h4.2, h3.2, h2.2, h1.2]⟩
section INV
variable {π τ σ ρ : Sg} {T S t U : Nat} {st : Nat → List Nat} {r m x : Option Nat}
theorem mo_leave {i : Nat} {w : Int32} (h : Inv π T S t U st (some i) (some i) none τ) : Mo τ (m_leave τ i w).1 := by
  obtain ⟨hi, h0⟩ := h.run
  have hT : ∀ t, t = 24 → (t < 24 → τ (t + 6) 3 = -1) := fun t e z => by omega
  refine ⟨(tk_leave (t := 24)).mt h0 (hT 24 rfl), ?_⟩
  rcases top_of h.1.2.2.1 hi with ⟨z1, z2⟩ | ⟨k, L, z1, z2, z3, z4, _⟩
  · unfold m_leave
    rw [z2, m_at_neg]
    exact endTask_ms hi
  · rw [mode_i] at z4
    have h1 : Ms τ (if w ≤ 0 then τ else m_cancelScope τ k) ∧ (if w ≤ 0 then τ else m_cancelScope τ k) (k + 54) 1 = 0 ∧ (if w ≤ 0 then τ else m_cancelScope τ k) 0 9 = τ 0 9 := by
      by_cases c : w ≤ 0
      · rw [if_pos c]; exact ⟨(Mo.refl τ).2.1, z4, rfl⟩
      · rw [if_neg c]; exact ⟨fr_cancel.ms, by rw [cancelScope_other (by omega) (by omega) (by omega) (by omega)]; exact z4, cancelScope_other (by omega) (by omega) (by omega) (by omega)⟩
    unfold m_leave
    rw [z2, m_at_nI z3 (by decide)]
    dsimp only
    revert h1
    generalize (if w ≤ 0 then τ else m_cancelScope τ k) = ρ
    rintro ⟨h1, h2, h3⟩
    have h4 : Ms ρ (up2 (up2 ρ (k + 54) 1 1) (k + 54) 9 w) := (Ms.set (by rw [h2]; exact Or.inr (Or.inr (Or.inl ⟨rfl, Or.inl rfl⟩)))).trans (Ms.cell (fun p hp => ⟨up2_o (by omega), up2_o (by omega)⟩))
    by_cases c : up2 (up2 ρ (k + 54) 1 1) (k + 54) 9 w (k + 54) 10 ≤ up2 (up2 ρ (k + 54) 1 1) (k + 54) 9 w (k + 54) 11
    · rw [if_pos c]
      refine ⟨h1.trans (h4.trans (Ms.trans (Ms.set (v := 2) ?_) (Ms.cell (fun p hp => ⟨takeOff_oth (by omega), takeOff_oth (by omega)⟩)))), ?_⟩
      · rw [up2_o (by omega), up2_same]; exact Or.inr (Or.inr (Or.inr ⟨rfl, rfl⟩))
      · rw [takeOff_oth (by omega), up2_o (by omega), up2_o (by omega), up2_o (by omega)]; exact h3
    · rw [if_neg c]
      dsimp only
      refine ⟨h1.trans (h4.trans (Ms.cell (fun p hp => ⟨?_, ?_⟩))), ?_⟩
      · exact bw_other (by omega) (by omega)
      · exact bw_other (by omega) (by omega)
      rw [bw_other (by omega) (by omega), up2_o (by omega), up2_o (by omega)]; exact h3
end INV
