/-! WHAT THE LAW ASKS OF ONE ACT: TURNS; what stays -/
section ACT2
variable {π τ σ : Sg} {T S t U : Nat} {st : Nat → List Nat}
theorem act_run {B n : Nat} (hP : IP π B) (hb : ∀ q, bnd (π 3 q)) (hU : U + 100 * n < 2 ^ 31 - 1) (h : Inv π T S t U st none none none τ) (hB : TB τ) (hF : FL τ) :
    ∃ (T' S' : Nat) (st' : Nat → List Nat) (d : Nat), T ≤ T' ∧ S ≤ S' ∧ Inv π T' S' t (U + 100 * n) st' none none none (m_turns π n 0 τ).1 ∧ TB (m_turns π n 0 τ).1 ∧ FL (m_turns π n 0 τ).1 ∧ Mt τ (m_turns π n 0 τ).1 ∧ Ms τ (m_turns π n 0 τ).1 ∧ (m_turns π n 0 τ).2 = d ∧ d ≤ n ∧ m_howMany (m_turns π n 0 τ).1 π 11 = m_howMany τ π 11 + nI d ∧ (d = n ∨ m_howMany (m_turns π n 0 τ).1 π 2 = 0) := by
  obtain ⟨T', S', st', d, h1, h2, h3, h4, h5, h6, h7, h8, h9⟩ := inv_turns hP n 0 τ T S U st h hU
  refine ⟨T', S', st', d, h1, h2, h9, tb_turns hb n 0 τ hB, fl_turns (fun _ => trivial) n 0 τ hF, h3, h4, by rw [h5, Nat.zero_add], h6, by rw [many_11, many_11]; exact h7, ?_⟩
  rcases h8 with z | z
  · exact Or.inl z
  · exact Or.inr (many_2 h9 z)
theorem stay_task (h : Inv π T S t U st none none none τ) (hm : Mt τ σ) {k : Nat} (hk : k < T) : ¬ 1 < m_aboutTask τ (nI k) 1 ∨ (m_aboutTask σ (nI k) 1 = m_aboutTask τ (nI k) 1 ∧ m_aboutTask σ (nI k) 3 = m_aboutTask τ (nI k) 3) := by
  have hk24 : k < 24 := by have := h.1.1.1; omega
  rw [aT1 hk24, aT1 hk24, aT3 hk24, aT3 hk24]
  rcases h.1.1.2.2.2.2.1 k hk with ha | ho
  · left
    rcases ha with e | e <;> rw [e] <;> decide
  · exact Or.inr ⟨hm k hk24 ho 3, hm k hk24 ho 5⟩
theorem stay_scope {S' T' t' U' : Nat} {st' : Nat → List Nat} (h : Inv π T S t U st none none none τ) (h2 : Inv π T' S' t' U' st' none none none σ) (hS : S ≤ S') (hm : Ms τ σ) {k : Nat} (hk : k < S) : ¬ m_aboutScope σ (nI k) 1 < m_aboutScope τ (nI k) 1 ∧ ¬ m_aboutScope σ (nI k) 2 < m_aboutScope τ (nI k) 2 ∧ (m_aboutScope τ (nI k) 1 = 2 → m_aboutScope τ (nI k) 2 = m_aboutScope σ (nI k) 2) := by
  have hk40 : k < 40 := by have := h.1.1.2.1; omega
  obtain ⟨m1, m2, m3⟩ := hm k hk40
  rw [aS1 hk40, aS1 hk40, aS2 hk40, aS2 hk40]
  refine ⟨?_, ?_, fun z => by rw [m3 z]⟩
  · have a := h.1.1.2.2.2.2.2.2.1 k hk
    have b := h2.1.1.2.2.2.2.2.2.1 k (by omega)
    intro z
    rcases a with a | a | a <;> rcases b with b | b | b <;> rw [a, b] at z m1
    all_goals first
      | exact absurd z (by decide)
      | (rcases m1 with e | e | ⟨e, _⟩ | ⟨e, _⟩ <;> exact absurd e (by decide))
      | (rcases m1 with e | e | ⟨e, e2⟩ | ⟨e, e2⟩ <;> first | exact absurd e (by decide) | exact absurd e2 (by decide) | (rcases e2 with e2 | e2 <;> exact absurd e2 (by decide)))
  · by_cases c : τ (k + 54) 5 = 0
    · rw [if_pos c]; by_cases d : σ (k + 54) 5 = 0
      · rw [if_pos d]; decide
      · rw [if_neg d]; decide
    · rw [if_neg c, if_neg (m2 c)]; decide
/-- no TASK yet: no BODY is used -/
theorem used_s0 (b : Int32) : m_isUsed s0 b = false := by
  have : ∀ n j, j + n = 24 → m_used s0 b n j = false := fun n => by
    induction n with
    | zero => intro j _; rfl
    | succ n ih =>
      intro j hj
      unfold m_used
      rw [if_pos ((inv_s0 (fun _ _ => 0)).1.1.2.2.2.2.2.1 j (Nat.zero_le _) (by omega)).1]
      exact ih (j + 1) (by omega)
  exact this 24 0 rfl
end ACT2
