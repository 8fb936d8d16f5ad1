/-! the law's end: what is over by then; the digest is the same -/
section LEND
variable {π τ ρ : Sg} {T S t U : Nat} {st : Nat → List Nat}
theorem over_cnt : ∀ n, cnt (m_isOver τ) n = cnt (m_isIn τ 2) n + cnt (m_isIn τ 3) n + cnt (m_isIn τ 4) n
  | 0 => rfl
  | n + 1 => by
    show cnt _ n + _ = (cnt _ n + _) + (cnt _ n + _) + (cnt _ n + _)
    rw [over_cnt n]
    have f : ∀ x, τ (n + 6) 3 = x → m_isIn τ x n = true := fun x h => isIn_iff.mpr h
    have g : ∀ x, τ (n + 6) 3 ≠ x → m_isIn τ x n = false := fun x h => by
      cases z : m_isIn τ x n with
      | false => rfl
      | true => exact absurd (isIn_iff.mp z) h
    by_cases c2 : τ (n + 6) 3 = 2
    · rw [over_iff.mpr (Or.inl c2), f 2 c2, g 3 (by rw [c2]; decide), g 4 (by rw [c2]; decide), if_pos rfl, if_neg Bool.false_ne_true]; omega
    by_cases c3 : τ (n + 6) 3 = 3
    · rw [over_iff.mpr (Or.inr (Or.inl c3)), g 2 c2, f 3 c3, g 4 (by rw [c3]; decide), if_pos rfl, if_neg Bool.false_ne_true]; omega
    by_cases c4 : τ (n + 6) 3 = 4
    · rw [over_iff.mpr (Or.inr (Or.inr c4)), g 2 c2, g 3 c3, f 4 c4, if_pos rfl, if_neg Bool.false_ne_true]; omega
    · have ho : m_isOver τ n = false := by
        cases z : m_isOver τ n with
        | false => rfl
        | true => rcases over_iff.mp z with e | e | e
                  · exact absurd e c2
                  · exact absurd e c3
                  · exact absurd e c4
      rw [ho, g 2 c2, g 3 c3, g 4 c4, if_neg Bool.false_ne_true]; omega
theorem over_sum (a1 : IT τ T S) : m_howMany τ π 4 + m_howMany τ π 5 + m_howMany τ π 6 = nI (m_countOver τ) ∧ m_countOver τ ≤ 24 := by
  obtain ⟨_, _, h2, h3, h4⟩ := many_st (π := π) a1
  rw [m_countOver_eq]
  refine ⟨?_, cnt_le _ 24⟩
  rw [h2, h3, h4, over_cnt, isIn_cut a1 (by decide), isIn_cut a1 (by decide), isIn_cut a1 (by decide), nI_add, nI_add]
theorem overBy_ge {B : Nat} (hP : IP π B) (h : Inv π T S t U st none none none τ) (hU : U + 100 < 2 ^ 31 - 1) (ht : t + 1 < 100000) : m_howMany τ π 4 + m_howMany τ π 5 + m_howMany τ π 6 ≤ nI (m_countOver (m_overS π 1 1 (m_copy ρ τ))) := by
  obtain ⟨e, h24⟩ := over_sum (π := π) h.1.1
  have := overBy_le (ρ := ρ) hP h hU ht
  have hz : m_countOver (m_overS π 1 1 (m_copy ρ τ)) ≤ 24 := by rw [m_countOver_eq]; exact cnt_le _ 24
  rw [e]
  exact (nI_leI (by omega) (by omega)).mpr this
theorem dig_end (hp : ∀ q, bnd (π 3 q)) (T V : Nat) : m_dig τ π (m_overS π 1 1 (m_copy (m_overS π 10 5 (m_copy (m_overS π 10 1 (m_copy ρ τ)) τ)) τ)) T V = m_dig τ π ρ T V := by
  refine (dig_same hp ?_ T V).symm
  exact cp_overS hp 1 1 _ (cp_copy2 (cp_overS hp 10 5 _ (cp_copy2 (cp_overS hp 10 1 _ (cp_copy ρ τ)))))
end LEND
