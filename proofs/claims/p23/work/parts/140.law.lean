/-! the law's start: nothing told yet; when START throws -/
theorem OI0 {c0 c2 c3 : ClassId} {oq la sq : Nat} {lb : Nat → Nat} {kc : Nat × va_E} : OI c0 c2 c3 oq la sq lb kc (fun _ _ => 0) 0 (oW c0 c2 c3 oq la sq (nI 0) lb (fun _ _ => none) (fun _ => 0) ++ (kc :: [])) :=
  ⟨fun _ _ => none, fun _ => 0, [], rfl, ip0, fun _ _ => rfl, fun _ _ _ => rfl, fun i _ j hj h => absurd ((nI_ltI (a := j) (b := 0) (by omega) (by decide)).mp h) (by omega), fun _ => by show bnd 0; decide⟩
theorem m_at_24 {τ : Sg} (h : τ 0 1 = nI 24) : m_at (τ 0 1) 24 = none := by
  rw [h]; unfold m_at; rw [if_neg (nI_pos (by decide)), if_pos (by decide)]
/-- one of act's three roads -/
theorem act_roads {π τ : Sg} {T S t U : Nat} {st : Nat → List Nat} (h : Inv π T S t U st none none none τ) (x : Int32) :
    ((∀ j, m_below x (nI 9) = nI j → j < 2 → T < 24) ∧ (m_below x (nI 9) = nI 2 → 0 < S)) ∨
    (∃ j0, j0 < 2 ∧ m_below x (nI 9) = nI j0 ∧ T = 24 ∧ m_at (τ 0 1) 24 = none) ∨
    (m_below x (nI 9) = nI 2 ∧ m_howMany τ π 7 = nI 0 ∧ τ 0 3 = nI 0) := by
  obtain ⟨j, hj, e⟩ := below_nI x (k := 9) (by decide) (by decide)
  have hT := h.1.1.1
  by_cases c1 : j < 2 ∧ T = 24
  · exact Or.inr (Or.inl ⟨j, c1.1, e, c1.2, m_at_24 (by rw [h.1.1.2.2.1, c1.2])⟩)
  by_cases c2 : j = 2 ∧ S = 0
  · refine Or.inr (Or.inr ⟨by rw [e, c2.1], ?_, ?_⟩)
    · rw [many_7 h.1.1, c2.2]
    · rw [h.1.1.2.2.2.1, c2.2]
  · refine Or.inl ⟨fun j' e' hj' => ?_, fun e' => ?_⟩
    · by_cases hz : j' < 2 ^ 31
      · have := nI_inj hz (by omega) (e'.symm.trans e); omega
      · omega
    · have := nI_inj (by decide) (by omega) (e'.symm.trans e); omega
