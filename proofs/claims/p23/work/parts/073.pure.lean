/-! WHAT THE SMALL FUNCTIONS CHANGE, and what firstWaiting finds -/
theorem row_keep {τ σ : Sg} {L : List Nat} (h : RowIs τ L) (h0 : σ 0 7 = τ 0 7) (h5 : ∀ j, σ 5 j = τ 5 j) : RowIs σ L := ⟨by rw [h0]; exact h.1, h.2.1, fun j i hj => by rw [h5]; exact h.2.2 j i hj⟩
theorem ready_keep {τ σ : Sg} {L : List Nat} {r : Option Nat} (h : ReadyIs τ L r) (h0 : σ 0 7 = τ 0 7) (h5 : ∀ j, σ 5 j = τ 5 j) (h3 : ∀ i, i < 24 → σ (i + 6) 3 = τ (i + 6) 3) : ReadyIs σ L r := by
  refine ⟨row_keep h.1 h0 h5, h.2.1, fun i hi => ?_, fun i hi hs hr => ?_⟩
  · obtain ⟨a, b, c⟩ := h.2.2.1 i hi
    exact ⟨a, by rw [h3 i a]; exact b, c⟩
  · rw [h3 i hi] at hs; exact h.2.2.2 i hi hs hr
/-- the one whose turn it is isn't READY any more -/
theorem ready_leave {τ σ : Sg} {L : List Nat} {i : Nat} (h : ReadyIs τ L (some i)) (h0 : σ 0 7 = τ 0 7) (h5 : ∀ j, σ 5 j = τ 5 j) (h3 : ∀ q, q < 24 → q ≠ i → σ (q + 6) 3 = τ (q + 6) 3) (hs : σ (i + 6) 3 ≠ 0) : ReadyIs σ L none := by
  refine ⟨row_keep h.1 h0 h5, h.2.1, fun q hq => ?_, fun q hq hz _ => ?_⟩
  · obtain ⟨a, b, c⟩ := h.2.2.1 q hq
    have hne : q ≠ i := fun e => c (by rw [e])
    exact ⟨a, by rw [h3 q a hne]; exact b, by intro z; cases z⟩
  · have hne : q ≠ i := fun e => hs (by rw [← e]; exact hz)
    rw [h3 q hq hne] at hz
    exact h.2.2.2 q hq hz (fun z => hne (Option.some.inj z).symm)
/-- the first of the row has its turn -/
theorem ready_take {τ : Sg} {L : List Nat} {i : Nat} (h : ReadyIs τ (i :: L) none) : i < 24 ∧ m_takeReady τ = some i ∧ ReadyIs (m_takeReadyW τ) L (some i) ∧ ∀ a b, a ≠ 5 → ¬ (a = 0 ∧ b = 7) → m_takeReadyW τ a b = τ a b := by
  have hi := (h.2.2.1 i List.mem_cons_self).1
  obtain ⟨g1, g2, g3⟩ := tr_some h.1 hi
  have hn := List.nodup_cons.mp h.2.1
  refine ⟨hi, g1, ⟨g2, hn.2, fun q hq => ?_, fun q hq hs hr => ?_⟩, g3⟩
  · obtain ⟨a, b, _⟩ := h.2.2.1 q (List.mem_cons_of_mem _ hq)
    exact ⟨a, by rw [g3 _ _ (by omega) (by omega)]; exact b, fun z => hn.1 (by rw [Option.some.inj z]; exact hq)⟩
  · rw [g3 _ _ (by omega) (by omega)] at hs
    rcases List.mem_cons.mp (h.2.2.2 q hq hs (by intro z; cases z)) with e | e
    · exact absurd (by rw [e]) hr
    · exact e
theorem bw_other {τ : Sg} {i a b : Nat} {w g : Int32} (h1 : ¬ (a = i + 6 ∧ (b = 3 ∨ b = 9 ∨ b = 10 ∨ b = 11 ∨ b = 14 ∨ b = 15 ∨ b = 16))) (h2 : ¬ (a = 0 ∧ b = 11)) : m_beginWait τ i w g a b = τ a b := by
  unfold m_beginWait
  rw [up2_o h2, up2_o (fun z => h1 ⟨z.1, by omega⟩), up2_o (fun z => h1 ⟨z.1, by omega⟩), up2_o (fun z => h1 ⟨z.1, by omega⟩), up2_o (fun z => h1 ⟨z.1, by omega⟩), up2_o (fun z => h1 ⟨z.1, by omega⟩), up2_o (fun z => h1 ⟨z.1, by omega⟩), up2_o (fun z => h1 ⟨z.1, by omega⟩)]
theorem bw_fields (τ : Sg) (i : Nat) (w g : Int32) : m_beginWait τ i w g (i + 6) 3 = 1 ∧ m_beginWait τ i w g (i + 6) 9 = w ∧ m_beginWait τ i w g (i + 6) 10 = g ∧ m_beginWait τ i w g (i + 6) 11 = 0 ∧ m_beginWait τ i w g (i + 6) 14 = 0 ∧ m_beginWait τ i w g (i + 6) 15 = 0 := by
  unfold m_beginWait
  refine ⟨?_, ?_, ?_, ?_, ?_, ?_⟩ <;> simp [up2_ap]
/-- the one whose turn it is begins to WAIT -/
theorem ready_bw {τ : Sg} {L : List Nat} {i : Nat} {w g : Int32} (h : ReadyIs τ L (some i)) : ReadyIs (m_beginWait τ i w g) L none := by
  refine ready_leave h (bw_other (by omega) (by omega)) (fun j => bw_other (by omega) (by omega)) (fun q hq hn => bw_other (by omega) (by omega)) ?_
  rw [(bw_fields τ i w g).1]; decide
theorem fwc_waits (τ : Sg) (i : Nat) (w x : Int32) : m_fwc τ i w x = m_waitsFor τ i w x := by
  unfold m_fwc m_waitsFor m_waitsAt
  by_cases c1 : τ (i + 6) 3 = 1
  · rw [if_pos c1, if_pos c1]
    by_cases c2 : τ (i + 6) 9 = w
    · rw [if_pos c2, if_pos c2, if_pos rfl]
    · rw [if_neg c2, if_neg c2, if_neg (by decide)]
  · rw [if_neg c1, if_neg c1, if_neg (by decide)]
theorem sel_or (τ : Sg) (j : Nat) (a : Option Nat) : m_sel τ j a = a ∧ a ≠ none ∨ m_sel τ j a = some j := by
  cases a with
  | none => exact Or.inr rfl
  | some b =>
    unfold m_sel
    dsimp only
    by_cases c : τ (b + 6) 16 ≤ τ (j + 6) 16
    · rw [if_pos c]; exact Or.inl ⟨rfl, by intro z; cases z⟩
    · rw [if_neg c]; exact Or.inr rfl
theorem fw_spec {τ : Sg} {w x : Int32} : ∀ (n j : Nat) (a : Option Nat), (∀ i, a = some i → m_fwc τ i w x = true) → (∀ i, m_fw τ w x n j a = some i → m_fwc τ i w x = true) ∧ (m_fw τ w x n j a = none → a = none ∧ ∀ i, j ≤ i → i < j + n → m_fwc τ i w x = false) := by
  intro n
  induction n with
  | zero => intro j a ha; exact ⟨ha, fun h => ⟨h, fun i h1 h2 => by omega⟩⟩
  | succ n ih =>
    intro j a ha
    by_cases c : m_fwc τ j w x = true
    · have e : m_fw τ w x (n + 1) j a = m_fw τ w x n (j + 1) (m_sel τ j a) := by
        show m_fw τ w x n (j + 1) _ = _
        rw [if_pos c]
      rw [e]
      obtain ⟨g1, g2⟩ := ih (j + 1) (m_sel τ j a) (fun i hi => by
        rcases sel_or τ j a with q | q
        · rw [q.1] at hi; exact ha i hi
        · rw [q] at hi; cases hi; exact c)
      refine ⟨g1, fun h => ?_⟩
      have := (g2 h).1
      rcases sel_or τ j a with q | q
      · rw [q.1] at this; exact absurd this q.2
      · rw [q] at this; cases this
    · have e : m_fw τ w x (n + 1) j a = m_fw τ w x n (j + 1) a := by
        show m_fw τ w x n (j + 1) _ = _
        rw [if_neg c]
      rw [e]
      obtain ⟨g1, g2⟩ := ih (j + 1) a ha
      refine ⟨g1, fun h => ⟨(g2 h).1, fun i h1 h2 => ?_⟩⟩
      by_cases q : i = j
      · subst q
        cases z : m_fwc τ i w x with
        | false => rfl
        | true => exact absurd z c
      · exact (g2 h).2 i (by omega) (by omega)
theorem firstWaiting_some {τ : Sg} {w x : Int32} {i : Nat} (h : m_firstWaiting τ w x = some i) : i < 24 ∧ m_waitsFor τ i w x = true := ⟨m_firstWaiting_lt h, by rw [← fwc_waits]; exact (fw_spec 24 0 none (fun i z => by cases z)).1 i h⟩
theorem firstWaiting_none {τ : Sg} {w x : Int32} (h : m_firstWaiting τ w x = none) : ∀ i, i < 24 → m_waitsFor τ i w x = false := fun i hi => by
  rw [← fwc_waits]; exact ((fw_spec 24 0 none (fun i z => by cases z)).2 h).2 i (by omega) (by omega)
theorem fi_spec {τ : Sg} {x p0 : Int32} : ∀ (n j : Nat) (a : Option Nat), (∀ i, a = some i → m_fic τ i x p0 = true) → (∀ i, m_fi τ x p0 n j a = some i → m_fic τ i x p0 = true) ∧ (m_fi τ x p0 n j a = none → a = none ∧ ∀ i, j ≤ i → i < j + n → m_fic τ i x p0 = false) := by
  intro n
  induction n with
  | zero => intro j a ha; exact ⟨ha, fun h => ⟨h, fun i h1 h2 => by omega⟩⟩
  | succ n ih =>
    intro j a ha
    by_cases c : m_fic τ j x p0 = true
    · have e : m_fi τ x p0 (n + 1) j a = m_fi τ x p0 n (j + 1) (m_sel τ j a) := by
        show m_fi τ x p0 n (j + 1) _ = _
        rw [if_pos c]
      rw [e]
      obtain ⟨g1, g2⟩ := ih (j + 1) (m_sel τ j a) (fun i hi => by
        rcases sel_or τ j a with q | q
        · rw [q.1] at hi; exact ha i hi
        · rw [q] at hi; cases hi; exact c)
      refine ⟨g1, fun h => ?_⟩
      have := (g2 h).1
      rcases sel_or τ j a with q | q
      · rw [q.1] at this; exact absurd this q.2
      · rw [q] at this; cases this
    · have e : m_fi τ x p0 (n + 1) j a = m_fi τ x p0 n (j + 1) a := by
        show m_fi τ x p0 n (j + 1) _ = _
        rw [if_neg c]
      rw [e]
      obtain ⟨g1, g2⟩ := ih (j + 1) a ha
      refine ⟨g1, fun h => ⟨(g2 h).1, fun i h1 h2 => ?_⟩⟩
      by_cases q : i = j
      · subst q
        cases z : m_fic τ i x p0 with
        | false => rfl
        | true => exact absurd z c
      · exact (g2 h).2 i (by omega) (by omega)
theorem firstInVain_some {τ : Sg} {x p0 : Int32} {i : Nat} (h : m_firstInVain τ x p0 = some i) : i < 24 ∧ m_fic τ i x p0 = true := ⟨m_firstInVain_lt h, (fi_spec 24 0 none (fun i z => by cases z)).1 i h⟩
theorem firstInVain_none {τ : Sg} {x p0 : Int32} (h : m_firstInVain τ x p0 = none) : ∀ i, i < 24 → m_fic τ i x p0 = false := fun i hi => ((fi_spec 24 0 none (fun i z => by cases z)).2 h).2 i (by omega) (by omega)
/-- waiting, in words -/
theorem waitsFor_iff {τ : Sg} {i : Nat} {w x : Int32} : m_waitsFor τ i w x = true ↔ τ (i + 6) 3 = 1 ∧ τ (i + 6) 9 = w ∧ (τ (i + 6) 10 = x ∨ τ (i + 6) 11 ≠ 0) := by
  unfold m_waitsFor m_waitsAt
  by_cases c1 : τ (i + 6) 3 = 1
  · rw [if_pos c1]
    by_cases c2 : τ (i + 6) 9 = w
    · rw [if_pos c2, if_pos rfl]
      by_cases c3 : τ (i + 6) 10 = x
      · rw [if_pos c3]; exact ⟨fun _ => ⟨c1, c2, Or.inl c3⟩, fun _ => rfl⟩
      · rw [if_neg c3]
        by_cases c4 : τ (i + 6) 11 = 0
        · rw [if_pos c4]
          exact ⟨fun q => (by cases q), fun q => by
            rcases q.2.2 with z | z
            · exact absurd z c3
            · exact absurd c4 z⟩
        · rw [if_neg c4]; exact ⟨fun _ => ⟨c1, c2, Or.inr c4⟩, fun _ => rfl⟩
    · rw [if_neg c2, if_neg (by decide)]; exact ⟨fun q => (by cases q), fun q => absurd q.2.1 c2⟩
  · rw [if_neg c1, if_neg (by decide)]; exact ⟨fun q => (by cases q), fun q => absurd q.1 c1⟩
