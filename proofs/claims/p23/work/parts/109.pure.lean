/-! WHAT ONE IS TOLD: of TASKS -/
theorem n1_lt {b : Nat} (hb : b < 2 ^ 31) : (-1 : Int32) < nI b := by
  rw [Int32.lt_iff_toInt_lt, nI_toInt hb, show (-1 : Int32).toInt = -1 from by decide]; omega
theorem n1_nlt {b : Nat} (hb : b < 2 ^ 31) : ¬ nI b < (-1 : Int32) := by
  rw [Int32.lt_iff_toInt_lt, nI_toInt hb, show (-1 : Int32).toInt = -1 from by decide]; omega
theorem n1_le {b : Nat} (hb : b < 2 ^ 31) : (-1 : Int32) ≤ nI b := by
  rw [Int32.le_iff_toInt_le, nI_toInt hb, show (-1 : Int32).toInt = -1 from by decide]; omega
theorem n1_nle {b : Nat} (hb : b < 2 ^ 31) : ¬ nI b ≤ (-1 : Int32) := by
  rw [Int32.le_iff_toInt_le, nI_toInt hb, show (-1 : Int32).toInt = -1 from by decide]; omega
section TOLD
variable {π τ : Sg} {T S t U : Nat} {st : Nat → List Nat}
theorem aT_eq {k : Nat} (hk : k < 24) (w : Int32) : m_aboutTask τ (nI k) w = (if w = 0 then τ (k + 6) 2 else if w = 1 then τ (k + 6) 3 else if w = 2 then (if m_isOver τ k = true then -1 else τ (k + 6) 4) else if w = 3 then τ (k + 6) 5
    else if w = 4 then τ (k + 6) 6 else if w = 5 then τ (k + 6) 8 else if w = 6 then m_placeInRow τ k else if w = 7 then (if m_isOver τ k = true then 0 else if m_isHit τ k (-1) = true then 1 else 0)
    else if τ (k + 6) 3 = 1 then τ (k + 6) 9 else 0) := by
  unfold m_aboutTask
  rw [m_at_nI hk (by decide)]
theorem aT0 {k : Nat} (hk : k < 24) : m_aboutTask τ (nI k) 0 = τ (k + 6) 2 := by rw [aT_eq hk, if_pos rfl]
theorem aT1 {k : Nat} (hk : k < 24) : m_aboutTask τ (nI k) 1 = τ (k + 6) 3 := by rw [aT_eq hk, if_neg (by decide), if_pos rfl]
theorem aT2 {k : Nat} (hk : k < 24) : m_aboutTask τ (nI k) 2 = if m_isOver τ k = true then -1 else τ (k + 6) 4 := by rw [aT_eq hk, if_neg (by decide), if_neg (by decide), if_pos rfl]
theorem aT3 {k : Nat} (hk : k < 24) : m_aboutTask τ (nI k) 3 = τ (k + 6) 5 := by rw [aT_eq hk, if_neg (by decide), if_neg (by decide), if_neg (by decide), if_pos rfl]
theorem aT4 {k : Nat} (hk : k < 24) : m_aboutTask τ (nI k) 4 = τ (k + 6) 6 := by rw [aT_eq hk, if_neg (by decide), if_neg (by decide), if_neg (by decide), if_neg (by decide), if_pos rfl]
theorem aT5 {k : Nat} (hk : k < 24) : m_aboutTask τ (nI k) 5 = τ (k + 6) 8 := by rw [aT_eq hk, if_neg (by decide), if_neg (by decide), if_neg (by decide), if_neg (by decide), if_neg (by decide), if_pos rfl]
theorem aT6 {k : Nat} (hk : k < 24) : m_aboutTask τ (nI k) 6 = m_placeInRow τ k := by rw [aT_eq hk, if_neg (by decide), if_neg (by decide), if_neg (by decide), if_neg (by decide), if_neg (by decide), if_neg (by decide), if_pos rfl]
theorem aT7 {k : Nat} (hk : k < 24) : m_aboutTask τ (nI k) 7 = if m_isOver τ k = true then 0 else if m_isHit τ k (-1) = true then 1 else 0 := by rw [aT_eq hk, if_neg (by decide), if_neg (by decide), if_neg (by decide), if_neg (by decide), if_neg (by decide), if_neg (by decide), if_neg (by decide), if_pos rfl]
theorem aT8 {k : Nat} (hk : k < 24) : m_aboutTask τ (nI k) 8 = if τ (k + 6) 3 = 1 then τ (k + 6) 9 else 0 := by rw [aT_eq hk, if_neg (by decide), if_neg (by decide), if_neg (by decide), if_neg (by decide), if_neg (by decide), if_neg (by decide), if_neg (by decide), if_neg (by decide)]
theorem not_over {q : Nat} (h : ali τ q) : ¬ m_isOver τ q = true := fun z => ali_not_ovr h (over_iff.mp z)
def TcR (τ : Sg) (L : List Nat) (k : Nat) : Prop := m_aboutTask τ (nI k) 1 = 0 ∧ ∃ p l, L[p]? = some k ∧ p < 24 ∧ m_aboutTask τ (nI k) 6 = nI p ∧ m_aboutTask τ (nI k) 8 = 0 ∧ m_aboutTask τ (nI k) 2 = nI l ∧ l ≤ 12
def TcS (τ : Sg) (k : Nat) : Prop := m_aboutTask τ (nI k) 1 = 1 ∧ m_aboutTask τ (nI k) 6 = -1 ∧ m_aboutTask τ (nI k) 8 = 5 ∧ ∃ l d, l ≤ 12 ∧ m_aboutTask τ (nI k) 2 = nI l ∧ m_aboutTask τ (nI k) 5 = nI (d + 1) ∧ d < 40
def TcW (τ π : Sg) (k : Nat) : Prop := m_aboutTask τ (nI k) 1 = 1 ∧ m_aboutTask τ (nI k) 6 = -1 ∧ m_aboutTask τ (nI k) 7 = 0 ∧ ∃ w l b, 1 ≤ w ∧ w ≤ 4 ∧ m_aboutTask τ (nI k) 8 = nI w ∧ m_aboutTask τ (nI k) 2 = nI l ∧ l < 12 ∧ b < 8 ∧ m_aboutTask τ (nI k) 0 = nI b ∧ nI l < π 1 b ∧ wkd (π 2 (b * 12 + l)) (nI w)
def TcO (τ : Sg) (k : Nat) : Prop := m_aboutTask τ (nI k) 6 = -1 ∧ m_aboutTask τ (nI k) 8 = 0 ∧ m_aboutTask τ (nI k) 2 = -1 ∧ m_aboutTask τ (nI k) 5 = 0 ∧ m_aboutTask τ (nI k) 7 = 0 ∧ ∃ v, 2 ≤ v ∧ v ≤ 4 ∧ m_aboutTask τ (nI k) 1 = nI v
theorem wkd_nat {x w : Int32} (h : wkd x w) : ∃ n, 1 ≤ n ∧ n ≤ 4 ∧ w = nI n := by
  rcases h with ⟨_, e⟩ | ⟨_, e⟩ | ⟨_, e⟩ | ⟨_, e⟩
  · exact ⟨1, by omega, by omega, e⟩
  · exact ⟨2, by omega, by omega, e⟩
  · exact ⟨3, by omega, by omega, e⟩
  · exact ⟨4, by omega, by omega, e⟩
/-- four kinds of TASKS -/
theorem task_case {L : List Nat} {B : Nat} (hP : IP π B) (h : Inv π T S t U st none none none τ) (hL : ReadyIs τ L none) {k : Nat} (hk : k < T) : TcR τ L k ∨ TcS τ k ∨ TcW τ π k ∨ TcO τ k := by
  obtain ⟨⟨a1, a2, a3, a4⟩, b, ⟨d1, d2⟩, e, f⟩ := id h
  have hT := a1.1
  have hk24 : k < 24 := by omega
  have hpl := place_spec hL.1 hk24 (fun x hx => (hL.2.2.1 x hx).1)
  obtain ⟨bd, hb, hb2, hg⟩ := d2 k hk
  unfold TcR TcS TcW TcO
  rw [aT0 hk24, aT1 hk24, aT2 hk24, aT5 hk24, aT6 hk24, aT7 hk24, aT8 hk24]
  rcases a1.2.2.2.2.1 k hk with ha | ho
  · obtain ⟨l, l1, l2, l3, l4⟩ := hg ha
    rw [if_neg (not_over ha), if_neg (not_over ha)]
    by_cases h3 : τ (k + 6) 3 = 0
    · left
      have hm := hL.2.2.2 k hk24 h3 (by intro z; cases z)
      obtain ⟨p, p1, p2, p3⟩ := hpl.1 hm
      exact ⟨h3, p, l, p1, p3, p2, by rw [if_neg (by rw [h3]; decide)], l2, l1⟩
    · have h1 : τ (k + 6) 3 = 1 := ha.elim (fun z => absurd z h3) id
      have hm : k ∉ L := fun z => h3 (hL.2.2.1 k z).2.1
      rw [if_pos h1]
      rcases l4 h1 with ⟨w5, wst⟩ | ⟨w5, w⟩
      · refine Or.inr (Or.inl ⟨h1, hpl.2 hm, w5, l, (st k).length - 1, l1, l2, ?_, ?_⟩)
        · have hne : 0 < (st k).length := List.length_pos_iff.mpr wst
          rw [(a3.1.1 k hk24).2.1]
          rw [show (st k).length - 1 + 1 = (st k).length from by omega]
        · have := stack_len a1 a3 hk24
          have := a1.2.1
          have hne : 0 < (st k).length := List.length_pos_iff.mpr wst
          omega
      · obtain ⟨w1, w2, _⟩ := w
        obtain ⟨n, n1, n2, n3⟩ := wkd_nat w2
        have hl12 : l < 12 := by
          obtain ⟨q, q1, q2⟩ := hP.2.2.1 bd hb
          rw [q2] at w1
          have := (nI_ltI (by omega) (by omega)).mp w1
          omega
        refine Or.inr (Or.inr (Or.inl ⟨h1, hpl.2 hm, ?_, n, l, bd, n1, n2, n3, l2, hl12, hb, hb2, w1, by rw [← n3]; exact w2⟩))
        rw [d1 k hk24 h1 w5, if_neg (by decide)]
  · right; right; right
    have hov := over_iff.mpr ho
    have hna : ¬ ali τ k := fun z => ali_not_ovr z ho
    have hm : k ∉ L := fun z => hna (Or.inl (hL.2.2.1 k z).2.1)
    rw [if_pos hov, if_pos hov, if_neg (fun z => hna (Or.inr z))]
    refine ⟨hpl.2 hm, rfl, rfl, ?_, rfl, ?_⟩
    · rw [(a3.1.1 k hk24).2.1, a3.2 k hk24 hna]; rfl
    · rcases ho with z | z | z
      · exact ⟨2, by omega, by omega, z⟩
      · exact ⟨3, by omega, by omega, z⟩
      · exact ⟨4, by omega, by omega, z⟩
/-- what there is, and the SCOPE that it is IN -/
theorem aS_eq {k : Nat} (hk : k < 40) (w : Int32) : m_aboutScope τ (nI k) w = (if w = 0 then τ (k + 54) 2 else if w = 1 then τ (k + 54) 1 else if w = 2 then (if τ (k + 54) 5 = 0 then 0 else 1) else if w = 3 then τ (k + 54) 7
    else if w = 4 then (if τ (k + 54) 6 = 0 then 0 else 1) else if w = 5 then τ (k + 54) 10 else if w = 6 then τ (k + 54) 11 else if w = 7 then τ (k + 54) 12 else τ (k + 54) 13) := by
  unfold m_aboutScope
  rw [m_at_nI hk (by decide)]
theorem task_in (h : Inv π T S t U st none none none τ) {k : Nat} (hk : k < T) : m_aboutTask τ (nI k) 4 = -1 ∨ ∃ q, q < S ∧ m_aboutTask τ (nI k) 4 = nI q ∧ (∃ o, o < k ∧ m_aboutScope τ (nI q) 0 = nI o) ∧ ∃ v, v ≤ 2 ∧ m_aboutScope τ (nI q) 1 = nI v ∧ (v = 2 → ¬ ali τ k) := by
  obtain ⟨⟨a1, a2, a3, a4⟩, b, d, e, f⟩ := id h
  have hk24 : k < 24 := by have := a1.1; omega
  have hS := a1.2.1
  rw [aT4 hk24]
  rcases b.1 k hk24 with y | ⟨q, y1, y2, ⟨o, y3, y4⟩, y5⟩
  · exact Or.inl y
  · refine Or.inr ⟨q, y1, y2, ⟨o, y3, ?_⟩, ?_⟩
    · rw [aS_eq (by omega), if_pos rfl]; exact y4
    · rw [aS_eq (by omega), if_neg (by decide), if_pos rfl]
      rcases a1.2.2.2.2.2.2.1 q y1 with z | z | z
      · exact ⟨0, by omega, z, fun w => by omega⟩
      · exact ⟨1, by omega, z, fun w => by omega⟩
      · exact ⟨2, by omega, z, fun _ ha => not_live2 z (y5 (Or.inl ha))⟩
theorem task_there (hB : TB τ) {k : Nat} (hk : k < 24) : bnd (m_aboutTask τ (nI k) 3) := by
  rw [aT3 hk]; exact hB _ _ (by unfold inB; omega)
theorem abs_bnd {v : Int32} (h : bnd v) : ¬ 9999 < (if 0 ≤ v then v else 0 - v) := by
  have hb := bnd_iff.mp h
  have e1 : (9999 : Int32).toInt = 9999 := by decide
  by_cases c : 0 ≤ v
  · rw [if_pos c, Int32.lt_iff_toInt_lt, e1]; omega
  · rw [if_neg c, Int32.lt_iff_toInt_lt, e1, Int32.toInt_sub]
    rw [show (0 : Int32).toInt = 0 from by decide]
    have : (0 - v.toInt).bmod (2 ^ 32) = 0 - v.toInt := by
      apply Int.bmod_eq_of_le <;> omega
    rw [this]; omega
/-- sums over those that are there are sums over all -/
theorem cnt_cut {P : Nat → Bool} : ∀ (n m : Nat), n ≤ m → (∀ i, n ≤ i → i < m → P i = false) → cnt P m = cnt P n := by
  intro n m
  induction m with
  | zero => intro h _; rw [show n = 0 by omega]
  | succ m ih =>
    intro h hz
    by_cases e : n = m + 1
    · rw [e]
    · show cnt P m + _ = cnt P n
      rw [hz m (by omega) (by omega), if_neg (by decide), ih (by omega) (fun i h1 h2 => hz i h1 (by omega)), Nat.add_zero]
theorem isIn_iff {x : Int32} {q : Nat} : m_isIn τ x q = true ↔ τ (q + 6) 3 = x := by
  unfold m_isIn
  by_cases c : τ (q + 6) 3 = x
  · rw [if_pos c]; exact ⟨fun _ => c, fun _ => rfl⟩
  · rw [if_neg c]; exact ⟨fun z => (by cases z), fun z => absurd z c⟩
theorem isIn_cut (a1 : IT τ T S) {x : Int32} (hx : x ≠ -1) : cnt (m_isIn τ x) 24 = cnt (m_isIn τ x) T := cnt_cut T 24 a1.1 (fun i h1 h2 => by
  cases z : m_isIn τ x i with
  | false => rfl
  | true =>
    have := isIn_iff.mp z
    rw [(a1.2.2.2.2.2.1 i h1 h2).1] at this
    exact absurd this.symm hx)
/-- the sums of the kinds, as one is told -/
theorem many_st (a1 : IT τ T S) : m_howMany τ π 2 = nI (cnt (m_isIn τ 0) T) ∧ m_howMany τ π 3 = nI (cnt (m_isIn τ 1) T) ∧ m_howMany τ π 4 = nI (cnt (m_isIn τ 2) T) ∧ m_howMany τ π 5 = nI (cnt (m_isIn τ 3) T) ∧ m_howMany τ π 6 = nI (cnt (m_isIn τ 4) T) := by
  rw [← isIn_cut a1 (by decide), ← isIn_cut a1 (by decide), ← isIn_cut a1 (by decide), ← isIn_cut a1 (by decide), ← isIn_cut a1 (by decide)]
  rw [← m_countTasks_eq, ← m_countTasks_eq, ← m_countTasks_eq, ← m_countTasks_eq, ← m_countTasks_eq]
  unfold m_howMany
  refine ⟨?_, ?_, ?_, ?_, ?_⟩ <;> simp (decide := true) only [if_neg, if_pos]
theorem many_1 (a1 : IT τ T S) : m_howMany τ π 1 = nI T := by
  unfold m_howMany
  rw [if_neg (by decide), if_pos rfl]; exact a1.2.2.1
theorem many_7 (a1 : IT τ T S) : m_howMany τ π 7 = nI S := by
  unfold m_howMany
  simp (decide := true) only [if_neg, if_pos]; exact a1.2.2.2.1
theorem ready_len {L : List Nat} (hL : ReadyIs τ L none) (a1 : IT τ T S) : cnt (m_isIn τ 0) T = L.length := by
  rw [← isIn_cut a1 (by decide), ← m_countTasks_eq]; exact ready_count hL
/-- STUCK: none, or all that WAIT, and none is READY -/
theorem stuck_case (a1 : IT τ T S) : m_countStuck τ = 0 ∨ (m_countStuck τ = nI (cnt (m_isIn τ 1) T) ∧ cnt (m_isIn τ 0) T = 0) := by
  unfold m_countStuck
  by_cases c1 : m_timer τ = true
  · rw [if_pos c1]; exact Or.inl rfl
  · rw [if_neg c1]
    by_cases c2 : m_busy τ = true
    · rw [if_pos c2]; exact Or.inl rfl
    · rw [if_neg c2, m_countTasks_eq, isIn_cut a1 (by decide)]
      refine Or.inr ⟨rfl, ?_⟩
      have any : ∀ (f : Nat → Bool) (n j : Nat), m_any f n j ≠ true → ∀ i, j ≤ i → i < j + n → f i ≠ true := fun f n => by
        induction n with
        | zero => intro j _ i h1 h2; omega
        | succ n ih =>
          intro j h i h1 h2
          unfold m_any at h
          by_cases c : f j = true
          · rw [if_pos c] at h; exact absurd rfl h
          · rw [if_neg c] at h
            by_cases e : i = j
            · rw [e]; exact c
            · exact ih (j + 1) h i (by omega) (by omega)
      rw [← isIn_cut a1 (by decide)]
      refine Nat.le_zero.mp (Nat.le_trans (cnt_mono2 (Q := fun _ => false) 24 (fun q hq hz => ?_)) (by decide))
      have h0 := isIn_iff.mp hz
      have := any _ 24 0 c2 q (by omega) (by omega)
      refine absurd ?_ this
      unfold m_isBusy
      rw [if_pos h0]
end TOLD
