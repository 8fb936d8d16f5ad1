/-! COUNTING, and the invariant's words -/
def cnt (P : Nat → Bool) : Nat → Nat
  | 0 => 0
  | n + 1 => cnt P n + (if P n = true then 1 else 0)
theorem cnt_congr {P Q : Nat → Bool} : ∀ n, (∀ i, i < n → P i = Q i) → cnt P n = cnt Q n := by
  intro n
  induction n with
  | zero => intro _; rfl
  | succ n ih =>
    intro h
    show cnt P n + _ = cnt Q n + _
    rw [ih (fun i hi => h i (by omega)), h n (by omega)]
theorem cnt_le (P : Nat → Bool) : ∀ n, cnt P n ≤ n := by
  intro n
  induction n with
  | zero => exact Nat.le_refl 0
  | succ n ih =>
    show cnt P n + _ ≤ n + 1
    by_cases h : P n = true
    · rw [if_pos h]; omega
    · rw [if_neg h]; omega
/-- one more -/
theorem cnt_one {P Q : Nat → Bool} {i : Nat} (hP : P i = false) (hQ : Q i = true) (h : ∀ j, j ≠ i → P j = Q j) : ∀ n, cnt Q n = cnt P n + (if i < n then 1 else 0) := by
  intro n
  induction n with
  | zero => rw [if_neg (by omega)]; rfl
  | succ n ih =>
    show cnt Q n + _ = cnt P n + _ + _
    by_cases e : n = i
    · subst e
      rw [ih, hP, hQ, if_neg (Nat.lt_irrefl n), if_pos (Nat.lt_succ_self n), if_neg (show ¬ false = true by decide), if_pos (show true = true from rfl)]
    · rw [ih, h n e]
      by_cases h1 : i < n
      · rw [if_pos h1, if_pos (show i < n + 1 by omega)]; omega
      · rw [if_neg h1, if_neg (show ¬ i < n + 1 by omega)]; omega
theorem cnt_mono {P Q : Nat → Bool} (h : ∀ i, P i = true → Q i = true) : ∀ n, cnt P n ≤ cnt Q n := by
  intro n
  induction n with
  | zero => exact Nat.le_refl 0
  | succ n ih =>
    show cnt P n + _ ≤ cnt Q n + _
    by_cases c : P n = true
    · rw [if_pos c, if_pos (h n c)]; omega
    · rw [if_neg c]; omega
/-- as many, then the same ones -/
theorem cnt_all {P Q : Nat → Bool} (h : ∀ i, P i = true → Q i = true) : ∀ n, cnt Q n ≤ cnt P n → ∀ i, i < n → Q i = true → P i = true := by
  intro n
  induction n with
  | zero => intro _ i hi; omega
  | succ n ih =>
    intro hle i hi hq
    have h1 : cnt P (n + 1) = cnt P n + (if P n = true then 1 else 0) := rfl
    have h2 : cnt Q (n + 1) = cnt Q n + (if Q n = true then 1 else 0) := rfl
    have h3 := cnt_mono h n
    rw [h1, h2] at hle
    by_cases c : Q n = true
    · rw [if_pos c] at hle
      by_cases d : P n = true
      · by_cases e : i = n
        · subst e; exact d
        · rw [if_pos d] at hle
          exact ih (by omega) i (by omega) hq
      · rw [if_neg d] at hle; omega
    · rw [if_neg c] at hle
      by_cases e : i = n
      · subst e; exact absurd hq c
      · refine ih ?_ i (by omega) hq
        by_cases d : P n = true
        · exact absurd (h n d) c
        · rw [if_neg d] at hle; omega
theorem cnt_pos {P : Nat → Bool} {i : Nat} : ∀ n, i < n → P i = true → 0 < cnt P n := by
  intro n
  induction n with
  | zero => intro h; omega
  | succ n ih =>
    intro hi hp
    show 0 < cnt P n + _
    by_cases e : i = n
    · subst e; rw [if_pos hp]; omega
    · have := ih (by omega) hp; omega
theorem cnt_zero {P : Nat → Bool} : ∀ n, cnt P n = 0 → ∀ i, i < n → P i = false := by
  intro n h i hi
  cases hp : P i with
  | false => rfl
  | true => exact absurd (cnt_pos n hi hp) (by omega)
/-- the Answers' own way of counting is this one -/
theorem m_cnt_eq (f : Nat → Bool) : ∀ (n j c : Nat), m_cnt f n j c = c + (cnt f (j + n) - cnt f j) := by
  intro n
  induction n with
  | zero => intro j c; show c = _; rw [Nat.add_zero]; omega
  | succ n ih =>
    intro j c
    show m_cnt f n (j + 1) _ = _
    rw [ih (j + 1)]
    have h1 : cnt f (j + 1) = cnt f j + (if f j = true then 1 else 0) := rfl
    have h2 : j + 1 + n = j + (n + 1) := by omega
    rw [h2]
    have h3 : ∀ k m, cnt f k ≤ cnt f (k + m) := by
      intro k m
      induction m with
      | zero => exact Nat.le_refl _
      | succ m im =>
        have : cnt f (k + (m + 1)) = cnt f (k + m) + (if f (k + m) = true then 1 else 0) := rfl
        omega
    have h4 := h3 (j + 1) n
    rw [h2] at h4
    by_cases c1 : f j = true
    · rw [if_pos c1] at h1 ⊢; omega
    · rw [if_neg c1] at h1 ⊢; omega
theorem m_cnt_0 (f : Nat → Bool) (n : Nat) : m_cnt f n 0 0 = cnt f n := by
  rw [m_cnt_eq]
  show 0 + (cnt f (0 + n) - 0) = cnt f n
  rw [Nat.zero_add, Nat.zero_add, Nat.sub_zero]
theorem m_countTasks_eq (τ : Sg) (x : Int32) : m_countTasks τ x = cnt (m_isIn τ x) 24 := m_cnt_0 _ 24
theorem m_countOver_eq (τ : Sg) : m_countOver τ = cnt (m_isOver τ) 24 := m_cnt_0 _ 24
theorem m_countLive_eq (τ : Sg) : m_countLive τ = cnt (m_isLive τ) 40 := m_cnt_0 _ 40
theorem m_countCan_eq (τ : Sg) : m_countCan τ = cnt (m_isCan τ) 40 := m_cnt_0 _ 40
theorem m_countWaiting_eq (τ : Sg) (w x : Int32) : m_countWaiting τ w x = cnt (m_wf τ w x) 24 := m_cnt_0 _ 24
theorem m_newlyHit_eq (τ : Sg) (x : Int32) : m_newlyHit τ x = cnt (m_nh τ x) 24 := m_cnt_0 _ 24
/-- a list of numbers below n, each once: as long as there are such numbers -/
theorem cnt_list : ∀ (n : Nat) (P : Nat → Bool) (L : List Nat), L.Nodup → (∀ i, i ∈ L ↔ i < n ∧ P i = true) → cnt P n = L.length := by
  intro n
  induction n with
  | zero =>
    intro P L _ h
    cases L with
    | nil => rfl
    | cons a t => exact absurd ((h a).mp List.mem_cons_self).1 (Nat.not_lt_zero a)
  | succ n ih =>
    intro P L hn h
    show cnt P n + _ = _
    by_cases c : P n = true
    · have hm : n ∈ L := (h n).mpr ⟨by omega, c⟩
      rw [if_pos c, ih P (L.erase n) (hn.erase n) (fun i => by
        rw [hn.mem_erase_iff, h i]
        constructor
        · rintro ⟨h1, h2, h3⟩; exact ⟨by omega, h3⟩
        · rintro ⟨h1, h2⟩; exact ⟨by omega, by omega, h2⟩), List.length_erase_of_mem hm]
      have : 0 < L.length := List.length_pos_of_mem hm
      omega
    · rw [if_neg c, ih P L hn (fun i => by
        rw [h i]
        constructor
        · rintro ⟨h1, h2⟩
          refine ⟨?_, h2⟩
          rcases Nat.lt_or_ge i n with q | q
          · exact q
          · have : i = n := by omega
            subst this; exact absurd h2 c
        · rintro ⟨h1, h2⟩; exact ⟨by omega, h2⟩), Nat.add_zero]
/-- as many READY ones as the row is long -/
theorem ready_count {τ : Sg} {L : List Nat} (h : ReadyIs τ L none) : m_countTasks τ 0 = L.length := by
  rw [m_countTasks_eq]
  refine cnt_list 24 _ L h.2.1 (fun i => ?_)
  have e : m_isIn τ 0 i = true ↔ τ (i + 6) 3 = 0 := by
    unfold m_isIn
    by_cases c : τ (i + 6) 3 = 0
    · rw [if_pos c]; exact ⟨fun _ => c, fun _ => rfl⟩
    · rw [if_neg c]; exact ⟨fun q => (by cases q), fun q => absurd q c⟩
  rw [e]
  constructor
  · intro hi
    have := h.2.2.1 i hi
    exact ⟨this.1, this.2.1⟩
  · rintro ⟨h1, h2⟩
    exact h.2.2.2 i h1 h2 (by intro q; cases q)
/-- where a READY one stands in the row -/
theorem pir_spec {τ : Sg} {L : List Nat} {i : Nat} (h : RowIs τ L) (hi : i < 24) (hL : ∀ x ∈ L, x < 24) : ∀ (n j : Nat), n + j = 24 → (∀ q, q < j → L[q]? ≠ some i) →
    (i ∈ L → ∃ q, L[q]? = some i ∧ m_pir τ i n j = nI q ∧ q < 24) ∧ (i ∉ L → m_pir τ i n j = -1) := by
  intro n
  induction n with
  | zero =>
    intro j hn hq
    refine ⟨fun hm => ?_, fun _ => rfl⟩
    obtain ⟨q, h1⟩ := List.getElem?_of_mem hm
    have h2 := (List.getElem?_eq_some_iff.mp h1).1
    have h3 := h.2.1
    exact absurd h1 (hq q (by omega))
  | succ n ih =>
    intro j hn hq
    unfold m_pir
    by_cases c : τ 0 7 ≤ nI j
    · rw [if_pos c]
      rw [h.1] at c
      have hl := h.2.1
      have c2 := (nI_leI (by omega) (by omega)).mp c
      refine ⟨fun hm => ?_, fun _ => rfl⟩
      obtain ⟨q, h1⟩ := List.getElem?_of_mem hm
      have h2 := (List.getElem?_eq_some_iff.mp h1).1
      exact absurd h1 (hq q (by omega))
    · rw [if_neg c]
      have hl := h.2.1
      have hj : j < L.length := by
        rw [h.1] at c
        exact Nat.not_le.mp (fun z => c ((nI_leI (by omega) (by omega)).mpr z))
      have hx : L[j]? = some L[j] := List.getElem?_eq_getElem hj
      have hv := h.2.2 j L[j] hx
      have hb := hL L[j] (List.getElem_mem hj)
      by_cases e : L[j] = i
      · rw [if_pos (by rw [hv, e])]
        rw [e] at hx
        exact ⟨fun _ => ⟨j, hx, rfl, by omega⟩, fun hm => absurd (List.mem_of_getElem? hx) hm⟩
      · rw [if_neg (fun z => e (nI_inj (by omega) (by omega) (hv.symm.trans z)))]
        refine ih (j + 1) (by omega) (fun q hqj z => ?_)
        by_cases e2 : q = j
        · subst e2; rw [hx] at z; cases z; exact e rfl
        · exact hq q (by omega) z
theorem place_spec {τ : Sg} {L : List Nat} {i : Nat} (h : RowIs τ L) (hi : i < 24) (hL : ∀ x ∈ L, x < 24) : (i ∈ L → ∃ q, L[q]? = some i ∧ m_placeInRow τ i = nI q ∧ q < 24) ∧ (i ∉ L → m_placeInRow τ i = -1) := pir_spec h hi hL 24 0 rfl (fun q hq => by omega)
