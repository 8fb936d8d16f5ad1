/-! WHAT ONE IS TOLD: of LOCKS and CHANNELS -/
section TOLD
variable {π τ : Sg} {T S t U : Nat} {st : Nat → List Nat}
theorem aL_eq {c : Nat} (hc : c < 2) (w : Int32) : m_aboutLock τ (nI c) w = (if w = 0 then τ (c + 94) 1 else if w = 1 then nI (m_countWaiting τ 2 (nI c)) else if w = 2 then (match m_firstWaiting τ 2 (nI c) with
    | none => -1
    | some q => nI q) else τ (c + 94) 2) := by
  unfold m_aboutLock
  rw [m_at_nI hc (by decide)]
  rfl
theorem aC_eq {c : Nat} (hc : c < 2) (w : Int32) : m_aboutChannel τ (nI c) w = (if w = 0 then τ (c + 96) 0 else if w = 1 then τ (c + 96) 2 else if w = 2 then m_first τ c else if w = 3 then nI (m_countWaiting τ 3 (nI c)) else if w = 4 then nI (m_countWaiting τ 4 (nI c))
    else if w = 5 then (if τ (c + 96) 3 = 0 then 0 else 1) else τ (c + 96) 4) := by
  unfold m_aboutChannel
  rw [m_at_nI hc (by decide)]
def cw (τ : Sg) (w : Int32) (c : Nat) : Nat := m_countWaiting τ w (nI c)
theorem cw_le (τ : Sg) (w : Int32) (c : Nat) : cw τ w c ≤ 24 := by
  unfold cw; rw [m_countWaiting_eq]; exact cnt_le _ 24
theorem cw_pos {w : Int32} {c : Nat} (h : 0 < cw τ w c) : ∃ q, q < 24 ∧ m_waitsFor τ q w (nI c) = true := by
  refine Classical.byContradiction (fun hn => ?_)
  unfold cw at h
  rw [m_countWaiting_eq] at h
  have : cnt (m_wf τ w (nI c)) 24 ≤ cnt (fun _ => false) 24 := cnt_mono2 24 (fun q hq hz => absurd ⟨q, hq, hz⟩ hn)
  have e : cnt (fun _ => false) 24 = 0 := by decide
  omega
theorem cw_zero {w : Int32} {c : Nat} (h : ∀ q, q < 24 → m_waitsFor τ q w (nI c) ≠ true) : cw τ w c = 0 := by
  unfold cw
  rw [m_countWaiting_eq]
  exact Nat.le_zero.mp (Nat.le_trans (cnt_mono2 (Q := fun _ => false) 24 (fun q hq hz => absurd hz (h q hq))) (by decide))
theorem aL0 {c : Nat} (hc : c < 2) : m_aboutLock τ (nI c) 0 = τ (c + 94) 1 := by rw [aL_eq hc, if_pos rfl]
theorem aL1 {c : Nat} (hc : c < 2) : m_aboutLock τ (nI c) 1 = nI (cw τ 2 c) := by rw [aL_eq hc, if_neg (by decide), if_pos rfl]; rfl
theorem aL2 {c : Nat} (hc : c < 2) : m_aboutLock τ (nI c) 2 = (match m_firstWaiting τ 2 (nI c) with | none => -1 | some q => nI q) := by rw [aL_eq hc, if_neg (by decide), if_neg (by decide), if_pos rfl]
theorem aC0 {c : Nat} (hc : c < 2) : m_aboutChannel τ (nI c) 0 = τ (c + 96) 0 := by rw [aC_eq hc, if_pos rfl]
theorem aC1 {c : Nat} (hc : c < 2) : m_aboutChannel τ (nI c) 1 = τ (c + 96) 2 := by rw [aC_eq hc, if_neg (by decide), if_pos rfl]
theorem aC3 {c : Nat} (hc : c < 2) : m_aboutChannel τ (nI c) 3 = nI (cw τ 3 c) := by rw [aC_eq hc, if_neg (by decide), if_neg (by decide), if_neg (by decide), if_pos rfl]; rfl
theorem aC4 {c : Nat} (hc : c < 2) : m_aboutChannel τ (nI c) 4 = nI (cw τ 4 c) := by rw [aC_eq hc, if_neg (by decide), if_neg (by decide), if_neg (by decide), if_neg (by decide), if_pos rfl]; rfl
theorem aC5 {c : Nat} (hc : c < 2) : m_aboutChannel τ (nI c) 5 = if τ (c + 96) 3 = 0 then 0 else 1 := by rw [aC_eq hc, if_neg (by decide), if_neg (by decide), if_neg (by decide), if_neg (by decide), if_neg (by decide), if_pos rfl]
theorem aC6 {c : Nat} (hc : c < 2) : m_aboutChannel τ (nI c) 6 = τ (c + 96) 4 := by rw [aC_eq hc, if_neg (by decide), if_neg (by decide), if_neg (by decide), if_neg (by decide), if_neg (by decide), if_neg (by decide)]
theorem lock_case (h : Inv π T S t U st none none none τ) {c : Nat} (hc : c < 2) :
    (m_aboutLock τ (nI c) 0 = -1 ∧ cw τ 2 c = 0 ∧ m_aboutLock τ (nI c) 2 = -1) ∨
    (∃ p v, p < T ∧ m_aboutLock τ (nI c) 0 = nI p ∧ v ≤ 1 ∧ m_aboutTask τ (nI p) 1 = nI v ∧ cw τ 2 c = 0 ∧ m_aboutLock τ (nI c) 2 = -1) ∨
    ∃ p v n f, p < T ∧ m_aboutLock τ (nI c) 0 = nI p ∧ v ≤ 1 ∧ m_aboutTask τ (nI p) 1 = nI v ∧ n < 24 ∧ cw τ 2 c = n + 1 ∧ f < T ∧ m_aboutLock τ (nI c) 2 = nI f ∧ m_aboutTask τ (nI f) 8 = 2 ∧ f ≠ p := by
  have a1 := h.1.1
  have hT := a1.1
  rw [aL0 hc, aL2 hc]
  have none_of : cw τ 2 c = 0 → m_firstWaiting τ 2 (nI c) = none := fun z => by
    cases f : m_firstWaiting τ 2 (nI c) with
    | none => rfl
    | some q =>
      obtain ⟨hq, hw⟩ := firstWaiting_some f
      unfold cw at z
      rw [m_countWaiting_eq] at z
      have := cnt_zero (P := m_wf τ 2 (nI c)) 24 z q hq
      unfold m_wf at this
      rw [hw] at this; cases this
  rcases h.2.2.2.1.1 c hc with ⟨y1, y2⟩ | ⟨p, y1, y2, y3, y4⟩
  · have z := cw_zero (c := c) y2
    rw [none_of z]
    exact Or.inl ⟨y1, z, rfl⟩
  · have ha : ali τ p := y3.elim id (fun w => by cases w)
    have hp := a1.ltA y1 ha
    obtain ⟨v, v1, v2⟩ : ∃ v, v ≤ 1 ∧ m_aboutTask τ (nI p) 1 = nI v := by
      rw [aT1 y1]
      rcases ha with w | w
      · exact ⟨0, by omega, w⟩
      · exact ⟨1, by omega, w⟩
    right
    rcases Nat.eq_zero_or_pos (cw τ 2 c) with z | z
    · rw [none_of z]
      exact Or.inl ⟨p, v, hp, y2, v1, v2, z, rfl⟩
    · right
      obtain ⟨q, q1, q2⟩ := cw_pos z
      cases f : m_firstWaiting τ 2 (nI c) with
      | none => have := firstWaiting_none f q q1; rw [q2] at this; cases this
      | some g =>
        obtain ⟨hg, hw⟩ := firstWaiting_some f
        obtain ⟨w1, w2, _⟩ := waitsFor_iff.mp hw
        have := cw_le τ 2 c
        refine ⟨p, v, cw τ 2 c - 1, g, hp, y2, v1, v2, by omega, by omega, a1.ltA hg (Or.inr w1), rfl, ?_, fun e => y4 (by rw [← e]; exact hw)⟩
        rw [aT8 hg, if_pos w1, w2]
theorem chan_case (h : Inv π T S t U st none none none τ) (hU : U < 2 ^ 31) {c : Nat} (hc : c < 2) : (∃ u, u < 2 ^ 31 ∧ m_aboutChannel τ (nI c) 6 = nI u) ∧
    ((∃ x n, x < 24 ∧ cw τ 3 c = x + 1 ∧ 1 ≤ n ∧ n ≤ 27 ∧ m_aboutChannel τ (nI c) 1 = nI n ∧ m_aboutChannel τ (nI c) 0 = 1 ∧ cw τ 4 c = 0 ∧ m_aboutChannel τ (nI c) 5 = 0) ∨
    (∃ y, y < 24 ∧ cw τ 3 c = 0 ∧ cw τ 4 c = y + 1 ∧ m_aboutChannel τ (nI c) 1 = 0) ∨ (cw τ 3 c = 0 ∧ cw τ 4 c = 0)) := by
  rw [aC0 hc, aC1 hc, aC5 hc, aC6 hc]
  obtain ⟨z0, n, z1, z2, z3, z4⟩ := h.2.2.2.1.2.1 c hc
  obtain ⟨u, u1, u2, _⟩ := h.2.2.2.1.2.2 c hc
  refine ⟨⟨u, by omega, u2⟩, ?_⟩
  have l3 := cw_le τ 3 c
  have l4 := cw_le τ 4 c
  rcases Nat.eq_zero_or_pos (cw τ 3 c) with a | a
  · rcases Nat.eq_zero_or_pos (cw τ 4 c) with b | b
    · exact Or.inr (Or.inr ⟨a, b⟩)
    · obtain ⟨q, q1, q2⟩ := cw_pos b
      have := z4 q q1 q2
      subst this
      exact Or.inr (Or.inl ⟨cw τ 4 c - 1, by omega, a, by omega, z2⟩)
  · obtain ⟨q, q1, q2⟩ := cw_pos a
    obtain ⟨y1, y2, y3⟩ := z3 q q1 q2
    refine Or.inl ⟨cw τ 3 c - 1, n, by omega, by omega, y1, z1, z2, z0, cw_zero y3, by rw [if_pos y2]⟩
/-- what each WAITS for, summed up -/
def w8 (τ : Sg) (v q : Nat) : Bool := decide ((if τ (q + 6) 3 = 1 then τ (q + 6) 9 else 0) = nI v)
theorem cnt_two {P Q R : Nat → Bool} : ∀ n, (∀ i, i < n → (P i = true ∧ Q i = false ∧ R i = true) ∨ (P i = false ∧ Q i = true ∧ R i = true) ∨ (P i = false ∧ Q i = false ∧ R i = false)) → cnt P n + cnt Q n = cnt R n := by
  intro n
  induction n with
  | zero => intro _; rfl
  | succ n ih =>
    intro h
    have h1 := ih (fun i hi => h i (by omega))
    show cnt P n + _ + (cnt Q n + _) = cnt R n + _
    rcases h n (by omega) with ⟨a, b, c⟩ | ⟨a, b, c⟩ | ⟨a, b, c⟩ <;> rw [a, b, c] <;> simp <;> omega
theorem cnt_two_le {P Q R : Nat → Bool} : ∀ n, (∀ i, i < n → R i = true → P i = true ∨ Q i = true) → cnt R n ≤ cnt P n + cnt Q n := by
  intro n
  induction n with
  | zero => intro _; exact Nat.le_refl 0
  | succ n ih =>
    intro h
    have h1 := ih (fun i hi => h i (by omega))
    show cnt R n + _ ≤ cnt P n + _ + (cnt Q n + _)
    by_cases c : R n = true
    · rw [if_pos c]
      rcases h n (by omega) c with d | d <;> rw [if_pos d] <;> omega
    · rw [if_neg c]; omega
theorem w8_cut (a1 : IT τ T S) {v : Nat} (hv : 0 < v) (hv2 : v < 2 ^ 31) : cnt (w8 τ v) 24 = cnt (w8 τ v) T := cnt_cut T 24 a1.1 (fun i h1 h2 => by
  unfold w8
  rw [decide_eq_false_iff_not, (a1.2.2.2.2.2.1 i h1 h2).1, if_neg (by decide)]
  intro z
  have := nI_inj (a := 0) (by omega) hv2 z
  omega)
theorem w8_iff {v q : Nat} (hv : 0 < v) (hv2 : v < 2 ^ 31) : w8 τ v q = true ↔ τ (q + 6) 3 = 1 ∧ τ (q + 6) 9 = nI v := by
  unfold w8
  rw [decide_eq_true_iff]
  by_cases c : τ (q + 6) 3 = 1
  · rw [if_pos c]; exact ⟨fun z => ⟨c, z⟩, fun z => z.2⟩
  · rw [if_neg c]
    exact ⟨fun z => by have := nI_inj (a := 0) (by omega) hv2 z; omega, fun z => absurd z.1 c⟩
theorem sum_23 (h : Inv π T S t U st none none none τ) {v : Nat} (hv : v = 2 ∨ v = 3) : cw τ (nI v) 0 + cw τ (nI v) 1 = cnt (w8 τ v) T := by
  rw [← w8_cut h.1.1 (by omega) (by omega)]
  unfold cw
  rw [m_countWaiting_eq, m_countWaiting_eq]
  refine cnt_two 24 (fun q hq => ?_)
  by_cases c : w8 τ v q = true
  · obtain ⟨c1, c2⟩ := (w8_iff (by omega) (by omega)).mp c
    obtain ⟨p1, p2⟩ := h.p0 hq c1 (hv.elim (fun e => Or.inl (by rw [c2, e]; rfl)) (fun e => Or.inr (by rw [c2, e]; rfl)))
    rcases p1 with p | p
    · refine Or.inl ⟨waitsFor_iff.mpr ⟨c1, c2, Or.inl p⟩, ?_, c⟩
      cases z : m_wf τ (nI v) (nI 1) q with
      | false => rfl
      | true =>
        rcases (waitsFor_iff.mp z).2.2 with y | y
        · rw [p] at y; exact absurd y (by decide)
        · exact absurd p2 y
    · refine Or.inr (Or.inl ⟨?_, waitsFor_iff.mpr ⟨c1, c2, Or.inl p⟩, c⟩)
      cases z : m_wf τ (nI v) (nI 0) q with
      | false => rfl
      | true =>
        rcases (waitsFor_iff.mp z).2.2 with y | y
        · rw [p] at y; exact absurd y (by decide)
        · exact absurd p2 y
  · have nw : ∀ x, m_wf τ (nI v) x q = false := fun x => by
      cases z : m_wf τ (nI v) x q with
      | false => rfl
      | true =>
        obtain ⟨y1, y2, _⟩ := waitsFor_iff.mp z
        exact absurd ((w8_iff (by omega) (by omega)).mpr ⟨y1, y2⟩) c
    refine Or.inr (Or.inr ⟨nw _, nw _, ?_⟩)
    cases z : w8 τ v q with
    | false => rfl
    | true => exact absurd z c
theorem sum_4 (h : Inv π T S t U st none none none τ) : cw τ 4 0 ≤ cnt (w8 τ 4) T ∧ cw τ 4 1 ≤ cnt (w8 τ 4) T ∧ cnt (w8 τ 4) T ≤ cw τ 4 0 + cw τ 4 1 := by
  rw [← w8_cut h.1.1 (by omega) (by omega)]
  unfold cw
  rw [m_countWaiting_eq, m_countWaiting_eq]
  have le : ∀ x, cnt (m_wf τ 4 x) 24 ≤ cnt (w8 τ 4) 24 := fun x => cnt_mono2 24 (fun q hq hz => by
    obtain ⟨y1, y2, _⟩ := waitsFor_iff.mp hz
    exact (w8_iff (by omega) (by omega)).mpr ⟨y1, y2⟩)
  refine ⟨le _, le _, cnt_two_le 24 (fun q hq hz => ?_)⟩
  obtain ⟨c1, c2⟩ := (w8_iff (v := 4) (by omega) (by omega)).mp hz
  have c24 : τ (q + 6) 9 = 4 := c2
  obtain ⟨⟨a1, _⟩, _, ⟨_, d2⟩, _⟩ := h
  obtain ⟨b, _, _, g⟩ := d2 q (a1.ltA hq (Or.inr c1))
  obtain ⟨l, _, _, _, g4⟩ := g (Or.inr c1)
  rcases g4 c1 with w | w
  · rw [c24] at w; exact absurd w.1 (by decide)
  · rcases w.2.2.2.2.2.2 c24 with ⟨p1, _⟩ | p
    · rcases p1 with p | p
      · exact Or.inl (waitsFor_iff.mpr ⟨c1, c2, Or.inl p⟩)
      · exact Or.inr (waitsFor_iff.mpr ⟨c1, c2, Or.inl p⟩)
    · exact Or.inl (waitsFor_iff.mpr ⟨c1, c2, Or.inr p⟩)
end TOLD
