/-! WHAT ONE IS TOLD: of SCOPES -/
section TOLD
variable {π τ : Sg} {T S t U : Nat} {st : Nat → List Nat}
theorem aS0 {k : Nat} (hk : k < 40) : m_aboutScope τ (nI k) 0 = τ (k + 54) 2 := by rw [aS_eq hk, if_pos rfl]
theorem aS1 {k : Nat} (hk : k < 40) : m_aboutScope τ (nI k) 1 = τ (k + 54) 1 := by rw [aS_eq hk, if_neg (by decide), if_pos rfl]
theorem aS2 {k : Nat} (hk : k < 40) : m_aboutScope τ (nI k) 2 = if τ (k + 54) 5 = 0 then 0 else 1 := by rw [aS_eq hk, if_neg (by decide), if_neg (by decide), if_pos rfl]
theorem aS3 {k : Nat} (hk : k < 40) : m_aboutScope τ (nI k) 3 = τ (k + 54) 7 := by rw [aS_eq hk, if_neg (by decide), if_neg (by decide), if_neg (by decide), if_pos rfl]
theorem aS4 {k : Nat} (hk : k < 40) : m_aboutScope τ (nI k) 4 = if τ (k + 54) 6 = 0 then 0 else 1 := by rw [aS_eq hk, if_neg (by decide), if_neg (by decide), if_neg (by decide), if_neg (by decide), if_pos rfl]
theorem aS5 {k : Nat} (hk : k < 40) : m_aboutScope τ (nI k) 5 = τ (k + 54) 10 := by rw [aS_eq hk, if_neg (by decide), if_neg (by decide), if_neg (by decide), if_neg (by decide), if_neg (by decide), if_pos rfl]
theorem aS6 {k : Nat} (hk : k < 40) : m_aboutScope τ (nI k) 6 = τ (k + 54) 11 := by rw [aS_eq hk, if_neg (by decide), if_neg (by decide), if_neg (by decide), if_neg (by decide), if_neg (by decide), if_neg (by decide), if_pos rfl]
theorem aS7 {k : Nat} (hk : k < 40) : m_aboutScope τ (nI k) 7 = τ (k + 54) 12 := by rw [aS_eq hk, if_neg (by decide), if_neg (by decide), if_neg (by decide), if_neg (by decide), if_neg (by decide), if_neg (by decide), if_neg (by decide), if_pos rfl]
theorem aS8 {k : Nat} (hk : k < 40) : m_aboutScope τ (nI k) 8 = τ (k + 54) 13 := by rw [aS_eq hk, if_neg (by decide), if_neg (by decide), if_neg (by decide), if_neg (by decide), if_neg (by decide), if_neg (by decide), if_neg (by decide), if_neg (by decide)]
/-- nobody who isn't there is IN one -/
theorem in_cut (a1 : IT τ T S) {k : Nat} (hk : k < 40) {P : Nat → Bool} (hP : ∀ q, P q = true → τ (q + 6) 6 = nI k) : cnt P 24 = cnt P T := cnt_cut T 24 a1.1 (fun i h1 h2 => by
  cases z : P i with
  | false => rfl
  | true =>
    have := hP i z
    rw [(a1.2.2.2.2.2.1 i h1 h2).2.1] at this
    exact absurd this (neg1_ne (by omega)))
theorem cut_isI (a1 : IT τ T S) {k : Nat} (hk : k < 40) : cnt (isI τ k) 24 = cnt (isI τ k) T := in_cut a1 hk (fun q h => by unfold isI at h; exact decide_eq_true_iff.mp h)
theorem cut_ovI (a1 : IT τ T S) {k : Nat} (hk : k < 40) : cnt (ovI τ none k) 24 = cnt (ovI τ none k) T := in_cut a1 hk (fun q h => by unfold ovI at h; exact (decide_eq_true_iff.mp h).1)
theorem cut_faI (a1 : IT τ T S) {k : Nat} (hk : k < 40) : cnt (faI τ none k) 24 = cnt (faI τ none k) T := in_cut a1 hk (fun q h => by unfold faI at h; exact (decide_eq_true_iff.mp h).1)
/-- what is told of a SCOPE's TASKS -/
theorem scope_sums (h : Inv π T S t U st none none none τ) {k : Nat} (hk : k < S) : m_aboutScope τ (nI k) 5 = nI (cnt (isI τ k) T) ∧ m_aboutScope τ (nI k) 6 = nI (cnt (ovI τ none k) T) ∧ m_aboutScope τ (nI k) 7 = nI (cnt (faI τ none k) T) := by
  have a1 := h.1.1
  have hk40 : k < 40 := by have := a1.2.1; omega
  obtain ⟨g1, g2, g3⟩ := h.2.1.2.1 k hk
  rw [aS5 hk40, aS6 hk40, aS7 hk40, g1, g2, g3, cut_isI a1 hk40, cut_ovI a1 hk40, cut_faI a1 hk40]
  exact ⟨rfl, rfl, rfl⟩
theorem scope_first (h : Inv π T S t U st none none none τ) {k : Nat} (hk : k < S) : (m_aboutScope τ (nI k) 8 = -1 ∧ cnt (faI τ none k) T = 0) ∨ ∃ f, f < T ∧ m_aboutScope τ (nI k) 8 = nI f ∧ 0 < cnt (faI τ none k) T ∧ m_aboutTask τ (nI f) 4 = nI k ∧ m_aboutTask τ (nI f) 1 = 3 ∧ m_aboutScope τ (nI k) 2 = 1 := by
  have a1 := h.1.1
  have hk40 : k < 40 := by have := a1.2.1; omega
  rw [aS8 hk40, aS2 hk40]
  rcases h.2.1.2.2.1 k hk with ⟨y1, y2⟩ | ⟨f, y1, y2, y3, y4, y5, y6⟩
  · refine Or.inl ⟨y1, ?_⟩
    refine Nat.le_zero.mp (Nat.le_trans (cnt_mono2 (Q := fun _ => false) T (fun q hq hz => ?_)) (by rw [cnt_congr (Q := fun _ => false) T (fun _ _ => rfl)]; exact Nat.le_of_eq (by
      have : ∀ n, cnt (fun _ => false) n = 0 := fun n => by
        induction n with
        | zero => rfl
        | succ n ih => show cnt _ n + _ = 0; rw [ih]; rfl
      exact this T)))
    unfold faI at hz
    obtain ⟨z1, z2, _⟩ := decide_eq_true_iff.mp hz
    have := y2 q (by have := a1.1; omega) z1 z2
    cases this
  · have hfT : f < T := a1.lt y1 (by rw [y4]; decide)
    refine Or.inr ⟨f, hfT, y2, ?_, by rw [aT4 y1]; exact y3, by rw [aT1 y1]; exact y4, by rw [if_neg y6]⟩
    exact cnt_pos T hfT (by unfold faI; exact decide_eq_true_iff.mpr ⟨y3, y4, by intro z; cases z⟩)
/-- how a SCOPE stands -/
theorem scope_state (h : Inv π T S t U st none none none τ) {k : Nat} (hk : k < S) : (m_aboutScope τ (nI k) 1 = 0 ∧ m_isLive τ k = true) ∨ (m_aboutScope τ (nI k) 1 = 1 ∧ cnt (ovI τ none k) T ≠ cnt (isI τ k) T ∧ m_isLive τ k = true) ∨ (m_aboutScope τ (nI k) 1 = 2 ∧ cnt (ovI τ none k) T = cnt (isI τ k) T ∧ m_isLive τ k = false) := by
  have a1 := h.1.1
  have hT := a1.1
  have hk40 : k < 40 := by have := a1.2.1; omega
  rw [aS1 hk40]
  rcases a1.2.2.2.2.2.2.1 k hk with z | z | z
  · exact Or.inl ⟨z, live_iff.mpr (Or.inl z)⟩
  · refine Or.inr (Or.inl ⟨z, ?_, live_iff.mpr (Or.inr z)⟩)
    obtain ⟨q, q1, q2, q3⟩ := h.2.1.2.2.2.1 k hk z
    have ha : ali τ q := q3.elim id (fun w => by cases w)
    have := cnt_less (P := ovI τ none k) (Q := isI τ k) (q := q) T (a1.ltA q1 ha) (fun i hi hz => by
      unfold ovI at hz; unfold isI
      rw [decide_eq_true_iff] at hz ⊢; exact hz.1) (by
      unfold ovI; rw [decide_eq_false_iff_not]; exact fun w => ali_not_ovr ha w.2.1) (by unfold isI; rw [decide_eq_true_iff]; exact q2)
    omega
  · refine Or.inr (Or.inr ⟨z, ?_, ?_⟩)
    · refine cnt_congr T (fun q hq => ?_)
      unfold ovI isI
      rw [decide_eq_decide]
      refine ⟨fun w => w.1, fun w => ⟨w, ?_, by intro y; cases y⟩⟩
      rcases a1.2.2.2.2.1 q hq with ha | ho
      · rcases h.2.1.1 q (by omega) with y | ⟨p, y1, y2, _, y5⟩
        · rw [y] at w; exact absurd w (neg1_ne (by omega))
        · rw [w] at y2
          have e := nI_inj (by omega) (by have := a1.2.1; omega) y2
          subst e
          exact absurd (y5 (Or.inl ha)) (not_live2 z)
      · exact ho
    · cases w : m_isLive τ k with
      | false => rfl
      | true => exact absurd w (not_live2 z)
theorem scope_shield (h : Inv π T S t U st none none none τ) {k : Nat} (hk : k < S) : m_aboutScope τ (nI k) 4 = 0 ∨ (m_aboutScope τ (nI k) 4 = 1 ∧ m_aboutScope τ (nI k) 3 = -1) := by
  have hk40 : k < 40 := by have := h.1.1.2.1; omega
  rw [aS4 hk40, aS3 hk40]
  by_cases c : τ (k + 54) 6 = 0
  · rw [if_pos c]; exact Or.inl rfl
  · rw [if_neg c]; exact Or.inr ⟨rfl, (h.2.2.2.2.2.2 k hk).1 c⟩
theorem scope_can {k : Nat} (hk : k < 40) : (m_aboutScope τ (nI k) 2 = 0 ∧ τ (k + 54) 5 = 0) ∨ (m_aboutScope τ (nI k) 2 = 1 ∧ τ (k + 54) 5 ≠ 0) := by
  rw [aS2 hk]
  by_cases c : τ (k + 54) 5 = 0
  · rw [if_pos c]; exact Or.inl ⟨rfl, c⟩
  · rw [if_neg c]; exact Or.inr ⟨rfl, c⟩
theorem scope_dead (h : Inv π T S t U st none none none τ) {k : Nat} (hk : k < S) (hl : m_isLive τ k = true) (h5 : τ (k + 54) 5 = 0) : m_aboutScope τ (nI k) 3 = -1 ∨ ∃ d, t < d ∧ d < 200000 ∧ m_aboutScope τ (nI k) 3 = nI d := by
  have hk40 : k < 40 := by have := h.1.1.2.1; omega
  rw [aS3 hk40]
  rcases (h.2.2.2.2.2.2 k hk).2 hl h5 with z | ⟨d, d1, d2, d3⟩
  · exact Or.inl z
  · exact Or.inr ⟨d, d1, by have := h.2.2.2.2.2.1; omega, d3⟩
theorem scope_opener (h : Inv π T S t U st none none none τ) {k : Nat} (hk : k < S) : ∃ o, o < T ∧ m_aboutScope τ (nI k) 0 = nI o ∧ τ (k + 54) 2 = nI o := by
  have hk40 : k < 40 := by have := h.1.1.2.1; omega
  obtain ⟨o, o1, o2, _⟩ := h.1.2.1 k hk
  exact ⟨o, o1, by rw [aS0 hk40]; exact o2, o2⟩
theorem many_10 (h : Inv π T S t U st none none none τ) : m_howMany τ π 10 = nI t := by
  unfold m_howMany
  simp (decide := true) only [if_neg, if_pos]; exact h.2.2.2.2.1
/-- live SCOPES of one opener, against its stack -/
def lvI (τ : Sg) (o k : Nat) : Bool := decide (m_isLive τ k = true ∧ τ (k + 54) 2 = nI o)
theorem stack_sum (h : Inv π T S t U st none none none τ) {o : Nat} (ho : o < T) : m_aboutTask τ (nI o) 5 = nI (st o).length ∧ cnt (lvI τ o) S ≤ (st o).length ∧ (st o).length ≤ cnt (lvI τ o) S + (if τ (o + 6) 3 = 0 then 1 else 0) ∧ (st o).length ≤ 40 := by
  obtain ⟨⟨a1, a2, a3, a4⟩, _⟩ := id h
  have ho24 : o < 24 := by have := a1.1; omega
  have hS := a1.2.1
  obtain ⟨s1, s2, s3, s4, s5, s6⟩ := a3.1.1 o ho24
  have hlt : ∀ k ∈ st o, k < S := fun k hk => stack_lt a1 a3 ho24 hk
  have hlen := stack_len a1 a3 ho24
  refine ⟨by rw [aT5 ho24]; exact s2, ?_⟩
  have back : ∀ k, k < S → lvI τ o k = true → k ∈ st o := fun k hk hz => by
    unfold lvI at hz
    obtain ⟨z1, z2⟩ := decide_eq_true_iff.mp hz
    obtain ⟨o', p1, p2⟩ := a3.1.2 k (by omega) z1
    have := (a3.1.1 o' p1).2.2.2.1 k p2
    rw [z2] at this
    have e : o = o' := nI_inj (by omega) (by omega) this
    rw [e]; exact p2
  cases hL : st o with
  | nil =>
    have e : cnt (lvI τ o) S = 0 := by
      have := cnt_list S (lvI τ o) [] List.nodup_nil (fun i => ⟨fun z => (by cases z), fun ⟨z1, z2⟩ => by have := back i z1 z2; rw [hL] at this; exact this⟩)
      exact this
    rw [e]; exact ⟨Nat.zero_le _, Nat.zero_le _, Nat.zero_le _⟩
  | cons a L =>
    rw [hL] at s3 hlen
    have nd := List.nodup_cons.mp s3
    have hm := s5 a L hL
    have htail : ∀ k ∈ L, lvI τ o k = true := fun k hk => by
      unfold lvI
      exact decide_eq_true_iff.mpr ⟨live_iff.mpr (Or.inl (s6 k (by rw [hL]; exact hk))), s4 k (by rw [hL]; exact List.mem_cons_of_mem _ hk)⟩
    by_cases c : lvI τ o a = true
    · have e : cnt (lvI τ o) S = (a :: L).length := cnt_list S (lvI τ o) (a :: L) s3 (fun i => ⟨fun z => ⟨hlt i (by rw [hL]; exact z), by
        rcases List.mem_cons.mp z with w | w
        · rw [w]; exact c
        · exact htail i w⟩, fun ⟨z1, z2⟩ => by have := back i z1 z2; rw [hL] at this; exact this⟩)
      rw [e]
      exact ⟨Nat.le_refl _, by omega, by omega⟩
    · have e : cnt (lvI τ o) S = L.length := cnt_list S (lvI τ o) L nd.2 (fun i => ⟨fun z => ⟨hlt i (by rw [hL]; exact List.mem_cons_of_mem _ z), htail i z⟩, fun ⟨z1, z2⟩ => by
        have := back i z1 z2
        rw [hL] at this
        rcases List.mem_cons.mp this with w | w
        · rw [w] at z2; exact absurd z2 c
        · exact w⟩)
      have h0 : τ (o + 6) 3 = 0 := by
        have hal := mem_ali a3 ho24 (show a ∈ st o by rw [hL]; exact List.mem_cons_self)
        rcases hal with z | z
        · exact z
        · refine absurd ?_ c
          unfold lvI
          refine decide_eq_true_iff.mpr ⟨live_iff.mpr ?_, s4 a (by rw [hL]; exact List.mem_cons_self)⟩
          rw [hm]
          unfold m_mode
          rw [if_neg (by intro z; cases z)]
          by_cases w : τ (o + 6) 9 = 5
          · rw [if_pos w, if_pos z]; exact Or.inr rfl
          · rw [if_neg w]; exact Or.inl rfl
      rw [e, if_pos h0, List.length_cons]
      rw [List.length_cons] at hlen
      exact ⟨by omega, by omega, by omega⟩
theorem many_89 (a1 : IT τ T S) : m_howMany τ π 8 = nI (cnt (m_isLive τ) S) ∧ m_howMany τ π 9 = nI (cnt (m_isCan τ) S) := by
  have e1 : cnt (m_isLive τ) 40 = cnt (m_isLive τ) S := cnt_cut S 40 a1.2.1 (fun i h1 h2 => by
    cases z : m_isLive τ i with
    | false => rfl
    | true => exact absurd z (not_live (a1.2.2.2.2.2.2.2 i h1 h2).1))
  have e2 : cnt (m_isCan τ) 40 = cnt (m_isCan τ) S := cnt_cut S 40 a1.2.1 (fun i h1 h2 => by
    unfold m_isCan; rw [if_pos (a1.2.2.2.2.2.2.2 i h1 h2).1])
  rw [← e1, ← e2, ← m_countLive_eq, ← m_countCan_eq]
  unfold m_howMany
  refine ⟨?_, ?_⟩ <;> simp (decide := true) only [if_neg, if_pos]
theorem isCan_is (a1 : IT τ T S) {k : Nat} (hk : k < S) : m_isCan τ k = true ↔ τ (k + 54) 5 ≠ 0 := by
  unfold m_isCan
  rw [if_neg (by rcases a1.2.2.2.2.2.2.1 k hk with z | z | z <;> rw [z] <;> decide)]
  by_cases c : τ (k + 54) 5 = 0
  · rw [if_pos c]; exact ⟨fun z => (by cases z), fun z => absurd c z⟩
  · rw [if_neg c]; exact ⟨fun _ => c, fun _ => rfl⟩
end TOLD
