/-! THE PURE PART: what the functions of the ints keep. First the row of the READY ones. -/
theorem up2_same (τ : Sg) (k j : Nat) (v : Int32) : up2 τ k j v k j = v := by rw [up2_ap, if_pos rfl, if_pos rfl]
theorem up2_j {τ : Sg} {k j b : Nat} {v : Int32} (h : b ≠ j) : up2 τ k j v k b = τ k b := by rw [up2_ap, if_pos rfl, if_neg h]
theorem up2_a {τ : Sg} {k j a : Nat} {v : Int32} (h : a ≠ k) (b : Nat) : up2 τ k j v a b = τ a b := by rw [up2_ne h]
theorem up2_o {τ : Sg} {k j a b : Nat} {v : Int32} (h : ¬ (a = k ∧ b = j)) : up2 τ k j v a b = τ a b := by
  rw [up2_ap]
  by_cases h1 : a = k
  · rw [if_pos h1, if_neg (fun h2 => h ⟨h1, h2⟩)]
  · rw [if_neg h1]
theorem nI_inj {a b : Nat} (ha : a < 2 ^ 31) (hb : b < 2 ^ 31) (h : nI a = nI b) : a = b := (nI_eq ha hb).mp h
theorem m_at_nI {k N : Nat} (h : k < N) (hN : N < 2 ^ 31) : m_at (nI k) N = some k := by
  unfold m_at
  rw [if_neg (nI_pos (by omega)), if_neg (fun q => by have := (nI_leI (by omega) (by omega)).mp q; omega), nI_clamp (by omega)]
theorem m_at_neg (N : Nat) : m_at (-1) N = none := by
  unfold m_at
  rw [if_pos (by decide)]
/-- numbers below n, none twice: no more than n -/
theorem nodup_le : ∀ (n : Nat) (L : List Nat), L.Nodup → (∀ x ∈ L, x < n) → L.length ≤ n := by
  intro n
  induction n with
  | zero =>
    intro L _ h
    cases L with
    | nil => exact Nat.le_refl 0
    | cons a t => exact absurd (h a List.mem_cons_self) (Nat.not_lt_zero a)
  | succ n ih =>
    intro L hn h
    by_cases hm : n ∈ L
    · have h1 := ih (L.erase n) (hn.erase n) (fun x hx => by
        have h2 := (hn.mem_erase_iff).mp hx
        have h3 := h x h2.2
        have h4 := h2.1
        omega)
      have h2 : (L.erase n).length = L.length - 1 := List.length_erase_of_mem hm
      omega
    · have h1 := ih L hn (fun x hx => by
        have h3 := h x hx
        have h4 : x ≠ n := fun e => hm (e ▸ hx)
        omega)
      omega
theorem nodup_lt {n i : Nat} {L : List Nat} (hn : L.Nodup) (h : ∀ x ∈ L, x < n) (hi : i < n) (hx : i ∉ L) : L.length < n := by
  have h1 := nodup_le n (i :: L) (List.nodup_cons.mpr ⟨hx, hn⟩) (fun x hx => by
    rcases List.mem_cons.mp hx with e | e
    · omega
    · exact h x e)
  rw [List.length_cons] at h1
  omega
/-- the row, as a list of numbers -/
def RowIs (τ : Sg) (L : List Nat) : Prop := τ 0 7 = nI L.length ∧ L.length ≤ 24 ∧ ∀ j i, L[j]? = some i → τ 5 j = nI i
/-- which places makeReady writes -/
theorem mr_eq {τ : Sg} {i : Nat} {L : List Nat} (h : RowIs τ L) (hl : L.length < 24) : m_makeReady τ i = up2 (up2 (up2 τ (i + 6) 3 0) 5 L.length (nI i)) 0 7 (nI (L.length + 1)) := by
  have e : up2 τ (i + 6) 3 0 0 7 = nI L.length := by rw [up2_a (by omega)]; exact h.1
  unfold m_makeReady
  dsimp only
  rw [e, if_neg (nI_pos (by omega)), if_neg (fun q => by have := ge_c q (by omega); omega), nI_clamp (by omega)]
  rw [up2_a (show (0 : Nat) ≠ 5 by omega), e, nI_1]
theorem mr_row {τ : Sg} {i : Nat} {L : List Nat} (h : RowIs τ L) (hl : L.length < 24) : RowIs (m_makeReady τ i) (L ++ [i]) := by
  rw [mr_eq h hl]
  refine ⟨?_, ?_, ?_⟩
  · rw [up2_same, List.length_append]; rfl
  · rw [List.length_append]; exact hl
  · intro j q hq
    rw [up2_a (by omega)]
    by_cases hj : j = L.length
    · subst hj
      rw [up2_same]
      rw [List.getElem?_append_right (Nat.le_refl _), Nat.sub_self] at hq
      cases hq; rfl
    · rw [up2_j hj, up2_a (by omega)]
      have hlt : j < L.length := by
        have h1 := (List.getElem?_eq_some_iff.mp hq).1
        rw [List.length_append] at h1
        have h2 : [i].length = 1 := rfl
        omega
      rw [List.getElem?_append_left hlt] at hq
      exact h.2.2 j q hq
theorem mr_state {τ : Sg} {i : Nat} {L : List Nat} (h : RowIs τ L) (hl : L.length < 24) : m_makeReady τ i (i + 6) 3 = 0 := by
  rw [mr_eq h hl, up2_a (by omega)]
  by_cases hi : i + 6 = 5
  · omega
  · rw [up2_a hi, up2_same]
theorem mr_other {τ : Sg} {i a b : Nat} (h1 : ¬ (a = i + 6 ∧ b = 3)) (h2 : a ≠ 5) (h3 : ¬ (a = 0 ∧ b = 7)) : m_makeReady τ i a b = τ a b := by
  unfold m_makeReady
  dsimp only
  by_cases c1 : up2 τ (i + 6) 3 0 0 7 < 0
  · rw [if_pos c1, up2_o h1]
  · rw [if_neg c1]
    by_cases c2 : 24 ≤ up2 τ (i + 6) 3 0 0 7
    · rw [if_pos c2, up2_o h1]
    · rw [if_neg c2, up2_o h3, up2_a h2, up2_o h1]
-- the first of the row goes
theorem shift_other : ∀ (n j : Nat) (τ : Sg) (a : Nat), a ≠ 5 → m_shift n j τ a = τ a := by
  intro n
  induction n with
  | zero => intro j τ a _; rfl
  | succ n ih =>
    intro j τ a ha
    unfold m_shift
    by_cases c1 : τ 0 7 ≤ nI (j + 1)
    · rw [if_pos c1]
    · rw [if_neg c1]
      by_cases c2 : 24 ≤ nI (j + 1)
      · rw [if_pos c2]
      · rw [if_neg c2, ih (j + 1) _ a ha, up2_ne ha]
theorem shift_row {R : Nat} (hR : R ≤ 24) : ∀ (n j : Nat) (τ : Sg), n + j = 24 → τ 0 7 = nI R → ∀ q, m_shift n j τ 5 q = if j ≤ q ∧ q + 1 < R then τ 5 (q + 1) else τ 5 q := by
  intro n
  induction n with
  | zero =>
    intro j τ hn _ q
    show τ 5 q = _
    rw [if_neg (by omega)]
  | succ n ih =>
    intro j τ hn h0 q
    unfold m_shift
    by_cases c1 : τ 0 7 ≤ nI (j + 1)
    · rw [if_pos c1]
      rw [h0] at c1
      have := (nI_leI (by omega) (by omega)).mp c1
      rw [if_neg (by omega)]
    · rw [if_neg c1]
      have hj : j + 1 < R := by
        rw [h0] at c1
        exact Nat.not_le.mp (fun z => c1 ((nI_leI (by omega) (by omega)).mpr z))
      rw [if_neg (fun z => by have := ge_c z (by omega); omega)]
      rw [ih (j + 1) _ (by omega) (by rw [up2_a (by omega)]; exact h0) q]
      by_cases hq : q = j
      · subst hq
        rw [if_neg (by omega), if_pos (by omega), up2_same]
      · rw [up2_j hq]
        by_cases h2 : j ≤ q ∧ q + 1 < R
        · rw [if_pos h2, if_pos (by omega), up2_j (by omega)]
        · rw [if_neg h2, if_neg (by omega)]
theorem tr_some {τ : Sg} {i : Nat} {L : List Nat} (h : RowIs τ (i :: L)) (hi : i < 24) : m_takeReady τ = some i ∧ RowIs (m_takeReadyW τ) L ∧ ∀ a b, a ≠ 5 → ¬ (a = 0 ∧ b = 7) → m_takeReadyW τ a b = τ a b := by
  have hlen : (i :: L).length = L.length + 1 := rfl
  have hle := h.2.1
  rw [hlen] at hle
  have h0 : τ 0 7 = nI (L.length + 1) := h.1
  have hp : ¬ ¬ 0 < τ 0 7 := by
    rw [h0]
    intro q
    exact q ((nI_ltI (a := 0) (by decide) (by omega)).mpr (by omega))
  have hs : m_shift 24 0 τ 0 7 = nI (L.length + 1) := by rw [shift_other 24 0 τ 0 (by omega)]; exact h0
  have e : m_takeReadyW τ = up2 (m_shift 24 0 τ) 0 7 (nI L.length) := by
    unfold m_takeReadyW
    rw [if_neg hp]
    dsimp only
    rw [hs, nI_pred]
  refine ⟨?_, ⟨?_, by omega, ?_⟩, ?_⟩
  · unfold m_takeReady
    rw [if_neg hp, h.2.2 0 i rfl]
    exact m_at_nI hi (by decide)
  · rw [e, up2_same]
  · intro j q hq
    rw [e, up2_a (by omega), shift_row (by omega) 24 0 τ rfl h0]
    have hj := (List.getElem?_eq_some_iff.mp hq).1
    rw [if_pos (by omega)]
    exact h.2.2 (j + 1) q hq
  · intro a b ha hb
    rw [e, up2_o hb, shift_other 24 0 τ a ha]
theorem tr_none {τ : Sg} (h : RowIs τ []) : m_takeReady τ = none ∧ m_takeReadyW τ = τ := by
  have h0 : τ 0 7 = 0 := h.1
  have hp : ¬ 0 < τ 0 7 := by rw [h0]; decide
  unfold m_takeReady m_takeReadyW
  rw [if_pos hp, if_pos hp]
  exact ⟨rfl, rfl⟩
/-- the row holds just the READY ones, each once, but for one whose turn it is -/
def ReadyIs (τ : Sg) (L : List Nat) (r : Option Nat) : Prop := RowIs τ L ∧ L.Nodup ∧ (∀ i ∈ L, i < 24 ∧ τ (i + 6) 3 = 0 ∧ r ≠ some i) ∧ ∀ i, i < 24 → τ (i + 6) 3 = 0 → r ≠ some i → i ∈ L
theorem ReadyIs.lt {τ : Sg} {L : List Nat} {r : Option Nat} {i : Nat} (h : ReadyIs τ L r) (hi : i < 24) (hx : i ∉ L) : L.length < 24 := nodup_lt h.2.1 (fun x hx => (h.2.2.1 x hx).1) hi hx
theorem ReadyIs.not_in {τ : Sg} {L : List Nat} {r : Option Nat} {i : Nat} (h : ReadyIs τ L r) (hs : τ (i + 6) 3 ≠ 0) : i ∉ L := fun q => hs (h.2.2.1 i q).2.1
/-- one that was not READY becomes READY -/
theorem ready_mr {τ : Sg} {L : List Nat} {r : Option Nat} {i : Nat} (h : ReadyIs τ L r) (hi : i < 24) (hs : τ (i + 6) 3 ≠ 0) (hr : r ≠ some i) : ReadyIs (m_makeReady τ i) (L ++ [i]) r := by
  have hx := h.not_in hs
  have hl := h.lt hi hx
  refine ⟨mr_row h.1 hl, ?_, ?_, ?_⟩
  · rw [List.nodup_append]
    exact ⟨h.2.1, List.nodup_cons.mpr ⟨List.not_mem_nil, List.nodup_nil⟩, fun a ha b hb e => by
      rw [List.mem_singleton] at hb
      subst hb; subst e
      exact hx ha⟩
  · intro q hq
    rcases List.mem_append.mp hq with h1 | h1
    · have h2 := h.2.2.1 q h1
      refine ⟨h2.1, ?_, h2.2.2⟩
      rw [mr_other (fun e => hx (by have : q = i := by omega
                                    rw [← this]; exact h1)) (by omega) (by omega)]
      exact h2.2.1
    · rw [List.mem_singleton] at h1
      subst h1
      exact ⟨hi, mr_state h.1 hl, hr⟩
  · intro q hq h0 hn
    by_cases e : q = i
    · subst e; exact List.mem_append_right _ List.mem_cons_self
    · rw [mr_other (by omega) (by omega) (by omega)] at h0
      exact List.mem_append_left _ (h.2.2.2 q hq h0 hn)
