/-! THE STACKS, where nothing of them is touched -/
theorem mode_T5 {τ σ : Sg} {r : Option Nat} {i t o : Nat} (h : T5 τ σ i t) (ho : o < 24) (h1 : o ≠ i) (h2 : o ≠ t) : m_mode σ r o = m_mode τ r o ∧ σ (o + 6) 7 = τ (o + 6) 7 ∧ σ (o + 6) 8 = τ (o + 6) 8 := by
  rcases h o ho h1 h2 with a | ⟨a1, a2, a9, a3⟩
  · refine ⟨?_, a 7, a 8⟩
    unfold m_mode
    rw [a 9, a 3]
  · refine ⟨?_, a3 7 (by decide) (by decide) (by decide) (by decide) (by decide), a3 8 (by decide) (by decide) (by decide) (by decide) (by decide)⟩
    have e9 : σ (o + 6) 9 = τ (o + 6) 9 := a3 9 (by decide) (by decide) (by decide) (by decide) (by decide)
    unfold m_mode
    by_cases c : r = some o
    · rw [if_pos c, if_pos c]
    · rw [if_neg c, if_neg c, e9, if_neg a9, if_neg a9]
theorem sc_fields {τ σ : Sg} (h : SC τ σ 40) : ∀ k, k < 40 → σ (k + 54) 1 = τ (k + 54) 1 ∧ σ (k + 54) 2 = τ (k + 54) 2 ∧ σ (k + 54) 3 = τ (k + 54) 3 := fun k hk => by
  have a := (h k hk (by omega)).1
  exact ⟨a 1 (by decide), a 2 (by decide), a 3 (by decide)⟩
/-- in the turn of i, which keeps its top -/
theorem Stacks.frame {τ σ : Sg} {st : Nat → List Nat} {i : Nat} (h : Stacks τ (some i) st) (ht : T5 τ σ i i) (h7 : σ (i + 6) 7 = τ (i + 6) 7) (h8 : σ (i + 6) 8 = τ (i + 6) 8) (hs : ∀ k, k < 40 → σ (k + 54) 1 = τ (k + 54) 1 ∧ σ (k + 54) 2 = τ (k + 54) 2 ∧ σ (k + 54) 3 = τ (k + 54) 3) : Stacks σ (some i) st := by
  refine ⟨fun o ho => ?_, fun k hk hl => h.2 k hk ?_⟩
  · have hlt : ∀ k ∈ st o, k < 40 := Chain.lt _ _ (h.1 o ho).1
    by_cases e : o = i
    · subst e
      exact (h.1 o ho).keep h7 h8 (fun k hk => hs k (hlt k hk)) (fun _ => by unfold m_mode; rw [if_pos rfl, if_pos rfl])
    · obtain ⟨m, a, b⟩ := mode_T5 (r := some i) ht ho e e
      exact (h.1 o ho).keep a b (fun k hk => hs k (hlt k hk)) (fun _ => m)
  · unfold m_isLive at hl ⊢
    rw [(hs k hk).1] at hl
    exact hl
/-- between turns: TIME, a CANCEL -/
theorem Stacks.frame0 {τ σ : Sg} {st : Nat → List Nat} (h : Stacks τ none st) (ht : T5 τ σ 24 24) (hs : ∀ k, k < 40 → σ (k + 54) 1 = τ (k + 54) 1 ∧ σ (k + 54) 2 = τ (k + 54) 2 ∧ σ (k + 54) 3 = τ (k + 54) 3) : Stacks σ none st := by
  refine ⟨fun o ho => ?_, fun k hk hl => h.2 k hk ?_⟩
  · have hlt : ∀ k ∈ st o, k < 40 := Chain.lt _ _ (h.1 o ho).1
    obtain ⟨m, a, b⟩ := mode_T5 (r := none) ht ho (by omega) (by omega)
    exact (h.1 o ho).keep a b (fun k hk => hs k (hlt k hk)) (fun _ => m)
  · unfold m_isLive at hl ⊢
    rw [(hs k hk).1] at hl
    exact hl
theorem stacks_tick {τ : Sg} {st : Nat → List Nat} (h : Stacks τ none st) : Stacks (m_tickOnceW τ) none st := h.frame0 t5_tick (sc_fields sc_tick)
theorem stacks_cancel {τ : Sg} {st : Nat → List Nat} {k : Nat} (h : Stacks τ none st) : Stacks (m_cancelScope τ k) none st := h.frame0 t5_cancel (sc_fields sc_cancel)
