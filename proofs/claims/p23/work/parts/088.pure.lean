/-! THE STACKS, where the one whose turn it is begins to WAIT for no SCOPE -/
theorem mode_ne {τ : Sg} {o i : Nat} (h : o ≠ i) : m_mode τ none o = m_mode τ (some i) o := by
  unfold m_mode
  rw [if_neg (by intro z; cases z), if_neg (fun z => h (Option.some.inj z).symm)]
theorem mode_i (τ : Sg) (i : Nat) : m_mode τ (some i) i = 0 := by
  unfold m_mode
  rw [if_pos rfl]
theorem stacks_bw {τ : Sg} {st : Nat → List Nat} {i : Nat} {w x : Int32} (hi : i < 24) (hw : w ≠ 5) (h : Stacks τ (some i) st) : Stacks (m_beginWait τ i w x) none st := by
  refine ⟨fun o ho => (h.1 o ho).keep (bw_other (by omega) (by omega)) (bw_other (by omega) (by omega)) (fun k hk => ⟨bw_other (by omega) (by omega), bw_other (by omega) (by omega), bw_other (by omega) (by omega)⟩) (fun _ => ?_), fun k hk hl => h.2 k hk ?_⟩
  · by_cases e : o = i
    · subst e
      rw [mode_i]
      unfold m_mode
      rw [if_neg (by intro z; cases z), (bw_fields τ o w x).2.1, if_neg hw]
    · rw [mode_ne e]
      unfold m_mode
      rw [bw_other (by omega) (by omega), bw_other (by omega) (by omega)]
  · unfold m_isLive at hl ⊢
    rw [bw_other (by omega) (by omega)] at hl
    exact hl
