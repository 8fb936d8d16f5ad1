/-! WHAT THE LAW ASKS OF ONE ACT: START, CANCEL -/
section ACT
variable {π τ : Sg} {T S t U : Nat} {st : Nat → List Nat}
theorem ready_of (h : Inv π T S t U st none none none τ) : ∃ L, ReadyIs τ L none := h.1.2.2.2.1
theorem many_2 (h : Inv π T S t U st none none none τ) {L : List Nat} (hL : ReadyIs τ L none) : m_howMany τ π 2 = nI L.length := (many_st h.1.1).1.trans (congrArg nI (ready_len hL h.1.1))
theorem act_start {b8 : Nat} (hT24 : T < 24) (hb : b8 < 8) (h : Inv π T S t U st none none none τ) (hB : TB τ) (hF : FL τ) :
    m_makeTask τ = nI T ∧ Inv π (T + 1) S t U st none none none (m_makeTaskW τ (nI b8) (-1)) ∧ TB (m_makeTaskW τ (nI b8) (-1)) ∧ FL (m_makeTaskW τ (nI b8) (-1)) ∧ Mt τ (m_makeTaskW τ (nI b8) (-1)) ∧ Ms τ (m_makeTaskW τ (nI b8) (-1)) ∧
    (∃ p, p < 24 ∧ m_aboutTask (m_makeTaskW τ (nI b8) (-1)) (nI T) 6 = nI p ∧ m_howMany (m_makeTaskW τ (nI b8) (-1)) π 2 = nI (p + 1)) ∧ m_aboutTask (m_makeTaskW τ (nI b8) (-1)) (nI T) 4 = -1 := by
  have hT := h.1.1.2.2.1
  have hi := inv_start hT24 hb h
  obtain ⟨v2, v3, v6, w1⟩ := makeTask_at (b := nI b8) (x := -1) hT hT24
  have hat : m_at (τ 0 1) 24 = some T := by rw [hT]; exact m_at_nI hT24 (by decide)
  have hfr : τ (T + 6) 3 = -1 := (h.1.1.2.2.2.2.2.1 T (Nat.le_refl _) hT24).1
  obtain ⟨L, hL⟩ := ready_of h
  have hx : T ∉ L := hL.not_in (by rw [hfr]; decide)
  have hL2 : ReadyIs (m_makeTaskW τ (nI b8) (-1)) (L ++ [T]) none := by
    unfold m_makeTaskW
    rw [hat]
    dsimp only
    refine ready_mr (ready_keep hL ?_ (fun j => ?_) (fun i hi => ?_)) hT24 ?_ (by intro z; cases z)
    · rw [up2_o (by omega), up2_o (by omega), up2_o (by omega)]
    · rw [up2_o (by omega), up2_o (by omega), up2_o (by omega)]
    · rw [up2_o (by omega), up2_o (by omega), up2_o (by omega)]
    · rw [up2_o (by omega), up2_o (by omega), up2_o (by omega), hfr]; decide
  refine ⟨by unfold m_makeTask; rw [hat], hi, (tb_makeTask hB).1, (fl_makeTask hF).1, fun q hq ho b => ?_, Ms.cell (fun k hk => ⟨makeTask_oth hT hT24 (by omega) (by omega) (by omega), makeTask_oth hT hT24 (by omega) (by omega) (by omega)⟩), ⟨L.length, ?_, ?_, ?_⟩, ?_⟩
  · have hne : q ≠ T := fun z => by rw [z] at ho; exact (ovr_ne ho).2.2 hfr
    exact makeTask_oth hT hT24 (by omega) (by omega) (by omega)
  · exact hL.lt hT24 hx
  · rw [aT6 hT24]
    obtain ⟨q, q1, q2, q3⟩ := (place_spec hL2.1 hT24 (fun x hx => (hL2.2.2.1 x hx).1)).1 (List.mem_append_right _ List.mem_cons_self)
    have hq : q = L.length := by
      by_cases c : q < L.length
      · rw [List.getElem?_append_left c] at q1
        exact absurd (List.mem_of_getElem? q1) hx
      · have := (List.getElem?_eq_some_iff.mp q1).1
        rw [List.length_append, List.length_singleton] at this
        omega
    rw [q2, hq]
  · rw [many_2 hi hL2, List.length_append, List.length_singleton]
  · rw [aT4 hT24]; exact v6
theorem hit_dead {k : Nat} (hk : τ (k + 54) 1 = 2 ∨ τ (k + 54) 5 ≠ 0) (hk40 : k < 40) : ∀ (n : Nat) (x : Int32), m_hit τ (nI k) n x = m_hit τ (-1) n x
  | 0, _ => rfl
  | n + 1, x => by
    unfold m_hit
    by_cases c1 : x < 0
    · rw [if_pos c1, if_pos c1]
    rw [if_neg c1, if_neg c1]
    by_cases c2 : 40 ≤ x
    · rw [if_pos c2, if_pos c2]
    rw [if_neg c2, if_neg c2]
    by_cases c3 : τ (x.toNatClampNeg + 54) 1 = 2
    · rw [if_pos c3, if_pos c3]; exact hit_dead hk hk40 n _
    rw [if_neg c3, if_neg c3]
    by_cases c4 : τ (x.toNatClampNeg + 54) 5 = 0
    · rw [if_pos c4, if_pos c4]
      have e1 : ¬ x = nI k := fun z => by
        rw [z, nI_clamp (by omega)] at c3 c4
        exact hk.elim (fun w => c3 w) (fun w => w c4)
      have e2 : ¬ x = -1 := fun z => c1 (by rw [z]; decide)
      rw [if_neg e1, if_neg e2, hit_dead hk hk40 n _]
    · rw [if_neg c4, if_neg c4]
theorem newly_dead {k : Nat} (hk : τ (k + 54) 1 = 2 ∨ τ (k + 54) 5 ≠ 0) (hk40 : k < 40) : m_newlyHit τ (nI k) = 0 := by
  rw [m_newlyHit_eq]
  have hz : ∀ j, m_nh τ (nI k) j = false := fun j => by
    unfold m_nh m_isHit
    rw [hit_dead hk hk40]
    by_cases c1 : m_hit τ (-1) 40 (if τ (j + 6) 7 = -1 then τ (j + 6) 6 else τ (j + 6) 7) = true
    · rw [if_pos c1, ite_self, ite_self]
    · rw [if_neg c1]
      have c2 : m_hit τ (-1) 40 (if τ (j + 6) 7 = -1 then τ (j + 6) 6 else τ (j + 6) 7) = false := by
        cases z : m_hit τ (-1) 40 (if τ (j + 6) 7 = -1 then τ (j + 6) 6 else τ (j + 6) 7) with
        | false => rfl
        | true => exact absurd z c1
      rw [c2, ite_self, ite_self]
  have : ∀ n, cnt (m_nh τ (nI k)) n = 0 := fun n => by
    induction n with
    | zero => rfl
    | succ n ih => show cnt _ n + _ = 0; rw [ih, hz]; rfl
  exact this 24
theorem act_cancel {k : Nat} (hk : k < S) (h : Inv π T S t U st none none none τ) (hB : TB τ) (hF : FL τ) :
    Inv π T S t U st none none none (m_cancelScope τ k) ∧ TB (m_cancelScope τ k) ∧ FL (m_cancelScope τ k) ∧ Mt τ (m_cancelScope τ k) ∧ Ms τ (m_cancelScope τ k) ∧
    ((∃ v, v < 2 ∧ m_aboutScope τ (nI k) 1 = nI v ∧ m_aboutScope τ (nI k) 2 = 0 ∧ m_cancels τ k = true ∧ m_aboutScope (m_cancelScope τ k) (nI k) 2 = 1) ∨
     (∃ v, v < 2 ∧ m_aboutScope τ (nI k) 1 = nI v ∧ m_aboutScope τ (nI k) 2 = 1 ∧ m_cancels τ k = false ∧ m_newlyHit τ (nI k) = 0 ∧ m_aboutScope (m_cancelScope τ k) (nI k) 2 = 1) ∨
     (m_aboutScope τ (nI k) 1 = 2 ∧ m_cancels τ k = false ∧ m_newlyHit τ (nI k) = 0 ∧ (m_aboutScope (m_cancelScope τ k) (nI k) 2 = 1 ∨ m_aboutScope (m_cancelScope τ k) (nI k) 2 = 0) ∧ m_aboutScope (m_cancelScope τ k) (nI k) 1 = 2)) := by
  have hk40 : k < 40 := by have := h.1.1.2.1; omega
  have hf : Fr τ (m_cancelScope τ k) := fr_cancel
  refine ⟨inv_cancel hk40 h, tb_cancel hk40 hB, fl_cancel hk40 hF, hf.mt, hf.ms, ?_⟩
  have live : ∀ v, v < 2 → m_aboutScope τ (nI k) 1 = nI v → m_isLive τ k = true → (∃ v, v < 2 ∧ m_aboutScope τ (nI k) 1 = nI v ∧ m_aboutScope τ (nI k) 2 = 0 ∧ m_cancels τ k = true ∧ m_aboutScope (m_cancelScope τ k) (nI k) 2 = 1) ∨
     (∃ v, v < 2 ∧ m_aboutScope τ (nI k) 1 = nI v ∧ m_aboutScope τ (nI k) 2 = 1 ∧ m_cancels τ k = false ∧ m_newlyHit τ (nI k) = 0 ∧ m_aboutScope (m_cancelScope τ k) (nI k) 2 = 1) := fun v hv e hl => by
    rcases scope_can (τ := τ) hk40 with ⟨s2, c5⟩ | ⟨s2, c5⟩
    · refine Or.inl ⟨v, hv, e, s2, by unfold m_cancels; rw [if_pos hl, if_pos c5], ?_⟩
      rw [aS2 hk40, if_neg (cancel_now h.1.2.2.2 hk40 hl)]
    · refine Or.inr ⟨v, hv, e, s2, by unfold m_cancels; rw [if_pos hl, if_neg c5], newly_dead (Or.inr c5) hk40, ?_⟩
      rw [show m_cancelScope τ k = τ by unfold m_cancelScope; rw [if_pos hl, if_neg c5]]; exact s2
  rcases scope_state h hk with ⟨s1, lv⟩ | ⟨s1, _, lv⟩ | ⟨s1, _, lv⟩
  · rcases live 0 (by decide) s1 lv with w | w
    · exact Or.inl w
    · exact Or.inr (Or.inl w)
  · rcases live 1 (by decide) s1 lv with w | w
    · exact Or.inl w
    · exact Or.inr (Or.inl w)
  · have e : m_cancelScope τ k = τ := by unfold m_cancelScope; rw [if_neg (by rw [lv]; decide)]
    refine Or.inr (Or.inr ⟨s1, by unfold m_cancels; rw [if_neg (by rw [lv]; decide)], newly_dead (Or.inl (by rw [aS1 hk40] at s1; exact s1)) hk40, ?_, by rw [e]; exact s1⟩)
    rw [e]
    rcases scope_can (τ := τ) hk40 with ⟨s2, _⟩ | ⟨s2, _⟩
    · exact Or.inr s2
    · exact Or.inl s2
/-- TIME -/
theorem tick_sum : ∀ (n : Nat) (τ : Sg) (r : Int32), (m_ticks n τ r).2 + τ 0 7 = r + (m_ticks n τ r).1 0 7
  | 0, _, _ => rfl
  | n + 1, τ, r => by
    rw [m_ticks_s]
    have := tick_sum n (m_tickOnceW τ) (r + m_tickOnce τ)
    unfold m_tickOnce at this ⊢
    generalize (m_ticks n (m_tickOnceW τ) (r + (m_tickOnceW τ 0 7 - τ 0 7))).2 = a at *
    generalize (m_ticks n (m_tickOnceW τ) (r + (m_tickOnceW τ 0 7 - τ 0 7))).1 0 7 = b at *
    generalize m_tickOnceW τ 0 7 = c at *
    generalize τ 0 7 = d at *
    have e : a = r + (c - d) + b - c := by rw [← this, Int32.add_sub_cancel]
    have ng : ∀ z : Int32, z + -z = 0 := fun z => by rw [← Int32.sub_eq_add_neg, Int32.sub_self]
    rw [e, Int32.sub_eq_add_neg, Int32.sub_eq_add_neg]
    rw [Int32.add_assoc r (c + -d) b, Int32.add_comm (c + -d) b, ← Int32.add_assoc b c (-d), Int32.add_comm b c, Int32.add_assoc c b (-d), ← Int32.add_assoc r c (b + -d), Int32.add_comm r c, Int32.add_assoc c r (b + -d), Int32.add_comm c (r + (b + -d)), Int32.add_assoc (r + (b + -d)) c (-c), ng, Int32.add_zero, Int32.add_assoc r (b + -d) d, Int32.add_assoc b (-d) d, Int32.add_comm (-d) d, ng, Int32.add_zero]
theorem act_ticks : ∀ (n : Nat) (τ : Sg) (t : Nat) (r : Int32), t + n < 100000 → Inv π T S t U st none none none τ → TB τ → FL τ → Inv π T S (t + n) U st none none none (m_ticks n τ r).1 ∧ TB (m_ticks n τ r).1 ∧ FL (m_ticks n τ r).1 ∧ Mt τ (m_ticks n τ r).1 ∧ Ms τ (m_ticks n τ r).1
  | 0, τ, t, r, _, h, hB, hF => ⟨h, hB, hF, (Mo.refl τ).1, (Mo.refl τ).2.1⟩
  | n + 1, τ, t, r, ht, h, hB, hF => by
    obtain ⟨h1, m1⟩ := inv_tick (by omega) h
    obtain ⟨g1, g2, g3, g4, g5⟩ := act_ticks n (m_tickOnceW τ) (t + 1) (r + m_tickOnce τ) (by omega) h1 (tb_tick hB) (fl_tick hF)
    rw [m_ticks_s]
    exact ⟨by rw [show t + (n + 1) = t + 1 + n by omega]; exact g1, g2, g3, m1.1.trans g4, m1.2.1.trans g5⟩
theorem act_tick {n : Nat} (ht : t + n < 100000) (h : Inv π T S t U st none none none τ) (hB : TB τ) (hF : FL τ) :
    Inv π T S (t + n) U st none none none (m_ticks n τ 0).1 ∧ TB (m_ticks n τ 0).1 ∧ FL (m_ticks n τ 0).1 ∧ Mt τ (m_ticks n τ 0).1 ∧ Ms τ (m_ticks n τ 0).1 ∧ m_howMany (m_ticks n τ 0).1 π 10 = nI (t + n) ∧ ∃ a b, m_howMany τ π 2 = nI a ∧ m_howMany (m_ticks n τ 0).1 π 2 = nI b ∧ nI b = nI a + (m_ticks n τ 0).2 := by
  obtain ⟨g1, g2, g3, g4, g5⟩ := act_ticks n τ t 0 ht h hB hF
  obtain ⟨L, hL⟩ := ready_of h
  obtain ⟨L1, hL1⟩ := ready_of g1
  refine ⟨g1, g2, g3, g4, g5, many_10 g1, L.length, L1.length, many_2 h hL, many_2 g1 hL1, ?_⟩
  have := tick_sum n τ 0
  rw [hL.1.1, hL1.1.1, Int32.zero_add] at this
  rw [← this, Int32.add_comm]
/-- TURNS -/
theorem many_11 (σ : Sg) : m_howMany σ π 11 = σ 0 9 := by
  unfold m_howMany
  simp (decide := true) only [if_neg, if_pos]
end ACT
