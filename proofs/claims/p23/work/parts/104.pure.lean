/-! ALL OF IT, through a turn -/
section INV
variable {π τ σ ρ : Sg} {T S t U : Nat} {st : Nat → List Nat} {r m x : Option Nat}
theorem out_U {i U' : Nat} {p : Sg × Int32} (hU : U ≤ U') (h : Out π i T S t U st τ p) : Out π i T S t U' st τ p := by
  obtain ⟨T', S', st', h1, h2, h3, h4⟩ := h
  refine ⟨T', S', st', h1, h2, h3, ?_⟩
  rcases h4 with ⟨a, b⟩ | ⟨a, b, c⟩
  · exact Or.inl ⟨a, inv_U hU b⟩
  · exact Or.inr ⟨a, inv_U hU b, c⟩
theorem out_doLine {i b l p : Nat} {k a c : Int32} (hp : π 0 0 = nI p) (hp8 : p ≤ 8) (hU : U < 2 ^ 31 - 1) (hPL : PL k a c) (hb : b < 8) (h2 : τ (i + 6) 2 = nI b) (hl : l < 12) (h4 : τ (i + 6) 4 = nI l) (hlen : nI l < π 1 b) (hk : π 2 (b * 12 + l) = k) (hnh : m_isWait k = true → m_isHit τ i (-1) = false)
    (h : Inv π T S t U st (some i) (some i) none τ) : Out π i T S t (U + 1) st τ (m_doLine τ π i k a c) := by
  obtain ⟨hi, h0⟩ := h.run
  have hu := inv_U (Nat.le_succ U) h
  obtain ⟨p1, p2, p3, p4⟩ := hPL
  have lo : ∀ σ : Sg, Lcl τ σ i → σ 0 9 = τ 0 9 → σ 100 2 = τ 100 2 → σ (i + 6) 4 = τ (i + 6) 4 → Out π i T S t (U + 1) st τ (m_next σ i, 0) := fun σ g1 g2 g3 g4 => out_locN hu g1 g2 g3 hl h4 g4
  unfold m_doLine
  by_cases c0 : k = 0
  · rw [if_pos c0]
    exact lo _ ((Lcl.refl τ i).up (Or.inl ⟨rfl, Or.inr rfl⟩)) (up2_o (by omega)) (up2_o (by omega)) (up2_o (by omega))
  rw [if_neg c0]
  by_cases c1 : k = 1
  · rw [if_pos c1]
    exact lo _ ((Lcl.refl τ i).up (Or.inl ⟨rfl, Or.inr rfl⟩)) (up2_o (by omega)) (up2_o (by omega)) (up2_o (by omega))
  rw [if_neg c1]
  by_cases c2 : k = 2
  · rw [if_pos c2]
    exact lo _ putLocal_loc (putLocal_other (by omega)) (putLocal_other (by omega)) (putLocal_other (by omega))
  rw [if_neg c2]
  by_cases c3 : k = 3
  · rw [if_pos c3]
    obtain ⟨n, n1, n2⟩ := p1 (Or.inl c3)
    unfold m_loopR
    by_cases d : 0 < m_localAt τ i a
    · rw [if_pos d]
      refine out_loc hu (putLocal_loc.up (Or.inl ⟨rfl, Or.inl rfl⟩)) ?_ ?_ ⟨n, n1, by rw [up2_same]; exact n2⟩
      · rw [up2_o (by omega), putLocal_other (by omega)]
      · rw [up2_o (by omega), putLocal_other (by omega)]
    · rw [if_neg d]; exact lo _ (Lcl.refl τ i) rfl rfl rfl
  rw [if_neg c3]
  by_cases c4 : k = 4
  · rw [if_pos c4]
    obtain ⟨n, n1, n2⟩ := p1 (Or.inr (Or.inl c4))
    unfold m_skip
    by_cases d : τ (i + 6) 5 ≤ 0
    · rw [if_pos d]
      exact out_loc hu ((Lcl.refl τ i).up (Or.inl ⟨rfl, Or.inl rfl⟩)) (up2_o (by omega)) (up2_o (by omega)) ⟨n, n1, by rw [up2_same]; exact n2⟩
    · rw [if_neg d]; exact lo _ (Lcl.refl τ i) rfl rfl rfl
  rw [if_neg c4]
  by_cases c5 : k = 5
  · rw [if_pos c5]; exact Out.same (by decide) hu
  rw [if_neg c5]
  by_cases c6 : k = 6
  · rw [if_pos c6]; exact Out.same (p2 c6) hu
  rw [if_neg c6]
  by_cases c7 : k = 7
  · rw [if_pos c7]
    refine out_opn (fun z => absurd rfl z) ?_ (p1 (Or.inr (Or.inr (Or.inl c7)))) hl h4 hu
    rcases p3 c7 with z | ⟨d, d1, d2, d3⟩
    · rw [z, if_pos (by decide)]; exact Or.inl rfl
    · rw [d3, if_neg (fun z => by have := (nI_leI (b := 0) (by omega) (by decide)).mp z; omega), h.2.2.2.2.1, nI_add]
      exact Or.inr ⟨t + d, by omega, by omega, rfl⟩
  rw [if_neg c7]
  by_cases c8 : k = 8
  · rw [if_pos c8]; exact out_opn (fun _ => rfl) (Or.inl rfl) (p1 (Or.inr (Or.inr (Or.inr c8)))) hl h4 hu
  rw [if_neg c8]
  by_cases c9 : k = 9
  · rw [if_pos c9]
    refine Out.same ?_ hu
    by_cases d : τ (i + 6) 7 = -1
    · rw [if_pos d]; decide
    · rw [if_neg d]; decide
  rw [if_neg c9]
  by_cases c10 : k = 10
  · rw [if_pos c10]
    have hm := mo_spawn (a := a) hu
    rcases inv_spawn hp hp8 (p4 c10) ⟨l, hl, h4⟩ hu with (e | e) | ⟨σ, g1, g2, g3, g4⟩
    · rw [e]; exact Out.same (by decide) hu
    · rw [e]; exact Out.same (by decide) hu
    · rw [g1] at hm ⊢
      exact ⟨T + 1, S, st, by omega, Nat.le_refl _, hm, Or.inr ⟨(show (0 : Int32) ≠ -4 by decide), g2, g4, rfl⟩⟩
  rw [if_neg c10]
  by_cases c11 : k = 11
  · rw [if_pos c11]; exact out_stop hl h4 hu
  rw [if_neg c11]
  by_cases c12 : k = 12
  · rw [if_pos c12]; exact out_sleep hb h2 hl h4 hlen (hk.trans c12) (hnh (by rw [c12]; decide)) hu
  rw [if_neg c12]
  by_cases c13 : k = 13
  · rw [if_pos c13]; exact out_lck hb h2 hl h4 hlen (hk.trans c13) (hnh (by rw [c13]; decide)) hu
  rw [if_neg c13]
  by_cases c14 : k = 14
  · rw [if_pos c14]; exact out_fre hl h4 hu
  rw [if_neg c14]
  by_cases c15 : k = 15
  · rw [if_pos c15]; exact out_send hU hb h2 hl h4 hlen (hk.trans c15) (hnh (by rw [c15]; decide)) h
  rw [if_neg c15]
  by_cases c16 : k = 16
  · rw [if_pos c16]; exact out_take hU hb h2 hl h4 hlen (hk.trans c16) (hnh (by rw [c16]; decide)) h
  rw [if_neg c16]
  by_cases c17 : k = 17
  · rw [if_pos c17]; exact out_nd hl h4 hu
  rw [if_neg c17]
  by_cases c18 : k = 18
  · rw [if_pos c18]; exact out_pick hU hb h2 hl h4 hlen (hk.trans c18) (hnh (by rw [c18]; decide)) h
  rw [if_neg c18]; exact Out.same (by decide) hu
theorem placeOf_nI {b l : Nat} (hb : b < 8) : m_placeOf (nI b) (nI l) = if l < 12 then nI (b * 12 + l) else m_placeOf (nI b) (nI l) := by
  by_cases c : l < 12
  · rw [if_pos c]
    unfold m_placeOf
    rw [if_neg (nI_pos (by omega)), if_neg (fun z => by have := (nI_leI (a := 8) (by decide) (by omega)).mp z; omega), if_neg (nI_pos (by omega)), if_neg (fun z => by have := (nI_leI (a := 12) (by decide) (by omega)).mp z; omega)]
    show Int32.ofNat b * Int32.ofNat 12 + Int32.ofNat l = Int32.ofNat (b * 12 + l)
    rw [Int32.ofNat_add, Int32.ofNat_mul]
  · rw [if_neg c]
theorem linesOf_nI {b : Nat} (hb : b < 8) : m_linesOf π (nI b) = π 1 b := by
  unfold m_linesOf
  rw [if_neg (nI_pos (by omega)), if_neg (fun z => by have := (nI_leI (a := 8) (by decide) (by omega)).mp z; omega), nI_clamp (by omega)]
/-- where the one whose turn it is stands -/
theorem Inv.at {i : Nat} (h : Inv π T S t U st (some i) m none τ) : ∃ b l, b < 8 ∧ l ≤ 12 ∧ τ (i + 6) 2 = nI b ∧ τ (i + 6) 4 = nI l ∧ (m ≠ some i → τ (i + 6) 9 ≠ 0 → τ (i + 6) 9 ≠ 5 → l < 12) := by
  obtain ⟨hi, h0⟩ := h.run
  obtain ⟨b, b1, b2, b3⟩ := h.2.2.1.2 i (h.1.1.ltA hi (Or.inl h0))
  obtain ⟨l, l1, l2, l3, _⟩ := b3 (Or.inl h0)
  exact ⟨b, l, b1, l1, b2, l2, l3⟩
theorem out_goOn {i l0 B : Nat} (hP : IP π B) (hU : U < 2 ^ 31 - 1) (h100 : τ 100 2 = nI l0) (hl0 : l0 ≤ 100) (h : Inv π T S t U st (some i) (some i) none τ) :
    (∃ w, m_goOn τ π i = (τ, w) ∧ w ≠ 0 ∧ w ≠ -4) ∨ (l0 < 100 ∧ ∃ τ', Mo τ τ' ∧ τ' 100 2 = nI (l0 + 1) ∧ Out π i T S t (U + 1) st τ' (m_goOn τ π i)) := by
  obtain ⟨hi, h0⟩ := h.run
  obtain ⟨b, l, hb, hl, h2, h4, _⟩ := h.at
  obtain ⟨q1, q2, q3, q4⟩ := hP
  unfold m_goOn
  rw [h2, h4, linesOf_nI hb]
  by_cases c1 : m_placeOf (nI b) (nI l) = -1
  · rw [if_pos c1]; exact Or.inl ⟨_, rfl, by decide, by decide⟩
  rw [if_neg c1]
  by_cases c2 : nI l < π 1 b
  · rw [if_pos c2]
    have hl12 : l < 12 := by
      obtain ⟨n, n1, n2⟩ := q3 b hb
      rw [n2] at c2
      have := (nI_ltI (by omega) (by omega)).mp c2
      omega
    rw [h100]
    by_cases c3 : nI l0 < 100
    · rw [if_pos c3]
      have hl100 : l0 < 100 := (nI_ltI (b := 100) (by omega) (by decide)).mp c3
      refine Or.inr ⟨hl100, ?_⟩
      rw [placeOf_nI hb, if_pos hl12, nI_clamp (by omega), nI_1]
      dsimp only
      have hL : Lcl τ (up2 (up2 τ 100 2 (nI (l0 + 1))) 0 10 (up2 τ 100 2 (nI (l0 + 1)) 0 10 + 1)) i := ((Lcl.refl τ i).up (Or.inr (Or.inr (Or.inl rfl)))).up (Or.inr (Or.inr (Or.inr ⟨rfl, Or.inr rfl⟩)))
      have e9 : up2 (up2 τ 100 2 (nI (l0 + 1))) 0 10 (up2 τ 100 2 (nI (l0 + 1)) 0 10 + 1) 0 9 = τ 0 9 := by rw [up2_o (by omega), up2_o (by omega)]
      have e2 : up2 (up2 τ 100 2 (nI (l0 + 1))) 0 10 (up2 τ 100 2 (nI (l0 + 1)) 0 10 + 1) 100 2 = nI (l0 + 1) := by rw [up2_o (by omega), up2_same]
      have f2 : up2 (up2 τ 100 2 (nI (l0 + 1))) 0 10 (up2 τ 100 2 (nI (l0 + 1)) 0 10 + 1) (i + 6) 2 = nI b := by rw [up2_o (by omega), up2_o (by omega)]; exact h2
      have f4 : up2 (up2 τ 100 2 (nI (l0 + 1))) 0 10 (up2 τ 100 2 (nI (l0 + 1)) 0 10 + 1) (i + 6) 4 = nI l := by rw [up2_o (by omega), up2_o (by omega)]; exact h4
      revert hL e9 e2 f2 f4
      generalize up2 (up2 τ 100 2 (nI (l0 + 1))) 0 10 (up2 τ 100 2 (nI (l0 + 1)) 0 10 + 1) = τ'
      intro hL e9 e2 f2 f4
      have hI := inv_loc hL ⟨l, hl, f4⟩ h
      refine ⟨τ', hL.mo hi h0 e9, e2, ?_⟩
      unfold m_goLine
      by_cases d1 : m_isWait (π 2 (b * 12 + l)) = true
      · rw [if_pos d1]
        by_cases d2 : m_isHit τ' i (-1) = true
        · rw [if_pos d2]; exact Out.same (by decide) (inv_U (Nat.le_succ U) hI)
        · rw [if_neg d2]
          exact out_doLine q1 q2 hU (q4 b l hb hl12 c2) hb f2 hl12 f4 c2 rfl (fun _ => by
            cases z : m_isHit τ' i (-1) with
            | false => rfl
            | true => exact absurd z d2) hI
      · rw [if_neg d1]
        exact out_doLine q1 q2 hU (q4 b l hb hl12 c2) hb f2 hl12 f4 c2 rfl (fun z => absurd z d1) hI
    · rw [if_neg c3]; exact Or.inl ⟨_, rfl, by decide, by decide⟩
  · rw [if_neg c2]; exact Or.inl ⟨_, rfl, by decide, by decide⟩
theorem steps_end (i : Nat) : ∀ (n : Nat) (σ : Sg), m_steps π i n σ (-4) = σ := by
  intro n σ
  cases n with
  | zero => rfl
  | succ n =>
    show (if (-4 : Int32) = -4 then σ else _) = σ
    rw [if_pos rfl]
/-- a turn goes on till it is over: each step leaves less to be done -/
theorem inv_steps {i B : Nat} (hP : IP π B) : ∀ (n : Nat) (τ : Sg) (w : Int32) (T S U l : Nat) (st : Nat → List Nat), Inv π T S t U st (some i) (some i) none τ → w ≠ -4 → τ 100 2 = nI l → l ≤ 100 → 2 * (100 - l) + 3 * ((st i).length + 40 - S) + (if w = 0 then 1 else 0) < n → U + (100 - l) < 2 ^ 31 - 1 →
    ∃ T' S' st', T ≤ T' ∧ S ≤ S' ∧ Mo τ (m_steps π i n τ w) ∧ Inv π T' S' t (U + (100 - l)) st' none none none (m_steps π i n τ w) := by
  intro n
  induction n with
  | zero => intro τ w T S U l st _ _ _ _ h; omega
  | succ n ih =>
    intro τ w T S U l st h hw h100 hl hn hU
    have hS := h.1.1.2.1
    show ∃ T' S' st', T ≤ T' ∧ S ≤ S' ∧ Mo τ (if w = -4 then τ else if w = 0 then m_steps π i n (m_goOn τ π i).1 (m_goOn τ π i).2 else m_steps π i n (m_leave τ i w).1 (m_leave τ i w).2) ∧ Inv π T' S' t (U + (100 - l)) st' none none none (if w = -4 then τ else if w = 0 then m_steps π i n (m_goOn τ π i).1 (m_goOn τ π i).2 else m_steps π i n (m_leave τ i w).1 (m_leave τ i w).2)
    rw [if_neg hw]
    by_cases c : w = 0
    · rw [if_pos c]
      rw [if_pos c] at hn
      rcases out_goOn hP (by omega) h100 hl h with ⟨w', e, e0, e4⟩ | ⟨hl1, τ', m1, m2, T', S', st', t1, s1, mo, out⟩
      · rw [e]
        exact ih τ w' T S U l st h e4 h100 hl (by rw [if_neg e0]; omega) hU
      · rcases out with ⟨o4, oI⟩ | ⟨o4, oI, o100, olen⟩
        · rw [o4, steps_end]
          exact ⟨T', S', st', t1, s1, m1.trans mo, inv_U (by omega) oI⟩
        · obtain ⟨T2, S2, st2, t2, s2, mo2, I2⟩ := ih (m_goOn τ π i).1 (m_goOn τ π i).2 T' S' (U + 1) (l + 1) st' oI o4 (by rw [o100]; exact m2) (by omega) (by
            have hS' := oI.1.1.2.1
            by_cases d : (m_goOn τ π i).2 = 0
            · rw [if_pos d]; omega
            · rw [if_neg d]; omega) (by omega)
          exact ⟨T2, S2, st2, by omega, by omega, m1.trans (mo.trans mo2), inv_U (by omega) I2⟩
    · rw [if_neg c]
      rw [if_neg c] at hn
      have ml := mo_leave (w := w) h
      rcases inv_leave hw h with ⟨σ, e, I⟩ | ⟨σ, w', k, L, hk, e, e4, I, e100⟩
      · rw [e] at ml ⊢
        rw [steps_end]
        exact ⟨T, S, st, Nat.le_refl _, Nat.le_refl _, ml, inv_U (by omega) I⟩
      · rw [e] at ml ⊢
        have hlen : (st i).length = L.length + 1 := by rw [hk]; rfl
        obtain ⟨T2, S2, st2, t2, s2, mo2, I2⟩ := ih σ w' T S U l (popS st i L) I e4 (by rw [e100]; exact h100) hl (by
            rw [popS_i]
            have h1 : (if w' = 0 then 1 else 0) ≤ 1 := by
              by_cases d : w' = 0
              · rw [if_pos d]; omega
              · rw [if_neg d]; omega
            omega) hU
        exact ⟨T2, S2, st2, t2, s2, ml.trans mo2, I2⟩
/-- what a turn begins with -/
theorem inv_beginTurn {i : Nat} (hU : U < 2 ^ 31 - 1) (h : Inv π T S t U st (some i) none none τ) : ∃ σ w st', m_beginTurn τ i = (σ, w) ∧ w ≠ -4 ∧ Inv π T S t U st' (some i) (some i) none σ ∧ σ 100 2 = τ 100 2 ∧ Mo τ σ := by
  obtain ⟨hi, h0⟩ := h.run
  unfold m_beginTurn
  by_cases c0 : τ (i + 6) 9 = 0
  · rw [if_pos c0]
    exact ⟨τ, 0, st, rfl, by decide, inv_begin (by rw [c0]; decide) h, rfl, Mo.refl τ⟩
  rw [if_neg c0]
  by_cases c5 : τ (i + 6) 9 = 5
  · rw [if_pos c5]
    have hmo : Mo τ (m_takeOff τ i).1 := ⟨(tk_takeOff (t := 24)).mt h0 (fun z => absurd z (by omega)), Ms.cell (fun p hp => ⟨takeOff_oth (by omega), takeOff_oth (by omega)⟩), takeOff_oth (by omega)⟩
    rcases top_of h.1.2.2.1 hi with ⟨z1, z2⟩ | ⟨k, L, z1, z2, z3, z4, _⟩
    · have e : m_takeOff τ i = (τ, -2) := by
        unfold m_takeOff
        rw [z2, m_at_neg]
      refine ⟨τ, -2, st, e, by decide, ?_, rfl, Mo.refl τ⟩
      obtain ⟨⟨a1, a2, a3, a4⟩, b, ⟨d1, d2⟩, ⟨e1, e2, e3⟩, f⟩ := id h
      refine ⟨⟨a1, a2, ⟨⟨fun o ho => ?_, a3.1.2⟩, a3.2⟩, a4⟩, b, ⟨d1, fun q hq => ?_⟩, ⟨e1, e2, fun c hc => ?_⟩, f⟩
      · refine (a3.1.1 o ho).keep rfl rfl (fun k hk => ⟨rfl, rfl, rfl⟩) (fun hne => ?_)
        have : o ≠ i := fun z => hne (by rw [z]; exact z1)
        exact (mode_ne this).symm
      · obtain ⟨b, h1, h2, h3⟩ := d2 q hq
        refine ⟨b, h1, h2, fun ha => ?_⟩
        obtain ⟨l, g1, g2, g3, g4⟩ := h3 ha
        exact ⟨l, g1, g2, fun _ => g3 (by intro z; cases z), g4⟩
      · obtain ⟨n, x1, x2, x3⟩ := e3 c hc
        exact ⟨n, x1, x2, Nat.le_trans gv_le x3⟩
    · have hkm : k ∈ st i := by rw [z1]; exact List.mem_cons_self
      have hkS := stack_lt h.1.1 h.1.2.2.1 hi hkm
      have hk2 : τ (k + 54) 1 = 2 := by
        rw [z4]
        unfold m_mode
        rw [if_neg (by intro z; cases z), if_pos c5, if_neg (by rw [h0]; decide)]
      have hmem : ∀ q, q < 24 → τ (q + 6) 6 = nI k → ¬ ali τ q := fun q hq hz ha => by
        rcases h.2.1.1 q hq with y | ⟨p, y1, y2, _, y5⟩
        · rw [y] at hz; exact neg1_ne (by omega) hz
        · rw [hz] at y2
          have e := nI_inj (by omega) (by have := h.1.1.2.1; omega) y2
          subst e
          exact not_live2 hk2 (y5 (Or.inl ha))
      have hp : Inv π T S t U (popS st i L) (some i) (some i) none (up2 (up2 τ (i + 6) 7 (τ (k + 54) 3)) (i + 6) 8 (τ (i + 6) 8 - 1)) := by
        refine inv_pop (Or.inr ⟨rfl, c5⟩) z1 (fun a b g1 g2 => ?_) ?_ ?_ ?_ ?_ hmem h
        · rw [up2_o (by omega), up2_o (by omega)]
        · rw [up2_o (by omega), up2_o (by omega)]; exact hk2
        · rw [up2_o (by omega), up2_o (by omega)]; exact h.2.1.2.2.2.2.2.1 k z3
        · rw [up2_o (by omega), up2_same]
        · rw [up2_same]
      obtain ⟨σ, w, g1, g2, g3, g4⟩ := takeOff_inv hkS z2 hp
      rw [g1] at hmo
      exact ⟨σ, w, _, g1, g2, g3, g4, hmo⟩
  rw [if_neg c5]
  have hb := inv_begin c5 h
  by_cases c1 : m_isHit τ i (-1) = true
  · rw [if_pos c1]
    have hf : Fr τ (m_giveBack τ i (τ (i + 6) 9)) := fr_giveBack
    refine ⟨_, _, st, rfl, by decide, inv_giveBack hU c5 h, ?_, hf.mo (sz_giveBack 0 9 (by omega))⟩
    unfold m_giveBack
    by_cases d : τ (i + 6) 14 = 0
    · rw [if_pos d]
    · rw [if_neg d]
      have hL : ∀ w, m_giveBackL τ i w 100 2 = τ 100 2 := fun w => by
        unfold m_giveBackL
        by_cases d2 : w = 2
        · rw [if_pos d2]
          cases e : m_at (τ (i + 6) 10) 2 with
          | none => rfl
          | some k => exact freeLock_other (by have := m_at_lt e (by decide); omega) (by omega) (by omega) (by omega)
        · rw [if_neg d2]
      rw [← hL (τ (i + 6) 9)]
      generalize m_giveBackL τ i (τ (i + 6) 9) = ρ
      unfold m_giveBackC
      by_cases d2 : τ (i + 6) 9 = 4
      · rw [if_pos d2]
        cases e : m_at (ρ (i + 6) 10) 2 with
        | none => rfl
        | some k =>
          have hk := m_at_lt e (by decide)
          have hx := m_at_eq e
          dsimp only
          rw [up2_o (show ¬ (i + 6 = k + 96 ∧ 10 = 4) by omega), hx]
          cases f : m_firstWaiting (up2 ρ (k + 96) 4 (ρ (k + 96) 4 - 1)) 4 (nI k) with
          | none => dsimp only; rw [addFirst_other (by omega) (by omega), up2_o (by omega)]
          | some q =>
            have hq := (firstWaiting_some f).1
            dsimp only
            rw [giveValue_other hk (by omega) (by omega) (by omega) (by omega), up2_o (by omega)]
      · rw [if_neg d2]
  rw [if_neg c1]
  by_cases c2 : τ (i + 6) 15 ≤ 0
  · rw [if_pos c2]
    obtain ⟨b, l, hb8, hl, h2, h4, hl12⟩ := h.at
    have hl' := hl12 (by intro z; cases z) c0 c5
    by_cases c4 : τ (i + 6) 9 = 4
    · rw [if_pos c4]
      dsimp only
      have key : ∀ ρ : Sg, Lcl τ ρ i → ρ (i + 6) 4 = τ (i + 6) 4 → ρ 0 9 = τ 0 9 → ρ 100 2 = τ 100 2 → ∃ σ w st', (m_next ρ i, (0 : Int32)) = (σ, w) ∧ w ≠ -4 ∧ Inv π T S t U st' (some i) (some i) none σ ∧ σ 100 2 = τ 100 2 ∧ Mo τ σ := fun ρ g1 g2 g3 g4 => by
        have hL : Lcl τ (m_next ρ i) i := g1.trans ((Lcl.refl ρ i).up (Or.inl ⟨rfl, Or.inl rfl⟩))
        refine ⟨_, _, st, rfl, by decide, inv_loc hL ⟨l + 1, by omega, by rw [next_line, g2, h4, nI_1]⟩ hb, ?_, hL.mo hi h0 ?_⟩
        · unfold m_next; rw [up2_o (by omega)]; exact g4
        · unfold m_next; rw [up2_o (by omega)]; exact g3
      by_cases c11 : up2 τ (i + 6) 5 (τ (i + 6) 13) (i + 6) 11 = 0
      · rw [if_pos c11]
        exact key _ ((Lcl.refl τ i).up (Or.inl ⟨rfl, Or.inr rfl⟩)) (up2_o (by omega)) (up2_o (by omega)) (up2_o (by omega))
      · rw [if_neg c11]
        refine key _ (((Lcl.refl τ i).up (Or.inl ⟨rfl, Or.inr rfl⟩)).trans putLocal_loc) ?_ ?_ ?_
        · rw [putLocal_other (by omega), up2_o (by omega)]
        · rw [putLocal_other (by omega), up2_o (by omega)]
        · rw [putLocal_other (by omega), up2_o (by omega)]
    · rw [if_neg c4]
      have hL : Lcl τ (m_next τ i) i := (Lcl.refl τ i).up (Or.inl ⟨rfl, Or.inl rfl⟩)
      exact ⟨_, _, st, rfl, by decide, inv_loc hL ⟨l + 1, by omega, by rw [next_line, h4, nI_1]⟩ hb, up2_o (by omega), hL.mo hi h0 (up2_o (by omega))⟩
  · rw [if_neg c2]
    exact ⟨τ, _, st, rfl, fun z => by rw [z] at c2; exact c2 (by decide), hb, rfl, Mo.refl τ⟩
end INV
