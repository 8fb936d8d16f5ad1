/-! ALL OF IT, through turns and TIME -/
section INV
variable {π τ σ ρ : Sg} {T S t U : Nat} {st : Nat → List Nat} {r m x : Option Nat}
/-- the row, the turns, the LINES, are no part of it -/
theorem inv_off {r' : Option Nat} (he : ∀ a b, a ≠ 5 → a < 100 → ¬ (a = 0 ∧ (b = 7 ∨ b = 9 ∨ b = 10 ∨ b = 11)) → σ a b = τ a b) (hR : RS σ r') (h : Inv π T S t U st r m x τ) : Inv π T S t U st r' m x σ := by
  have g0 := h.g0
  obtain ⟨⟨a1, _⟩, _, ⟨d1, d2⟩, ⟨e1, e2, e3⟩, _⟩ := id h
  have hT := a1.1
  have hf : Fr τ σ := by
    refine ⟨fun q hq => Or.inl ⟨he _ _ (by omega) (by omega) (by omega), fun b _ _ => he _ _ (by omega) (by omega) (by omega), fun _ b => he _ _ (by omega) (by omega) (by omega)⟩, SC.cell (fun k hk _ b => he _ _ (by omega) (by omega) (by omega)), fun k hk hn => absurd (he _ _ (by omega) (by omega) (by omega)) hn, fun b hb => he _ _ (by omega) (by omega) (by omega)⟩
  exact h.fr hf hR (d1.fr hf (fun k hk => he _ _ (by omega) (by omega) (by omega))) (fun q hq _ => Or.inl (he _ _ (by omega) (by omega) (by omega))) (e1.fr hf (fun c hc => he _ _ (by omega) (by omega) (by omega))) (fun c hc => (e2 c hc).fr hf (he _ _ (by omega) (by omega) (by omega)) (he _ _ (by omega) (by omega) (by omega)) (he _ _ (by omega) (by omega) (by omega))) (fun c hc => (e3 c hc).fr hf g0 (fun q hq _ => ⟨he _ _ (by omega) (by omega) (by omega), he _ _ (by omega) (by omega) (by omega)⟩) (he _ _ (by omega) (by omega) (by omega)))
theorem stack_len (a1 : IT τ T S) (h : IS τ m st) {o : Nat} (ho : o < 24) : (st o).length ≤ S := nodup_le S (st o) (h.1.1 o ho).2.2.1 (fun k hk => stack_lt a1 h ho hk)
theorem inv_turn {i B : Nat} (hP : IP π B) (hU : U + 100 < 2 ^ 31 - 1) (h : Inv π T S t U st (some i) none none τ) : ∃ T' S' st', T ≤ T' ∧ S ≤ S' ∧ Mt τ (m_turn τ π i) ∧ Ms τ (m_turn τ π i) ∧ m_turn τ π i 0 9 = τ 0 9 + 1 ∧ Inv π T' S' t (U + 100) st' none none none (m_turn τ π i) := by
  obtain ⟨hi, h0⟩ := h.run
  have h2 : Inv π T S t U st (some i) none none (up2 (up2 τ 0 9 (τ 0 9 + 1)) 100 2 0) := inv_off (fun a b g1 g2 g3 => by rw [up2_o (by omega), up2_o (by omega)]) ((h.1.2.2.2.up (by omega) (by omega) (by omega)).up (by omega) (by omega) (by omega)) h
  have mt : Mt τ (up2 (up2 τ 0 9 (τ 0 9 + 1)) 100 2 0) := fun q hq _ b => by rw [up2_o (by omega), up2_o (by omega)]
  have ms : Ms τ (up2 (up2 τ 0 9 (τ 0 9 + 1)) 100 2 0) := Ms.cell (fun p hp => ⟨by rw [up2_o (by omega), up2_o (by omega)], by rw [up2_o (by omega), up2_o (by omega)]⟩)
  have m9 : up2 (up2 τ 0 9 (τ 0 9 + 1)) 100 2 0 0 9 = τ 0 9 + 1 := by rw [up2_o (by omega), up2_same]
  have m2 : up2 (up2 τ 0 9 (τ 0 9 + 1)) 100 2 0 100 2 = nI 0 := by rw [up2_same]; rfl
  unfold m_turn
  dsimp only
  revert h2 mt ms m9 m2
  generalize up2 (up2 τ 0 9 (τ 0 9 + 1)) 100 2 0 = ρ
  intro h2 mt ms m9 m2
  obtain ⟨σ, w, st', e, e4, I, e100, mo⟩ := inv_beginTurn (by omega) h2
  rw [e]
  have hlen := stack_len I.1.1 I.1.2.2.1 hi
  have hS := I.1.1.2.1
  obtain ⟨T2, S2, st2, t2, s2, mo2, I2⟩ := inv_steps hP 1000 σ w T S U 0 st' I e4 (by rw [e100]; exact m2) (by omega) (by
    have h1 : (if w = 0 then 1 else 0) ≤ 1 := by
      by_cases d : w = 0
      · rw [if_pos d]; omega
      · rw [if_neg d]; omega
    omega) (by omega)
  refine ⟨T2, S2, st2, t2, s2, mt.trans (mo.1.trans mo2.1), ms.trans (mo.2.1.trans mo2.2.1), ?_, I2⟩
  show m_steps π i 1000 σ w 0 9 = _
  rw [mo2.2.2, mo.2.2, m9]
/-- the first of the row, if there is one -/
theorem inv_take (h : Inv π T S t U st none none none τ) : (m_takeReady τ = none ∧ m_takeReadyW τ = τ ∧ ReadyIs τ [] none) ∨ ∃ i, m_takeReady τ = some i ∧ Inv π T S t U st (some i) none none (m_takeReadyW τ) ∧ Mt τ (m_takeReadyW τ) ∧ Ms τ (m_takeReadyW τ) ∧ m_takeReadyW τ 0 9 = τ 0 9 := by
  obtain ⟨⟨L, hL⟩, _⟩ := h.1.2.2.2
  cases L with
  | nil =>
    obtain ⟨a, b⟩ := tr_none hL.1
    exact Or.inl ⟨a, b, hL⟩
  | cons i L =>
    obtain ⟨hi, g1, g2, g3⟩ := ready_take hL
    refine Or.inr ⟨i, g1, inv_off (fun a b y1 y2 y3 => g3 a b y1 (by omega)) ⟨⟨L, g2⟩, fun q hq => ?_⟩ h, fun q hq _ b => g3 _ _ (by omega) (by omega), Ms.cell (fun p hp => ⟨g3 _ _ (by omega) (by omega), g3 _ _ (by omega) (by omega)⟩), g3 _ _ (by omega) (by omega)⟩
    have e := Option.some.inj hq
    subst e
    exact ⟨hi, by rw [g3 _ _ (by omega) (by omega)]; exact (hL.2.2.1 i List.mem_cons_self).2.1⟩
theorem inv_turns {B : Nat} (hP : IP π B) : ∀ (n k : Nat) (τ : Sg) (T S U : Nat) (st : Nat → List Nat), Inv π T S t U st none none none τ → U + 100 * n < 2 ^ 31 - 1 → ∃ T' S' st' d, T ≤ T' ∧ S ≤ S' ∧ Mt τ (m_turns π n k τ).1 ∧ Ms τ (m_turns π n k τ).1 ∧ (m_turns π n k τ).2 = k + d ∧ d ≤ n ∧ (m_turns π n k τ).1 0 9 = τ 0 9 + nI d ∧ (d = n ∨ ReadyIs (m_turns π n k τ).1 [] none) ∧ Inv π T' S' t (U + 100 * n) st' none none none (m_turns π n k τ).1 := by
  intro n
  induction n with
  | zero =>
    intro k τ T S U st h hU
    refine ⟨T, S, st, 0, Nat.le_refl _, Nat.le_refl _, (Mo.refl τ).1, (Mo.refl τ).2.1, rfl, Nat.le_refl _, ?_, Or.inl rfl, h⟩
    show τ 0 9 = τ 0 9 + 0
    rw [Int32.add_zero]
  | succ n ih =>
    intro k τ T S U st h hU
    rcases inv_take h with ⟨a, b, c⟩ | ⟨i, a, I, mt, ms, m9⟩
    · have e : m_turns π (n + 1) k τ = (τ, k) := by
        show (match m_takeReady τ with | none => (m_takeReadyW τ, k) | some i => m_turns π n (k + 1) (m_turn (m_takeReadyW τ) π i)) = (τ, k)
        rw [a, b]
      rw [e]
      refine ⟨T, S, st, 0, Nat.le_refl _, Nat.le_refl _, (Mo.refl τ).1, (Mo.refl τ).2.1, rfl, Nat.zero_le _, ?_, Or.inr c, inv_U (by omega) h⟩
      show τ 0 9 = τ 0 9 + 0
      rw [Int32.add_zero]
    · have e : m_turns π (n + 1) k τ = m_turns π n (k + 1) (m_turn (m_takeReadyW τ) π i) := by
        show (match m_takeReady τ with | none => (m_takeReadyW τ, k) | some i => m_turns π n (k + 1) (m_turn (m_takeReadyW τ) π i)) = _
        rw [a]
      rw [e]
      obtain ⟨T1, S1, st1, t1, s1, mt1, ms1, m91, I1⟩ := inv_turn hP (by omega) I
      obtain ⟨T2, S2, st2, d, t2, s2, mt2, ms2, e2, d2, m92, c2, I2⟩ := ih (k + 1) _ T1 S1 (U + 100) st1 I1 (by omega)
      refine ⟨T2, S2, st2, d + 1, by omega, by omega, mt.trans (mt1.trans mt2), ms.trans (ms1.trans ms2), by omega, by omega, ?_, c2.elim (fun z => Or.inl (by omega)) Or.inr, inv_U (by omega) I2⟩
      rw [m92, m91, m9, Int32.add_assoc, ← nI_1 d, Int32.add_comm 1]
-- TIME
def InvM (π : Sg) (T S U : Nat) (st : Nat → List Nat) (τ : Sg) : Prop :=
  (IT τ T S ∧ IU τ T S ∧ IS τ none st ∧ RS τ none) ∧ (E1 τ S none ∧ E2 τ S none ∧ E3 τ S none ∧ E4 τ S none ∧ E5 τ ∧ E6 τ S) ∧ (IH τ ∧ IG τ π T none st) ∧ (IK τ none ∧ (∀ c, c < 2 → IC1 τ c) ∧ ∀ c, c < 2 → IC2 τ none U c)
theorem invM_cancel {k : Nat} (hk : k < 40) (h : InvM π T S U st τ) : InvM π T S U st (m_cancelScope τ k) := by
  obtain ⟨⟨a1, a2, a3, a4⟩, ⟨b1, b2, b3, b4, b5, b6⟩, ⟨d1, d2⟩, ⟨e1, e2, e3⟩⟩ := id h
  have hT : T ≤ 24 := a1.1
  have hS : S ≤ 40 := a1.2.1
  have g0 : ∀ q, q < 24 → τ (q + 6) 3 = 1 → τ (q + 6) 9 ≠ 5 → τ (q + 6) 14 = 0 := fun q hq h1 h5 => by
    obtain ⟨b, _, _, g⟩ := d2 q (a1.ltA hq (Or.inr h1))
    obtain ⟨l, _, _, _, g4⟩ := g (Or.inr h1)
    rcases g4 h1 with z | z
    · exact absurd z.1 h5
    · exact z.2.2.2.1
  have hf : Fr τ (m_cancelScope τ k) := fr_cancel
  exact ⟨⟨a1.fr hf, a2.fr hT hS hf, a3.fr hf, rs_cancel hk a4⟩, ⟨b1.fr hS hf, b2.fr hS hf, b3.fr hS hf, b4.fr hS hf, b5.fr hf, b6.fr hS hf⟩, ⟨ih_cancel hk a4 d1, d2.fr0 hT hf (fun q hq => cancelScope_other (by omega) (by omega) (by omega) (by omega))⟩, ⟨e1.fr hf (fun c hc => cancelScope_other (by omega) (by omega) (by omega) (by omega)), fun c hc => (e2 c hc).fr hf (cancelScope_other (by omega) (by omega) (by omega) (by omega)) (cancelScope_other (by omega) (by omega) (by omega) (by omega)) (cancelScope_other (by omega) (by omega) (by omega) (by omega)), fun c hc => (e3 c hc).fr hf g0 (fun q hq _ => ⟨cancelScope_other (by omega) (by omega) (by omega) (by omega), cancelScope_other (by omega) (by omega) (by omega) (by omega)⟩) (cancelScope_other (by omega) (by omega) (by omega) (by omega))⟩⟩
/-- DEADLINES, while those that have come are looked through -/
def IDj (τ : Sg) (S t j : Nat) : Prop := τ 0 8 = nI t ∧ ∀ k, k < S → (τ (k + 54) 6 ≠ 0 → τ (k + 54) 7 = -1) ∧ (m_isLive τ k = true → τ (k + 54) 5 = 0 → τ (k + 54) 7 = -1 ∨ ∃ d, (t < d ∨ (t = d ∧ j ≤ k)) ∧ d ≤ t + 20 ∧ τ (k + 54) 7 = nI d)
theorem cancel_now {τ : Sg} {k : Nat} (hR : RS τ none) (hk : k < 40) (hl : m_isLive τ k = true) : m_cancelScope τ k (k + 54) 5 ≠ 0 := by
  by_cases d5 : τ (k + 54) 5 = 0
  · obtain ⟨⟨L, hL⟩, hr⟩ := hR
    have := (cancel_spec hk hL (fun i hi => (hr i hi).2)).2.2.1 (by unfold m_cancels; rw [if_pos hl, if_pos d5])
    rw [this.1]; decide
  · have e : m_cancelScope τ k = τ := by unfold m_cancelScope; rw [if_pos hl, if_neg d5]
    rw [e]; exact d5
theorem inv_tickS : ∀ (n j : Nat) (τ : Sg), n + j = 40 → t < 100000 → InvM π T S U st τ → IDj τ S t j → InvM π T S U st (m_tickScopes n j τ) ∧ IDj (m_tickScopes n j τ) S t 40 ∧ Mo τ (m_tickScopes n j τ) := by
  intro n
  induction n with
  | zero => intro j τ hn _ h hd; have : j = 40 := by omega
            subst this; exact ⟨h, hd, Mo.refl τ⟩
  | succ n ih =>
    intro j τ hn ht h hd
    have hS := h.1.1.2.1
    have key : ∃ σ, σ = (if m_isLive τ j = true then (if τ (j + 54) 7 = τ 0 8 then m_cancelScope τ j else τ) else τ) ∧ InvM π T S U st σ ∧ IDj σ S t (j + 1) ∧ Mo τ σ := by
      refine ⟨_, rfl, ?_⟩
      by_cases c1 : m_isLive τ j = true
      · rw [if_pos c1]
        by_cases c2 : τ (j + 54) 7 = τ 0 8
        · rw [if_pos c2]
          have hf : Fr τ (m_cancelScope τ j) := fr_cancel
          have hM := invM_cancel (show j < 40 by omega) h
          refine ⟨hM, ⟨by rw [hf.2.2.2 8 (by omega)]; exact hd.1, fun k hk => ?_⟩, hf.mo (cancelScope_other (by omega) (by omega) (by omega) (by omega))⟩
          obtain ⟨z1, z2⟩ := hd.2 k hk
          rw [hf.sc (b := 6) (by omega) (by decide), hf.sc (b := 7) (by omega) (by decide), hf.live (by omega)]
          refine ⟨z1, fun hl h5 => ?_⟩
          have h5' : τ (k + 54) 5 = 0 := by
            rcases hf.can (k := k) (by omega) with z | z
            · rw [← z]; exact h5
            · exact z.1
          rcases z2 hl h5' with z | ⟨d, y1, y2, y3⟩
          · exact Or.inl z
          · refine Or.inr ⟨d, ?_, y2, y3⟩
            rcases y1 with y | ⟨y, w⟩
            · exact Or.inl y
            · refine Or.inr ⟨y, ?_⟩
              have : k ≠ j := fun e => by
                subst e
                exact cancel_now h.1.2.2.2 (by omega) c1 h5
              omega
        · rw [if_neg c2]
          refine ⟨h, ⟨hd.1, fun k hk => ?_⟩, Mo.refl τ⟩
          obtain ⟨z1, z2⟩ := hd.2 k hk
          refine ⟨z1, fun hl h5 => ?_⟩
          rcases z2 hl h5 with z | ⟨d, y1, y2, y3⟩
          · exact Or.inl z
          · refine Or.inr ⟨d, ?_, y2, y3⟩
            rcases y1 with y | ⟨y, w⟩
            · exact Or.inl y
            · refine Or.inr ⟨y, ?_⟩
              have : k ≠ j := fun e => by
                subst e
                rw [← y, ← hd.1] at y3
                exact c2 y3
              omega
      · rw [if_neg c1]
        refine ⟨h, ⟨hd.1, fun k hk => ?_⟩, Mo.refl τ⟩
        obtain ⟨z1, z2⟩ := hd.2 k hk
        refine ⟨z1, fun hl h5 => ?_⟩
        rcases z2 hl h5 with z | ⟨d, y1, y2, y3⟩
        · exact Or.inl z
        · refine Or.inr ⟨d, ?_, y2, y3⟩
          rcases y1 with y | ⟨y, w⟩
          · exact Or.inl y
          · refine Or.inr ⟨y, ?_⟩
            have : k ≠ j := fun e => by subst e; exact c1 hl
            omega
    obtain ⟨σ, e, g1, g2, g3⟩ := key
    show InvM π T S U st (m_tickScopes n (j + 1) _) ∧ IDj (m_tickScopes n (j + 1) _) S t 40 ∧ Mo τ (m_tickScopes n (j + 1) _)
    rw [← e]
    obtain ⟨i1, i2, i3⟩ := ih (j + 1) σ (by omega) ht g1 g2
    exact ⟨i1, i2, g3.trans i3⟩
/-- one whose SLEEP is over -/
theorem inv_wake {q : Nat} (hq : q < 24) (h1 : τ (q + 6) 3 = 1) (h9 : τ (q + 6) 9 ≠ 5) (h : Inv π T S t U st none none none τ) : Inv π T S t U st none none none (m_makeReady τ q) ∧ Mo τ (m_makeReady τ q) := by
  have g0 := h.g0
  obtain ⟨⟨a1, a2, a3, a4⟩, _, ⟨d1, d2⟩, ⟨e1, e2, e3⟩, f⟩ := id h
  have hf : Fr τ (m_makeReady τ q) := Fr.of (T5.wk0 hq h1 h9) ((SZ.refl τ).mr hq)
  refine ⟨h.fr hf (a4.mr hq (by rw [h1]; decide)) (d1.fr hf (fun k hk => mr_other (by omega) (by omega) (by omega))) (fun p hp _ => Or.inl (mr_other (by omega) (by omega) (by omega))) (e1.fr hf (fun c hc => mr_other (by omega) (by omega) (by omega))) (fun c hc => (e2 c hc).fr hf (mr_other (by omega) (by omega) (by omega)) (mr_other (by omega) (by omega) (by omega)) (mr_other (by omega) (by omega) (by omega))) (fun c hc => (e3 c hc).fr hf g0 (fun p hp _ => ⟨mr_other (by omega) (by omega) (by omega), mr_other (by omega) (by omega) (by omega)⟩) (mr_other (by omega) (by omega) (by omega))), hf.mo (mr_other (by omega) (by omega) (by omega))⟩
theorem inv_tickT : ∀ (n j : Nat) (τ : Sg), n + j = 24 → Inv π T S t U st none none none τ → Inv π T S t U st none none none (m_tickTasks n j τ) ∧ Mo τ (m_tickTasks n j τ) := by
  intro n
  induction n with
  | zero => intro j τ _ h; exact ⟨h, Mo.refl τ⟩
  | succ n ih =>
    intro j τ hn h
    show Inv π T S t U st none none none (m_tickTasks n (j + 1) _) ∧ Mo τ (m_tickTasks n (j + 1) _)
    by_cases c1 : m_waitsAt τ j 1 = true
    · rw [if_pos c1]
      by_cases c2 : τ (j + 6) 12 = τ 0 8
      · rw [if_pos c2]
        obtain ⟨w1, w2⟩ := waitsAt_iff.mp c1
        obtain ⟨g1, g2⟩ := inv_wake (show j < 24 by omega) w1 (by rw [w2]; decide) h
        obtain ⟨i1, i2⟩ := ih (j + 1) _ (by omega) g1
        exact ⟨i1, g2.trans i2⟩
      · rw [if_neg c2]; exact ih (j + 1) _ (by omega) h
    · rw [if_neg c1]; exact ih (j + 1) _ (by omega) h
theorem inv_tick (ht : t + 1 < 100000) (h : Inv π T S t U st none none none τ) : Inv π T S (t + 1) U st none none none (m_tickOnceW τ) ∧ Mo τ (m_tickOnceW τ) := by
  have hS := h.1.1.2.1
  have hf8 := h.2.2.2.2.1
  have g0 := h.g0
  obtain ⟨⟨a1, a2, a3, a4⟩, ⟨b1, b2, b3, b4, b5, b6⟩, ⟨d1, d2⟩, ⟨e1, e2, e3⟩, f⟩ := id h
  have he : ∀ a b, ¬ (a = 0 ∧ b = 8) → up2 τ 0 8 (nI (t + 1)) a b = τ a b := fun a b hn => up2_o hn
  have h1 : InvM π T S U st (up2 τ 0 8 (nI (t + 1))) := by
    have hfr : ∀ σ : Sg, (∀ a b, ¬ (a = 0 ∧ b = 8) → σ a b = τ a b) → InvM π T S U st σ := fun σ he => by
      have tk : ∀ q b, σ (q + 6) b = τ (q + 6) b := fun q b => he _ _ (by omega)
      have sc : ∀ k b, σ (k + 54) b = τ (k + 54) b := fun k b => he _ _ (by omega)
      have hFs : Fs τ σ := fun q hq => by unfold ali ovr; rw [tk]; exact ⟨Iff.rfl, Iff.rfl, Iff.rfl, tk q 6, fun _ => tk q 5⟩
      have hSs : Ss τ σ := Ss.cell (fun k _ b => sc k b)
      have lv : ∀ k, m_isLive σ k = m_isLive τ k := fun k => by unfold m_isLive; rw [sc]
      have ks : Ks τ σ := ⟨fun q _ b _ => tk q b, fun c _ => ⟨fun b => he _ _ (by omega), fun b => he _ _ (by omega)⟩⟩
      refine ⟨⟨?_, fun k hk => ?_, ⟨⟨fun o ho => ?_, fun k hk hl => ?_⟩, fun q hq hn => ?_⟩, a4.keep (he _ _ (by omega)) (fun j => he _ _ (by omega)) (fun q _ => tk q 3)⟩, ⟨b1.fs hS hFs hSs (fun k _ => lv k), b2.fs hS hFs hSs, b3.fs hS hFs hSs, fun k hk h1 => ?_, b5.fs hFs, ⟨fun k hk => by rw [sc]; exact b6.1 k hk, fun k hk => by rw [sc]; exact b6.2 k hk⟩⟩, ⟨fun q hq h1 h5 => ?_, d2.same a1.1 (fun q _ b => tk q b)⟩, ⟨e1.ks ks, fun c hc => (e2 c hc).ks hc ks, fun c hc => (e3 c hc).ks hc ks⟩⟩
      · obtain ⟨y1, y2, y3, y4, y5, y6, y7, y8⟩ := a1
        refine ⟨y1, y2, by rw [he _ _ (by omega)]; exact y3, by rw [he _ _ (by omega)]; exact y4, fun q hq => ?_, fun q h1 h2 => ?_, fun p hp => ?_, fun p h1 h2 => ?_⟩
        · unfold ali ovr; rw [tk]; exact y5 q hq
        · rw [tk, tk, tk, tk, tk, tk]; exact y6 q h1 h2
        · rw [sc]; exact y7 p hp
        · rw [sc, sc, sc, sc, sc, sc]; exact y8 p h1 h2
      · obtain ⟨o, o1, o2, o3⟩ := a2 k hk
        exact ⟨o, o1, by rw [sc]; exact o2, by rw [sc, sc, tk]; exact o3⟩
      · exact (a3.1.1 o ho).keep (tk o 7) (tk o 8) (fun k _ => ⟨sc k 1, sc k 2, sc k 3⟩) (fun _ => by unfold m_mode; rw [tk, tk])
      · rw [lv] at hl; exact a3.1.2 k hk hl
      · exact a3.2 q hq (fun z => hn ((hFs q hq).1.mpr z))
      · rw [sc] at h1
        obtain ⟨q, q1, q2, q3⟩ := b4 k hk h1
        exact ⟨q, q1, by rw [tk]; exact q2, q3.elim (fun y => Or.inl ((hFs q q1).1.mpr y)) Or.inr⟩
      · rw [tk] at h1 h5
        rw [← d1 q hq h1 h5]
        exact isHit_congr (fun k _ b _ => sc k b) (tk q 6) (tk q 7)
    exact hfr _ he
  have h2 : IDj (up2 τ 0 8 (nI (t + 1))) S (t + 1) 0 := by
    refine ⟨up2_same _ _ _ _, fun k hk => ?_⟩
    unfold m_isLive
    rw [he (k + 54) 6 (by omega), he (k + 54) 7 (by omega), he (k + 54) 5 (by omega), he (k + 54) 1 (by omega)]
    obtain ⟨z1, z2⟩ := f.2.2 k hk
    refine ⟨z1, fun hl h5 => ?_⟩
    rcases z2 hl h5 with z | ⟨d, y1, y2, y3⟩
    · exact Or.inl z
    · exact Or.inr ⟨d, by omega, by omega, y3⟩
  have h3 : Mo τ (up2 τ 0 8 (nI (t + 1))) := ⟨fun q _ _ b => he _ _ (by omega), Ms.cell (fun p _ => ⟨he _ _ (by omega), he _ _ (by omega)⟩), he _ _ (by omega)⟩
  obtain ⟨g1, g2, g3⟩ := inv_tickS 40 0 _ rfl ht h1 h2
  have h4 : Inv π T S (t + 1) U st none none none (m_tickScopes 40 0 (up2 τ 0 8 (nI (t + 1)))) := by
    obtain ⟨z1, z2, z3, z4⟩ := g1
    refine ⟨z1, z2, z3, z4, g2.1, ht, fun k hk => ?_⟩
    obtain ⟨y1, y2⟩ := g2.2 k hk
    refine ⟨y1, fun hl h5 => ?_⟩
    rcases y2 hl h5 with z | ⟨d, y1, y2, y3⟩
    · exact Or.inl z
    · exact Or.inr ⟨d, by omega, y2, y3⟩
  obtain ⟨i1, i2⟩ := inv_tickT 24 0 _ rfl h4
  unfold m_tickOnceW
  rw [hf8, nI_1]
  exact ⟨i1, h3.trans (g3.trans i2)⟩
end INV
