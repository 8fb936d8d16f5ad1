/-! the law: areScopesRight -/
theorem cnt_t {P : Nat → Bool} {k a : Nat} (ha : a = cnt P k) (h : P k = true) : a + 1 = cnt P (k + 1) := by
  show a + 1 = cnt P k + (if P k = true then 1 else 0); rw [if_pos h, ha]
theorem cnt_f {P : Nat → Bool} {k a : Nat} (ha : a = cnt P k) (h : P k = false) : a = cnt P (k + 1) := by
  show a = cnt P k + (if P k = true then 1 else 0); rw [if_neg (by rw [h]; decide), ha]; rfl
theorem isI_t {τ : Sg} {k j : Nat} (c : τ (j + 6) 6 = nI k) : isI τ k j = true := by unfold isI; exact decide_eq_true_iff.mpr c
theorem isI_f {τ : Sg} {k j : Nat} (c : ¬ τ (j + 6) 6 = nI k) : isI τ k j = false := by unfold isI; exact decide_eq_false_iff_not.mpr c
theorem ovI_f {τ : Sg} {k j : Nat} (c : ¬ τ (j + 6) 6 = nI k) : ovI τ none k j = false := by unfold ovI; exact decide_eq_false_iff_not.mpr (fun z => c z.1)
theorem faI_f {τ : Sg} {k j : Nat} (c : ¬ τ (j + 6) 6 = nI k) : faI τ none k j = false := by unfold faI; exact decide_eq_false_iff_not.mpr (fun z => c z.1)
theorem ovI_t {τ : Sg} {k j : Nat} (c : τ (j + 6) 6 = nI k) (o : ovr τ j) : ovI τ none k j = true := by unfold ovI; exact decide_eq_true_iff.mpr ⟨c, o, by intro z; cases z⟩
theorem ovI_g {τ : Sg} {k j : Nat} (o : ali τ j) : ovI τ none k j = false := by unfold ovI; exact decide_eq_false_iff_not.mpr (fun z => ali_not_ovr o z.2.1)
theorem faI_t {τ : Sg} {k j : Nat} (c : τ (j + 6) 6 = nI k) (o : τ (j + 6) 3 = 3) : faI τ none k j = true := by unfold faI; exact decide_eq_true_iff.mpr ⟨c, o, by intro z; cases z⟩
theorem faI_g {τ : Sg} {k j : Nat} (o : τ (j + 6) 3 ≠ 3) : faI τ none k j = false := by unfold faI; exact decide_eq_false_iff_not.mpr (fun z => o z.2.1)
theorem lv_upd {τ : Sg} {k o : Nat} {f f' : Nat → Int32} (hl : m_isLive τ k = true) (ho : τ (k + 54) 2 = nI o) (ho2 : o < 24) (hf : ∀ q, q < 24 → f q = nI (cnt (lvI τ q) k)) (e : f' = upd f o (nI (cnt (lvI τ o) k + 1))) : ∀ q, q < 24 → f' q = nI (cnt (lvI τ q) (k + 1)) := fun q hq => by
  rw [e]
  by_cases ee : q = o
  · rw [ee, ← cnt_t rfl (show lvI τ o k = true by unfold lvI; exact decide_eq_true_iff.mpr ⟨hl, ho⟩)]; exact if_pos rfl
  · rw [← cnt_f rfl (show lvI τ q k = false by unfold lvI; exact decide_eq_false_iff_not.mpr (fun z => ee (nI_inj (by omega) (by omega) (z.2.symm.trans ho))))]
    rw [← hf q hq]; exact if_neg ee
theorem lv_keep {τ : Sg} {k : Nat} {f : Nat → Int32} (hl : m_isLive τ k = false) (hf : ∀ q, q < 24 → f q = nI (cnt (lvI τ q) k)) : ∀ q, q < 24 → f q = nI (cnt (lvI τ q) (k + 1)) := fun q hq => by
  rw [← cnt_f rfl (show lvI τ q k = false by unfold lvI; exact decide_eq_false_iff_not.mpr (fun z => by have := z.1; rw [hl] at this; cases this))]
  exact hf q hq
theorem task_st {π τ : Sg} {T S t U : Nat} {st : Nat → List Nat} (h : Inv π T S t U st none none none τ) {j : Nat} (hj : j < T) : τ (j + 6) 3 = 0 ∨ τ (j + 6) 3 = 1 ∨ τ (j + 6) 3 = 2 ∨ τ (j + 6) 3 = 3 ∨ τ (j + 6) 3 = 4 := by
  rcases h.1.1.2.2.2.2.1 j hj with (z | z) | z
  · exact Or.inl z
  · exact Or.inr (Or.inl z)
  · exact Or.inr (Or.inr z)
theorem can_t {π τ : Sg} {T S t U : Nat} {st : Nat → List Nat} (h : Inv π T S t U st none none none τ) {k : Nat} (hk : k < S) (c : τ (k + 54) 5 ≠ 0) : m_isCan τ k = true := (isCan_is h.1.1 hk).mpr c
theorem can_f {π τ : Sg} {T S t U : Nat} {st : Nat → List Nat} (h : Inv π T S t U st none none none τ) {k : Nat} (hk : k < S) (c : τ (k + 54) 5 = 0) : m_isCan τ k = false := by
  cases z : m_isCan τ k with
  | false => rfl
  | true => exact absurd c ((isCan_is h.1.1 hk).mp z)
set_option maxHeartbeats 4000000 in
set_option maxRecDepth 100000 in
theorem c_L_areScopesRight (l : Launch) (D : va_G) (cA : Nat → ClassId) (ad : Nat → Nat) (tr : List (ClassId × FieldType)) (rest : va_W) (sz : Nat) (τ : Sg) (pd : Nat → Nat) (π : Sg) (bd : Nat → Nat) (tp : Nat) (ρ : Sg) (h102 : bd 102 = ad 102) (T S t U : Nat) (st : Nat → List Nat) (h : Inv π T S t U st none none none τ) : Met l yL_areScopesRight wl_areScopesRight ({ frames := 4, cells := 1, slots := 24, locals := 87 }) (va_Pc [.ref tp] (inW D (tyB cA ++ tr) (wB cA ad τ ++ (wPg cA ad pd π ++ (wB cA bd ρ ++ ((tp, .inr (8, tpF ad bd)) :: rest)))) sz)) (va_Qi (fun (r : Int32) (_ : Unit) => r = 1) (fun _ : Unit => outW D (tyB cA ++ tr) (va_A (wB cA ad τ ++ (wPg cA ad pd π ++ (wB cA bd ρ ++ ((tp, .inr (8, tpF ad bd)) :: rest)))) sz) (wB cA ad τ ++ (wPg cA ad pd π ++ (wB cA bd ρ ++ ((tp, .inr (8, tpF ad bd)) :: rest))))) (va_A (wB cA ad τ ++ (wPg cA ad pd π ++ (wB cA bd ρ ++ ((tp, .inr (8, tpF ad bd)) :: rest)))) sz)) 1 24 (va_A (wB cA ad τ ++ (wPg cA ad pd π ++ (wB cA bd ρ ++ ((tp, .inr (8, tpF ad bd)) :: rest)))) sz) := by
  refine Met.ofW (cc := cL_areScopesRight) (maxL := 10) (ret := (some .boolean)) (by decide) rfl ?_
  intro p e s m args below meth c s₁ B hml hv
  obtain ⟨rfl, hsz, hP, hK, hD0⟩ := hv
  have hx := B.exec
  have hb := B.bytes
  have hr := B.returns
  have hts := atoms_spec (ws := wl_areScopesRight) B.pre
  have hown : s.vm.findClass RL = some m.cls := findClass_of_methodNamed B.named
  have hlocks := B.notSynchronized
  subst hsz
  have hD := hD0.self (sz := s.heap.size)
  clear hD0
  generalize hAe : va_A (wB cA ad τ ++ (wPg cA ad pd π ++ (wB cA bd ρ ++ ((tp, .inr (8, tpF ad bd)) :: rest)))) s.heap.size = A at hD ⊢
  have hA : ∀ q : Nat, s.heap.size ≤ q → A q := fun q h => by rw [← hAe]; exact Or.inr h
  clear hAe
  have hS : va_S A s.heap s.heap [] := va_S.rf
  have hP : va_P D vwCl (wB cA ad τ ++ (wPg cA ad pd π ++ (wB cA bd ρ ++ ((tp, .inr (8, tpF ad bd)) :: rest)))) s.heap := hP
  have hl := lv_entry ([.ref tp]) (n := 10) (Nat.le_of_ble_eq_true rfl)
  rw [lg_entry_eq]
  generalize (lg_sl ([.ref tp]) ++ List.replicate (10 - (lg_sl ([.ref tp])).length) Slot.unset).toArray = ls at hl ⊢
  have hl : lv_has ls 10 [(0, .ref tp)] := hl
  have hT := h.1.1.1
  have hS40 := h.1.1.2.1
  have ht := h.2.2.2.2.2.1
  refine lv_iconst (v := 0) hx hb dL_areScopesRight_0 (by decide) ?_
  refine lv_istore_n (lv' := [(1, .int 0), (0, .ref tp)]) hx hb dL_areScopesRight_1 rfl hl (by decide) rfl (fun ls hl => ?_)
  refine lv_iconst (v := 0) hx hb dL_areScopesRight_2 (by decide) ?_
  refine lv_istore_n (lv' := [(2, .int 0), (1, .int 0), (0, .ref tp)]) hx hb dL_areScopesRight_3 rfl hl (by decide) rfl (fun ls hl => ?_)
  refine lv_bipush (v := 24) hx hb dL_areScopesRight_4 (by decide) ?_
  refine va_newa (atype := .int) (ty := .int) (N' := 24) (a0 := (24, .inl (fun _ => 0))) hx hb (hts (.arrayClass .int) (by decide +kernel)) rfl hK hP hD hS hA (fun _ => rfl) (by decide) (by decide) (Nat.le_of_ble_eq_true rfl) (Nat.le_of_ble_eq_true rfl) (Nat.le_of_ble_eq_true rfl) dL_areScopesRight_6 (fun q1 cN H hKn hP hD hS => ?_)
  obtain rfl : cN = cA 0 := cA_int hKn rfl
  clear hKn
  rw [wL_app] at hP hD
  obtain ⟨R2, eR2⟩ : ∃ z : va_W, z = rest ++ [(q1, .inl (cA 0, 24, .inl (fun _ => 0)))] := ⟨_, rfl⟩
  have hP : va_P D vwCl (wB cA ad τ ++ (wPg cA ad pd π ++ (wB cA bd ρ ++ ((tp, .inr (8, tpF ad bd)) :: R2)))) H := by rw [eR2]; exact hP
  have hD : va_D A (wB cA ad τ ++ (wPg cA ad pd π ++ (wB cA bd ρ ++ ((tp, .inr (8, tpF ad bd)) :: R2)))) := by rw [eR2]; exact hD
  refine W.widen (k := 1) (n := 24) (by omega) (by omega) ?_
  refine lv_astore_n (lv' := [(3, .ref q1), (2, .int 0), (1, .int 0), (0, .ref tp)]) hx hb dL_areScopesRight_8 rfl hl (by decide) rfl (fun ls hl => ?_)
  refine lv_iconst (v := 0) hx hb dL_areScopesRight_9 (by decide) ?_
  refine lv_istore (lv' := [(4, .int 0), (3, .ref q1), (2, .int 0), (1, .int 0), (0, .ref tp)]) hx hb dL_areScopesRight_10 hl (by decide) rfl (fun ls hl => ?_)
  refine W_meas (I := fun (n : Nat) (H : Heap) (locs : List Loc) (ls : Array Slot) => ∃ (k : Nat) (a : Nat) (b : Nat) (f : Nat → Int32) (R3 : va_W), ((n + k = S) ∧ (a = cnt (m_isLive τ) k) ∧ (b = cnt (m_isCan τ) k) ∧ (∀ q, q < 24 → f q = nI (cnt (lvI τ q) k)) ∧ (R3 = rest ++ [(q1, .inl (cA 0, 24, .inl f))])) ∧ va_P D vwCl (wB cA ad τ ++ (wPg cA ad pd π ++ (wB cA bd ρ ++ ((tp, .inr (8, tpF ad bd)) :: R3)))) H ∧ va_D A (wB cA ad τ ++ (wPg cA ad pd π ++ (wB cA bd ρ ++ ((tp, .inr (8, tpF ad bd)) :: R3)))) ∧ va_S A s.heap H locs ∧ lv_has ls 10 [(0, .ref tp), (1, .int (nI a)), (2, .int (nI b)), (3, .ref q1), (4, .int (nI k))]) S ⟨0, 0, 0, (fun _ => 0), R2, ⟨by omega, rfl, rfl, fun q hq => rfl, eR2⟩, hP, hD, hS, lv_sub hl [4, 3, 2, 1, 0] rfl⟩ ?_
  clear hP hD hS hl
  intro n ih H locs ls hI
  obtain ⟨k, a, b, f, R3, ⟨hn, ha, hb2, hf, eR3⟩, hP, hD, hS, hl⟩ := hI
  refine lv_iload hx hb dL_areScopesRight_12 (lv_at hl 4 rfl) ?_
  refine lv_aload_n hx hb dL_areScopesRight_14 rfl (lv_at hl 0 rfl) ?_
  refine lv_bipush (v := 7) hx hb dL_areScopesRight_15 (by decide) ?_
  refine x_Vi (As := [.int 7]) (rest0 := [.int (nI k)]) ⟨hx, hb, hml, hown, hts⟩ (c_X8_many l D cA ad tr R3 H.size τ pd π bd tp ρ h102 7 (by decide) (by decide)) (cwV 1 hts gl_areScopesRight_X8_many rfl rfl rfl (by decide +kernel) ⟨Nat.le_of_ble_eq_true rfl, Nat.le_of_ble_eq_true rfl⟩) hK hP hD hS hA 209 w_tp rfl hl.1 rfl rfl (Nat.le_of_ble_eq_true rfl) ⟨Nat.le_of_ble_eq_true rfl, Nat.le_of_ble_eq_true rfl⟩ dL_areScopesRight_17 (fun r _ H locs hw hP hD hS => ?_)
  obtain rfl : r = (nI S) := hw.trans (many_7 h.1.1)
  refine lv_icmp_ge (tgt := 389) hx hb dL_areScopesRight_20 (by decide) (fun c_20_4 => ?_) (fun c_20_4 => ?_)
  · skip
    obtain rfl : n = 0 := by have := (nI_leI (by omega) (by omega)).mp c_20_4; omega
    obtain rfl : S = k := by omega
    have la := cnt_le (m_isLive τ) S
    have lb := cnt_le (m_isCan τ) S
    refine lv_iconst (v := 0) hx hb dL_areScopesRight_389 (by decide) ?_
    refine lv_istore (lv' := [(4, .int 0), (0, .ref tp), (1, .int (nI a)), (2, .int (nI b)), (3, .ref q1)]) hx hb dL_areScopesRight_390 hl (by decide) rfl (fun ls hl => ?_)
    refine W_meas (I := fun (n4 : Nat) (H : Heap) (locs : List Loc) (ls : Array Slot) => ∃ (c : Nat) (R5 : va_W), ((n4 + c = T) ∧ (R5 = rest ++ [(q1, .inl (cA 0, 24, .inl f))])) ∧ va_P D vwCl (wB cA ad τ ++ (wPg cA ad pd π ++ (wB cA bd ρ ++ ((tp, .inr (8, tpF ad bd)) :: R5)))) H ∧ va_D A (wB cA ad τ ++ (wPg cA ad pd π ++ (wB cA bd ρ ++ ((tp, .inr (8, tpF ad bd)) :: R5)))) ∧ va_S A s.heap H locs ∧ lv_has ls 10 [(0, .ref tp), (1, .int (nI a)), (2, .int (nI b)), (3, .ref q1), (4, .int (nI c))]) T ⟨0, R3, ⟨by omega, eR3⟩, hP, hD, hS, lv_sub hl [1, 2, 3, 4, 0] rfl⟩ ?_
    clear hP hD hS hl
    intro n4 ih4 H locs ls hI
    obtain ⟨c, R5, ⟨hn4, eR5⟩, hP, hD, hS, hl⟩ := hI
    refine lv_iload hx hb dL_areScopesRight_392 (lv_at hl 4 rfl) ?_
    refine lv_aload_n hx hb dL_areScopesRight_394 rfl (lv_at hl 0 rfl) ?_
    refine lv_iconst (v := 1) hx hb dL_areScopesRight_395 (by decide) ?_
    refine x_Vi (As := [.int 1]) (rest0 := [.int (nI c)]) ⟨hx, hb, hml, hown, hts⟩ (c_X8_many l D cA ad tr R5 H.size τ pd π bd tp ρ h102 1 (by decide) (by decide)) (cwV 1 hts gl_areScopesRight_X8_many rfl rfl rfl (by decide +kernel) ⟨Nat.le_of_ble_eq_true rfl, Nat.le_of_ble_eq_true rfl⟩) hK hP hD hS hA 209 w_tp rfl hl.1 rfl rfl (Nat.le_of_ble_eq_true rfl) ⟨Nat.le_of_ble_eq_true rfl, Nat.le_of_ble_eq_true rfl⟩ dL_areScopesRight_396 (fun r _ H locs hw hP hD hS => ?_)
    obtain rfl : r = (nI T) := hw.trans (many_1 h.1.1)
    refine lv_icmp_ge (tgt := 454) hx hb dL_areScopesRight_399 (by decide) (fun c_399_6 => ?_) (fun c_399_6 => ?_)
    · skip
      obtain rfl : n4 = 0 := by have := (nI_leI (by omega) (by omega)).mp c_399_6; omega
      refine lv_aload_n hx hb dL_areScopesRight_454 rfl (lv_at hl 0 rfl) ?_
      refine lv_bipush (v := 8) hx hb dL_areScopesRight_455 (by decide) ?_
      refine x_Vi (As := [.int 8]) (rest0 := []) ⟨hx, hb, hml, hown, hts⟩ (c_X8_many l D cA ad tr R5 H.size τ pd π bd tp ρ h102 8 (by decide) (by decide)) (cwV 1 hts gl_areScopesRight_X8_many rfl rfl rfl (by decide +kernel) ⟨Nat.le_of_ble_eq_true rfl, Nat.le_of_ble_eq_true rfl⟩) hK hP hD hS hA 209 w_tp rfl hl.1 rfl rfl (Nat.le_of_ble_eq_true rfl) ⟨Nat.le_of_ble_eq_true rfl, Nat.le_of_ble_eq_true rfl⟩ dL_areScopesRight_457 (fun r _ H locs hw hP hD hS => ?_)
      obtain rfl : r = (nI (cnt (m_isLive τ) S)) := hw.trans ((many_89 h.1.1).1)
      refine lv_iload_n hx hb dL_areScopesRight_460 rfl (lv_at hl 1 rfl) ?_
      refine lv_icmp_ne (tgt := 478) hx hb dL_areScopesRight_461 (by decide) (fun c_461_7 => ?_) (fun c_461_7 => ?_)
      · exact absurd ((nI_eq (a := cnt (m_isLive τ) S) (b := a) (by omega) (by omega)).mpr (by omega)) c_461_7
      · skip
        refine lv_aload_n hx hb dL_areScopesRight_464 rfl (lv_at hl 0 rfl) ?_
        refine lv_bipush (v := 9) hx hb dL_areScopesRight_465 (by decide) ?_
        refine x_Vi (As := [.int 9]) (rest0 := []) ⟨hx, hb, hml, hown, hts⟩ (c_X8_many l D cA ad tr R5 H.size τ pd π bd tp ρ h102 9 (by decide) (by decide)) (cwV 1 hts gl_areScopesRight_X8_many rfl rfl rfl (by decide +kernel) ⟨Nat.le_of_ble_eq_true rfl, Nat.le_of_ble_eq_true rfl⟩) hK hP hD hS hA 209 w_tp rfl hl.1 rfl rfl (Nat.le_of_ble_eq_true rfl) ⟨Nat.le_of_ble_eq_true rfl, Nat.le_of_ble_eq_true rfl⟩ dL_areScopesRight_467 (fun r _ H locs hw hP hD hS => ?_)
        obtain rfl : r = (nI (cnt (m_isCan τ) S)) := hw.trans ((many_89 h.1.1).2)
        refine lv_iload_n hx hb dL_areScopesRight_470 rfl (lv_at hl 2 rfl) ?_
        refine lv_icmp_ne (tgt := 478) hx hb dL_areScopesRight_471 (by decide) (fun c_471_8 => ?_) (fun c_471_8 => ?_)
        · exact absurd ((nI_eq (a := cnt (m_isCan τ) S) (b := b) (by omega) (by omega)).mpr (by omega)) c_471_8
        · skip
          refine lv_iconst (v := 1) hx hb dL_areScopesRight_474 (by decide) ?_
          refine lv_goto (tgt := 479) hx hb dL_areScopesRight_475 (by decide) ?_
          rw [eR5, ← wL_app] at hP hD
          have hP := wP_l hP
          have hD := wD_l hD
          exact x_zret hx hb hr rfl hlocks hK () hP hD hS dL_areScopesRight_479 rfl
    · skip
      have hc : c < T := Nat.not_le.mp (fun z => c_399_6 ((nI_leI (by omega) (by omega)).mpr z))
      obtain ⟨n4, rfl⟩ : ∃ j, n4 = j + 1 := ⟨n4 - 1, by omega⟩
      obtain ⟨w5, w6, w7, w8⟩ := stack_sum h hc
      refine lv_aload_n hx hb dL_areScopesRight_402 rfl (lv_at hl 0 rfl) ?_
      refine lv_iload hx hb dL_areScopesRight_403 (lv_at hl 4 rfl) ?_
      refine lv_iconst (v := 5) hx hb dL_areScopesRight_405 (by decide) ?_
      refine x_Vi (As := [.int (nI c), .int 5]) (rest0 := []) ⟨hx, hb, hml, hown, hts⟩ (c_X8_ofTask l D cA ad tr R5 H.size τ pd π bd tp ρ h102 (nI c) 5 (nI_pos (by omega)) (by rw [h.1.1.2.2.1]; exact (nI_ltI (by omega) (by omega)).mpr (by omega)) (by decide) (by decide)) (cwV 2 hts gl_areScopesRight_X8_ofTask rfl rfl rfl (by decide +kernel) ⟨Nat.le_of_ble_eq_true rfl, Nat.le_of_ble_eq_true rfl⟩) hK hP hD hS hA 209 w_tp rfl hl.1 rfl rfl (Nat.le_of_ble_eq_true rfl) ⟨Nat.le_of_ble_eq_true rfl, Nat.le_of_ble_eq_true rfl⟩ dL_areScopesRight_406 (fun r _ H locs hw hP hD hS => ?_)
      obtain rfl : r = (nI ((st c).length)) := hw.trans w5
      refine lv_aload_n hx hb dL_areScopesRight_409 rfl (lv_at hl 3 rfl) ?_
      refine lv_iload hx hb dL_areScopesRight_410 (lv_at hl 4 rfl) ?_
      refine va_iald hx hb hK hP (0 + rest.length + 210) (0) (wNewR eR5 rfl) rfl (vp_in_nI (by omega) (by omega)) dL_areScopesRight_412 ?_
      refine W.eq (g2 := F0 m 413 ls [.int (nI (cnt (lvI τ c) S)), .int (nI ((st c).length))]) (by rw [nI_clamp (show c < 2 ^ 31 by omega)]; show F0 m _ ls (.int (f c) :: _) = _; rw [hf c (by omega)]) ?_
      refine lv_icmp_lt (tgt := 446) hx hb dL_areScopesRight_413 (by decide) (fun c_413_9 => ?_) (fun c_413_9 => ?_)
      · exact absurd ((nI_ltI (a := (st c).length) (b := cnt (lvI τ c) S) (by omega) (by omega)).mp c_413_9) (by omega)
      · skip
        refine lv_aload_n hx hb dL_areScopesRight_416 rfl (lv_at hl 0 rfl) ?_
        refine lv_iload hx hb dL_areScopesRight_417 (lv_at hl 4 rfl) ?_
        refine lv_iconst (v := 5) hx hb dL_areScopesRight_419 (by decide) ?_
        refine x_Vi (As := [.int (nI c), .int 5]) (rest0 := []) ⟨hx, hb, hml, hown, hts⟩ (c_X8_ofTask l D cA ad tr R5 H.size τ pd π bd tp ρ h102 (nI c) 5 (nI_pos (by omega)) (by rw [h.1.1.2.2.1]; exact (nI_ltI (by omega) (by omega)).mpr (by omega)) (by decide) (by decide)) (cwV 2 hts gl_areScopesRight_X8_ofTask rfl rfl rfl (by decide +kernel) ⟨Nat.le_of_ble_eq_true rfl, Nat.le_of_ble_eq_true rfl⟩) hK hP hD hS hA 209 w_tp rfl hl.1 rfl rfl (Nat.le_of_ble_eq_true rfl) ⟨Nat.le_of_ble_eq_true rfl, Nat.le_of_ble_eq_true rfl⟩ dL_areScopesRight_420 (fun r _ H locs hw hP hD hS => ?_)
        obtain rfl : r = (nI ((st c).length)) := hw.trans w5
        refine lv_aload_n hx hb dL_areScopesRight_423 rfl (lv_at hl 3 rfl) ?_
        refine lv_iload hx hb dL_areScopesRight_424 (lv_at hl 4 rfl) ?_
        refine va_iald hx hb hK hP (0 + rest.length + 210) (0) (wNewR eR5 rfl) rfl (vp_in_nI (by omega) (by omega)) dL_areScopesRight_426 ?_
        refine W.eq (g2 := F0 m 427 ls [.int (nI (cnt (lvI τ c) S)), .int (nI ((st c).length))]) (by rw [nI_clamp (show c < 2 ^ 31 by omega)]; show F0 m _ ls (.int (f c) :: _) = _; rw [hf c (by omega)]) ?_
        refine lv_aload_n hx hb dL_areScopesRight_427 rfl (lv_at hl 0 rfl) ?_
        refine lv_iload hx hb dL_areScopesRight_428 (lv_at hl 4 rfl) ?_
        refine lv_iconst (v := 1) hx hb dL_areScopesRight_430 (by decide) ?_
        refine x_Vi (As := [.int (nI c), .int 1]) (rest0 := [.int (nI (cnt (lvI τ c) S)), .int (nI ((st c).length))]) ⟨hx, hb, hml, hown, hts⟩ (c_X8_ofTask l D cA ad tr R5 H.size τ pd π bd tp ρ h102 (nI c) 1 (nI_pos (by omega)) (by rw [h.1.1.2.2.1]; exact (nI_ltI (by omega) (by omega)).mpr (by omega)) (by decide) (by decide)) (cwV 2 hts gl_areScopesRight_X8_ofTask rfl rfl rfl (by decide +kernel) ⟨Nat.le_of_ble_eq_true rfl, Nat.le_of_ble_eq_true rfl⟩) hK hP hD hS hA 209 w_tp rfl hl.1 rfl rfl (Nat.le_of_ble_eq_true rfl) ⟨Nat.le_of_ble_eq_true rfl, Nat.le_of_ble_eq_true rfl⟩ dL_areScopesRight_431 (fun r _ H locs hw hP hD hS => ?_)
        obtain rfl : r = (τ (c + 6) 3) := hw.trans (aT1 (by omega))
        refine lv_if_ne (tgt := 441) hx hb dL_areScopesRight_434 (by decide) (fun c_434_10 => ?_) (fun c_434_10 => ?_)
        · skip
          rw [if_neg c_434_10] at w7
          refine lv_iconst (v := 0) hx hb dL_areScopesRight_441 (by decide) ?_
          refine lv_iadd hx hb dL_areScopesRight_442 ?_
          refine W.eq (g2 := F0 m 443 ls [.int (nI ((cnt (lvI τ c) S) + 0)), .int (nI ((st c).length))]) (by rw [show ((nI (cnt (lvI τ c) S)) : Int32) + 0 = (nI ((cnt (lvI τ c) S) + 0)) from nI_add (cnt (lvI τ c) S) 0]) ?_
          refine lv_icmp_le (tgt := 448) hx hb dL_areScopesRight_443 (by decide) (fun c_443_11 => ?_) (fun c_443_11 => ?_)
          · skip
            refine lv_iinc (v := (nI (c + 1))) (lv' := [(4, .int (nI (c + 1))), (0, .ref tp), (1, .int (nI a)), (2, .int (nI b)), (3, .ref q1)]) hx hb dL_areScopesRight_448 hl (k := 4) rfl (show (nI c) + 1 = (nI (c + 1)) from nI_1 c) (by decide) rfl (fun ls hl => ?_)
            refine lv_goto (tgt := 392) hx hb dL_areScopesRight_451 (by decide) ?_
            exact ih4 n4 (Nat.lt_succ_self n4) H locs ls ⟨(c + 1), R5, ⟨by omega, eR5⟩, hP, hD, hS, lv_sub hl [1, 2, 3, 4, 0] rfl⟩
          · exact absurd ((nI_leI (a := (st c).length) (b := (cnt (lvI τ c) S) + 0) (by omega) (by omega)).mpr (by omega)) c_443_11
        · skip
          rw [if_pos c_434_10] at w7
          refine lv_iconst (v := 1) hx hb dL_areScopesRight_437 (by decide) ?_
          refine lv_goto (tgt := 442) hx hb dL_areScopesRight_438 (by decide) ?_
          refine lv_iadd hx hb dL_areScopesRight_442 ?_
          refine W.eq (g2 := F0 m 443 ls [.int (nI ((cnt (lvI τ c) S) + 1)), .int (nI ((st c).length))]) (by rw [show ((nI (cnt (lvI τ c) S)) : Int32) + 1 = (nI ((cnt (lvI τ c) S) + 1)) from nI_add (cnt (lvI τ c) S) 1]) ?_
          refine lv_icmp_le (tgt := 448) hx hb dL_areScopesRight_443 (by decide) (fun c_443_12 => ?_) (fun c_443_12 => ?_)
          · skip
            refine lv_iinc (v := (nI (c + 1))) (lv' := [(4, .int (nI (c + 1))), (0, .ref tp), (1, .int (nI a)), (2, .int (nI b)), (3, .ref q1)]) hx hb dL_areScopesRight_448 hl (k := 4) rfl (show (nI c) + 1 = (nI (c + 1)) from nI_1 c) (by decide) rfl (fun ls hl => ?_)
            refine lv_goto (tgt := 392) hx hb dL_areScopesRight_451 (by decide) ?_
            exact ih4 n4 (Nat.lt_succ_self n4) H locs ls ⟨(c + 1), R5, ⟨by omega, eR5⟩, hP, hD, hS, lv_sub hl [1, 2, 3, 4, 0] rfl⟩
          · exact absurd ((nI_leI (a := (st c).length) (b := (cnt (lvI τ c) S) + 1) (by omega) (by omega)).mpr (by omega)) c_443_12
  · skip
    have hk : k < S := Nat.not_le.mp (fun z => c_20_4 ((nI_leI (by omega) (by omega)).mpr z))
    obtain ⟨n, rfl⟩ : ∃ j, n = j + 1 := ⟨n - 1, by omega⟩
    have la := cnt_le (m_isLive τ) k
    have lb := cnt_le (m_isCan τ) k
    refine lv_iconst (v := 0) hx hb dL_areScopesRight_23 (by decide) ?_
    refine lv_istore (lv' := [(5, .int 0), (0, .ref tp), (1, .int (nI a)), (2, .int (nI b)), (3, .ref q1), (4, .int (nI k))]) hx hb dL_areScopesRight_24 hl (by decide) rfl (fun ls hl => ?_)
    refine lv_iconst (v := 0) hx hb dL_areScopesRight_26 (by decide) ?_
    refine lv_istore (lv' := [(6, .int 0), (5, .int 0), (0, .ref tp), (1, .int (nI a)), (2, .int (nI b)), (3, .ref q1), (4, .int (nI k))]) hx hb dL_areScopesRight_27 hl (by decide) rfl (fun ls hl => ?_)
    refine lv_iconst (v := 0) hx hb dL_areScopesRight_29 (by decide) ?_
    refine lv_istore (lv' := [(7, .int 0), (6, .int 0), (5, .int 0), (0, .ref tp), (1, .int (nI a)), (2, .int (nI b)), (3, .ref q1), (4, .int (nI k))]) hx hb dL_areScopesRight_30 hl (by decide) rfl (fun ls hl => ?_)
    refine lv_iconst (v := 0) hx hb dL_areScopesRight_32 (by decide) ?_
    refine lv_istore (lv' := [(8, .int 0), (7, .int 0), (6, .int 0), (5, .int 0), (0, .ref tp), (1, .int (nI a)), (2, .int (nI b)), (3, .ref q1), (4, .int (nI k))]) hx hb dL_areScopesRight_33 hl (by decide) rfl (fun ls hl => ?_)
    refine W_meas (I := fun (n3 : Nat) (H : Heap) (locs : List Loc) (ls : Array Slot) => ∃ (x : Nat) (y : Nat) (z : Nat) (j : Nat) (R13 : va_W), ((n3 + j = T) ∧ (x = cnt (isI τ k) j) ∧ (y = cnt (ovI τ none k) j) ∧ (z = cnt (faI τ none k) j) ∧ (R13 = rest ++ [(q1, .inl (cA 0, 24, .inl f))])) ∧ va_P D vwCl (wB cA ad τ ++ (wPg cA ad pd π ++ (wB cA bd ρ ++ ((tp, .inr (8, tpF ad bd)) :: R13)))) H ∧ va_D A (wB cA ad τ ++ (wPg cA ad pd π ++ (wB cA bd ρ ++ ((tp, .inr (8, tpF ad bd)) :: R13)))) ∧ va_S A s.heap H locs ∧ lv_has ls 10 [(0, .ref tp), (1, .int (nI a)), (2, .int (nI b)), (3, .ref q1), (4, .int (nI k)), (5, .int (nI x)), (6, .int (nI y)), (7, .int (nI z)), (8, .int (nI j))]) T ⟨0, 0, 0, 0, R3, ⟨by omega, rfl, rfl, rfl, eR3⟩, hP, hD, hS, lv_sub hl [4, 5, 6, 7, 8, 3, 2, 1, 0] rfl⟩ ?_
    clear hP hD hS hl
    intro n3 ih3 H locs ls hI
    obtain ⟨x, y, z, j, R13, ⟨hn3, jx, jy, jz, eR13⟩, hP, hD, hS, hl⟩ := hI
    refine lv_iload hx hb dL_areScopesRight_35 (lv_at hl 8 rfl) ?_
    refine lv_aload_n hx hb dL_areScopesRight_37 rfl (lv_at hl 0 rfl) ?_
    refine lv_iconst (v := 1) hx hb dL_areScopesRight_38 (by decide) ?_
    refine x_Vi (As := [.int 1]) (rest0 := [.int (nI j)]) ⟨hx, hb, hml, hown, hts⟩ (c_X8_many l D cA ad tr R13 H.size τ pd π bd tp ρ h102 1 (by decide) (by decide)) (cwV 1 hts gl_areScopesRight_X8_many rfl rfl rfl (by decide +kernel) ⟨Nat.le_of_ble_eq_true rfl, Nat.le_of_ble_eq_true rfl⟩) hK hP hD hS hA 209 w_tp rfl hl.1 rfl rfl (Nat.le_of_ble_eq_true rfl) ⟨Nat.le_of_ble_eq_true rfl, Nat.le_of_ble_eq_true rfl⟩ dL_areScopesRight_39 (fun r _ H locs hw hP hD hS => ?_)
    obtain rfl : r = (nI T) := hw.trans (many_1 h.1.1)
    refine lv_icmp_ge (tgt := 111) hx hb dL_areScopesRight_42 (by decide) (fun c_42_14 => ?_) (fun c_42_14 => ?_)
    · skip
      obtain rfl : n3 = 0 := by have := (nI_leI (by omega) (by omega)).mp c_42_14; omega
      obtain rfl : T = j := by omega
      have l1 := cnt_le (isI τ k) T
      have l2 := cnt_le (ovI τ none k) T
      have l3 := cnt_le (faI τ none k) T
      refine W_meet (ws := wB cA ad τ ++ (wPg cA ad pd π ++ (wB cA bd ρ ++ ((tp, .inr (8, tpF ad bd)) :: R13)))) (A0 := A) (H0 := s.heap) (cl := vwCl) (D := D) (pc2 := 222) (lv := [(0, .ref tp), (1, .int (nI a)), (2, .int (nI b)), (3, .ref q1), (4, .int (nI k)), (5, .int (nI x)), (6, .int (nI y)), (7, .int (nI z))]) (nL2 := 10) (st2 := []) (fun H locs ls hP hD hS hl => ?_) (fun J222 => ?_)
      · skip
        rcases scope_state h hk with ⟨s1, lv⟩ | ⟨s1, yx, lv⟩ | ⟨s1, yx, lv⟩
        · skip
          refine lv_aload_n hx hb dL_areScopesRight_222 rfl (lv_at hl 0 rfl) ?_
          refine lv_iload hx hb dL_areScopesRight_223 (lv_at hl 4 rfl) ?_
          refine lv_iconst (v := 1) hx hb dL_areScopesRight_225 (by decide) ?_
          refine x_Vi (As := [.int (nI k), .int 1]) (rest0 := []) ⟨hx, hb, hml, hown, hts⟩ (c_X8_ofScope l D cA ad tr R13 H.size τ pd π bd tp ρ h102 (nI k) 1 (nI_pos (by omega)) (by rw [h.1.1.2.2.2.1]; exact (nI_ltI (by omega) (by omega)).mpr (by omega)) (by decide) (by decide)) (cwV 2 hts gl_areScopesRight_X8_ofScope rfl rfl rfl (by decide +kernel) ⟨Nat.le_of_ble_eq_true rfl, Nat.le_of_ble_eq_true rfl⟩) hK hP hD hS hA 209 w_tp rfl hl.1 rfl rfl (Nat.le_of_ble_eq_true rfl) ⟨Nat.le_of_ble_eq_true rfl, Nat.le_of_ble_eq_true rfl⟩ dL_areScopesRight_226 (fun r _ H locs hw hP hD hS => ?_)
          obtain rfl : r = 0 := hw.trans s1
          refine lv_iconst (v := 2) hx hb dL_areScopesRight_229 (by decide) ?_
          refine lv_icmp_ne (tgt := 240) hx hb dL_areScopesRight_230 (by decide) (fun c_230_15 => ?_) (fun c_230_15 => ?_)
          · skip
            refine lv_aload_n hx hb dL_areScopesRight_240 rfl (lv_at hl 0 rfl) ?_
            refine lv_iload hx hb dL_areScopesRight_241 (lv_at hl 4 rfl) ?_
            refine lv_iconst (v := 1) hx hb dL_areScopesRight_243 (by decide) ?_
            refine x_Vi (As := [.int (nI k), .int 1]) (rest0 := []) ⟨hx, hb, hml, hown, hts⟩ (c_X8_ofScope l D cA ad tr R13 H.size τ pd π bd tp ρ h102 (nI k) 1 (nI_pos (by omega)) (by rw [h.1.1.2.2.2.1]; exact (nI_ltI (by omega) (by omega)).mpr (by omega)) (by decide) (by decide)) (cwV 2 hts gl_areScopesRight_X8_ofScope rfl rfl rfl (by decide +kernel) ⟨Nat.le_of_ble_eq_true rfl, Nat.le_of_ble_eq_true rfl⟩) hK hP hD hS hA 209 w_tp rfl hl.1 rfl rfl (Nat.le_of_ble_eq_true rfl) ⟨Nat.le_of_ble_eq_true rfl, Nat.le_of_ble_eq_true rfl⟩ dL_areScopesRight_244 (fun r _ H locs hw hP hD hS => ?_)
            obtain rfl : r = 0 := hw.trans s1
            refine lv_iconst (v := 1) hx hb dL_areScopesRight_247 (by decide) ?_
            refine lv_icmp_ne (tgt := 258) hx hb dL_areScopesRight_248 (by decide) (fun c_248_16 => ?_) (fun c_248_16 => ?_)
            · skip
              refine W_meet (ws := wB cA ad τ ++ (wPg cA ad pd π ++ (wB cA bd ρ ++ ((tp, .inr (8, tpF ad bd)) :: R13)))) (A0 := A) (H0 := s.heap) (cl := vwCl) (D := D) (pc2 := 282) (lv := [(0, .ref tp), (1, .int (nI a)), (2, .int (nI b)), (3, .ref q1), (4, .int (nI k)), (5, .int (nI x)), (6, .int (nI y)), (7, .int (nI z))]) (nL2 := 10) (st2 := []) (fun H locs ls hP hD hS hl => ?_) (fun J282 => ?_)
              · skip
                refine lv_aload_n hx hb dL_areScopesRight_282 rfl (lv_at hl 0 rfl) ?_
                refine lv_iload hx hb dL_areScopesRight_283 (lv_at hl 4 rfl) ?_
                obtain ⟨o, ho, o0, o2⟩ := scope_opener h hk
                have lo := cnt_le (lvI τ o) k
                refine lv_iconst (v := 1) hx hb dL_areScopesRight_285 (by decide) ?_
                refine x_Vi (As := [.int (nI k), .int 1]) (rest0 := []) ⟨hx, hb, hml, hown, hts⟩ (c_X8_ofScope l D cA ad tr R13 H.size τ pd π bd tp ρ h102 (nI k) 1 (nI_pos (by omega)) (by rw [h.1.1.2.2.2.1]; exact (nI_ltI (by omega) (by omega)).mpr (by omega)) (by decide) (by decide)) (cwV 2 hts gl_areScopesRight_X8_ofScope rfl rfl rfl (by decide +kernel) ⟨Nat.le_of_ble_eq_true rfl, Nat.le_of_ble_eq_true rfl⟩) hK hP hD hS hA 209 w_tp rfl hl.1 rfl rfl (Nat.le_of_ble_eq_true rfl) ⟨Nat.le_of_ble_eq_true rfl, Nat.le_of_ble_eq_true rfl⟩ dL_areScopesRight_286 (fun r _ H locs hw hP hD hS => ?_)
                obtain rfl : r = 0 := hw.trans s1
                refine lv_iconst (v := 2) hx hb dL_areScopesRight_289 (by decide) ?_
                refine lv_icmp_ge (tgt := 306) hx hb dL_areScopesRight_290 (by decide) (fun c_290_17 => ?_) (fun c_290_17 => ?_)
                · exact absurd c_290_17 (by decide)
                · skip
                  refine lv_aload_n hx hb dL_areScopesRight_293 rfl (lv_at hl 3 rfl) ?_
                  refine lv_aload_n hx hb dL_areScopesRight_294 rfl (lv_at hl 0 rfl) ?_
                  refine lv_iload hx hb dL_areScopesRight_295 (lv_at hl 4 rfl) ?_
                  refine lv_iconst (v := 0) hx hb dL_areScopesRight_297 (by decide) ?_
                  refine x_Vi (As := [.int (nI k), .int 0]) (rest0 := [.ref q1]) ⟨hx, hb, hml, hown, hts⟩ (c_X8_ofScope l D cA ad tr R13 H.size τ pd π bd tp ρ h102 (nI k) 0 (nI_pos (by omega)) (by rw [h.1.1.2.2.2.1]; exact (nI_ltI (by omega) (by omega)).mpr (by omega)) (by decide) (by decide)) (cwV 2 hts gl_areScopesRight_X8_ofScope rfl rfl rfl (by decide +kernel) ⟨Nat.le_of_ble_eq_true rfl, Nat.le_of_ble_eq_true rfl⟩) hK hP hD hS hA 209 w_tp rfl hl.1 rfl rfl (Nat.le_of_ble_eq_true rfl) ⟨Nat.le_of_ble_eq_true rfl, Nat.le_of_ble_eq_true rfl⟩ dL_areScopesRight_298 (fun r _ H locs hw hP hD hS => ?_)
                  obtain rfl : r = (nI o) := hw.trans o0
                  refine lv_dup2_11 hx hb dL_areScopesRight_301 rfl rfl ?_
                  refine va_iald hx hb hK hP (0 + rest.length + 210) (0) (wNewR eR13 rfl) rfl (vp_in_nI (by omega) (by omega)) dL_areScopesRight_302 ?_
                  refine W.eq (g2 := F0 m 303 ls [.int (nI (cnt (lvI τ o) k)), .int (nI o), .ref q1]) (by rw [nI_clamp (show o < 2 ^ 31 by omega)]; show F0 m _ ls (.int (f o) :: _) = _; rw [hf o (by omega)]) ?_
                  refine lv_iconst (v := 1) hx hb dL_areScopesRight_303 (by decide) ?_
                  refine lv_iadd hx hb dL_areScopesRight_304 ?_
                  refine W.eq (g2 := F0 m 305 ls [.int (nI ((cnt (lvI τ o) k) + 1)), .int (nI o), .ref q1]) (by rw [show ((nI (cnt (lvI τ o) k)) : Int32) + 1 = (nI ((cnt (lvI τ o) k) + 1)) from nI_add (cnt (lvI τ o) k) 1]) ?_
                  refine va_iast hx hb hK hP hD hS (0 + rest.length + 210) (0) (wNewR eR13 rfl) rfl (vp_in_nI (by omega) (by omega)) dL_areScopesRight_305 (fun H locs hP hD hS => ?_)
                  rw [wNewSR eR13] at hP hD
                  rw [nI_clamp (show o < 2 ^ 31 by omega)] at hP hD
                  obtain ⟨f18, ef18⟩ : ∃ z : Nat → Int32, z = upd f o (nI ((cnt (lvI τ o) k) + 1)) := ⟨_, rfl⟩
                  obtain ⟨R19, eR19⟩ : ∃ z : va_W, z = rest ++ [(q1, .inl (cA 0, 24, .inl f18))] := ⟨_, rfl⟩
                  have hP : va_P D vwCl (wB cA ad τ ++ (wPg cA ad pd π ++ (wB cA bd ρ ++ ((tp, .inr (8, tpF ad bd)) :: R19)))) H := by rw [eR19, ef18]; exact hP
                  have hD : va_D A (wB cA ad τ ++ (wPg cA ad pd π ++ (wB cA bd ρ ++ ((tp, .inr (8, tpF ad bd)) :: R19)))) := by rw [eR19, ef18]; exact hD
                  refine lv_iload_n hx hb dL_areScopesRight_306 rfl (lv_at hl 1 rfl) ?_
                  refine lv_aload_n hx hb dL_areScopesRight_307 rfl (lv_at hl 0 rfl) ?_
                  refine lv_iload hx hb dL_areScopesRight_308 (lv_at hl 4 rfl) ?_
                  refine lv_iconst (v := 1) hx hb dL_areScopesRight_310 (by decide) ?_
                  refine x_Vi (As := [.int (nI k), .int 1]) (rest0 := [.int (nI a)]) ⟨hx, hb, hml, hown, hts⟩ (c_X8_ofScope l D cA ad tr R19 H.size τ pd π bd tp ρ h102 (nI k) 1 (nI_pos (by omega)) (by rw [h.1.1.2.2.2.1]; exact (nI_ltI (by omega) (by omega)).mpr (by omega)) (by decide) (by decide)) (cwV 2 hts gl_areScopesRight_X8_ofScope rfl rfl rfl (by decide +kernel) ⟨Nat.le_of_ble_eq_true rfl, Nat.le_of_ble_eq_true rfl⟩) hK hP hD hS hA 209 w_tp rfl hl.1 rfl rfl (Nat.le_of_ble_eq_true rfl) ⟨Nat.le_of_ble_eq_true rfl, Nat.le_of_ble_eq_true rfl⟩ dL_areScopesRight_311 (fun r _ H locs hw hP hD hS => ?_)
                  obtain rfl : r = 0 := hw.trans s1
                  refine lv_iconst (v := 2) hx hb dL_areScopesRight_314 (by decide) ?_
                  refine lv_icmp_ge (tgt := 322) hx hb dL_areScopesRight_315 (by decide) (fun c_315_20 => ?_) (fun c_315_20 => ?_)
                  · exact absurd c_315_20 (by decide)
                  · skip
                    refine lv_iconst (v := 1) hx hb dL_areScopesRight_318 (by decide) ?_
                    refine lv_goto (tgt := 323) hx hb dL_areScopesRight_319 (by decide) ?_
                    refine lv_iadd hx hb dL_areScopesRight_323 ?_
                    refine W.eq (g2 := F0 m 324 ls [.int (nI (a + 1))]) (by rw [show ((nI a) : Int32) + 1 = (nI (a + 1)) from nI_add a 1]) ?_
                    refine lv_istore_n (lv' := [(1, .int (nI (a + 1))), (0, .ref tp), (2, .int (nI b)), (3, .ref q1), (4, .int (nI k)), (5, .int (nI x)), (6, .int (nI y)), (7, .int (nI z))]) hx hb dL_areScopesRight_324 rfl hl (by decide) rfl (fun ls hl => ?_)
                    rcases scope_can (τ := τ) (k := k) (by omega) with ⟨s2, k5⟩ | ⟨s2, k5⟩
                    · skip
                      rcases scope_dead h hk lv k5 with s3 | ⟨d, hd, hd2, s3⟩
                      · skip
                        refine lv_iload_n hx hb dL_areScopesRight_325 rfl (lv_at hl 2 rfl) ?_
                        refine lv_aload_n hx hb dL_areScopesRight_326 rfl (lv_at hl 1 rfl) ?_
                        refine lv_iload hx hb dL_areScopesRight_327 (lv_at hl 4 rfl) ?_
                        refine lv_iconst (v := 2) hx hb dL_areScopesRight_329 (by decide) ?_
                        refine x_Vi (As := [.int (nI k), .int 2]) (rest0 := [.int (nI b)]) ⟨hx, hb, hml, hown, hts⟩ (c_X8_ofScope l D cA ad tr R19 H.size τ pd π bd tp ρ h102 (nI k) 2 (nI_pos (by omega)) (by rw [h.1.1.2.2.2.1]; exact (nI_ltI (by omega) (by omega)).mpr (by omega)) (by decide) (by decide)) (cwV 2 hts gl_areScopesRight_X8_ofScope rfl rfl rfl (by decide +kernel) ⟨Nat.le_of_ble_eq_true rfl, Nat.le_of_ble_eq_true rfl⟩) hK hP hD hS hA 209 w_tp rfl hl.1 rfl rfl (Nat.le_of_ble_eq_true rfl) ⟨Nat.le_of_ble_eq_true rfl, Nat.le_of_ble_eq_true rfl⟩ dL_areScopesRight_330 (fun r _ H locs hw hP hD hS => ?_)
                        obtain rfl : r = 0 := hw.trans s2
                        refine lv_iadd hx hb dL_areScopesRight_333 ?_
                        refine W.eq (g2 := F0 m 334 ls [.int (nI (b + 0))]) (by rw [show ((nI b) : Int32) + 0 = (nI (b + 0)) from nI_add b 0]) ?_
                        refine lv_istore_n (lv' := [(2, .int (nI (b + 0))), (1, .int (nI (a + 1))), (0, .ref tp), (3, .ref q1), (4, .int (nI k)), (5, .int (nI x)), (6, .int (nI y)), (7, .int (nI z))]) hx hb dL_areScopesRight_334 rfl hl (by decide) rfl (fun ls hl => ?_)
                        refine lv_aload_n hx hb dL_areScopesRight_335 rfl (lv_at hl 2 rfl) ?_
                        refine lv_iload hx hb dL_areScopesRight_336 (lv_at hl 4 rfl) ?_
                        refine lv_iconst (v := 3) hx hb dL_areScopesRight_338 (by decide) ?_
                        refine x_Vi (As := [.int (nI k), .int 3]) (rest0 := []) ⟨hx, hb, hml, hown, hts⟩ (c_X8_ofScope l D cA ad tr R19 H.size τ pd π bd tp ρ h102 (nI k) 3 (nI_pos (by omega)) (by rw [h.1.1.2.2.2.1]; exact (nI_ltI (by omega) (by omega)).mpr (by omega)) (by decide) (by decide)) (cwV 2 hts gl_areScopesRight_X8_ofScope rfl rfl rfl (by decide +kernel) ⟨Nat.le_of_ble_eq_true rfl, Nat.le_of_ble_eq_true rfl⟩) hK hP hD hS hA 209 w_tp rfl hl.1 rfl rfl (Nat.le_of_ble_eq_true rfl) ⟨Nat.le_of_ble_eq_true rfl, Nat.le_of_ble_eq_true rfl⟩ dL_areScopesRight_339 (fun r _ H locs hw hP hD hS => ?_)
                        obtain rfl : r = (-1) := hw.trans s3
                        refine lv_istore (lv' := [(9, .int (-1)), (2, .int (nI (b + 0))), (1, .int (nI (a + 1))), (0, .ref tp), (3, .ref q1), (4, .int (nI k)), (5, .int (nI x)), (6, .int (nI y)), (7, .int (nI z))]) hx hb dL_areScopesRight_342 hl (by decide) rfl (fun ls hl => ?_)
                        refine lv_iload hx hb dL_areScopesRight_344 (lv_at hl 0 rfl) ?_
                        refine lv_if_lt (tgt := 383) hx hb dL_areScopesRight_346 (by decide) (fun c_346_21 => ?_) (fun c_346_21 => ?_)
                        · skip
                          refine lv_iinc (v := (nI (k + 1))) (lv' := [(4, .int (nI (k + 1))), (9, .int (-1)), (2, .int (nI (b + 0))), (1, .int (nI (a + 1))), (0, .ref tp), (3, .ref q1), (5, .int (nI x)), (6, .int (nI y)), (7, .int (nI z))]) hx hb dL_areScopesRight_383 hl (k := 5) rfl (show (nI k) + 1 = (nI (k + 1)) from nI_1 k) (by decide) rfl (fun ls hl => ?_)
                          refine lv_goto (tgt := 12) hx hb dL_areScopesRight_386 (by decide) ?_
                          exact ih n (Nat.lt_succ_self n) H locs ls ⟨(k + 1), (a + 1), b, f18, R19, ⟨by omega, cnt_t ha lv, cnt_f hb2 (can_f h hk k5), lv_upd lv o2 (by omega) hf ef18, eR19⟩, hP, hD, hS, lv_sub hl [4, 3, 2, 5, 0] rfl⟩
                        · exact absurd c_346_21 (by decide)
                      · skip
                        refine lv_iload_n hx hb dL_areScopesRight_325 rfl (lv_at hl 2 rfl) ?_
                        refine lv_aload_n hx hb dL_areScopesRight_326 rfl (lv_at hl 1 rfl) ?_
                        refine lv_iload hx hb dL_areScopesRight_327 (lv_at hl 4 rfl) ?_
                        refine lv_iconst (v := 2) hx hb dL_areScopesRight_329 (by decide) ?_
                        refine x_Vi (As := [.int (nI k), .int 2]) (rest0 := [.int (nI b)]) ⟨hx, hb, hml, hown, hts⟩ (c_X8_ofScope l D cA ad tr R19 H.size τ pd π bd tp ρ h102 (nI k) 2 (nI_pos (by omega)) (by rw [h.1.1.2.2.2.1]; exact (nI_ltI (by omega) (by omega)).mpr (by omega)) (by decide) (by decide)) (cwV 2 hts gl_areScopesRight_X8_ofScope rfl rfl rfl (by decide +kernel) ⟨Nat.le_of_ble_eq_true rfl, Nat.le_of_ble_eq_true rfl⟩) hK hP hD hS hA 209 w_tp rfl hl.1 rfl rfl (Nat.le_of_ble_eq_true rfl) ⟨Nat.le_of_ble_eq_true rfl, Nat.le_of_ble_eq_true rfl⟩ dL_areScopesRight_330 (fun r _ H locs hw hP hD hS => ?_)
                        obtain rfl : r = 0 := hw.trans s2
                        refine lv_iadd hx hb dL_areScopesRight_333 ?_
                        refine W.eq (g2 := F0 m 334 ls [.int (nI (b + 0))]) (by rw [show ((nI b) : Int32) + 0 = (nI (b + 0)) from nI_add b 0]) ?_
                        refine lv_istore_n (lv' := [(2, .int (nI (b + 0))), (1, .int (nI (a + 1))), (0, .ref tp), (3, .ref q1), (4, .int (nI k)), (5, .int (nI x)), (6, .int (nI y)), (7, .int (nI z))]) hx hb dL_areScopesRight_334 rfl hl (by decide) rfl (fun ls hl => ?_)
                        refine lv_aload_n hx hb dL_areScopesRight_335 rfl (lv_at hl 2 rfl) ?_
                        refine lv_iload hx hb dL_areScopesRight_336 (lv_at hl 4 rfl) ?_
                        refine lv_iconst (v := 3) hx hb dL_areScopesRight_338 (by decide) ?_
                        refine x_Vi (As := [.int (nI k), .int 3]) (rest0 := []) ⟨hx, hb, hml, hown, hts⟩ (c_X8_ofScope l D cA ad tr R19 H.size τ pd π bd tp ρ h102 (nI k) 3 (nI_pos (by omega)) (by rw [h.1.1.2.2.2.1]; exact (nI_ltI (by omega) (by omega)).mpr (by omega)) (by decide) (by decide)) (cwV 2 hts gl_areScopesRight_X8_ofScope rfl rfl rfl (by decide +kernel) ⟨Nat.le_of_ble_eq_true rfl, Nat.le_of_ble_eq_true rfl⟩) hK hP hD hS hA 209 w_tp rfl hl.1 rfl rfl (Nat.le_of_ble_eq_true rfl) ⟨Nat.le_of_ble_eq_true rfl, Nat.le_of_ble_eq_true rfl⟩ dL_areScopesRight_339 (fun r _ H locs hw hP hD hS => ?_)
                        obtain rfl : r = (nI d) := hw.trans s3
                        refine lv_istore (lv' := [(9, .int (nI d)), (2, .int (nI (b + 0))), (1, .int (nI (a + 1))), (0, .ref tp), (3, .ref q1), (4, .int (nI k)), (5, .int (nI x)), (6, .int (nI y)), (7, .int (nI z))]) hx hb dL_areScopesRight_342 hl (by decide) rfl (fun ls hl => ?_)
                        refine lv_iload hx hb dL_areScopesRight_344 (lv_at hl 0 rfl) ?_
                        refine lv_if_lt (tgt := 383) hx hb dL_areScopesRight_346 (by decide) (fun c_346_22 => ?_) (fun c_346_22 => ?_)
                        · exact absurd ((nI_ltI (a := d) (b := 0) (by omega) (by omega)).mp c_346_22) (by omega)
                        · skip
                          refine lv_iload hx hb dL_areScopesRight_349 (lv_at hl 0 rfl) ?_
                          refine lv_aload_n hx hb dL_areScopesRight_351 rfl (lv_at hl 3 rfl) ?_
                          refine lv_bipush (v := 10) hx hb dL_areScopesRight_352 (by decide) ?_
                          refine x_Vi (As := [.int 10]) (rest0 := [.int (nI d)]) ⟨hx, hb, hml, hown, hts⟩ (c_X8_many l D cA ad tr R19 H.size τ pd π bd tp ρ h102 10 (by decide) (by decide)) (cwV 1 hts gl_areScopesRight_X8_many rfl rfl rfl (by decide +kernel) ⟨Nat.le_of_ble_eq_true rfl, Nat.le_of_ble_eq_true rfl⟩) hK hP hD hS hA 209 w_tp rfl hl.1 rfl rfl (Nat.le_of_ble_eq_true rfl) ⟨Nat.le_of_ble_eq_true rfl, Nat.le_of_ble_eq_true rfl⟩ dL_areScopesRight_354 (fun r _ H locs hw hP hD hS => ?_)
                          obtain rfl : r = (nI t) := hw.trans (many_10 h)
                          refine lv_icmp_gt (tgt := 383) hx hb dL_areScopesRight_357 (by decide) (fun c_357_23 => ?_) (fun c_357_23 => ?_)
                          · skip
                            refine lv_iinc (v := (nI (k + 1))) (lv' := [(4, .int (nI (k + 1))), (9, .int (nI d)), (2, .int (nI (b + 0))), (1, .int (nI (a + 1))), (0, .ref tp), (3, .ref q1), (5, .int (nI x)), (6, .int (nI y)), (7, .int (nI z))]) hx hb dL_areScopesRight_383 hl (k := 5) rfl (show (nI k) + 1 = (nI (k + 1)) from nI_1 k) (by decide) rfl (fun ls hl => ?_)
                            refine lv_goto (tgt := 12) hx hb dL_areScopesRight_386 (by decide) ?_
                            exact ih n (Nat.lt_succ_self n) H locs ls ⟨(k + 1), (a + 1), b, f18, R19, ⟨by omega, cnt_t ha lv, cnt_f hb2 (can_f h hk k5), lv_upd lv o2 (by omega) hf ef18, eR19⟩, hP, hD, hS, lv_sub hl [4, 3, 2, 5, 0] rfl⟩
                          · exact absurd ((nI_ltI (a := t) (b := d) (by omega) (by omega)).mpr (by omega)) c_357_23
                    · skip
                      refine lv_iload_n hx hb dL_areScopesRight_325 rfl (lv_at hl 2 rfl) ?_
                      refine lv_aload_n hx hb dL_areScopesRight_326 rfl (lv_at hl 1 rfl) ?_
                      refine lv_iload hx hb dL_areScopesRight_327 (lv_at hl 4 rfl) ?_
                      refine lv_iconst (v := 2) hx hb dL_areScopesRight_329 (by decide) ?_
                      refine x_Vi (As := [.int (nI k), .int 2]) (rest0 := [.int (nI b)]) ⟨hx, hb, hml, hown, hts⟩ (c_X8_ofScope l D cA ad tr R19 H.size τ pd π bd tp ρ h102 (nI k) 2 (nI_pos (by omega)) (by rw [h.1.1.2.2.2.1]; exact (nI_ltI (by omega) (by omega)).mpr (by omega)) (by decide) (by decide)) (cwV 2 hts gl_areScopesRight_X8_ofScope rfl rfl rfl (by decide +kernel) ⟨Nat.le_of_ble_eq_true rfl, Nat.le_of_ble_eq_true rfl⟩) hK hP hD hS hA 209 w_tp rfl hl.1 rfl rfl (Nat.le_of_ble_eq_true rfl) ⟨Nat.le_of_ble_eq_true rfl, Nat.le_of_ble_eq_true rfl⟩ dL_areScopesRight_330 (fun r _ H locs hw hP hD hS => ?_)
                      obtain rfl : r = 1 := hw.trans s2
                      refine lv_iadd hx hb dL_areScopesRight_333 ?_
                      refine W.eq (g2 := F0 m 334 ls [.int (nI (b + 1))]) (by rw [show ((nI b) : Int32) + 1 = (nI (b + 1)) from nI_add b 1]) ?_
                      refine lv_istore_n (lv' := [(2, .int (nI (b + 1))), (1, .int (nI (a + 1))), (0, .ref tp), (3, .ref q1), (4, .int (nI k)), (5, .int (nI x)), (6, .int (nI y)), (7, .int (nI z))]) hx hb dL_areScopesRight_334 rfl hl (by decide) rfl (fun ls hl => ?_)
                      refine lv_aload_n hx hb dL_areScopesRight_335 rfl (lv_at hl 2 rfl) ?_
                      refine lv_iload hx hb dL_areScopesRight_336 (lv_at hl 4 rfl) ?_
                      refine lv_iconst (v := 3) hx hb dL_areScopesRight_338 (by decide) ?_
                      refine x_Vi (As := [.int (nI k), .int 3]) (rest0 := []) ⟨hx, hb, hml, hown, hts⟩ (c_X8_ofScope l D cA ad tr R19 H.size τ pd π bd tp ρ h102 (nI k) 3 (nI_pos (by omega)) (by rw [h.1.1.2.2.2.1]; exact (nI_ltI (by omega) (by omega)).mpr (by omega)) (by decide) (by decide)) (cwV 2 hts gl_areScopesRight_X8_ofScope rfl rfl rfl (by decide +kernel) ⟨Nat.le_of_ble_eq_true rfl, Nat.le_of_ble_eq_true rfl⟩) hK hP hD hS hA 209 w_tp rfl hl.1 rfl rfl (Nat.le_of_ble_eq_true rfl) ⟨Nat.le_of_ble_eq_true rfl, Nat.le_of_ble_eq_true rfl⟩ dL_areScopesRight_339 (fun r _ H locs hw hP hD hS => ?_)
                      obtain rfl : r = (τ (k + 54) 7) := hw.trans (aS3 (by omega))
                      refine lv_topi (fun x24 ex24 => ?_)
                      refine lv_istore (lv' := [(9, .int x24), (2, .int (nI (b + 1))), (1, .int (nI (a + 1))), (0, .ref tp), (3, .ref q1), (4, .int (nI k)), (5, .int (nI x)), (6, .int (nI y)), (7, .int (nI z))]) hx hb dL_areScopesRight_342 hl (by decide) rfl (fun ls hl => ?_)
                      refine lv_iload hx hb dL_areScopesRight_344 (lv_at hl 0 rfl) ?_
                      refine lv_if_lt (tgt := 383) hx hb dL_areScopesRight_346 (by decide) (fun c_346_25 => ?_) (fun c_346_25 => ?_)
                      · skip
                        refine lv_iinc (v := (nI (k + 1))) (lv' := [(4, .int (nI (k + 1))), (9, .int x24), (2, .int (nI (b + 1))), (1, .int (nI (a + 1))), (0, .ref tp), (3, .ref q1), (5, .int (nI x)), (6, .int (nI y)), (7, .int (nI z))]) hx hb dL_areScopesRight_383 hl (k := 5) rfl (show (nI k) + 1 = (nI (k + 1)) from nI_1 k) (by decide) rfl (fun ls hl => ?_)
                        refine lv_goto (tgt := 12) hx hb dL_areScopesRight_386 (by decide) ?_
                        exact ih n (Nat.lt_succ_self n) H locs ls ⟨(k + 1), (a + 1), (b + 1), f18, R19, ⟨by omega, cnt_t ha lv, cnt_t hb2 (can_t h hk k5), lv_upd lv o2 (by omega) hf ef18, eR19⟩, hP, hD, hS, lv_sub hl [4, 3, 2, 5, 0] rfl⟩
                      · skip
                        refine lv_iload hx hb dL_areScopesRight_349 (lv_at hl 0 rfl) ?_
                        refine lv_aload_n hx hb dL_areScopesRight_351 rfl (lv_at hl 3 rfl) ?_
                        refine lv_bipush (v := 10) hx hb dL_areScopesRight_352 (by decide) ?_
                        refine x_Vi (As := [.int 10]) (rest0 := [.int x24]) ⟨hx, hb, hml, hown, hts⟩ (c_X8_many l D cA ad tr R19 H.size τ pd π bd tp ρ h102 10 (by decide) (by decide)) (cwV 1 hts gl_areScopesRight_X8_many rfl rfl rfl (by decide +kernel) ⟨Nat.le_of_ble_eq_true rfl, Nat.le_of_ble_eq_true rfl⟩) hK hP hD hS hA 209 w_tp rfl hl.1 rfl rfl (Nat.le_of_ble_eq_true rfl) ⟨Nat.le_of_ble_eq_true rfl, Nat.le_of_ble_eq_true rfl⟩ dL_areScopesRight_354 (fun r _ H locs hw hP hD hS => ?_)
                        obtain rfl : r = (nI t) := hw.trans (many_10 h)
                        refine lv_icmp_gt (tgt := 383) hx hb dL_areScopesRight_357 (by decide) (fun c_357_26 => ?_) (fun c_357_26 => ?_)
                        · skip
                          refine lv_iinc (v := (nI (k + 1))) (lv' := [(4, .int (nI (k + 1))), (9, .int x24), (2, .int (nI (b + 1))), (1, .int (nI (a + 1))), (0, .ref tp), (3, .ref q1), (5, .int (nI x)), (6, .int (nI y)), (7, .int (nI z))]) hx hb dL_areScopesRight_383 hl (k := 5) rfl (show (nI k) + 1 = (nI (k + 1)) from nI_1 k) (by decide) rfl (fun ls hl => ?_)
                          refine lv_goto (tgt := 12) hx hb dL_areScopesRight_386 (by decide) ?_
                          exact ih n (Nat.lt_succ_self n) H locs ls ⟨(k + 1), (a + 1), (b + 1), f18, R19, ⟨by omega, cnt_t ha lv, cnt_t hb2 (can_t h hk k5), lv_upd lv o2 (by omega) hf ef18, eR19⟩, hP, hD, hS, lv_sub hl [4, 3, 2, 5, 0] rfl⟩
                        · skip
                          refine lv_aload_n hx hb dL_areScopesRight_360 rfl (lv_at hl 3 rfl) ?_
                          refine lv_iload hx hb dL_areScopesRight_361 (lv_at hl 5 rfl) ?_
                          refine lv_iconst (v := 1) hx hb dL_areScopesRight_363 (by decide) ?_
                          refine x_Vi (As := [.int (nI k), .int 1]) (rest0 := []) ⟨hx, hb, hml, hown, hts⟩ (c_X8_ofScope l D cA ad tr R19 H.size τ pd π bd tp ρ h102 (nI k) 1 (nI_pos (by omega)) (by rw [h.1.1.2.2.2.1]; exact (nI_ltI (by omega) (by omega)).mpr (by omega)) (by decide) (by decide)) (cwV 2 hts gl_areScopesRight_X8_ofScope rfl rfl rfl (by decide +kernel) ⟨Nat.le_of_ble_eq_true rfl, Nat.le_of_ble_eq_true rfl⟩) hK hP hD hS hA 209 w_tp rfl hl.1 rfl rfl (Nat.le_of_ble_eq_true rfl) ⟨Nat.le_of_ble_eq_true rfl, Nat.le_of_ble_eq_true rfl⟩ dL_areScopesRight_364 (fun r _ H locs hw hP hD hS => ?_)
                          obtain rfl : r = 0 := hw.trans s1
                          refine lv_iconst (v := 2) hx hb dL_areScopesRight_367 (by decide) ?_
                          refine lv_icmp_ge (tgt := 383) hx hb dL_areScopesRight_368 (by decide) (fun c_368_27 => ?_) (fun c_368_27 => ?_)
                          · exact absurd c_368_27 (by decide)
                          · skip
                            refine lv_aload_n hx hb dL_areScopesRight_371 rfl (lv_at hl 3 rfl) ?_
                            refine lv_iload hx hb dL_areScopesRight_372 (lv_at hl 5 rfl) ?_
                            refine lv_iconst (v := 2) hx hb dL_areScopesRight_374 (by decide) ?_
                            refine x_Vi (As := [.int (nI k), .int 2]) (rest0 := []) ⟨hx, hb, hml, hown, hts⟩ (c_X8_ofScope l D cA ad tr R19 H.size τ pd π bd tp ρ h102 (nI k) 2 (nI_pos (by omega)) (by rw [h.1.1.2.2.2.1]; exact (nI_ltI (by omega) (by omega)).mpr (by omega)) (by decide) (by decide)) (cwV 2 hts gl_areScopesRight_X8_ofScope rfl rfl rfl (by decide +kernel) ⟨Nat.le_of_ble_eq_true rfl, Nat.le_of_ble_eq_true rfl⟩) hK hP hD hS hA 209 w_tp rfl hl.1 rfl rfl (Nat.le_of_ble_eq_true rfl) ⟨Nat.le_of_ble_eq_true rfl, Nat.le_of_ble_eq_true rfl⟩ dL_areScopesRight_375 (fun r _ H locs hw hP hD hS => ?_)
                            obtain rfl : r = 1 := hw.trans s2
                            refine lv_if_ne (tgt := 383) hx hb dL_areScopesRight_378 (by decide) (fun c_378_28 => ?_) (fun c_378_28 => ?_)
                            · skip
                              refine lv_iinc (v := (nI (k + 1))) (lv' := [(4, .int (nI (k + 1))), (9, .int x24), (2, .int (nI (b + 1))), (1, .int (nI (a + 1))), (0, .ref tp), (3, .ref q1), (5, .int (nI x)), (6, .int (nI y)), (7, .int (nI z))]) hx hb dL_areScopesRight_383 hl (k := 5) rfl (show (nI k) + 1 = (nI (k + 1)) from nI_1 k) (by decide) rfl (fun ls hl => ?_)
                              refine lv_goto (tgt := 12) hx hb dL_areScopesRight_386 (by decide) ?_
                              exact ih n (Nat.lt_succ_self n) H locs ls ⟨(k + 1), (a + 1), (b + 1), f18, R19, ⟨by omega, cnt_t ha lv, cnt_t hb2 (can_t h hk k5), lv_upd lv o2 (by omega) hf ef18, eR19⟩, hP, hD, hS, lv_sub hl [4, 3, 2, 5, 0] rfl⟩
                            · exact absurd c_378_28 (by decide)
              rcases scope_shield h hk with s4 | ⟨s4, s3⟩
              · skip
                refine lv_aload_n hx hb dL_areScopesRight_258 rfl (lv_at hl 0 rfl) ?_
                refine lv_iload hx hb dL_areScopesRight_259 (lv_at hl 4 rfl) ?_
                refine lv_iconst (v := 4) hx hb dL_areScopesRight_261 (by decide) ?_
                refine x_Vi (As := [.int (nI k), .int 4]) (rest0 := []) ⟨hx, hb, hml, hown, hts⟩ (c_X8_ofScope l D cA ad tr R13 H.size τ pd π bd tp ρ h102 (nI k) 4 (nI_pos (by omega)) (by rw [h.1.1.2.2.2.1]; exact (nI_ltI (by omega) (by omega)).mpr (by omega)) (by decide) (by decide)) (cwV 2 hts gl_areScopesRight_X8_ofScope rfl rfl rfl (by decide +kernel) ⟨Nat.le_of_ble_eq_true rfl, Nat.le_of_ble_eq_true rfl⟩) hK hP hD hS hA 209 w_tp rfl hl.1 rfl rfl (Nat.le_of_ble_eq_true rfl) ⟨Nat.le_of_ble_eq_true rfl, Nat.le_of_ble_eq_true rfl⟩ dL_areScopesRight_262 (fun r _ H locs hw hP hD hS => ?_)
                obtain rfl : r = 0 := hw.trans s4
                refine lv_iconst (v := 1) hx hb dL_areScopesRight_265 (by decide) ?_
                refine lv_icmp_ne (tgt := 282) hx hb dL_areScopesRight_266 (by decide) (fun c_266_29 => ?_) (fun c_266_29 => ?_)
                · skip
                  exact J282 H locs ls hP hD hS (lv_sub hl [0, 1, 2, 3, 4, 5, 6, 7] rfl)
                · exact absurd c_266_29 (by decide)
              · skip
                refine lv_aload_n hx hb dL_areScopesRight_258 rfl (lv_at hl 0 rfl) ?_
                refine lv_iload hx hb dL_areScopesRight_259 (lv_at hl 4 rfl) ?_
                refine lv_iconst (v := 4) hx hb dL_areScopesRight_261 (by decide) ?_
                refine x_Vi (As := [.int (nI k), .int 4]) (rest0 := []) ⟨hx, hb, hml, hown, hts⟩ (c_X8_ofScope l D cA ad tr R13 H.size τ pd π bd tp ρ h102 (nI k) 4 (nI_pos (by omega)) (by rw [h.1.1.2.2.2.1]; exact (nI_ltI (by omega) (by omega)).mpr (by omega)) (by decide) (by decide)) (cwV 2 hts gl_areScopesRight_X8_ofScope rfl rfl rfl (by decide +kernel) ⟨Nat.le_of_ble_eq_true rfl, Nat.le_of_ble_eq_true rfl⟩) hK hP hD hS hA 209 w_tp rfl hl.1 rfl rfl (Nat.le_of_ble_eq_true rfl) ⟨Nat.le_of_ble_eq_true rfl, Nat.le_of_ble_eq_true rfl⟩ dL_areScopesRight_262 (fun r _ H locs hw hP hD hS => ?_)
                obtain rfl : r = 1 := hw.trans s4
                refine lv_iconst (v := 1) hx hb dL_areScopesRight_265 (by decide) ?_
                refine lv_icmp_ne (tgt := 282) hx hb dL_areScopesRight_266 (by decide) (fun c_266_30 => ?_) (fun c_266_30 => ?_)
                · exact absurd c_266_30 (by decide)
                · skip
                  refine lv_aload_n hx hb dL_areScopesRight_269 rfl (lv_at hl 0 rfl) ?_
                  refine lv_iload hx hb dL_areScopesRight_270 (lv_at hl 4 rfl) ?_
                  refine lv_iconst (v := 3) hx hb dL_areScopesRight_272 (by decide) ?_
                  refine x_Vi (As := [.int (nI k), .int 3]) (rest0 := []) ⟨hx, hb, hml, hown, hts⟩ (c_X8_ofScope l D cA ad tr R13 H.size τ pd π bd tp ρ h102 (nI k) 3 (nI_pos (by omega)) (by rw [h.1.1.2.2.2.1]; exact (nI_ltI (by omega) (by omega)).mpr (by omega)) (by decide) (by decide)) (cwV 2 hts gl_areScopesRight_X8_ofScope rfl rfl rfl (by decide +kernel) ⟨Nat.le_of_ble_eq_true rfl, Nat.le_of_ble_eq_true rfl⟩) hK hP hD hS hA 209 w_tp rfl hl.1 rfl rfl (Nat.le_of_ble_eq_true rfl) ⟨Nat.le_of_ble_eq_true rfl, Nat.le_of_ble_eq_true rfl⟩ dL_areScopesRight_273 (fun r _ H locs hw hP hD hS => ?_)
                  obtain rfl : r = (-1) := hw.trans s3
                  refine lv_iconst (v := (-1)) hx hb dL_areScopesRight_276 (by decide) ?_
                  refine lv_icmp_eq (tgt := 282) hx hb dL_areScopesRight_277 (by decide) (fun c_277_31 => ?_) (fun c_277_31 => ?_)
                  · skip
                    exact J282 H locs ls hP hD hS (lv_sub hl [0, 1, 2, 3, 4, 5, 6, 7] rfl)
                  · exact absurd c_277_31 (by decide)
            · exact absurd c_248_16 (by decide)
          · exact absurd c_230_15 (by decide)
        · skip
          rw [← jy, ← jx] at yx
          refine lv_aload_n hx hb dL_areScopesRight_222 rfl (lv_at hl 0 rfl) ?_
          refine lv_iload hx hb dL_areScopesRight_223 (lv_at hl 4 rfl) ?_
          refine lv_iconst (v := 1) hx hb dL_areScopesRight_225 (by decide) ?_
          refine x_Vi (As := [.int (nI k), .int 1]) (rest0 := []) ⟨hx, hb, hml, hown, hts⟩ (c_X8_ofScope l D cA ad tr R13 H.size τ pd π bd tp ρ h102 (nI k) 1 (nI_pos (by omega)) (by rw [h.1.1.2.2.2.1]; exact (nI_ltI (by omega) (by omega)).mpr (by omega)) (by decide) (by decide)) (cwV 2 hts gl_areScopesRight_X8_ofScope rfl rfl rfl (by decide +kernel) ⟨Nat.le_of_ble_eq_true rfl, Nat.le_of_ble_eq_true rfl⟩) hK hP hD hS hA 209 w_tp rfl hl.1 rfl rfl (Nat.le_of_ble_eq_true rfl) ⟨Nat.le_of_ble_eq_true rfl, Nat.le_of_ble_eq_true rfl⟩ dL_areScopesRight_226 (fun r _ H locs hw hP hD hS => ?_)
          obtain rfl : r = 1 := hw.trans s1
          refine lv_iconst (v := 2) hx hb dL_areScopesRight_229 (by decide) ?_
          refine lv_icmp_ne (tgt := 240) hx hb dL_areScopesRight_230 (by decide) (fun c_230_32 => ?_) (fun c_230_32 => ?_)
          · skip
            refine lv_aload_n hx hb dL_areScopesRight_240 rfl (lv_at hl 0 rfl) ?_
            refine lv_iload hx hb dL_areScopesRight_241 (lv_at hl 4 rfl) ?_
            refine lv_iconst (v := 1) hx hb dL_areScopesRight_243 (by decide) ?_
            refine x_Vi (As := [.int (nI k), .int 1]) (rest0 := []) ⟨hx, hb, hml, hown, hts⟩ (c_X8_ofScope l D cA ad tr R13 H.size τ pd π bd tp ρ h102 (nI k) 1 (nI_pos (by omega)) (by rw [h.1.1.2.2.2.1]; exact (nI_ltI (by omega) (by omega)).mpr (by omega)) (by decide) (by decide)) (cwV 2 hts gl_areScopesRight_X8_ofScope rfl rfl rfl (by decide +kernel) ⟨Nat.le_of_ble_eq_true rfl, Nat.le_of_ble_eq_true rfl⟩) hK hP hD hS hA 209 w_tp rfl hl.1 rfl rfl (Nat.le_of_ble_eq_true rfl) ⟨Nat.le_of_ble_eq_true rfl, Nat.le_of_ble_eq_true rfl⟩ dL_areScopesRight_244 (fun r _ H locs hw hP hD hS => ?_)
            obtain rfl : r = 1 := hw.trans s1
            refine lv_iconst (v := 1) hx hb dL_areScopesRight_247 (by decide) ?_
            refine lv_icmp_ne (tgt := 258) hx hb dL_areScopesRight_248 (by decide) (fun c_248_33 => ?_) (fun c_248_33 => ?_)
            · exact absurd c_248_33 (by decide)
            · skip
              refine lv_iload hx hb dL_areScopesRight_251 (lv_at hl 6 rfl) ?_
              refine lv_iload hx hb dL_areScopesRight_253 (lv_at hl 5 rfl) ?_
              refine lv_icmp_eq (tgt := 280) hx hb dL_areScopesRight_255 (by decide) (fun c_255_34 => ?_) (fun c_255_34 => ?_)
              · exact absurd ((nI_eq (a := y) (b := x) (by omega) (by omega)).mp c_255_34) (by omega)
              · skip
                refine W_meet (ws := wB cA ad τ ++ (wPg cA ad pd π ++ (wB cA bd ρ ++ ((tp, .inr (8, tpF ad bd)) :: R13)))) (A0 := A) (H0 := s.heap) (cl := vwCl) (D := D) (pc2 := 282) (lv := [(0, .ref tp), (1, .int (nI a)), (2, .int (nI b)), (3, .ref q1), (4, .int (nI k)), (5, .int (nI x)), (6, .int (nI y)), (7, .int (nI z))]) (nL2 := 10) (st2 := []) (fun H locs ls hP hD hS hl => ?_) (fun J282 => ?_)
                · skip
                  refine lv_aload_n hx hb dL_areScopesRight_282 rfl (lv_at hl 0 rfl) ?_
                  refine lv_iload hx hb dL_areScopesRight_283 (lv_at hl 4 rfl) ?_
                  obtain ⟨o, ho, o0, o2⟩ := scope_opener h hk
                  have lo := cnt_le (lvI τ o) k
                  refine lv_iconst (v := 1) hx hb dL_areScopesRight_285 (by decide) ?_
                  refine x_Vi (As := [.int (nI k), .int 1]) (rest0 := []) ⟨hx, hb, hml, hown, hts⟩ (c_X8_ofScope l D cA ad tr R13 H.size τ pd π bd tp ρ h102 (nI k) 1 (nI_pos (by omega)) (by rw [h.1.1.2.2.2.1]; exact (nI_ltI (by omega) (by omega)).mpr (by omega)) (by decide) (by decide)) (cwV 2 hts gl_areScopesRight_X8_ofScope rfl rfl rfl (by decide +kernel) ⟨Nat.le_of_ble_eq_true rfl, Nat.le_of_ble_eq_true rfl⟩) hK hP hD hS hA 209 w_tp rfl hl.1 rfl rfl (Nat.le_of_ble_eq_true rfl) ⟨Nat.le_of_ble_eq_true rfl, Nat.le_of_ble_eq_true rfl⟩ dL_areScopesRight_286 (fun r _ H locs hw hP hD hS => ?_)
                  obtain rfl : r = 1 := hw.trans s1
                  refine lv_iconst (v := 2) hx hb dL_areScopesRight_289 (by decide) ?_
                  refine lv_icmp_ge (tgt := 306) hx hb dL_areScopesRight_290 (by decide) (fun c_290_35 => ?_) (fun c_290_35 => ?_)
                  · exact absurd c_290_35 (by decide)
                  · skip
                    refine lv_aload_n hx hb dL_areScopesRight_293 rfl (lv_at hl 3 rfl) ?_
                    refine lv_aload_n hx hb dL_areScopesRight_294 rfl (lv_at hl 0 rfl) ?_
                    refine lv_iload hx hb dL_areScopesRight_295 (lv_at hl 4 rfl) ?_
                    refine lv_iconst (v := 0) hx hb dL_areScopesRight_297 (by decide) ?_
                    refine x_Vi (As := [.int (nI k), .int 0]) (rest0 := [.ref q1]) ⟨hx, hb, hml, hown, hts⟩ (c_X8_ofScope l D cA ad tr R13 H.size τ pd π bd tp ρ h102 (nI k) 0 (nI_pos (by omega)) (by rw [h.1.1.2.2.2.1]; exact (nI_ltI (by omega) (by omega)).mpr (by omega)) (by decide) (by decide)) (cwV 2 hts gl_areScopesRight_X8_ofScope rfl rfl rfl (by decide +kernel) ⟨Nat.le_of_ble_eq_true rfl, Nat.le_of_ble_eq_true rfl⟩) hK hP hD hS hA 209 w_tp rfl hl.1 rfl rfl (Nat.le_of_ble_eq_true rfl) ⟨Nat.le_of_ble_eq_true rfl, Nat.le_of_ble_eq_true rfl⟩ dL_areScopesRight_298 (fun r _ H locs hw hP hD hS => ?_)
                    obtain rfl : r = (nI o) := hw.trans o0
                    refine lv_dup2_11 hx hb dL_areScopesRight_301 rfl rfl ?_
                    refine va_iald hx hb hK hP (0 + rest.length + 210) (0) (wNewR eR13 rfl) rfl (vp_in_nI (by omega) (by omega)) dL_areScopesRight_302 ?_
                    refine W.eq (g2 := F0 m 303 ls [.int (nI (cnt (lvI τ o) k)), .int (nI o), .ref q1]) (by rw [nI_clamp (show o < 2 ^ 31 by omega)]; show F0 m _ ls (.int (f o) :: _) = _; rw [hf o (by omega)]) ?_
                    refine lv_iconst (v := 1) hx hb dL_areScopesRight_303 (by decide) ?_
                    refine lv_iadd hx hb dL_areScopesRight_304 ?_
                    refine W.eq (g2 := F0 m 305 ls [.int (nI ((cnt (lvI τ o) k) + 1)), .int (nI o), .ref q1]) (by rw [show ((nI (cnt (lvI τ o) k)) : Int32) + 1 = (nI ((cnt (lvI τ o) k) + 1)) from nI_add (cnt (lvI τ o) k) 1]) ?_
                    refine va_iast hx hb hK hP hD hS (0 + rest.length + 210) (0) (wNewR eR13 rfl) rfl (vp_in_nI (by omega) (by omega)) dL_areScopesRight_305 (fun H locs hP hD hS => ?_)
                    rw [wNewSR eR13] at hP hD
                    rw [nI_clamp (show o < 2 ^ 31 by omega)] at hP hD
                    obtain ⟨f36, ef36⟩ : ∃ z : Nat → Int32, z = upd f o (nI ((cnt (lvI τ o) k) + 1)) := ⟨_, rfl⟩
                    obtain ⟨R37, eR37⟩ : ∃ z : va_W, z = rest ++ [(q1, .inl (cA 0, 24, .inl f36))] := ⟨_, rfl⟩
                    have hP : va_P D vwCl (wB cA ad τ ++ (wPg cA ad pd π ++ (wB cA bd ρ ++ ((tp, .inr (8, tpF ad bd)) :: R37)))) H := by rw [eR37, ef36]; exact hP
                    have hD : va_D A (wB cA ad τ ++ (wPg cA ad pd π ++ (wB cA bd ρ ++ ((tp, .inr (8, tpF ad bd)) :: R37)))) := by rw [eR37, ef36]; exact hD
                    refine lv_iload_n hx hb dL_areScopesRight_306 rfl (lv_at hl 1 rfl) ?_
                    refine lv_aload_n hx hb dL_areScopesRight_307 rfl (lv_at hl 0 rfl) ?_
                    refine lv_iload hx hb dL_areScopesRight_308 (lv_at hl 4 rfl) ?_
                    refine lv_iconst (v := 1) hx hb dL_areScopesRight_310 (by decide) ?_
                    refine x_Vi (As := [.int (nI k), .int 1]) (rest0 := [.int (nI a)]) ⟨hx, hb, hml, hown, hts⟩ (c_X8_ofScope l D cA ad tr R37 H.size τ pd π bd tp ρ h102 (nI k) 1 (nI_pos (by omega)) (by rw [h.1.1.2.2.2.1]; exact (nI_ltI (by omega) (by omega)).mpr (by omega)) (by decide) (by decide)) (cwV 2 hts gl_areScopesRight_X8_ofScope rfl rfl rfl (by decide +kernel) ⟨Nat.le_of_ble_eq_true rfl, Nat.le_of_ble_eq_true rfl⟩) hK hP hD hS hA 209 w_tp rfl hl.1 rfl rfl (Nat.le_of_ble_eq_true rfl) ⟨Nat.le_of_ble_eq_true rfl, Nat.le_of_ble_eq_true rfl⟩ dL_areScopesRight_311 (fun r _ H locs hw hP hD hS => ?_)
                    obtain rfl : r = 1 := hw.trans s1
                    refine lv_iconst (v := 2) hx hb dL_areScopesRight_314 (by decide) ?_
                    refine lv_icmp_ge (tgt := 322) hx hb dL_areScopesRight_315 (by decide) (fun c_315_38 => ?_) (fun c_315_38 => ?_)
                    · exact absurd c_315_38 (by decide)
                    · skip
                      refine lv_iconst (v := 1) hx hb dL_areScopesRight_318 (by decide) ?_
                      refine lv_goto (tgt := 323) hx hb dL_areScopesRight_319 (by decide) ?_
                      refine lv_iadd hx hb dL_areScopesRight_323 ?_
                      refine W.eq (g2 := F0 m 324 ls [.int (nI (a + 1))]) (by rw [show ((nI a) : Int32) + 1 = (nI (a + 1)) from nI_add a 1]) ?_
                      refine lv_istore_n (lv' := [(1, .int (nI (a + 1))), (0, .ref tp), (2, .int (nI b)), (3, .ref q1), (4, .int (nI k)), (5, .int (nI x)), (6, .int (nI y)), (7, .int (nI z))]) hx hb dL_areScopesRight_324 rfl hl (by decide) rfl (fun ls hl => ?_)
                      rcases scope_can (τ := τ) (k := k) (by omega) with ⟨s2, k5⟩ | ⟨s2, k5⟩
                      · skip
                        rcases scope_dead h hk lv k5 with s3 | ⟨d, hd, hd2, s3⟩
                        · skip
                          refine lv_iload_n hx hb dL_areScopesRight_325 rfl (lv_at hl 2 rfl) ?_
                          refine lv_aload_n hx hb dL_areScopesRight_326 rfl (lv_at hl 1 rfl) ?_
                          refine lv_iload hx hb dL_areScopesRight_327 (lv_at hl 4 rfl) ?_
                          refine lv_iconst (v := 2) hx hb dL_areScopesRight_329 (by decide) ?_
                          refine x_Vi (As := [.int (nI k), .int 2]) (rest0 := [.int (nI b)]) ⟨hx, hb, hml, hown, hts⟩ (c_X8_ofScope l D cA ad tr R37 H.size τ pd π bd tp ρ h102 (nI k) 2 (nI_pos (by omega)) (by rw [h.1.1.2.2.2.1]; exact (nI_ltI (by omega) (by omega)).mpr (by omega)) (by decide) (by decide)) (cwV 2 hts gl_areScopesRight_X8_ofScope rfl rfl rfl (by decide +kernel) ⟨Nat.le_of_ble_eq_true rfl, Nat.le_of_ble_eq_true rfl⟩) hK hP hD hS hA 209 w_tp rfl hl.1 rfl rfl (Nat.le_of_ble_eq_true rfl) ⟨Nat.le_of_ble_eq_true rfl, Nat.le_of_ble_eq_true rfl⟩ dL_areScopesRight_330 (fun r _ H locs hw hP hD hS => ?_)
                          obtain rfl : r = 0 := hw.trans s2
                          refine lv_iadd hx hb dL_areScopesRight_333 ?_
                          refine W.eq (g2 := F0 m 334 ls [.int (nI (b + 0))]) (by rw [show ((nI b) : Int32) + 0 = (nI (b + 0)) from nI_add b 0]) ?_
                          refine lv_istore_n (lv' := [(2, .int (nI (b + 0))), (1, .int (nI (a + 1))), (0, .ref tp), (3, .ref q1), (4, .int (nI k)), (5, .int (nI x)), (6, .int (nI y)), (7, .int (nI z))]) hx hb dL_areScopesRight_334 rfl hl (by decide) rfl (fun ls hl => ?_)
                          refine lv_aload_n hx hb dL_areScopesRight_335 rfl (lv_at hl 2 rfl) ?_
                          refine lv_iload hx hb dL_areScopesRight_336 (lv_at hl 4 rfl) ?_
                          refine lv_iconst (v := 3) hx hb dL_areScopesRight_338 (by decide) ?_
                          refine x_Vi (As := [.int (nI k), .int 3]) (rest0 := []) ⟨hx, hb, hml, hown, hts⟩ (c_X8_ofScope l D cA ad tr R37 H.size τ pd π bd tp ρ h102 (nI k) 3 (nI_pos (by omega)) (by rw [h.1.1.2.2.2.1]; exact (nI_ltI (by omega) (by omega)).mpr (by omega)) (by decide) (by decide)) (cwV 2 hts gl_areScopesRight_X8_ofScope rfl rfl rfl (by decide +kernel) ⟨Nat.le_of_ble_eq_true rfl, Nat.le_of_ble_eq_true rfl⟩) hK hP hD hS hA 209 w_tp rfl hl.1 rfl rfl (Nat.le_of_ble_eq_true rfl) ⟨Nat.le_of_ble_eq_true rfl, Nat.le_of_ble_eq_true rfl⟩ dL_areScopesRight_339 (fun r _ H locs hw hP hD hS => ?_)
                          obtain rfl : r = (-1) := hw.trans s3
                          refine lv_istore (lv' := [(9, .int (-1)), (2, .int (nI (b + 0))), (1, .int (nI (a + 1))), (0, .ref tp), (3, .ref q1), (4, .int (nI k)), (5, .int (nI x)), (6, .int (nI y)), (7, .int (nI z))]) hx hb dL_areScopesRight_342 hl (by decide) rfl (fun ls hl => ?_)
                          refine lv_iload hx hb dL_areScopesRight_344 (lv_at hl 0 rfl) ?_
                          refine lv_if_lt (tgt := 383) hx hb dL_areScopesRight_346 (by decide) (fun c_346_39 => ?_) (fun c_346_39 => ?_)
                          · skip
                            refine lv_iinc (v := (nI (k + 1))) (lv' := [(4, .int (nI (k + 1))), (9, .int (-1)), (2, .int (nI (b + 0))), (1, .int (nI (a + 1))), (0, .ref tp), (3, .ref q1), (5, .int (nI x)), (6, .int (nI y)), (7, .int (nI z))]) hx hb dL_areScopesRight_383 hl (k := 5) rfl (show (nI k) + 1 = (nI (k + 1)) from nI_1 k) (by decide) rfl (fun ls hl => ?_)
                            refine lv_goto (tgt := 12) hx hb dL_areScopesRight_386 (by decide) ?_
                            exact ih n (Nat.lt_succ_self n) H locs ls ⟨(k + 1), (a + 1), b, f36, R37, ⟨by omega, cnt_t ha lv, cnt_f hb2 (can_f h hk k5), lv_upd lv o2 (by omega) hf ef36, eR37⟩, hP, hD, hS, lv_sub hl [4, 3, 2, 5, 0] rfl⟩
                          · exact absurd c_346_39 (by decide)
                        · skip
                          refine lv_iload_n hx hb dL_areScopesRight_325 rfl (lv_at hl 2 rfl) ?_
                          refine lv_aload_n hx hb dL_areScopesRight_326 rfl (lv_at hl 1 rfl) ?_
                          refine lv_iload hx hb dL_areScopesRight_327 (lv_at hl 4 rfl) ?_
                          refine lv_iconst (v := 2) hx hb dL_areScopesRight_329 (by decide) ?_
                          refine x_Vi (As := [.int (nI k), .int 2]) (rest0 := [.int (nI b)]) ⟨hx, hb, hml, hown, hts⟩ (c_X8_ofScope l D cA ad tr R37 H.size τ pd π bd tp ρ h102 (nI k) 2 (nI_pos (by omega)) (by rw [h.1.1.2.2.2.1]; exact (nI_ltI (by omega) (by omega)).mpr (by omega)) (by decide) (by decide)) (cwV 2 hts gl_areScopesRight_X8_ofScope rfl rfl rfl (by decide +kernel) ⟨Nat.le_of_ble_eq_true rfl, Nat.le_of_ble_eq_true rfl⟩) hK hP hD hS hA 209 w_tp rfl hl.1 rfl rfl (Nat.le_of_ble_eq_true rfl) ⟨Nat.le_of_ble_eq_true rfl, Nat.le_of_ble_eq_true rfl⟩ dL_areScopesRight_330 (fun r _ H locs hw hP hD hS => ?_)
                          obtain rfl : r = 0 := hw.trans s2
                          refine lv_iadd hx hb dL_areScopesRight_333 ?_
                          refine W.eq (g2 := F0 m 334 ls [.int (nI (b + 0))]) (by rw [show ((nI b) : Int32) + 0 = (nI (b + 0)) from nI_add b 0]) ?_
                          refine lv_istore_n (lv' := [(2, .int (nI (b + 0))), (1, .int (nI (a + 1))), (0, .ref tp), (3, .ref q1), (4, .int (nI k)), (5, .int (nI x)), (6, .int (nI y)), (7, .int (nI z))]) hx hb dL_areScopesRight_334 rfl hl (by decide) rfl (fun ls hl => ?_)
                          refine lv_aload_n hx hb dL_areScopesRight_335 rfl (lv_at hl 2 rfl) ?_
                          refine lv_iload hx hb dL_areScopesRight_336 (lv_at hl 4 rfl) ?_
                          refine lv_iconst (v := 3) hx hb dL_areScopesRight_338 (by decide) ?_
                          refine x_Vi (As := [.int (nI k), .int 3]) (rest0 := []) ⟨hx, hb, hml, hown, hts⟩ (c_X8_ofScope l D cA ad tr R37 H.size τ pd π bd tp ρ h102 (nI k) 3 (nI_pos (by omega)) (by rw [h.1.1.2.2.2.1]; exact (nI_ltI (by omega) (by omega)).mpr (by omega)) (by decide) (by decide)) (cwV 2 hts gl_areScopesRight_X8_ofScope rfl rfl rfl (by decide +kernel) ⟨Nat.le_of_ble_eq_true rfl, Nat.le_of_ble_eq_true rfl⟩) hK hP hD hS hA 209 w_tp rfl hl.1 rfl rfl (Nat.le_of_ble_eq_true rfl) ⟨Nat.le_of_ble_eq_true rfl, Nat.le_of_ble_eq_true rfl⟩ dL_areScopesRight_339 (fun r _ H locs hw hP hD hS => ?_)
                          obtain rfl : r = (nI d) := hw.trans s3
                          refine lv_istore (lv' := [(9, .int (nI d)), (2, .int (nI (b + 0))), (1, .int (nI (a + 1))), (0, .ref tp), (3, .ref q1), (4, .int (nI k)), (5, .int (nI x)), (6, .int (nI y)), (7, .int (nI z))]) hx hb dL_areScopesRight_342 hl (by decide) rfl (fun ls hl => ?_)
                          refine lv_iload hx hb dL_areScopesRight_344 (lv_at hl 0 rfl) ?_
                          refine lv_if_lt (tgt := 383) hx hb dL_areScopesRight_346 (by decide) (fun c_346_40 => ?_) (fun c_346_40 => ?_)
                          · exact absurd ((nI_ltI (a := d) (b := 0) (by omega) (by omega)).mp c_346_40) (by omega)
                          · skip
                            refine lv_iload hx hb dL_areScopesRight_349 (lv_at hl 0 rfl) ?_
                            refine lv_aload_n hx hb dL_areScopesRight_351 rfl (lv_at hl 3 rfl) ?_
                            refine lv_bipush (v := 10) hx hb dL_areScopesRight_352 (by decide) ?_
                            refine x_Vi (As := [.int 10]) (rest0 := [.int (nI d)]) ⟨hx, hb, hml, hown, hts⟩ (c_X8_many l D cA ad tr R37 H.size τ pd π bd tp ρ h102 10 (by decide) (by decide)) (cwV 1 hts gl_areScopesRight_X8_many rfl rfl rfl (by decide +kernel) ⟨Nat.le_of_ble_eq_true rfl, Nat.le_of_ble_eq_true rfl⟩) hK hP hD hS hA 209 w_tp rfl hl.1 rfl rfl (Nat.le_of_ble_eq_true rfl) ⟨Nat.le_of_ble_eq_true rfl, Nat.le_of_ble_eq_true rfl⟩ dL_areScopesRight_354 (fun r _ H locs hw hP hD hS => ?_)
                            obtain rfl : r = (nI t) := hw.trans (many_10 h)
                            refine lv_icmp_gt (tgt := 383) hx hb dL_areScopesRight_357 (by decide) (fun c_357_41 => ?_) (fun c_357_41 => ?_)
                            · skip
                              refine lv_iinc (v := (nI (k + 1))) (lv' := [(4, .int (nI (k + 1))), (9, .int (nI d)), (2, .int (nI (b + 0))), (1, .int (nI (a + 1))), (0, .ref tp), (3, .ref q1), (5, .int (nI x)), (6, .int (nI y)), (7, .int (nI z))]) hx hb dL_areScopesRight_383 hl (k := 5) rfl (show (nI k) + 1 = (nI (k + 1)) from nI_1 k) (by decide) rfl (fun ls hl => ?_)
                              refine lv_goto (tgt := 12) hx hb dL_areScopesRight_386 (by decide) ?_
                              exact ih n (Nat.lt_succ_self n) H locs ls ⟨(k + 1), (a + 1), b, f36, R37, ⟨by omega, cnt_t ha lv, cnt_f hb2 (can_f h hk k5), lv_upd lv o2 (by omega) hf ef36, eR37⟩, hP, hD, hS, lv_sub hl [4, 3, 2, 5, 0] rfl⟩
                            · exact absurd ((nI_ltI (a := t) (b := d) (by omega) (by omega)).mpr (by omega)) c_357_41
                      · skip
                        refine lv_iload_n hx hb dL_areScopesRight_325 rfl (lv_at hl 2 rfl) ?_
                        refine lv_aload_n hx hb dL_areScopesRight_326 rfl (lv_at hl 1 rfl) ?_
                        refine lv_iload hx hb dL_areScopesRight_327 (lv_at hl 4 rfl) ?_
                        refine lv_iconst (v := 2) hx hb dL_areScopesRight_329 (by decide) ?_
                        refine x_Vi (As := [.int (nI k), .int 2]) (rest0 := [.int (nI b)]) ⟨hx, hb, hml, hown, hts⟩ (c_X8_ofScope l D cA ad tr R37 H.size τ pd π bd tp ρ h102 (nI k) 2 (nI_pos (by omega)) (by rw [h.1.1.2.2.2.1]; exact (nI_ltI (by omega) (by omega)).mpr (by omega)) (by decide) (by decide)) (cwV 2 hts gl_areScopesRight_X8_ofScope rfl rfl rfl (by decide +kernel) ⟨Nat.le_of_ble_eq_true rfl, Nat.le_of_ble_eq_true rfl⟩) hK hP hD hS hA 209 w_tp rfl hl.1 rfl rfl (Nat.le_of_ble_eq_true rfl) ⟨Nat.le_of_ble_eq_true rfl, Nat.le_of_ble_eq_true rfl⟩ dL_areScopesRight_330 (fun r _ H locs hw hP hD hS => ?_)
                        obtain rfl : r = 1 := hw.trans s2
                        refine lv_iadd hx hb dL_areScopesRight_333 ?_
                        refine W.eq (g2 := F0 m 334 ls [.int (nI (b + 1))]) (by rw [show ((nI b) : Int32) + 1 = (nI (b + 1)) from nI_add b 1]) ?_
                        refine lv_istore_n (lv' := [(2, .int (nI (b + 1))), (1, .int (nI (a + 1))), (0, .ref tp), (3, .ref q1), (4, .int (nI k)), (5, .int (nI x)), (6, .int (nI y)), (7, .int (nI z))]) hx hb dL_areScopesRight_334 rfl hl (by decide) rfl (fun ls hl => ?_)
                        refine lv_aload_n hx hb dL_areScopesRight_335 rfl (lv_at hl 2 rfl) ?_
                        refine lv_iload hx hb dL_areScopesRight_336 (lv_at hl 4 rfl) ?_
                        refine lv_iconst (v := 3) hx hb dL_areScopesRight_338 (by decide) ?_
                        refine x_Vi (As := [.int (nI k), .int 3]) (rest0 := []) ⟨hx, hb, hml, hown, hts⟩ (c_X8_ofScope l D cA ad tr R37 H.size τ pd π bd tp ρ h102 (nI k) 3 (nI_pos (by omega)) (by rw [h.1.1.2.2.2.1]; exact (nI_ltI (by omega) (by omega)).mpr (by omega)) (by decide) (by decide)) (cwV 2 hts gl_areScopesRight_X8_ofScope rfl rfl rfl (by decide +kernel) ⟨Nat.le_of_ble_eq_true rfl, Nat.le_of_ble_eq_true rfl⟩) hK hP hD hS hA 209 w_tp rfl hl.1 rfl rfl (Nat.le_of_ble_eq_true rfl) ⟨Nat.le_of_ble_eq_true rfl, Nat.le_of_ble_eq_true rfl⟩ dL_areScopesRight_339 (fun r _ H locs hw hP hD hS => ?_)
                        obtain rfl : r = (τ (k + 54) 7) := hw.trans (aS3 (by omega))
                        refine lv_topi (fun x42 ex42 => ?_)
                        refine lv_istore (lv' := [(9, .int x42), (2, .int (nI (b + 1))), (1, .int (nI (a + 1))), (0, .ref tp), (3, .ref q1), (4, .int (nI k)), (5, .int (nI x)), (6, .int (nI y)), (7, .int (nI z))]) hx hb dL_areScopesRight_342 hl (by decide) rfl (fun ls hl => ?_)
                        refine lv_iload hx hb dL_areScopesRight_344 (lv_at hl 0 rfl) ?_
                        refine lv_if_lt (tgt := 383) hx hb dL_areScopesRight_346 (by decide) (fun c_346_43 => ?_) (fun c_346_43 => ?_)
                        · skip
                          refine lv_iinc (v := (nI (k + 1))) (lv' := [(4, .int (nI (k + 1))), (9, .int x42), (2, .int (nI (b + 1))), (1, .int (nI (a + 1))), (0, .ref tp), (3, .ref q1), (5, .int (nI x)), (6, .int (nI y)), (7, .int (nI z))]) hx hb dL_areScopesRight_383 hl (k := 5) rfl (show (nI k) + 1 = (nI (k + 1)) from nI_1 k) (by decide) rfl (fun ls hl => ?_)
                          refine lv_goto (tgt := 12) hx hb dL_areScopesRight_386 (by decide) ?_
                          exact ih n (Nat.lt_succ_self n) H locs ls ⟨(k + 1), (a + 1), (b + 1), f36, R37, ⟨by omega, cnt_t ha lv, cnt_t hb2 (can_t h hk k5), lv_upd lv o2 (by omega) hf ef36, eR37⟩, hP, hD, hS, lv_sub hl [4, 3, 2, 5, 0] rfl⟩
                        · skip
                          refine lv_iload hx hb dL_areScopesRight_349 (lv_at hl 0 rfl) ?_
                          refine lv_aload_n hx hb dL_areScopesRight_351 rfl (lv_at hl 3 rfl) ?_
                          refine lv_bipush (v := 10) hx hb dL_areScopesRight_352 (by decide) ?_
                          refine x_Vi (As := [.int 10]) (rest0 := [.int x42]) ⟨hx, hb, hml, hown, hts⟩ (c_X8_many l D cA ad tr R37 H.size τ pd π bd tp ρ h102 10 (by decide) (by decide)) (cwV 1 hts gl_areScopesRight_X8_many rfl rfl rfl (by decide +kernel) ⟨Nat.le_of_ble_eq_true rfl, Nat.le_of_ble_eq_true rfl⟩) hK hP hD hS hA 209 w_tp rfl hl.1 rfl rfl (Nat.le_of_ble_eq_true rfl) ⟨Nat.le_of_ble_eq_true rfl, Nat.le_of_ble_eq_true rfl⟩ dL_areScopesRight_354 (fun r _ H locs hw hP hD hS => ?_)
                          obtain rfl : r = (nI t) := hw.trans (many_10 h)
                          refine lv_icmp_gt (tgt := 383) hx hb dL_areScopesRight_357 (by decide) (fun c_357_44 => ?_) (fun c_357_44 => ?_)
                          · skip
                            refine lv_iinc (v := (nI (k + 1))) (lv' := [(4, .int (nI (k + 1))), (9, .int x42), (2, .int (nI (b + 1))), (1, .int (nI (a + 1))), (0, .ref tp), (3, .ref q1), (5, .int (nI x)), (6, .int (nI y)), (7, .int (nI z))]) hx hb dL_areScopesRight_383 hl (k := 5) rfl (show (nI k) + 1 = (nI (k + 1)) from nI_1 k) (by decide) rfl (fun ls hl => ?_)
                            refine lv_goto (tgt := 12) hx hb dL_areScopesRight_386 (by decide) ?_
                            exact ih n (Nat.lt_succ_self n) H locs ls ⟨(k + 1), (a + 1), (b + 1), f36, R37, ⟨by omega, cnt_t ha lv, cnt_t hb2 (can_t h hk k5), lv_upd lv o2 (by omega) hf ef36, eR37⟩, hP, hD, hS, lv_sub hl [4, 3, 2, 5, 0] rfl⟩
                          · skip
                            refine lv_aload_n hx hb dL_areScopesRight_360 rfl (lv_at hl 3 rfl) ?_
                            refine lv_iload hx hb dL_areScopesRight_361 (lv_at hl 5 rfl) ?_
                            refine lv_iconst (v := 1) hx hb dL_areScopesRight_363 (by decide) ?_
                            refine x_Vi (As := [.int (nI k), .int 1]) (rest0 := []) ⟨hx, hb, hml, hown, hts⟩ (c_X8_ofScope l D cA ad tr R37 H.size τ pd π bd tp ρ h102 (nI k) 1 (nI_pos (by omega)) (by rw [h.1.1.2.2.2.1]; exact (nI_ltI (by omega) (by omega)).mpr (by omega)) (by decide) (by decide)) (cwV 2 hts gl_areScopesRight_X8_ofScope rfl rfl rfl (by decide +kernel) ⟨Nat.le_of_ble_eq_true rfl, Nat.le_of_ble_eq_true rfl⟩) hK hP hD hS hA 209 w_tp rfl hl.1 rfl rfl (Nat.le_of_ble_eq_true rfl) ⟨Nat.le_of_ble_eq_true rfl, Nat.le_of_ble_eq_true rfl⟩ dL_areScopesRight_364 (fun r _ H locs hw hP hD hS => ?_)
                            obtain rfl : r = 1 := hw.trans s1
                            refine lv_iconst (v := 2) hx hb dL_areScopesRight_367 (by decide) ?_
                            refine lv_icmp_ge (tgt := 383) hx hb dL_areScopesRight_368 (by decide) (fun c_368_45 => ?_) (fun c_368_45 => ?_)
                            · exact absurd c_368_45 (by decide)
                            · skip
                              refine lv_aload_n hx hb dL_areScopesRight_371 rfl (lv_at hl 3 rfl) ?_
                              refine lv_iload hx hb dL_areScopesRight_372 (lv_at hl 5 rfl) ?_
                              refine lv_iconst (v := 2) hx hb dL_areScopesRight_374 (by decide) ?_
                              refine x_Vi (As := [.int (nI k), .int 2]) (rest0 := []) ⟨hx, hb, hml, hown, hts⟩ (c_X8_ofScope l D cA ad tr R37 H.size τ pd π bd tp ρ h102 (nI k) 2 (nI_pos (by omega)) (by rw [h.1.1.2.2.2.1]; exact (nI_ltI (by omega) (by omega)).mpr (by omega)) (by decide) (by decide)) (cwV 2 hts gl_areScopesRight_X8_ofScope rfl rfl rfl (by decide +kernel) ⟨Nat.le_of_ble_eq_true rfl, Nat.le_of_ble_eq_true rfl⟩) hK hP hD hS hA 209 w_tp rfl hl.1 rfl rfl (Nat.le_of_ble_eq_true rfl) ⟨Nat.le_of_ble_eq_true rfl, Nat.le_of_ble_eq_true rfl⟩ dL_areScopesRight_375 (fun r _ H locs hw hP hD hS => ?_)
                              obtain rfl : r = 1 := hw.trans s2
                              refine lv_if_ne (tgt := 383) hx hb dL_areScopesRight_378 (by decide) (fun c_378_46 => ?_) (fun c_378_46 => ?_)
                              · skip
                                refine lv_iinc (v := (nI (k + 1))) (lv' := [(4, .int (nI (k + 1))), (9, .int x42), (2, .int (nI (b + 1))), (1, .int (nI (a + 1))), (0, .ref tp), (3, .ref q1), (5, .int (nI x)), (6, .int (nI y)), (7, .int (nI z))]) hx hb dL_areScopesRight_383 hl (k := 5) rfl (show (nI k) + 1 = (nI (k + 1)) from nI_1 k) (by decide) rfl (fun ls hl => ?_)
                                refine lv_goto (tgt := 12) hx hb dL_areScopesRight_386 (by decide) ?_
                                exact ih n (Nat.lt_succ_self n) H locs ls ⟨(k + 1), (a + 1), (b + 1), f36, R37, ⟨by omega, cnt_t ha lv, cnt_t hb2 (can_t h hk k5), lv_upd lv o2 (by omega) hf ef36, eR37⟩, hP, hD, hS, lv_sub hl [4, 3, 2, 5, 0] rfl⟩
                              · exact absurd c_378_46 (by decide)
                rcases scope_shield h hk with s4 | ⟨s4, s3⟩
                · skip
                  refine lv_aload_n hx hb dL_areScopesRight_258 rfl (lv_at hl 0 rfl) ?_
                  refine lv_iload hx hb dL_areScopesRight_259 (lv_at hl 4 rfl) ?_
                  refine lv_iconst (v := 4) hx hb dL_areScopesRight_261 (by decide) ?_
                  refine x_Vi (As := [.int (nI k), .int 4]) (rest0 := []) ⟨hx, hb, hml, hown, hts⟩ (c_X8_ofScope l D cA ad tr R13 H.size τ pd π bd tp ρ h102 (nI k) 4 (nI_pos (by omega)) (by rw [h.1.1.2.2.2.1]; exact (nI_ltI (by omega) (by omega)).mpr (by omega)) (by decide) (by decide)) (cwV 2 hts gl_areScopesRight_X8_ofScope rfl rfl rfl (by decide +kernel) ⟨Nat.le_of_ble_eq_true rfl, Nat.le_of_ble_eq_true rfl⟩) hK hP hD hS hA 209 w_tp rfl hl.1 rfl rfl (Nat.le_of_ble_eq_true rfl) ⟨Nat.le_of_ble_eq_true rfl, Nat.le_of_ble_eq_true rfl⟩ dL_areScopesRight_262 (fun r _ H locs hw hP hD hS => ?_)
                  obtain rfl : r = 0 := hw.trans s4
                  refine lv_iconst (v := 1) hx hb dL_areScopesRight_265 (by decide) ?_
                  refine lv_icmp_ne (tgt := 282) hx hb dL_areScopesRight_266 (by decide) (fun c_266_47 => ?_) (fun c_266_47 => ?_)
                  · skip
                    exact J282 H locs ls hP hD hS (lv_sub hl [0, 1, 2, 3, 4, 5, 6, 7] rfl)
                  · exact absurd c_266_47 (by decide)
                · skip
                  refine lv_aload_n hx hb dL_areScopesRight_258 rfl (lv_at hl 0 rfl) ?_
                  refine lv_iload hx hb dL_areScopesRight_259 (lv_at hl 4 rfl) ?_
                  refine lv_iconst (v := 4) hx hb dL_areScopesRight_261 (by decide) ?_
                  refine x_Vi (As := [.int (nI k), .int 4]) (rest0 := []) ⟨hx, hb, hml, hown, hts⟩ (c_X8_ofScope l D cA ad tr R13 H.size τ pd π bd tp ρ h102 (nI k) 4 (nI_pos (by omega)) (by rw [h.1.1.2.2.2.1]; exact (nI_ltI (by omega) (by omega)).mpr (by omega)) (by decide) (by decide)) (cwV 2 hts gl_areScopesRight_X8_ofScope rfl rfl rfl (by decide +kernel) ⟨Nat.le_of_ble_eq_true rfl, Nat.le_of_ble_eq_true rfl⟩) hK hP hD hS hA 209 w_tp rfl hl.1 rfl rfl (Nat.le_of_ble_eq_true rfl) ⟨Nat.le_of_ble_eq_true rfl, Nat.le_of_ble_eq_true rfl⟩ dL_areScopesRight_262 (fun r _ H locs hw hP hD hS => ?_)
                  obtain rfl : r = 1 := hw.trans s4
                  refine lv_iconst (v := 1) hx hb dL_areScopesRight_265 (by decide) ?_
                  refine lv_icmp_ne (tgt := 282) hx hb dL_areScopesRight_266 (by decide) (fun c_266_48 => ?_) (fun c_266_48 => ?_)
                  · exact absurd c_266_48 (by decide)
                  · skip
                    refine lv_aload_n hx hb dL_areScopesRight_269 rfl (lv_at hl 0 rfl) ?_
                    refine lv_iload hx hb dL_areScopesRight_270 (lv_at hl 4 rfl) ?_
                    refine lv_iconst (v := 3) hx hb dL_areScopesRight_272 (by decide) ?_
                    refine x_Vi (As := [.int (nI k), .int 3]) (rest0 := []) ⟨hx, hb, hml, hown, hts⟩ (c_X8_ofScope l D cA ad tr R13 H.size τ pd π bd tp ρ h102 (nI k) 3 (nI_pos (by omega)) (by rw [h.1.1.2.2.2.1]; exact (nI_ltI (by omega) (by omega)).mpr (by omega)) (by decide) (by decide)) (cwV 2 hts gl_areScopesRight_X8_ofScope rfl rfl rfl (by decide +kernel) ⟨Nat.le_of_ble_eq_true rfl, Nat.le_of_ble_eq_true rfl⟩) hK hP hD hS hA 209 w_tp rfl hl.1 rfl rfl (Nat.le_of_ble_eq_true rfl) ⟨Nat.le_of_ble_eq_true rfl, Nat.le_of_ble_eq_true rfl⟩ dL_areScopesRight_273 (fun r _ H locs hw hP hD hS => ?_)
                    obtain rfl : r = (-1) := hw.trans s3
                    refine lv_iconst (v := (-1)) hx hb dL_areScopesRight_276 (by decide) ?_
                    refine lv_icmp_eq (tgt := 282) hx hb dL_areScopesRight_277 (by decide) (fun c_277_49 => ?_) (fun c_277_49 => ?_)
                    · skip
                      exact J282 H locs ls hP hD hS (lv_sub hl [0, 1, 2, 3, 4, 5, 6, 7] rfl)
                    · exact absurd c_277_49 (by decide)
          · exact absurd c_230_32 (by decide)
        · skip
          rw [← jy, ← jx] at yx
          refine lv_aload_n hx hb dL_areScopesRight_222 rfl (lv_at hl 0 rfl) ?_
          refine lv_iload hx hb dL_areScopesRight_223 (lv_at hl 4 rfl) ?_
          refine lv_iconst (v := 1) hx hb dL_areScopesRight_225 (by decide) ?_
          refine x_Vi (As := [.int (nI k), .int 1]) (rest0 := []) ⟨hx, hb, hml, hown, hts⟩ (c_X8_ofScope l D cA ad tr R13 H.size τ pd π bd tp ρ h102 (nI k) 1 (nI_pos (by omega)) (by rw [h.1.1.2.2.2.1]; exact (nI_ltI (by omega) (by omega)).mpr (by omega)) (by decide) (by decide)) (cwV 2 hts gl_areScopesRight_X8_ofScope rfl rfl rfl (by decide +kernel) ⟨Nat.le_of_ble_eq_true rfl, Nat.le_of_ble_eq_true rfl⟩) hK hP hD hS hA 209 w_tp rfl hl.1 rfl rfl (Nat.le_of_ble_eq_true rfl) ⟨Nat.le_of_ble_eq_true rfl, Nat.le_of_ble_eq_true rfl⟩ dL_areScopesRight_226 (fun r _ H locs hw hP hD hS => ?_)
          obtain rfl : r = 2 := hw.trans s1
          refine lv_iconst (v := 2) hx hb dL_areScopesRight_229 (by decide) ?_
          refine lv_icmp_ne (tgt := 240) hx hb dL_areScopesRight_230 (by decide) (fun c_230_50 => ?_) (fun c_230_50 => ?_)
          · exact absurd c_230_50 (by decide)
          · skip
            refine lv_iload hx hb dL_areScopesRight_233 (lv_at hl 6 rfl) ?_
            refine lv_iload hx hb dL_areScopesRight_235 (lv_at hl 5 rfl) ?_
            refine lv_icmp_lt (tgt := 280) hx hb dL_areScopesRight_237 (by decide) (fun c_237_51 => ?_) (fun c_237_51 => ?_)
            · exact absurd ((nI_ltI (a := y) (b := x) (by omega) (by omega)).mp c_237_51) (by omega)
            · skip
              refine lv_aload_n hx hb dL_areScopesRight_240 rfl (lv_at hl 0 rfl) ?_
              refine lv_iload hx hb dL_areScopesRight_241 (lv_at hl 4 rfl) ?_
              refine lv_iconst (v := 1) hx hb dL_areScopesRight_243 (by decide) ?_
              refine x_Vi (As := [.int (nI k), .int 1]) (rest0 := []) ⟨hx, hb, hml, hown, hts⟩ (c_X8_ofScope l D cA ad tr R13 H.size τ pd π bd tp ρ h102 (nI k) 1 (nI_pos (by omega)) (by rw [h.1.1.2.2.2.1]; exact (nI_ltI (by omega) (by omega)).mpr (by omega)) (by decide) (by decide)) (cwV 2 hts gl_areScopesRight_X8_ofScope rfl rfl rfl (by decide +kernel) ⟨Nat.le_of_ble_eq_true rfl, Nat.le_of_ble_eq_true rfl⟩) hK hP hD hS hA 209 w_tp rfl hl.1 rfl rfl (Nat.le_of_ble_eq_true rfl) ⟨Nat.le_of_ble_eq_true rfl, Nat.le_of_ble_eq_true rfl⟩ dL_areScopesRight_244 (fun r _ H locs hw hP hD hS => ?_)
              obtain rfl : r = 2 := hw.trans s1
              refine lv_iconst (v := 1) hx hb dL_areScopesRight_247 (by decide) ?_
              refine lv_icmp_ne (tgt := 258) hx hb dL_areScopesRight_248 (by decide) (fun c_248_52 => ?_) (fun c_248_52 => ?_)
              · skip
                refine W_meet (ws := wB cA ad τ ++ (wPg cA ad pd π ++ (wB cA bd ρ ++ ((tp, .inr (8, tpF ad bd)) :: R13)))) (A0 := A) (H0 := s.heap) (cl := vwCl) (D := D) (pc2 := 282) (lv := [(0, .ref tp), (1, .int (nI a)), (2, .int (nI b)), (3, .ref q1), (4, .int (nI k)), (5, .int (nI x)), (6, .int (nI y)), (7, .int (nI z))]) (nL2 := 10) (st2 := []) (fun H locs ls hP hD hS hl => ?_) (fun J282 => ?_)
                · skip
                  refine lv_aload_n hx hb dL_areScopesRight_282 rfl (lv_at hl 0 rfl) ?_
                  refine lv_iload hx hb dL_areScopesRight_283 (lv_at hl 4 rfl) ?_
                  obtain ⟨o, ho, o0, o2⟩ := scope_opener h hk
                  have lo := cnt_le (lvI τ o) k
                  refine lv_iconst (v := 1) hx hb dL_areScopesRight_285 (by decide) ?_
                  refine x_Vi (As := [.int (nI k), .int 1]) (rest0 := []) ⟨hx, hb, hml, hown, hts⟩ (c_X8_ofScope l D cA ad tr R13 H.size τ pd π bd tp ρ h102 (nI k) 1 (nI_pos (by omega)) (by rw [h.1.1.2.2.2.1]; exact (nI_ltI (by omega) (by omega)).mpr (by omega)) (by decide) (by decide)) (cwV 2 hts gl_areScopesRight_X8_ofScope rfl rfl rfl (by decide +kernel) ⟨Nat.le_of_ble_eq_true rfl, Nat.le_of_ble_eq_true rfl⟩) hK hP hD hS hA 209 w_tp rfl hl.1 rfl rfl (Nat.le_of_ble_eq_true rfl) ⟨Nat.le_of_ble_eq_true rfl, Nat.le_of_ble_eq_true rfl⟩ dL_areScopesRight_286 (fun r _ H locs hw hP hD hS => ?_)
                  obtain rfl : r = 2 := hw.trans s1
                  refine lv_iconst (v := 2) hx hb dL_areScopesRight_289 (by decide) ?_
                  refine lv_icmp_ge (tgt := 306) hx hb dL_areScopesRight_290 (by decide) (fun c_290_53 => ?_) (fun c_290_53 => ?_)
                  · skip
                    refine lv_iload_n hx hb dL_areScopesRight_306 rfl (lv_at hl 1 rfl) ?_
                    refine lv_aload_n hx hb dL_areScopesRight_307 rfl (lv_at hl 0 rfl) ?_
                    refine lv_iload hx hb dL_areScopesRight_308 (lv_at hl 4 rfl) ?_
                    refine lv_iconst (v := 1) hx hb dL_areScopesRight_310 (by decide) ?_
                    refine x_Vi (As := [.int (nI k), .int 1]) (rest0 := [.int (nI a)]) ⟨hx, hb, hml, hown, hts⟩ (c_X8_ofScope l D cA ad tr R13 H.size τ pd π bd tp ρ h102 (nI k) 1 (nI_pos (by omega)) (by rw [h.1.1.2.2.2.1]; exact (nI_ltI (by omega) (by omega)).mpr (by omega)) (by decide) (by decide)) (cwV 2 hts gl_areScopesRight_X8_ofScope rfl rfl rfl (by decide +kernel) ⟨Nat.le_of_ble_eq_true rfl, Nat.le_of_ble_eq_true rfl⟩) hK hP hD hS hA 209 w_tp rfl hl.1 rfl rfl (Nat.le_of_ble_eq_true rfl) ⟨Nat.le_of_ble_eq_true rfl, Nat.le_of_ble_eq_true rfl⟩ dL_areScopesRight_311 (fun r _ H locs hw hP hD hS => ?_)
                    obtain rfl : r = 2 := hw.trans s1
                    refine lv_iconst (v := 2) hx hb dL_areScopesRight_314 (by decide) ?_
                    refine lv_icmp_ge (tgt := 322) hx hb dL_areScopesRight_315 (by decide) (fun c_315_54 => ?_) (fun c_315_54 => ?_)
                    · skip
                      refine lv_iconst (v := 0) hx hb dL_areScopesRight_322 (by decide) ?_
                      refine lv_iadd hx hb dL_areScopesRight_323 ?_
                      refine W.eq (g2 := F0 m 324 ls [.int (nI (a + 0))]) (by rw [show ((nI a) : Int32) + 0 = (nI (a + 0)) from nI_add a 0]) ?_
                      refine lv_istore_n (lv' := [(1, .int (nI (a + 0))), (0, .ref tp), (2, .int (nI b)), (3, .ref q1), (4, .int (nI k)), (5, .int (nI x)), (6, .int (nI y)), (7, .int (nI z))]) hx hb dL_areScopesRight_324 rfl hl (by decide) rfl (fun ls hl => ?_)
                      rcases scope_can (τ := τ) (k := k) (by omega) with ⟨s2, k5⟩ | ⟨s2, k5⟩
                      · skip
                        refine lv_iload_n hx hb dL_areScopesRight_325 rfl (lv_at hl 2 rfl) ?_
                        refine lv_aload_n hx hb dL_areScopesRight_326 rfl (lv_at hl 1 rfl) ?_
                        refine lv_iload hx hb dL_areScopesRight_327 (lv_at hl 4 rfl) ?_
                        refine lv_iconst (v := 2) hx hb dL_areScopesRight_329 (by decide) ?_
                        refine x_Vi (As := [.int (nI k), .int 2]) (rest0 := [.int (nI b)]) ⟨hx, hb, hml, hown, hts⟩ (c_X8_ofScope l D cA ad tr R13 H.size τ pd π bd tp ρ h102 (nI k) 2 (nI_pos (by omega)) (by rw [h.1.1.2.2.2.1]; exact (nI_ltI (by omega) (by omega)).mpr (by omega)) (by decide) (by decide)) (cwV 2 hts gl_areScopesRight_X8_ofScope rfl rfl rfl (by decide +kernel) ⟨Nat.le_of_ble_eq_true rfl, Nat.le_of_ble_eq_true rfl⟩) hK hP hD hS hA 209 w_tp rfl hl.1 rfl rfl (Nat.le_of_ble_eq_true rfl) ⟨Nat.le_of_ble_eq_true rfl, Nat.le_of_ble_eq_true rfl⟩ dL_areScopesRight_330 (fun r _ H locs hw hP hD hS => ?_)
                        obtain rfl : r = 0 := hw.trans s2
                        refine lv_iadd hx hb dL_areScopesRight_333 ?_
                        refine W.eq (g2 := F0 m 334 ls [.int (nI (b + 0))]) (by rw [show ((nI b) : Int32) + 0 = (nI (b + 0)) from nI_add b 0]) ?_
                        refine lv_istore_n (lv' := [(2, .int (nI (b + 0))), (1, .int (nI (a + 0))), (0, .ref tp), (3, .ref q1), (4, .int (nI k)), (5, .int (nI x)), (6, .int (nI y)), (7, .int (nI z))]) hx hb dL_areScopesRight_334 rfl hl (by decide) rfl (fun ls hl => ?_)
                        refine lv_aload_n hx hb dL_areScopesRight_335 rfl (lv_at hl 2 rfl) ?_
                        refine lv_iload hx hb dL_areScopesRight_336 (lv_at hl 4 rfl) ?_
                        refine lv_iconst (v := 3) hx hb dL_areScopesRight_338 (by decide) ?_
                        refine x_Vi (As := [.int (nI k), .int 3]) (rest0 := []) ⟨hx, hb, hml, hown, hts⟩ (c_X8_ofScope l D cA ad tr R13 H.size τ pd π bd tp ρ h102 (nI k) 3 (nI_pos (by omega)) (by rw [h.1.1.2.2.2.1]; exact (nI_ltI (by omega) (by omega)).mpr (by omega)) (by decide) (by decide)) (cwV 2 hts gl_areScopesRight_X8_ofScope rfl rfl rfl (by decide +kernel) ⟨Nat.le_of_ble_eq_true rfl, Nat.le_of_ble_eq_true rfl⟩) hK hP hD hS hA 209 w_tp rfl hl.1 rfl rfl (Nat.le_of_ble_eq_true rfl) ⟨Nat.le_of_ble_eq_true rfl, Nat.le_of_ble_eq_true rfl⟩ dL_areScopesRight_339 (fun r _ H locs hw hP hD hS => ?_)
                        obtain rfl : r = (τ (k + 54) 7) := hw.trans (aS3 (by omega))
                        refine lv_topi (fun x55 ex55 => ?_)
                        refine lv_istore (lv' := [(9, .int x55), (2, .int (nI (b + 0))), (1, .int (nI (a + 0))), (0, .ref tp), (3, .ref q1), (4, .int (nI k)), (5, .int (nI x)), (6, .int (nI y)), (7, .int (nI z))]) hx hb dL_areScopesRight_342 hl (by decide) rfl (fun ls hl => ?_)
                        refine lv_iload hx hb dL_areScopesRight_344 (lv_at hl 0 rfl) ?_
                        refine lv_if_lt (tgt := 383) hx hb dL_areScopesRight_346 (by decide) (fun c_346_56 => ?_) (fun c_346_56 => ?_)
                        · skip
                          refine lv_iinc (v := (nI (k + 1))) (lv' := [(4, .int (nI (k + 1))), (9, .int x55), (2, .int (nI (b + 0))), (1, .int (nI (a + 0))), (0, .ref tp), (3, .ref q1), (5, .int (nI x)), (6, .int (nI y)), (7, .int (nI z))]) hx hb dL_areScopesRight_383 hl (k := 5) rfl (show (nI k) + 1 = (nI (k + 1)) from nI_1 k) (by decide) rfl (fun ls hl => ?_)
                          refine lv_goto (tgt := 12) hx hb dL_areScopesRight_386 (by decide) ?_
                          exact ih n (Nat.lt_succ_self n) H locs ls ⟨(k + 1), a, b, f, R13, ⟨by omega, cnt_f ha lv, cnt_f hb2 (can_f h hk k5), lv_keep lv hf, eR13⟩, hP, hD, hS, lv_sub hl [4, 3, 2, 5, 0] rfl⟩
                        · skip
                          refine lv_iload hx hb dL_areScopesRight_349 (lv_at hl 0 rfl) ?_
                          refine lv_aload_n hx hb dL_areScopesRight_351 rfl (lv_at hl 3 rfl) ?_
                          refine lv_bipush (v := 10) hx hb dL_areScopesRight_352 (by decide) ?_
                          refine x_Vi (As := [.int 10]) (rest0 := [.int x55]) ⟨hx, hb, hml, hown, hts⟩ (c_X8_many l D cA ad tr R13 H.size τ pd π bd tp ρ h102 10 (by decide) (by decide)) (cwV 1 hts gl_areScopesRight_X8_many rfl rfl rfl (by decide +kernel) ⟨Nat.le_of_ble_eq_true rfl, Nat.le_of_ble_eq_true rfl⟩) hK hP hD hS hA 209 w_tp rfl hl.1 rfl rfl (Nat.le_of_ble_eq_true rfl) ⟨Nat.le_of_ble_eq_true rfl, Nat.le_of_ble_eq_true rfl⟩ dL_areScopesRight_354 (fun r _ H locs hw hP hD hS => ?_)
                          obtain rfl : r = (nI t) := hw.trans (many_10 h)
                          refine lv_icmp_gt (tgt := 383) hx hb dL_areScopesRight_357 (by decide) (fun c_357_57 => ?_) (fun c_357_57 => ?_)
                          · skip
                            refine lv_iinc (v := (nI (k + 1))) (lv' := [(4, .int (nI (k + 1))), (9, .int x55), (2, .int (nI (b + 0))), (1, .int (nI (a + 0))), (0, .ref tp), (3, .ref q1), (5, .int (nI x)), (6, .int (nI y)), (7, .int (nI z))]) hx hb dL_areScopesRight_383 hl (k := 5) rfl (show (nI k) + 1 = (nI (k + 1)) from nI_1 k) (by decide) rfl (fun ls hl => ?_)
                            refine lv_goto (tgt := 12) hx hb dL_areScopesRight_386 (by decide) ?_
                            exact ih n (Nat.lt_succ_self n) H locs ls ⟨(k + 1), a, b, f, R13, ⟨by omega, cnt_f ha lv, cnt_f hb2 (can_f h hk k5), lv_keep lv hf, eR13⟩, hP, hD, hS, lv_sub hl [4, 3, 2, 5, 0] rfl⟩
                          · skip
                            refine lv_aload_n hx hb dL_areScopesRight_360 rfl (lv_at hl 3 rfl) ?_
                            refine lv_iload hx hb dL_areScopesRight_361 (lv_at hl 5 rfl) ?_
                            refine lv_iconst (v := 1) hx hb dL_areScopesRight_363 (by decide) ?_
                            refine x_Vi (As := [.int (nI k), .int 1]) (rest0 := []) ⟨hx, hb, hml, hown, hts⟩ (c_X8_ofScope l D cA ad tr R13 H.size τ pd π bd tp ρ h102 (nI k) 1 (nI_pos (by omega)) (by rw [h.1.1.2.2.2.1]; exact (nI_ltI (by omega) (by omega)).mpr (by omega)) (by decide) (by decide)) (cwV 2 hts gl_areScopesRight_X8_ofScope rfl rfl rfl (by decide +kernel) ⟨Nat.le_of_ble_eq_true rfl, Nat.le_of_ble_eq_true rfl⟩) hK hP hD hS hA 209 w_tp rfl hl.1 rfl rfl (Nat.le_of_ble_eq_true rfl) ⟨Nat.le_of_ble_eq_true rfl, Nat.le_of_ble_eq_true rfl⟩ dL_areScopesRight_364 (fun r _ H locs hw hP hD hS => ?_)
                            obtain rfl : r = 2 := hw.trans s1
                            refine lv_iconst (v := 2) hx hb dL_areScopesRight_367 (by decide) ?_
                            refine lv_icmp_ge (tgt := 383) hx hb dL_areScopesRight_368 (by decide) (fun c_368_58 => ?_) (fun c_368_58 => ?_)
                            · skip
                              refine lv_iinc (v := (nI (k + 1))) (lv' := [(4, .int (nI (k + 1))), (9, .int x55), (2, .int (nI (b + 0))), (1, .int (nI (a + 0))), (0, .ref tp), (3, .ref q1), (5, .int (nI x)), (6, .int (nI y)), (7, .int (nI z))]) hx hb dL_areScopesRight_383 hl (k := 5) rfl (show (nI k) + 1 = (nI (k + 1)) from nI_1 k) (by decide) rfl (fun ls hl => ?_)
                              refine lv_goto (tgt := 12) hx hb dL_areScopesRight_386 (by decide) ?_
                              exact ih n (Nat.lt_succ_self n) H locs ls ⟨(k + 1), a, b, f, R13, ⟨by omega, cnt_f ha lv, cnt_f hb2 (can_f h hk k5), lv_keep lv hf, eR13⟩, hP, hD, hS, lv_sub hl [4, 3, 2, 5, 0] rfl⟩
                            · exact absurd c_368_58 (by decide)
                      · skip
                        refine lv_iload_n hx hb dL_areScopesRight_325 rfl (lv_at hl 2 rfl) ?_
                        refine lv_aload_n hx hb dL_areScopesRight_326 rfl (lv_at hl 1 rfl) ?_
                        refine lv_iload hx hb dL_areScopesRight_327 (lv_at hl 4 rfl) ?_
                        refine lv_iconst (v := 2) hx hb dL_areScopesRight_329 (by decide) ?_
                        refine x_Vi (As := [.int (nI k), .int 2]) (rest0 := [.int (nI b)]) ⟨hx, hb, hml, hown, hts⟩ (c_X8_ofScope l D cA ad tr R13 H.size τ pd π bd tp ρ h102 (nI k) 2 (nI_pos (by omega)) (by rw [h.1.1.2.2.2.1]; exact (nI_ltI (by omega) (by omega)).mpr (by omega)) (by decide) (by decide)) (cwV 2 hts gl_areScopesRight_X8_ofScope rfl rfl rfl (by decide +kernel) ⟨Nat.le_of_ble_eq_true rfl, Nat.le_of_ble_eq_true rfl⟩) hK hP hD hS hA 209 w_tp rfl hl.1 rfl rfl (Nat.le_of_ble_eq_true rfl) ⟨Nat.le_of_ble_eq_true rfl, Nat.le_of_ble_eq_true rfl⟩ dL_areScopesRight_330 (fun r _ H locs hw hP hD hS => ?_)
                        obtain rfl : r = 1 := hw.trans s2
                        refine lv_iadd hx hb dL_areScopesRight_333 ?_
                        refine W.eq (g2 := F0 m 334 ls [.int (nI (b + 1))]) (by rw [show ((nI b) : Int32) + 1 = (nI (b + 1)) from nI_add b 1]) ?_
                        refine lv_istore_n (lv' := [(2, .int (nI (b + 1))), (1, .int (nI (a + 0))), (0, .ref tp), (3, .ref q1), (4, .int (nI k)), (5, .int (nI x)), (6, .int (nI y)), (7, .int (nI z))]) hx hb dL_areScopesRight_334 rfl hl (by decide) rfl (fun ls hl => ?_)
                        refine lv_aload_n hx hb dL_areScopesRight_335 rfl (lv_at hl 2 rfl) ?_
                        refine lv_iload hx hb dL_areScopesRight_336 (lv_at hl 4 rfl) ?_
                        refine lv_iconst (v := 3) hx hb dL_areScopesRight_338 (by decide) ?_
                        refine x_Vi (As := [.int (nI k), .int 3]) (rest0 := []) ⟨hx, hb, hml, hown, hts⟩ (c_X8_ofScope l D cA ad tr R13 H.size τ pd π bd tp ρ h102 (nI k) 3 (nI_pos (by omega)) (by rw [h.1.1.2.2.2.1]; exact (nI_ltI (by omega) (by omega)).mpr (by omega)) (by decide) (by decide)) (cwV 2 hts gl_areScopesRight_X8_ofScope rfl rfl rfl (by decide +kernel) ⟨Nat.le_of_ble_eq_true rfl, Nat.le_of_ble_eq_true rfl⟩) hK hP hD hS hA 209 w_tp rfl hl.1 rfl rfl (Nat.le_of_ble_eq_true rfl) ⟨Nat.le_of_ble_eq_true rfl, Nat.le_of_ble_eq_true rfl⟩ dL_areScopesRight_339 (fun r _ H locs hw hP hD hS => ?_)
                        obtain rfl : r = (τ (k + 54) 7) := hw.trans (aS3 (by omega))
                        refine lv_topi (fun x59 ex59 => ?_)
                        refine lv_istore (lv' := [(9, .int x59), (2, .int (nI (b + 1))), (1, .int (nI (a + 0))), (0, .ref tp), (3, .ref q1), (4, .int (nI k)), (5, .int (nI x)), (6, .int (nI y)), (7, .int (nI z))]) hx hb dL_areScopesRight_342 hl (by decide) rfl (fun ls hl => ?_)
                        refine lv_iload hx hb dL_areScopesRight_344 (lv_at hl 0 rfl) ?_
                        refine lv_if_lt (tgt := 383) hx hb dL_areScopesRight_346 (by decide) (fun c_346_60 => ?_) (fun c_346_60 => ?_)
                        · skip
                          refine lv_iinc (v := (nI (k + 1))) (lv' := [(4, .int (nI (k + 1))), (9, .int x59), (2, .int (nI (b + 1))), (1, .int (nI (a + 0))), (0, .ref tp), (3, .ref q1), (5, .int (nI x)), (6, .int (nI y)), (7, .int (nI z))]) hx hb dL_areScopesRight_383 hl (k := 5) rfl (show (nI k) + 1 = (nI (k + 1)) from nI_1 k) (by decide) rfl (fun ls hl => ?_)
                          refine lv_goto (tgt := 12) hx hb dL_areScopesRight_386 (by decide) ?_
                          exact ih n (Nat.lt_succ_self n) H locs ls ⟨(k + 1), a, (b + 1), f, R13, ⟨by omega, cnt_f ha lv, cnt_t hb2 (can_t h hk k5), lv_keep lv hf, eR13⟩, hP, hD, hS, lv_sub hl [4, 3, 2, 5, 0] rfl⟩
                        · skip
                          refine lv_iload hx hb dL_areScopesRight_349 (lv_at hl 0 rfl) ?_
                          refine lv_aload_n hx hb dL_areScopesRight_351 rfl (lv_at hl 3 rfl) ?_
                          refine lv_bipush (v := 10) hx hb dL_areScopesRight_352 (by decide) ?_
                          refine x_Vi (As := [.int 10]) (rest0 := [.int x59]) ⟨hx, hb, hml, hown, hts⟩ (c_X8_many l D cA ad tr R13 H.size τ pd π bd tp ρ h102 10 (by decide) (by decide)) (cwV 1 hts gl_areScopesRight_X8_many rfl rfl rfl (by decide +kernel) ⟨Nat.le_of_ble_eq_true rfl, Nat.le_of_ble_eq_true rfl⟩) hK hP hD hS hA 209 w_tp rfl hl.1 rfl rfl (Nat.le_of_ble_eq_true rfl) ⟨Nat.le_of_ble_eq_true rfl, Nat.le_of_ble_eq_true rfl⟩ dL_areScopesRight_354 (fun r _ H locs hw hP hD hS => ?_)
                          obtain rfl : r = (nI t) := hw.trans (many_10 h)
                          refine lv_icmp_gt (tgt := 383) hx hb dL_areScopesRight_357 (by decide) (fun c_357_61 => ?_) (fun c_357_61 => ?_)
                          · skip
                            refine lv_iinc (v := (nI (k + 1))) (lv' := [(4, .int (nI (k + 1))), (9, .int x59), (2, .int (nI (b + 1))), (1, .int (nI (a + 0))), (0, .ref tp), (3, .ref q1), (5, .int (nI x)), (6, .int (nI y)), (7, .int (nI z))]) hx hb dL_areScopesRight_383 hl (k := 5) rfl (show (nI k) + 1 = (nI (k + 1)) from nI_1 k) (by decide) rfl (fun ls hl => ?_)
                            refine lv_goto (tgt := 12) hx hb dL_areScopesRight_386 (by decide) ?_
                            exact ih n (Nat.lt_succ_self n) H locs ls ⟨(k + 1), a, (b + 1), f, R13, ⟨by omega, cnt_f ha lv, cnt_t hb2 (can_t h hk k5), lv_keep lv hf, eR13⟩, hP, hD, hS, lv_sub hl [4, 3, 2, 5, 0] rfl⟩
                          · skip
                            refine lv_aload_n hx hb dL_areScopesRight_360 rfl (lv_at hl 3 rfl) ?_
                            refine lv_iload hx hb dL_areScopesRight_361 (lv_at hl 5 rfl) ?_
                            refine lv_iconst (v := 1) hx hb dL_areScopesRight_363 (by decide) ?_
                            refine x_Vi (As := [.int (nI k), .int 1]) (rest0 := []) ⟨hx, hb, hml, hown, hts⟩ (c_X8_ofScope l D cA ad tr R13 H.size τ pd π bd tp ρ h102 (nI k) 1 (nI_pos (by omega)) (by rw [h.1.1.2.2.2.1]; exact (nI_ltI (by omega) (by omega)).mpr (by omega)) (by decide) (by decide)) (cwV 2 hts gl_areScopesRight_X8_ofScope rfl rfl rfl (by decide +kernel) ⟨Nat.le_of_ble_eq_true rfl, Nat.le_of_ble_eq_true rfl⟩) hK hP hD hS hA 209 w_tp rfl hl.1 rfl rfl (Nat.le_of_ble_eq_true rfl) ⟨Nat.le_of_ble_eq_true rfl, Nat.le_of_ble_eq_true rfl⟩ dL_areScopesRight_364 (fun r _ H locs hw hP hD hS => ?_)
                            obtain rfl : r = 2 := hw.trans s1
                            refine lv_iconst (v := 2) hx hb dL_areScopesRight_367 (by decide) ?_
                            refine lv_icmp_ge (tgt := 383) hx hb dL_areScopesRight_368 (by decide) (fun c_368_62 => ?_) (fun c_368_62 => ?_)
                            · skip
                              refine lv_iinc (v := (nI (k + 1))) (lv' := [(4, .int (nI (k + 1))), (9, .int x59), (2, .int (nI (b + 1))), (1, .int (nI (a + 0))), (0, .ref tp), (3, .ref q1), (5, .int (nI x)), (6, .int (nI y)), (7, .int (nI z))]) hx hb dL_areScopesRight_383 hl (k := 5) rfl (show (nI k) + 1 = (nI (k + 1)) from nI_1 k) (by decide) rfl (fun ls hl => ?_)
                              refine lv_goto (tgt := 12) hx hb dL_areScopesRight_386 (by decide) ?_
                              exact ih n (Nat.lt_succ_self n) H locs ls ⟨(k + 1), a, (b + 1), f, R13, ⟨by omega, cnt_f ha lv, cnt_t hb2 (can_t h hk k5), lv_keep lv hf, eR13⟩, hP, hD, hS, lv_sub hl [4, 3, 2, 5, 0] rfl⟩
                            · exact absurd c_368_62 (by decide)
                    · exact absurd c_315_54 (by decide)
                  · exact absurd c_290_53 (by decide)
                rcases scope_shield h hk with s4 | ⟨s4, s3⟩
                · skip
                  refine lv_aload_n hx hb dL_areScopesRight_258 rfl (lv_at hl 0 rfl) ?_
                  refine lv_iload hx hb dL_areScopesRight_259 (lv_at hl 4 rfl) ?_
                  refine lv_iconst (v := 4) hx hb dL_areScopesRight_261 (by decide) ?_
                  refine x_Vi (As := [.int (nI k), .int 4]) (rest0 := []) ⟨hx, hb, hml, hown, hts⟩ (c_X8_ofScope l D cA ad tr R13 H.size τ pd π bd tp ρ h102 (nI k) 4 (nI_pos (by omega)) (by rw [h.1.1.2.2.2.1]; exact (nI_ltI (by omega) (by omega)).mpr (by omega)) (by decide) (by decide)) (cwV 2 hts gl_areScopesRight_X8_ofScope rfl rfl rfl (by decide +kernel) ⟨Nat.le_of_ble_eq_true rfl, Nat.le_of_ble_eq_true rfl⟩) hK hP hD hS hA 209 w_tp rfl hl.1 rfl rfl (Nat.le_of_ble_eq_true rfl) ⟨Nat.le_of_ble_eq_true rfl, Nat.le_of_ble_eq_true rfl⟩ dL_areScopesRight_262 (fun r _ H locs hw hP hD hS => ?_)
                  obtain rfl : r = 0 := hw.trans s4
                  refine lv_iconst (v := 1) hx hb dL_areScopesRight_265 (by decide) ?_
                  refine lv_icmp_ne (tgt := 282) hx hb dL_areScopesRight_266 (by decide) (fun c_266_63 => ?_) (fun c_266_63 => ?_)
                  · skip
                    exact J282 H locs ls hP hD hS (lv_sub hl [0, 1, 2, 3, 4, 5, 6, 7] rfl)
                  · exact absurd c_266_63 (by decide)
                · skip
                  refine lv_aload_n hx hb dL_areScopesRight_258 rfl (lv_at hl 0 rfl) ?_
                  refine lv_iload hx hb dL_areScopesRight_259 (lv_at hl 4 rfl) ?_
                  refine lv_iconst (v := 4) hx hb dL_areScopesRight_261 (by decide) ?_
                  refine x_Vi (As := [.int (nI k), .int 4]) (rest0 := []) ⟨hx, hb, hml, hown, hts⟩ (c_X8_ofScope l D cA ad tr R13 H.size τ pd π bd tp ρ h102 (nI k) 4 (nI_pos (by omega)) (by rw [h.1.1.2.2.2.1]; exact (nI_ltI (by omega) (by omega)).mpr (by omega)) (by decide) (by decide)) (cwV 2 hts gl_areScopesRight_X8_ofScope rfl rfl rfl (by decide +kernel) ⟨Nat.le_of_ble_eq_true rfl, Nat.le_of_ble_eq_true rfl⟩) hK hP hD hS hA 209 w_tp rfl hl.1 rfl rfl (Nat.le_of_ble_eq_true rfl) ⟨Nat.le_of_ble_eq_true rfl, Nat.le_of_ble_eq_true rfl⟩ dL_areScopesRight_262 (fun r _ H locs hw hP hD hS => ?_)
                  obtain rfl : r = 1 := hw.trans s4
                  refine lv_iconst (v := 1) hx hb dL_areScopesRight_265 (by decide) ?_
                  refine lv_icmp_ne (tgt := 282) hx hb dL_areScopesRight_266 (by decide) (fun c_266_64 => ?_) (fun c_266_64 => ?_)
                  · exact absurd c_266_64 (by decide)
                  · skip
                    refine lv_aload_n hx hb dL_areScopesRight_269 rfl (lv_at hl 0 rfl) ?_
                    refine lv_iload hx hb dL_areScopesRight_270 (lv_at hl 4 rfl) ?_
                    refine lv_iconst (v := 3) hx hb dL_areScopesRight_272 (by decide) ?_
                    refine x_Vi (As := [.int (nI k), .int 3]) (rest0 := []) ⟨hx, hb, hml, hown, hts⟩ (c_X8_ofScope l D cA ad tr R13 H.size τ pd π bd tp ρ h102 (nI k) 3 (nI_pos (by omega)) (by rw [h.1.1.2.2.2.1]; exact (nI_ltI (by omega) (by omega)).mpr (by omega)) (by decide) (by decide)) (cwV 2 hts gl_areScopesRight_X8_ofScope rfl rfl rfl (by decide +kernel) ⟨Nat.le_of_ble_eq_true rfl, Nat.le_of_ble_eq_true rfl⟩) hK hP hD hS hA 209 w_tp rfl hl.1 rfl rfl (Nat.le_of_ble_eq_true rfl) ⟨Nat.le_of_ble_eq_true rfl, Nat.le_of_ble_eq_true rfl⟩ dL_areScopesRight_273 (fun r _ H locs hw hP hD hS => ?_)
                    obtain rfl : r = (-1) := hw.trans s3
                    refine lv_iconst (v := (-1)) hx hb dL_areScopesRight_276 (by decide) ?_
                    refine lv_icmp_eq (tgt := 282) hx hb dL_areScopesRight_277 (by decide) (fun c_277_65 => ?_) (fun c_277_65 => ?_)
                    · skip
                      exact J282 H locs ls hP hD hS (lv_sub hl [0, 1, 2, 3, 4, 5, 6, 7] rfl)
                    · exact absurd c_277_65 (by decide)
              · exact absurd c_248_52 (by decide)
      obtain ⟨s5, s6, s7⟩ := scope_sums h hk
      rw [← jx] at s5
      rw [← jy] at s6
      rw [← jz] at s7
      rcases scope_first h hk with ⟨s8, z0⟩ | ⟨f8, hf8, s8, z0, f4, f1, k2⟩
      · skip
        rw [← jz] at z0
        refine lv_aload_n hx hb dL_areScopesRight_111 rfl (lv_at hl 0 rfl) ?_
        refine lv_iload hx hb dL_areScopesRight_112 (lv_at hl 4 rfl) ?_
        refine lv_bipush (v := 8) hx hb dL_areScopesRight_114 (by decide) ?_
        refine x_Vi (As := [.int (nI k), .int 8]) (rest0 := []) ⟨hx, hb, hml, hown, hts⟩ (c_X8_ofScope l D cA ad tr R13 H.size τ pd π bd tp ρ h102 (nI k) 8 (nI_pos (by omega)) (by rw [h.1.1.2.2.2.1]; exact (nI_ltI (by omega) (by omega)).mpr (by omega)) (by decide) (by decide)) (cwV 2 hts gl_areScopesRight_X8_ofScope rfl rfl rfl (by decide +kernel) ⟨Nat.le_of_ble_eq_true rfl, Nat.le_of_ble_eq_true rfl⟩) hK hP hD hS hA 209 w_tp rfl hl.1 rfl rfl (Nat.le_of_ble_eq_true rfl) ⟨Nat.le_of_ble_eq_true rfl, Nat.le_of_ble_eq_true rfl⟩ dL_areScopesRight_116 (fun r _ H locs hw hP hD hS => ?_)
        obtain rfl : r = (-1) := hw.trans s8
        refine lv_istore (lv' := [(8, .int (-1)), (0, .ref tp), (1, .int (nI a)), (2, .int (nI b)), (3, .ref q1), (4, .int (nI k)), (5, .int (nI x)), (6, .int (nI y)), (7, .int (nI z))]) hx hb dL_areScopesRight_119 hl (by decide) rfl (fun ls hl => ?_)
        refine lv_aload_n hx hb dL_areScopesRight_121 rfl (lv_at hl 1 rfl) ?_
        refine lv_iload hx hb dL_areScopesRight_122 (lv_at hl 5 rfl) ?_
        refine lv_iconst (v := 5) hx hb dL_areScopesRight_124 (by decide) ?_
        refine x_Vi (As := [.int (nI k), .int 5]) (rest0 := []) ⟨hx, hb, hml, hown, hts⟩ (c_X8_ofScope l D cA ad tr R13 H.size τ pd π bd tp ρ h102 (nI k) 5 (nI_pos (by omega)) (by rw [h.1.1.2.2.2.1]; exact (nI_ltI (by omega) (by omega)).mpr (by omega)) (by decide) (by decide)) (cwV 2 hts gl_areScopesRight_X8_ofScope rfl rfl rfl (by decide +kernel) ⟨Nat.le_of_ble_eq_true rfl, Nat.le_of_ble_eq_true rfl⟩) hK hP hD hS hA 209 w_tp rfl hl.1 rfl rfl (Nat.le_of_ble_eq_true rfl) ⟨Nat.le_of_ble_eq_true rfl, Nat.le_of_ble_eq_true rfl⟩ dL_areScopesRight_125 (fun r _ H locs hw hP hD hS => ?_)
        obtain rfl : r = (nI x) := hw.trans s5
        refine lv_iload hx hb dL_areScopesRight_128 (lv_at hl 6 rfl) ?_
        refine lv_icmp_ne (tgt := 220) hx hb dL_areScopesRight_130 (by decide) (fun c_130_66 => ?_) (fun c_130_66 => ?_)
        · exact absurd ((nI_eq (a := x) (b := x) (by omega) (by omega)).mpr (by omega)) c_130_66
        · skip
          refine lv_aload_n hx hb dL_areScopesRight_133 rfl (lv_at hl 1 rfl) ?_
          refine lv_iload hx hb dL_areScopesRight_134 (lv_at hl 5 rfl) ?_
          refine lv_bipush (v := 6) hx hb dL_areScopesRight_136 (by decide) ?_
          refine x_Vi (As := [.int (nI k), .int 6]) (rest0 := []) ⟨hx, hb, hml, hown, hts⟩ (c_X8_ofScope l D cA ad tr R13 H.size τ pd π bd tp ρ h102 (nI k) 6 (nI_pos (by omega)) (by rw [h.1.1.2.2.2.1]; exact (nI_ltI (by omega) (by omega)).mpr (by omega)) (by decide) (by decide)) (cwV 2 hts gl_areScopesRight_X8_ofScope rfl rfl rfl (by decide +kernel) ⟨Nat.le_of_ble_eq_true rfl, Nat.le_of_ble_eq_true rfl⟩) hK hP hD hS hA 209 w_tp rfl hl.1 rfl rfl (Nat.le_of_ble_eq_true rfl) ⟨Nat.le_of_ble_eq_true rfl, Nat.le_of_ble_eq_true rfl⟩ dL_areScopesRight_138 (fun r _ H locs hw hP hD hS => ?_)
          obtain rfl : r = (nI y) := hw.trans s6
          refine lv_iload hx hb dL_areScopesRight_141 (lv_at hl 7 rfl) ?_
          refine lv_icmp_ne (tgt := 220) hx hb dL_areScopesRight_143 (by decide) (fun c_143_67 => ?_) (fun c_143_67 => ?_)
          · exact absurd ((nI_eq (a := y) (b := y) (by omega) (by omega)).mpr (by omega)) c_143_67
          · skip
            refine lv_aload_n hx hb dL_areScopesRight_146 rfl (lv_at hl 1 rfl) ?_
            refine lv_iload hx hb dL_areScopesRight_147 (lv_at hl 5 rfl) ?_
            refine lv_bipush (v := 7) hx hb dL_areScopesRight_149 (by decide) ?_
            refine x_Vi (As := [.int (nI k), .int 7]) (rest0 := []) ⟨hx, hb, hml, hown, hts⟩ (c_X8_ofScope l D cA ad tr R13 H.size τ pd π bd tp ρ h102 (nI k) 7 (nI_pos (by omega)) (by rw [h.1.1.2.2.2.1]; exact (nI_ltI (by omega) (by omega)).mpr (by omega)) (by decide) (by decide)) (cwV 2 hts gl_areScopesRight_X8_ofScope rfl rfl rfl (by decide +kernel) ⟨Nat.le_of_ble_eq_true rfl, Nat.le_of_ble_eq_true rfl⟩) hK hP hD hS hA 209 w_tp rfl hl.1 rfl rfl (Nat.le_of_ble_eq_true rfl) ⟨Nat.le_of_ble_eq_true rfl, Nat.le_of_ble_eq_true rfl⟩ dL_areScopesRight_151 (fun r _ H locs hw hP hD hS => ?_)
            obtain rfl : r = (nI z) := hw.trans s7
            refine lv_iload hx hb dL_areScopesRight_154 (lv_at hl 8 rfl) ?_
            refine lv_icmp_ne (tgt := 220) hx hb dL_areScopesRight_156 (by decide) (fun c_156_68 => ?_) (fun c_156_68 => ?_)
            · exact absurd ((nI_eq (a := z) (b := z) (by omega) (by omega)).mpr (by omega)) c_156_68
            · skip
              refine lv_iload hx hb dL_areScopesRight_159 (lv_at hl 0 rfl) ?_
              refine lv_if_lt (tgt := 168) hx hb dL_areScopesRight_161 (by decide) (fun c_161_69 => ?_) (fun c_161_69 => ?_)
              · skip
                refine lv_iconst (v := 0) hx hb dL_areScopesRight_168 (by decide) ?_
                refine lv_iload hx hb dL_areScopesRight_169 (lv_at hl 8 rfl) ?_
                refine lv_if_le (tgt := 178) hx hb dL_areScopesRight_171 (by decide) (fun c_171_70 => ?_) (fun c_171_70 => ?_)
                · skip
                  refine lv_iconst (v := 0) hx hb dL_areScopesRight_178 (by decide) ?_
                  refine lv_icmp_ne (tgt := 220) hx hb dL_areScopesRight_179 (by decide) (fun c_179_71 => ?_) (fun c_179_71 => ?_)
                  · exact absurd c_179_71 (by decide)
                  · skip
                    refine lv_iload hx hb dL_areScopesRight_182 (lv_at hl 0 rfl) ?_
                    refine lv_if_lt (tgt := 222) hx hb dL_areScopesRight_184 (by decide) (fun c_184_72 => ?_) (fun c_184_72 => ?_)
                    · skip
                      exact J222 H locs ls hP hD hS (lv_sub hl [1, 2, 3, 4, 5, 6, 7, 8] rfl)
                    · exact absurd c_184_72 (by decide)
                · exact absurd ((nI_leI (a := z) (b := 0) (by omega) (by omega)).mpr (by omega)) c_171_70
              · exact absurd c_161_69 (by decide)
      · skip
        rw [← jz] at z0
        refine lv_aload_n hx hb dL_areScopesRight_111 rfl (lv_at hl 0 rfl) ?_
        refine lv_iload hx hb dL_areScopesRight_112 (lv_at hl 4 rfl) ?_
        refine lv_bipush (v := 8) hx hb dL_areScopesRight_114 (by decide) ?_
        refine x_Vi (As := [.int (nI k), .int 8]) (rest0 := []) ⟨hx, hb, hml, hown, hts⟩ (c_X8_ofScope l D cA ad tr R13 H.size τ pd π bd tp ρ h102 (nI k) 8 (nI_pos (by omega)) (by rw [h.1.1.2.2.2.1]; exact (nI_ltI (by omega) (by omega)).mpr (by omega)) (by decide) (by decide)) (cwV 2 hts gl_areScopesRight_X8_ofScope rfl rfl rfl (by decide +kernel) ⟨Nat.le_of_ble_eq_true rfl, Nat.le_of_ble_eq_true rfl⟩) hK hP hD hS hA 209 w_tp rfl hl.1 rfl rfl (Nat.le_of_ble_eq_true rfl) ⟨Nat.le_of_ble_eq_true rfl, Nat.le_of_ble_eq_true rfl⟩ dL_areScopesRight_116 (fun r _ H locs hw hP hD hS => ?_)
        obtain rfl : r = (nI f8) := hw.trans s8
        refine lv_istore (lv' := [(8, .int (nI f8)), (0, .ref tp), (1, .int (nI a)), (2, .int (nI b)), (3, .ref q1), (4, .int (nI k)), (5, .int (nI x)), (6, .int (nI y)), (7, .int (nI z))]) hx hb dL_areScopesRight_119 hl (by decide) rfl (fun ls hl => ?_)
        refine lv_aload_n hx hb dL_areScopesRight_121 rfl (lv_at hl 1 rfl) ?_
        refine lv_iload hx hb dL_areScopesRight_122 (lv_at hl 5 rfl) ?_
        refine lv_iconst (v := 5) hx hb dL_areScopesRight_124 (by decide) ?_
        refine x_Vi (As := [.int (nI k), .int 5]) (rest0 := []) ⟨hx, hb, hml, hown, hts⟩ (c_X8_ofScope l D cA ad tr R13 H.size τ pd π bd tp ρ h102 (nI k) 5 (nI_pos (by omega)) (by rw [h.1.1.2.2.2.1]; exact (nI_ltI (by omega) (by omega)).mpr (by omega)) (by decide) (by decide)) (cwV 2 hts gl_areScopesRight_X8_ofScope rfl rfl rfl (by decide +kernel) ⟨Nat.le_of_ble_eq_true rfl, Nat.le_of_ble_eq_true rfl⟩) hK hP hD hS hA 209 w_tp rfl hl.1 rfl rfl (Nat.le_of_ble_eq_true rfl) ⟨Nat.le_of_ble_eq_true rfl, Nat.le_of_ble_eq_true rfl⟩ dL_areScopesRight_125 (fun r _ H locs hw hP hD hS => ?_)
        obtain rfl : r = (nI x) := hw.trans s5
        refine lv_iload hx hb dL_areScopesRight_128 (lv_at hl 6 rfl) ?_
        refine lv_icmp_ne (tgt := 220) hx hb dL_areScopesRight_130 (by decide) (fun c_130_73 => ?_) (fun c_130_73 => ?_)
        · exact absurd ((nI_eq (a := x) (b := x) (by omega) (by omega)).mpr (by omega)) c_130_73
        · skip
          refine lv_aload_n hx hb dL_areScopesRight_133 rfl (lv_at hl 1 rfl) ?_
          refine lv_iload hx hb dL_areScopesRight_134 (lv_at hl 5 rfl) ?_
          refine lv_bipush (v := 6) hx hb dL_areScopesRight_136 (by decide) ?_
          refine x_Vi (As := [.int (nI k), .int 6]) (rest0 := []) ⟨hx, hb, hml, hown, hts⟩ (c_X8_ofScope l D cA ad tr R13 H.size τ pd π bd tp ρ h102 (nI k) 6 (nI_pos (by omega)) (by rw [h.1.1.2.2.2.1]; exact (nI_ltI (by omega) (by omega)).mpr (by omega)) (by decide) (by decide)) (cwV 2 hts gl_areScopesRight_X8_ofScope rfl rfl rfl (by decide +kernel) ⟨Nat.le_of_ble_eq_true rfl, Nat.le_of_ble_eq_true rfl⟩) hK hP hD hS hA 209 w_tp rfl hl.1 rfl rfl (Nat.le_of_ble_eq_true rfl) ⟨Nat.le_of_ble_eq_true rfl, Nat.le_of_ble_eq_true rfl⟩ dL_areScopesRight_138 (fun r _ H locs hw hP hD hS => ?_)
          obtain rfl : r = (nI y) := hw.trans s6
          refine lv_iload hx hb dL_areScopesRight_141 (lv_at hl 7 rfl) ?_
          refine lv_icmp_ne (tgt := 220) hx hb dL_areScopesRight_143 (by decide) (fun c_143_74 => ?_) (fun c_143_74 => ?_)
          · exact absurd ((nI_eq (a := y) (b := y) (by omega) (by omega)).mpr (by omega)) c_143_74
          · skip
            refine lv_aload_n hx hb dL_areScopesRight_146 rfl (lv_at hl 1 rfl) ?_
            refine lv_iload hx hb dL_areScopesRight_147 (lv_at hl 5 rfl) ?_
            refine lv_bipush (v := 7) hx hb dL_areScopesRight_149 (by decide) ?_
            refine x_Vi (As := [.int (nI k), .int 7]) (rest0 := []) ⟨hx, hb, hml, hown, hts⟩ (c_X8_ofScope l D cA ad tr R13 H.size τ pd π bd tp ρ h102 (nI k) 7 (nI_pos (by omega)) (by rw [h.1.1.2.2.2.1]; exact (nI_ltI (by omega) (by omega)).mpr (by omega)) (by decide) (by decide)) (cwV 2 hts gl_areScopesRight_X8_ofScope rfl rfl rfl (by decide +kernel) ⟨Nat.le_of_ble_eq_true rfl, Nat.le_of_ble_eq_true rfl⟩) hK hP hD hS hA 209 w_tp rfl hl.1 rfl rfl (Nat.le_of_ble_eq_true rfl) ⟨Nat.le_of_ble_eq_true rfl, Nat.le_of_ble_eq_true rfl⟩ dL_areScopesRight_151 (fun r _ H locs hw hP hD hS => ?_)
            obtain rfl : r = (nI z) := hw.trans s7
            refine lv_iload hx hb dL_areScopesRight_154 (lv_at hl 8 rfl) ?_
            refine lv_icmp_ne (tgt := 220) hx hb dL_areScopesRight_156 (by decide) (fun c_156_75 => ?_) (fun c_156_75 => ?_)
            · exact absurd ((nI_eq (a := z) (b := z) (by omega) (by omega)).mpr (by omega)) c_156_75
            · skip
              refine lv_iload hx hb dL_areScopesRight_159 (lv_at hl 0 rfl) ?_
              refine lv_if_lt (tgt := 168) hx hb dL_areScopesRight_161 (by decide) (fun c_161_76 => ?_) (fun c_161_76 => ?_)
              · exact absurd ((nI_ltI (a := f8) (b := 0) (by omega) (by omega)).mp c_161_76) (by omega)
              · skip
                refine lv_iconst (v := 1) hx hb dL_areScopesRight_164 (by decide) ?_
                refine lv_goto (tgt := 169) hx hb dL_areScopesRight_165 (by decide) ?_
                refine lv_iload hx hb dL_areScopesRight_169 (lv_at hl 8 rfl) ?_
                refine lv_if_le (tgt := 178) hx hb dL_areScopesRight_171 (by decide) (fun c_171_77 => ?_) (fun c_171_77 => ?_)
                · exact absurd ((nI_leI (a := z) (b := 0) (by omega) (by omega)).mp c_171_77) (by omega)
                · skip
                  refine lv_iconst (v := 1) hx hb dL_areScopesRight_174 (by decide) ?_
                  refine lv_goto (tgt := 179) hx hb dL_areScopesRight_175 (by decide) ?_
                  refine lv_icmp_ne (tgt := 220) hx hb dL_areScopesRight_179 (by decide) (fun c_179_78 => ?_) (fun c_179_78 => ?_)
                  · exact absurd c_179_78 (by decide)
                  · skip
                    refine lv_iload hx hb dL_areScopesRight_182 (lv_at hl 0 rfl) ?_
                    refine lv_if_lt (tgt := 222) hx hb dL_areScopesRight_184 (by decide) (fun c_184_79 => ?_) (fun c_184_79 => ?_)
                    · exact absurd ((nI_ltI (a := f8) (b := 0) (by omega) (by omega)).mp c_184_79) (by omega)
                    · skip
                      refine lv_aload_n hx hb dL_areScopesRight_187 rfl (lv_at hl 1 rfl) ?_
                      refine lv_iload hx hb dL_areScopesRight_188 (lv_at hl 0 rfl) ?_
                      refine lv_iconst (v := 4) hx hb dL_areScopesRight_190 (by decide) ?_
                      refine x_Vi (As := [.int (nI f8), .int 4]) (rest0 := []) ⟨hx, hb, hml, hown, hts⟩ (c_X8_ofTask l D cA ad tr R13 H.size τ pd π bd tp ρ h102 (nI f8) 4 (nI_pos (by omega)) (by rw [h.1.1.2.2.1]; exact (nI_ltI (by omega) (by omega)).mpr (by omega)) (by decide) (by decide)) (cwV 2 hts gl_areScopesRight_X8_ofTask rfl rfl rfl (by decide +kernel) ⟨Nat.le_of_ble_eq_true rfl, Nat.le_of_ble_eq_true rfl⟩) hK hP hD hS hA 209 w_tp rfl hl.1 rfl rfl (Nat.le_of_ble_eq_true rfl) ⟨Nat.le_of_ble_eq_true rfl, Nat.le_of_ble_eq_true rfl⟩ dL_areScopesRight_191 (fun r _ H locs hw hP hD hS => ?_)
                      obtain rfl : r = (nI k) := hw.trans f4
                      refine lv_iload hx hb dL_areScopesRight_194 (lv_at hl 5 rfl) ?_
                      refine lv_icmp_ne (tgt := 220) hx hb dL_areScopesRight_196 (by decide) (fun c_196_80 => ?_) (fun c_196_80 => ?_)
                      · exact absurd ((nI_eq (a := k) (b := k) (by omega) (by omega)).mpr (by omega)) c_196_80
                      · skip
                        refine lv_aload_n hx hb dL_areScopesRight_199 rfl (lv_at hl 1 rfl) ?_
                        refine lv_iload hx hb dL_areScopesRight_200 (lv_at hl 0 rfl) ?_
                        refine lv_iconst (v := 1) hx hb dL_areScopesRight_202 (by decide) ?_
                        refine x_Vi (As := [.int (nI f8), .int 1]) (rest0 := []) ⟨hx, hb, hml, hown, hts⟩ (c_X8_ofTask l D cA ad tr R13 H.size τ pd π bd tp ρ h102 (nI f8) 1 (nI_pos (by omega)) (by rw [h.1.1.2.2.1]; exact (nI_ltI (by omega) (by omega)).mpr (by omega)) (by decide) (by decide)) (cwV 2 hts gl_areScopesRight_X8_ofTask rfl rfl rfl (by decide +kernel) ⟨Nat.le_of_ble_eq_true rfl, Nat.le_of_ble_eq_true rfl⟩) hK hP hD hS hA 209 w_tp rfl hl.1 rfl rfl (Nat.le_of_ble_eq_true rfl) ⟨Nat.le_of_ble_eq_true rfl, Nat.le_of_ble_eq_true rfl⟩ dL_areScopesRight_203 (fun r _ H locs hw hP hD hS => ?_)
                        obtain rfl : r = 3 := hw.trans f1
                        refine lv_iconst (v := 3) hx hb dL_areScopesRight_206 (by decide) ?_
                        refine lv_icmp_ne (tgt := 220) hx hb dL_areScopesRight_207 (by decide) (fun c_207_81 => ?_) (fun c_207_81 => ?_)
                        · exact absurd c_207_81 (by decide)
                        · skip
                          refine lv_aload_n hx hb dL_areScopesRight_210 rfl (lv_at hl 1 rfl) ?_
                          refine lv_iload hx hb dL_areScopesRight_211 (lv_at hl 5 rfl) ?_
                          refine lv_iconst (v := 2) hx hb dL_areScopesRight_213 (by decide) ?_
                          refine x_Vi (As := [.int (nI k), .int 2]) (rest0 := []) ⟨hx, hb, hml, hown, hts⟩ (c_X8_ofScope l D cA ad tr R13 H.size τ pd π bd tp ρ h102 (nI k) 2 (nI_pos (by omega)) (by rw [h.1.1.2.2.2.1]; exact (nI_ltI (by omega) (by omega)).mpr (by omega)) (by decide) (by decide)) (cwV 2 hts gl_areScopesRight_X8_ofScope rfl rfl rfl (by decide +kernel) ⟨Nat.le_of_ble_eq_true rfl, Nat.le_of_ble_eq_true rfl⟩) hK hP hD hS hA 209 w_tp rfl hl.1 rfl rfl (Nat.le_of_ble_eq_true rfl) ⟨Nat.le_of_ble_eq_true rfl, Nat.le_of_ble_eq_true rfl⟩ dL_areScopesRight_214 (fun r _ H locs hw hP hD hS => ?_)
                          obtain rfl : r = 1 := hw.trans k2
                          refine lv_if_ne (tgt := 222) hx hb dL_areScopesRight_217 (by decide) (fun c_217_82 => ?_) (fun c_217_82 => ?_)
                          · skip
                            exact J222 H locs ls hP hD hS (lv_sub hl [1, 2, 3, 4, 5, 6, 7, 8] rfl)
                          · exact absurd c_217_82 (by decide)
    · skip
      have hj : j < T := Nat.not_le.mp (fun z => c_42_14 ((nI_leI (by omega) (by omega)).mpr z))
      obtain ⟨n3, rfl⟩ : ∃ j, n3 = j + 1 := ⟨n3 - 1, by omega⟩
      have l1 := cnt_le (isI τ k) j
      have l2 := cnt_le (ovI τ none k) j
      have l3 := cnt_le (faI τ none k) j
      refine lv_aload_n hx hb dL_areScopesRight_45 rfl (lv_at hl 0 rfl) ?_
      refine lv_iload hx hb dL_areScopesRight_46 (lv_at hl 8 rfl) ?_
      refine lv_iconst (v := 4) hx hb dL_areScopesRight_48 (by decide) ?_
      refine x_Vi (As := [.int (nI j), .int 4]) (rest0 := []) ⟨hx, hb, hml, hown, hts⟩ (c_X8_ofTask l D cA ad tr R13 H.size τ pd π bd tp ρ h102 (nI j) 4 (nI_pos (by omega)) (by rw [h.1.1.2.2.1]; exact (nI_ltI (by omega) (by omega)).mpr (by omega)) (by decide) (by decide)) (cwV 2 hts gl_areScopesRight_X8_ofTask rfl rfl rfl (by decide +kernel) ⟨Nat.le_of_ble_eq_true rfl, Nat.le_of_ble_eq_true rfl⟩) hK hP hD hS hA 209 w_tp rfl hl.1 rfl rfl (Nat.le_of_ble_eq_true rfl) ⟨Nat.le_of_ble_eq_true rfl, Nat.le_of_ble_eq_true rfl⟩ dL_areScopesRight_49 (fun r _ H locs hw hP hD hS => ?_)
      obtain rfl : r = (τ (j + 6) 6) := hw.trans (aT4 (by omega))
      refine lv_iload hx hb dL_areScopesRight_52 (lv_at hl 4 rfl) ?_
      refine lv_icmp_eq (tgt := 60) hx hb dL_areScopesRight_54 (by decide) (fun c_54_83 => ?_) (fun c_54_83 => ?_)
      · skip
        have hc := c_54_83
        rcases task_st h hj with e0 | e0 | e0 | e0 | e0
        · skip
          refine lv_iinc (v := (nI (x + 1))) (lv' := [(5, .int (nI (x + 1))), (0, .ref tp), (1, .int (nI a)), (2, .int (nI b)), (3, .ref q1), (4, .int (nI k)), (6, .int (nI y)), (7, .int (nI z)), (8, .int (nI j))]) hx hb dL_areScopesRight_60 hl (k := 5) rfl (show (nI x) + 1 = (nI (x + 1)) from nI_1 x) (by decide) rfl (fun ls hl => ?_)
          refine lv_iload hx hb dL_areScopesRight_63 (lv_at hl 6 rfl) ?_
          refine lv_aload_n hx hb dL_areScopesRight_65 rfl (lv_at hl 1 rfl) ?_
          refine lv_iload hx hb dL_areScopesRight_66 (lv_at hl 8 rfl) ?_
          refine lv_iconst (v := 1) hx hb dL_areScopesRight_68 (by decide) ?_
          refine x_Vi (As := [.int (nI j), .int 1]) (rest0 := [.int (nI y)]) ⟨hx, hb, hml, hown, hts⟩ (c_X8_ofTask l D cA ad tr R13 H.size τ pd π bd tp ρ h102 (nI j) 1 (nI_pos (by omega)) (by rw [h.1.1.2.2.1]; exact (nI_ltI (by omega) (by omega)).mpr (by omega)) (by decide) (by decide)) (cwV 2 hts gl_areScopesRight_X8_ofTask rfl rfl rfl (by decide +kernel) ⟨Nat.le_of_ble_eq_true rfl, Nat.le_of_ble_eq_true rfl⟩) hK hP hD hS hA 209 w_tp rfl hl.1 rfl rfl (Nat.le_of_ble_eq_true rfl) ⟨Nat.le_of_ble_eq_true rfl, Nat.le_of_ble_eq_true rfl⟩ dL_areScopesRight_69 (fun r _ H locs hw hP hD hS => ?_)
          obtain rfl : r = 0 := hw.trans ((aT1 (by omega)).trans e0)
          refine lv_iconst (v := 1) hx hb dL_areScopesRight_72 (by decide) ?_
          refine lv_icmp_le (tgt := 80) hx hb dL_areScopesRight_73 (by decide) (fun c_73_84 => ?_) (fun c_73_84 => ?_)
          · skip
            refine lv_iconst (v := 0) hx hb dL_areScopesRight_80 (by decide) ?_
            refine lv_iadd hx hb dL_areScopesRight_81 ?_
            refine W.eq (g2 := F0 m 82 ls [.int (nI (y + 0))]) (by rw [show ((nI y) : Int32) + 0 = (nI (y + 0)) from nI_add y 0]) ?_
            refine lv_istore (lv' := [(6, .int (nI (y + 0))), (5, .int (nI (x + 1))), (0, .ref tp), (1, .int (nI a)), (2, .int (nI b)), (3, .ref q1), (4, .int (nI k)), (7, .int (nI z)), (8, .int (nI j))]) hx hb dL_areScopesRight_82 hl (by decide) rfl (fun ls hl => ?_)
            refine lv_iload hx hb dL_areScopesRight_84 (lv_at hl 7 rfl) ?_
            refine lv_aload_n hx hb dL_areScopesRight_86 rfl (lv_at hl 2 rfl) ?_
            refine lv_iload hx hb dL_areScopesRight_87 (lv_at hl 8 rfl) ?_
            refine lv_iconst (v := 1) hx hb dL_areScopesRight_89 (by decide) ?_
            refine x_Vi (As := [.int (nI j), .int 1]) (rest0 := [.int (nI z)]) ⟨hx, hb, hml, hown, hts⟩ (c_X8_ofTask l D cA ad tr R13 H.size τ pd π bd tp ρ h102 (nI j) 1 (nI_pos (by omega)) (by rw [h.1.1.2.2.1]; exact (nI_ltI (by omega) (by omega)).mpr (by omega)) (by decide) (by decide)) (cwV 2 hts gl_areScopesRight_X8_ofTask rfl rfl rfl (by decide +kernel) ⟨Nat.le_of_ble_eq_true rfl, Nat.le_of_ble_eq_true rfl⟩) hK hP hD hS hA 209 w_tp rfl hl.1 rfl rfl (Nat.le_of_ble_eq_true rfl) ⟨Nat.le_of_ble_eq_true rfl, Nat.le_of_ble_eq_true rfl⟩ dL_areScopesRight_90 (fun r _ H locs hw hP hD hS => ?_)
            obtain rfl : r = 0 := hw.trans ((aT1 (by omega)).trans e0)
            refine lv_iconst (v := 3) hx hb dL_areScopesRight_93 (by decide) ?_
            refine lv_icmp_ne (tgt := 101) hx hb dL_areScopesRight_94 (by decide) (fun c_94_85 => ?_) (fun c_94_85 => ?_)
            · skip
              refine lv_iconst (v := 0) hx hb dL_areScopesRight_101 (by decide) ?_
              refine lv_iadd hx hb dL_areScopesRight_102 ?_
              refine W.eq (g2 := F0 m 103 ls [.int (nI (z + 0))]) (by rw [show ((nI z) : Int32) + 0 = (nI (z + 0)) from nI_add z 0]) ?_
              refine lv_istore (lv' := [(7, .int (nI (z + 0))), (6, .int (nI (y + 0))), (5, .int (nI (x + 1))), (0, .ref tp), (1, .int (nI a)), (2, .int (nI b)), (3, .ref q1), (4, .int (nI k)), (8, .int (nI j))]) hx hb dL_areScopesRight_103 hl (by decide) rfl (fun ls hl => ?_)
              refine lv_iinc (v := (nI (j + 1))) (lv' := [(8, .int (nI (j + 1))), (7, .int (nI (z + 0))), (6, .int (nI (y + 0))), (5, .int (nI (x + 1))), (0, .ref tp), (1, .int (nI a)), (2, .int (nI b)), (3, .ref q1), (4, .int (nI k))]) hx hb dL_areScopesRight_105 hl (k := 8) rfl (show (nI j) + 1 = (nI (j + 1)) from nI_1 j) (by decide) rfl (fun ls hl => ?_)
              refine lv_goto (tgt := 35) hx hb dL_areScopesRight_108 (by decide) ?_
              exact ih3 n3 (Nat.lt_succ_self n3) H locs ls ⟨(x + 1), y, z, (j + 1), R13, ⟨by omega, cnt_t jx (isI_t hc), cnt_f jy (ovI_g (show ali τ j from Or.inl e0)), cnt_f jz (faI_g (by rw [e0]; decide)), eR13⟩, hP, hD, hS, lv_sub hl [4, 5, 6, 7, 8, 3, 2, 1, 0] rfl⟩
            · exact absurd c_94_85 (by decide)
          · exact absurd c_73_84 (by decide)
        · skip
          refine lv_iinc (v := (nI (x + 1))) (lv' := [(5, .int (nI (x + 1))), (0, .ref tp), (1, .int (nI a)), (2, .int (nI b)), (3, .ref q1), (4, .int (nI k)), (6, .int (nI y)), (7, .int (nI z)), (8, .int (nI j))]) hx hb dL_areScopesRight_60 hl (k := 5) rfl (show (nI x) + 1 = (nI (x + 1)) from nI_1 x) (by decide) rfl (fun ls hl => ?_)
          refine lv_iload hx hb dL_areScopesRight_63 (lv_at hl 6 rfl) ?_
          refine lv_aload_n hx hb dL_areScopesRight_65 rfl (lv_at hl 1 rfl) ?_
          refine lv_iload hx hb dL_areScopesRight_66 (lv_at hl 8 rfl) ?_
          refine lv_iconst (v := 1) hx hb dL_areScopesRight_68 (by decide) ?_
          refine x_Vi (As := [.int (nI j), .int 1]) (rest0 := [.int (nI y)]) ⟨hx, hb, hml, hown, hts⟩ (c_X8_ofTask l D cA ad tr R13 H.size τ pd π bd tp ρ h102 (nI j) 1 (nI_pos (by omega)) (by rw [h.1.1.2.2.1]; exact (nI_ltI (by omega) (by omega)).mpr (by omega)) (by decide) (by decide)) (cwV 2 hts gl_areScopesRight_X8_ofTask rfl rfl rfl (by decide +kernel) ⟨Nat.le_of_ble_eq_true rfl, Nat.le_of_ble_eq_true rfl⟩) hK hP hD hS hA 209 w_tp rfl hl.1 rfl rfl (Nat.le_of_ble_eq_true rfl) ⟨Nat.le_of_ble_eq_true rfl, Nat.le_of_ble_eq_true rfl⟩ dL_areScopesRight_69 (fun r _ H locs hw hP hD hS => ?_)
          obtain rfl : r = 1 := hw.trans ((aT1 (by omega)).trans e0)
          refine lv_iconst (v := 1) hx hb dL_areScopesRight_72 (by decide) ?_
          refine lv_icmp_le (tgt := 80) hx hb dL_areScopesRight_73 (by decide) (fun c_73_86 => ?_) (fun c_73_86 => ?_)
          · skip
            refine lv_iconst (v := 0) hx hb dL_areScopesRight_80 (by decide) ?_
            refine lv_iadd hx hb dL_areScopesRight_81 ?_
            refine W.eq (g2 := F0 m 82 ls [.int (nI (y + 0))]) (by rw [show ((nI y) : Int32) + 0 = (nI (y + 0)) from nI_add y 0]) ?_
            refine lv_istore (lv' := [(6, .int (nI (y + 0))), (5, .int (nI (x + 1))), (0, .ref tp), (1, .int (nI a)), (2, .int (nI b)), (3, .ref q1), (4, .int (nI k)), (7, .int (nI z)), (8, .int (nI j))]) hx hb dL_areScopesRight_82 hl (by decide) rfl (fun ls hl => ?_)
            refine lv_iload hx hb dL_areScopesRight_84 (lv_at hl 7 rfl) ?_
            refine lv_aload_n hx hb dL_areScopesRight_86 rfl (lv_at hl 2 rfl) ?_
            refine lv_iload hx hb dL_areScopesRight_87 (lv_at hl 8 rfl) ?_
            refine lv_iconst (v := 1) hx hb dL_areScopesRight_89 (by decide) ?_
            refine x_Vi (As := [.int (nI j), .int 1]) (rest0 := [.int (nI z)]) ⟨hx, hb, hml, hown, hts⟩ (c_X8_ofTask l D cA ad tr R13 H.size τ pd π bd tp ρ h102 (nI j) 1 (nI_pos (by omega)) (by rw [h.1.1.2.2.1]; exact (nI_ltI (by omega) (by omega)).mpr (by omega)) (by decide) (by decide)) (cwV 2 hts gl_areScopesRight_X8_ofTask rfl rfl rfl (by decide +kernel) ⟨Nat.le_of_ble_eq_true rfl, Nat.le_of_ble_eq_true rfl⟩) hK hP hD hS hA 209 w_tp rfl hl.1 rfl rfl (Nat.le_of_ble_eq_true rfl) ⟨Nat.le_of_ble_eq_true rfl, Nat.le_of_ble_eq_true rfl⟩ dL_areScopesRight_90 (fun r _ H locs hw hP hD hS => ?_)
            obtain rfl : r = 1 := hw.trans ((aT1 (by omega)).trans e0)
            refine lv_iconst (v := 3) hx hb dL_areScopesRight_93 (by decide) ?_
            refine lv_icmp_ne (tgt := 101) hx hb dL_areScopesRight_94 (by decide) (fun c_94_87 => ?_) (fun c_94_87 => ?_)
            · skip
              refine lv_iconst (v := 0) hx hb dL_areScopesRight_101 (by decide) ?_
              refine lv_iadd hx hb dL_areScopesRight_102 ?_
              refine W.eq (g2 := F0 m 103 ls [.int (nI (z + 0))]) (by rw [show ((nI z) : Int32) + 0 = (nI (z + 0)) from nI_add z 0]) ?_
              refine lv_istore (lv' := [(7, .int (nI (z + 0))), (6, .int (nI (y + 0))), (5, .int (nI (x + 1))), (0, .ref tp), (1, .int (nI a)), (2, .int (nI b)), (3, .ref q1), (4, .int (nI k)), (8, .int (nI j))]) hx hb dL_areScopesRight_103 hl (by decide) rfl (fun ls hl => ?_)
              refine lv_iinc (v := (nI (j + 1))) (lv' := [(8, .int (nI (j + 1))), (7, .int (nI (z + 0))), (6, .int (nI (y + 0))), (5, .int (nI (x + 1))), (0, .ref tp), (1, .int (nI a)), (2, .int (nI b)), (3, .ref q1), (4, .int (nI k))]) hx hb dL_areScopesRight_105 hl (k := 8) rfl (show (nI j) + 1 = (nI (j + 1)) from nI_1 j) (by decide) rfl (fun ls hl => ?_)
              refine lv_goto (tgt := 35) hx hb dL_areScopesRight_108 (by decide) ?_
              exact ih3 n3 (Nat.lt_succ_self n3) H locs ls ⟨(x + 1), y, z, (j + 1), R13, ⟨by omega, cnt_t jx (isI_t hc), cnt_f jy (ovI_g (show ali τ j from Or.inr e0)), cnt_f jz (faI_g (by rw [e0]; decide)), eR13⟩, hP, hD, hS, lv_sub hl [4, 5, 6, 7, 8, 3, 2, 1, 0] rfl⟩
            · exact absurd c_94_87 (by decide)
          · exact absurd c_73_86 (by decide)
        · skip
          refine lv_iinc (v := (nI (x + 1))) (lv' := [(5, .int (nI (x + 1))), (0, .ref tp), (1, .int (nI a)), (2, .int (nI b)), (3, .ref q1), (4, .int (nI k)), (6, .int (nI y)), (7, .int (nI z)), (8, .int (nI j))]) hx hb dL_areScopesRight_60 hl (k := 5) rfl (show (nI x) + 1 = (nI (x + 1)) from nI_1 x) (by decide) rfl (fun ls hl => ?_)
          refine lv_iload hx hb dL_areScopesRight_63 (lv_at hl 6 rfl) ?_
          refine lv_aload_n hx hb dL_areScopesRight_65 rfl (lv_at hl 1 rfl) ?_
          refine lv_iload hx hb dL_areScopesRight_66 (lv_at hl 8 rfl) ?_
          refine lv_iconst (v := 1) hx hb dL_areScopesRight_68 (by decide) ?_
          refine x_Vi (As := [.int (nI j), .int 1]) (rest0 := [.int (nI y)]) ⟨hx, hb, hml, hown, hts⟩ (c_X8_ofTask l D cA ad tr R13 H.size τ pd π bd tp ρ h102 (nI j) 1 (nI_pos (by omega)) (by rw [h.1.1.2.2.1]; exact (nI_ltI (by omega) (by omega)).mpr (by omega)) (by decide) (by decide)) (cwV 2 hts gl_areScopesRight_X8_ofTask rfl rfl rfl (by decide +kernel) ⟨Nat.le_of_ble_eq_true rfl, Nat.le_of_ble_eq_true rfl⟩) hK hP hD hS hA 209 w_tp rfl hl.1 rfl rfl (Nat.le_of_ble_eq_true rfl) ⟨Nat.le_of_ble_eq_true rfl, Nat.le_of_ble_eq_true rfl⟩ dL_areScopesRight_69 (fun r _ H locs hw hP hD hS => ?_)
          obtain rfl : r = 2 := hw.trans ((aT1 (by omega)).trans e0)
          refine lv_iconst (v := 1) hx hb dL_areScopesRight_72 (by decide) ?_
          refine lv_icmp_le (tgt := 80) hx hb dL_areScopesRight_73 (by decide) (fun c_73_88 => ?_) (fun c_73_88 => ?_)
          · exact absurd c_73_88 (by decide)
          · skip
            refine lv_iconst (v := 1) hx hb dL_areScopesRight_76 (by decide) ?_
            refine lv_goto (tgt := 81) hx hb dL_areScopesRight_77 (by decide) ?_
            refine lv_iadd hx hb dL_areScopesRight_81 ?_
            refine W.eq (g2 := F0 m 82 ls [.int (nI (y + 1))]) (by rw [show ((nI y) : Int32) + 1 = (nI (y + 1)) from nI_add y 1]) ?_
            refine lv_istore (lv' := [(6, .int (nI (y + 1))), (5, .int (nI (x + 1))), (0, .ref tp), (1, .int (nI a)), (2, .int (nI b)), (3, .ref q1), (4, .int (nI k)), (7, .int (nI z)), (8, .int (nI j))]) hx hb dL_areScopesRight_82 hl (by decide) rfl (fun ls hl => ?_)
            refine lv_iload hx hb dL_areScopesRight_84 (lv_at hl 7 rfl) ?_
            refine lv_aload_n hx hb dL_areScopesRight_86 rfl (lv_at hl 2 rfl) ?_
            refine lv_iload hx hb dL_areScopesRight_87 (lv_at hl 8 rfl) ?_
            refine lv_iconst (v := 1) hx hb dL_areScopesRight_89 (by decide) ?_
            refine x_Vi (As := [.int (nI j), .int 1]) (rest0 := [.int (nI z)]) ⟨hx, hb, hml, hown, hts⟩ (c_X8_ofTask l D cA ad tr R13 H.size τ pd π bd tp ρ h102 (nI j) 1 (nI_pos (by omega)) (by rw [h.1.1.2.2.1]; exact (nI_ltI (by omega) (by omega)).mpr (by omega)) (by decide) (by decide)) (cwV 2 hts gl_areScopesRight_X8_ofTask rfl rfl rfl (by decide +kernel) ⟨Nat.le_of_ble_eq_true rfl, Nat.le_of_ble_eq_true rfl⟩) hK hP hD hS hA 209 w_tp rfl hl.1 rfl rfl (Nat.le_of_ble_eq_true rfl) ⟨Nat.le_of_ble_eq_true rfl, Nat.le_of_ble_eq_true rfl⟩ dL_areScopesRight_90 (fun r _ H locs hw hP hD hS => ?_)
            obtain rfl : r = 2 := hw.trans ((aT1 (by omega)).trans e0)
            refine lv_iconst (v := 3) hx hb dL_areScopesRight_93 (by decide) ?_
            refine lv_icmp_ne (tgt := 101) hx hb dL_areScopesRight_94 (by decide) (fun c_94_89 => ?_) (fun c_94_89 => ?_)
            · skip
              refine lv_iconst (v := 0) hx hb dL_areScopesRight_101 (by decide) ?_
              refine lv_iadd hx hb dL_areScopesRight_102 ?_
              refine W.eq (g2 := F0 m 103 ls [.int (nI (z + 0))]) (by rw [show ((nI z) : Int32) + 0 = (nI (z + 0)) from nI_add z 0]) ?_
              refine lv_istore (lv' := [(7, .int (nI (z + 0))), (6, .int (nI (y + 1))), (5, .int (nI (x + 1))), (0, .ref tp), (1, .int (nI a)), (2, .int (nI b)), (3, .ref q1), (4, .int (nI k)), (8, .int (nI j))]) hx hb dL_areScopesRight_103 hl (by decide) rfl (fun ls hl => ?_)
              refine lv_iinc (v := (nI (j + 1))) (lv' := [(8, .int (nI (j + 1))), (7, .int (nI (z + 0))), (6, .int (nI (y + 1))), (5, .int (nI (x + 1))), (0, .ref tp), (1, .int (nI a)), (2, .int (nI b)), (3, .ref q1), (4, .int (nI k))]) hx hb dL_areScopesRight_105 hl (k := 8) rfl (show (nI j) + 1 = (nI (j + 1)) from nI_1 j) (by decide) rfl (fun ls hl => ?_)
              refine lv_goto (tgt := 35) hx hb dL_areScopesRight_108 (by decide) ?_
              exact ih3 n3 (Nat.lt_succ_self n3) H locs ls ⟨(x + 1), (y + 1), z, (j + 1), R13, ⟨by omega, cnt_t jx (isI_t hc), cnt_t jy (ovI_t hc (show ovr τ j from Or.inl e0)), cnt_f jz (faI_g (by rw [e0]; decide)), eR13⟩, hP, hD, hS, lv_sub hl [4, 5, 6, 7, 8, 3, 2, 1, 0] rfl⟩
            · exact absurd c_94_89 (by decide)
        · skip
          refine lv_iinc (v := (nI (x + 1))) (lv' := [(5, .int (nI (x + 1))), (0, .ref tp), (1, .int (nI a)), (2, .int (nI b)), (3, .ref q1), (4, .int (nI k)), (6, .int (nI y)), (7, .int (nI z)), (8, .int (nI j))]) hx hb dL_areScopesRight_60 hl (k := 5) rfl (show (nI x) + 1 = (nI (x + 1)) from nI_1 x) (by decide) rfl (fun ls hl => ?_)
          refine lv_iload hx hb dL_areScopesRight_63 (lv_at hl 6 rfl) ?_
          refine lv_aload_n hx hb dL_areScopesRight_65 rfl (lv_at hl 1 rfl) ?_
          refine lv_iload hx hb dL_areScopesRight_66 (lv_at hl 8 rfl) ?_
          refine lv_iconst (v := 1) hx hb dL_areScopesRight_68 (by decide) ?_
          refine x_Vi (As := [.int (nI j), .int 1]) (rest0 := [.int (nI y)]) ⟨hx, hb, hml, hown, hts⟩ (c_X8_ofTask l D cA ad tr R13 H.size τ pd π bd tp ρ h102 (nI j) 1 (nI_pos (by omega)) (by rw [h.1.1.2.2.1]; exact (nI_ltI (by omega) (by omega)).mpr (by omega)) (by decide) (by decide)) (cwV 2 hts gl_areScopesRight_X8_ofTask rfl rfl rfl (by decide +kernel) ⟨Nat.le_of_ble_eq_true rfl, Nat.le_of_ble_eq_true rfl⟩) hK hP hD hS hA 209 w_tp rfl hl.1 rfl rfl (Nat.le_of_ble_eq_true rfl) ⟨Nat.le_of_ble_eq_true rfl, Nat.le_of_ble_eq_true rfl⟩ dL_areScopesRight_69 (fun r _ H locs hw hP hD hS => ?_)
          obtain rfl : r = 3 := hw.trans ((aT1 (by omega)).trans e0)
          refine lv_iconst (v := 1) hx hb dL_areScopesRight_72 (by decide) ?_
          refine lv_icmp_le (tgt := 80) hx hb dL_areScopesRight_73 (by decide) (fun c_73_90 => ?_) (fun c_73_90 => ?_)
          · exact absurd c_73_90 (by decide)
          · skip
            refine lv_iconst (v := 1) hx hb dL_areScopesRight_76 (by decide) ?_
            refine lv_goto (tgt := 81) hx hb dL_areScopesRight_77 (by decide) ?_
            refine lv_iadd hx hb dL_areScopesRight_81 ?_
            refine W.eq (g2 := F0 m 82 ls [.int (nI (y + 1))]) (by rw [show ((nI y) : Int32) + 1 = (nI (y + 1)) from nI_add y 1]) ?_
            refine lv_istore (lv' := [(6, .int (nI (y + 1))), (5, .int (nI (x + 1))), (0, .ref tp), (1, .int (nI a)), (2, .int (nI b)), (3, .ref q1), (4, .int (nI k)), (7, .int (nI z)), (8, .int (nI j))]) hx hb dL_areScopesRight_82 hl (by decide) rfl (fun ls hl => ?_)
            refine lv_iload hx hb dL_areScopesRight_84 (lv_at hl 7 rfl) ?_
            refine lv_aload_n hx hb dL_areScopesRight_86 rfl (lv_at hl 2 rfl) ?_
            refine lv_iload hx hb dL_areScopesRight_87 (lv_at hl 8 rfl) ?_
            refine lv_iconst (v := 1) hx hb dL_areScopesRight_89 (by decide) ?_
            refine x_Vi (As := [.int (nI j), .int 1]) (rest0 := [.int (nI z)]) ⟨hx, hb, hml, hown, hts⟩ (c_X8_ofTask l D cA ad tr R13 H.size τ pd π bd tp ρ h102 (nI j) 1 (nI_pos (by omega)) (by rw [h.1.1.2.2.1]; exact (nI_ltI (by omega) (by omega)).mpr (by omega)) (by decide) (by decide)) (cwV 2 hts gl_areScopesRight_X8_ofTask rfl rfl rfl (by decide +kernel) ⟨Nat.le_of_ble_eq_true rfl, Nat.le_of_ble_eq_true rfl⟩) hK hP hD hS hA 209 w_tp rfl hl.1 rfl rfl (Nat.le_of_ble_eq_true rfl) ⟨Nat.le_of_ble_eq_true rfl, Nat.le_of_ble_eq_true rfl⟩ dL_areScopesRight_90 (fun r _ H locs hw hP hD hS => ?_)
            obtain rfl : r = 3 := hw.trans ((aT1 (by omega)).trans e0)
            refine lv_iconst (v := 3) hx hb dL_areScopesRight_93 (by decide) ?_
            refine lv_icmp_ne (tgt := 101) hx hb dL_areScopesRight_94 (by decide) (fun c_94_91 => ?_) (fun c_94_91 => ?_)
            · exact absurd c_94_91 (by decide)
            · skip
              refine lv_iconst (v := 1) hx hb dL_areScopesRight_97 (by decide) ?_
              refine lv_goto (tgt := 102) hx hb dL_areScopesRight_98 (by decide) ?_
              refine lv_iadd hx hb dL_areScopesRight_102 ?_
              refine W.eq (g2 := F0 m 103 ls [.int (nI (z + 1))]) (by rw [show ((nI z) : Int32) + 1 = (nI (z + 1)) from nI_add z 1]) ?_
              refine lv_istore (lv' := [(7, .int (nI (z + 1))), (6, .int (nI (y + 1))), (5, .int (nI (x + 1))), (0, .ref tp), (1, .int (nI a)), (2, .int (nI b)), (3, .ref q1), (4, .int (nI k)), (8, .int (nI j))]) hx hb dL_areScopesRight_103 hl (by decide) rfl (fun ls hl => ?_)
              refine lv_iinc (v := (nI (j + 1))) (lv' := [(8, .int (nI (j + 1))), (7, .int (nI (z + 1))), (6, .int (nI (y + 1))), (5, .int (nI (x + 1))), (0, .ref tp), (1, .int (nI a)), (2, .int (nI b)), (3, .ref q1), (4, .int (nI k))]) hx hb dL_areScopesRight_105 hl (k := 8) rfl (show (nI j) + 1 = (nI (j + 1)) from nI_1 j) (by decide) rfl (fun ls hl => ?_)
              refine lv_goto (tgt := 35) hx hb dL_areScopesRight_108 (by decide) ?_
              exact ih3 n3 (Nat.lt_succ_self n3) H locs ls ⟨(x + 1), (y + 1), (z + 1), (j + 1), R13, ⟨by omega, cnt_t jx (isI_t hc), cnt_t jy (ovI_t hc (show ovr τ j from Or.inr (Or.inl e0))), cnt_t jz (faI_t hc e0), eR13⟩, hP, hD, hS, lv_sub hl [4, 5, 6, 7, 8, 3, 2, 1, 0] rfl⟩
        · skip
          refine lv_iinc (v := (nI (x + 1))) (lv' := [(5, .int (nI (x + 1))), (0, .ref tp), (1, .int (nI a)), (2, .int (nI b)), (3, .ref q1), (4, .int (nI k)), (6, .int (nI y)), (7, .int (nI z)), (8, .int (nI j))]) hx hb dL_areScopesRight_60 hl (k := 5) rfl (show (nI x) + 1 = (nI (x + 1)) from nI_1 x) (by decide) rfl (fun ls hl => ?_)
          refine lv_iload hx hb dL_areScopesRight_63 (lv_at hl 6 rfl) ?_
          refine lv_aload_n hx hb dL_areScopesRight_65 rfl (lv_at hl 1 rfl) ?_
          refine lv_iload hx hb dL_areScopesRight_66 (lv_at hl 8 rfl) ?_
          refine lv_iconst (v := 1) hx hb dL_areScopesRight_68 (by decide) ?_
          refine x_Vi (As := [.int (nI j), .int 1]) (rest0 := [.int (nI y)]) ⟨hx, hb, hml, hown, hts⟩ (c_X8_ofTask l D cA ad tr R13 H.size τ pd π bd tp ρ h102 (nI j) 1 (nI_pos (by omega)) (by rw [h.1.1.2.2.1]; exact (nI_ltI (by omega) (by omega)).mpr (by omega)) (by decide) (by decide)) (cwV 2 hts gl_areScopesRight_X8_ofTask rfl rfl rfl (by decide +kernel) ⟨Nat.le_of_ble_eq_true rfl, Nat.le_of_ble_eq_true rfl⟩) hK hP hD hS hA 209 w_tp rfl hl.1 rfl rfl (Nat.le_of_ble_eq_true rfl) ⟨Nat.le_of_ble_eq_true rfl, Nat.le_of_ble_eq_true rfl⟩ dL_areScopesRight_69 (fun r _ H locs hw hP hD hS => ?_)
          obtain rfl : r = 4 := hw.trans ((aT1 (by omega)).trans e0)
          refine lv_iconst (v := 1) hx hb dL_areScopesRight_72 (by decide) ?_
          refine lv_icmp_le (tgt := 80) hx hb dL_areScopesRight_73 (by decide) (fun c_73_92 => ?_) (fun c_73_92 => ?_)
          · exact absurd c_73_92 (by decide)
          · skip
            refine lv_iconst (v := 1) hx hb dL_areScopesRight_76 (by decide) ?_
            refine lv_goto (tgt := 81) hx hb dL_areScopesRight_77 (by decide) ?_
            refine lv_iadd hx hb dL_areScopesRight_81 ?_
            refine W.eq (g2 := F0 m 82 ls [.int (nI (y + 1))]) (by rw [show ((nI y) : Int32) + 1 = (nI (y + 1)) from nI_add y 1]) ?_
            refine lv_istore (lv' := [(6, .int (nI (y + 1))), (5, .int (nI (x + 1))), (0, .ref tp), (1, .int (nI a)), (2, .int (nI b)), (3, .ref q1), (4, .int (nI k)), (7, .int (nI z)), (8, .int (nI j))]) hx hb dL_areScopesRight_82 hl (by decide) rfl (fun ls hl => ?_)
            refine lv_iload hx hb dL_areScopesRight_84 (lv_at hl 7 rfl) ?_
            refine lv_aload_n hx hb dL_areScopesRight_86 rfl (lv_at hl 2 rfl) ?_
            refine lv_iload hx hb dL_areScopesRight_87 (lv_at hl 8 rfl) ?_
            refine lv_iconst (v := 1) hx hb dL_areScopesRight_89 (by decide) ?_
            refine x_Vi (As := [.int (nI j), .int 1]) (rest0 := [.int (nI z)]) ⟨hx, hb, hml, hown, hts⟩ (c_X8_ofTask l D cA ad tr R13 H.size τ pd π bd tp ρ h102 (nI j) 1 (nI_pos (by omega)) (by rw [h.1.1.2.2.1]; exact (nI_ltI (by omega) (by omega)).mpr (by omega)) (by decide) (by decide)) (cwV 2 hts gl_areScopesRight_X8_ofTask rfl rfl rfl (by decide +kernel) ⟨Nat.le_of_ble_eq_true rfl, Nat.le_of_ble_eq_true rfl⟩) hK hP hD hS hA 209 w_tp rfl hl.1 rfl rfl (Nat.le_of_ble_eq_true rfl) ⟨Nat.le_of_ble_eq_true rfl, Nat.le_of_ble_eq_true rfl⟩ dL_areScopesRight_90 (fun r _ H locs hw hP hD hS => ?_)
            obtain rfl : r = 4 := hw.trans ((aT1 (by omega)).trans e0)
            refine lv_iconst (v := 3) hx hb dL_areScopesRight_93 (by decide) ?_
            refine lv_icmp_ne (tgt := 101) hx hb dL_areScopesRight_94 (by decide) (fun c_94_93 => ?_) (fun c_94_93 => ?_)
            · skip
              refine lv_iconst (v := 0) hx hb dL_areScopesRight_101 (by decide) ?_
              refine lv_iadd hx hb dL_areScopesRight_102 ?_
              refine W.eq (g2 := F0 m 103 ls [.int (nI (z + 0))]) (by rw [show ((nI z) : Int32) + 0 = (nI (z + 0)) from nI_add z 0]) ?_
              refine lv_istore (lv' := [(7, .int (nI (z + 0))), (6, .int (nI (y + 1))), (5, .int (nI (x + 1))), (0, .ref tp), (1, .int (nI a)), (2, .int (nI b)), (3, .ref q1), (4, .int (nI k)), (8, .int (nI j))]) hx hb dL_areScopesRight_103 hl (by decide) rfl (fun ls hl => ?_)
              refine lv_iinc (v := (nI (j + 1))) (lv' := [(8, .int (nI (j + 1))), (7, .int (nI (z + 0))), (6, .int (nI (y + 1))), (5, .int (nI (x + 1))), (0, .ref tp), (1, .int (nI a)), (2, .int (nI b)), (3, .ref q1), (4, .int (nI k))]) hx hb dL_areScopesRight_105 hl (k := 8) rfl (show (nI j) + 1 = (nI (j + 1)) from nI_1 j) (by decide) rfl (fun ls hl => ?_)
              refine lv_goto (tgt := 35) hx hb dL_areScopesRight_108 (by decide) ?_
              exact ih3 n3 (Nat.lt_succ_self n3) H locs ls ⟨(x + 1), (y + 1), z, (j + 1), R13, ⟨by omega, cnt_t jx (isI_t hc), cnt_t jy (ovI_t hc (show ovr τ j from Or.inr (Or.inr e0))), cnt_f jz (faI_g (by rw [e0]; decide)), eR13⟩, hP, hD, hS, lv_sub hl [4, 5, 6, 7, 8, 3, 2, 1, 0] rfl⟩
            · exact absurd c_94_93 (by decide)
      · skip
        have hc := c_54_83
        refine lv_goto (tgt := 105) hx hb dL_areScopesRight_57 (by decide) ?_
        refine lv_iinc (v := (nI (j + 1))) (lv' := [(8, .int (nI (j + 1))), (0, .ref tp), (1, .int (nI a)), (2, .int (nI b)), (3, .ref q1), (4, .int (nI k)), (5, .int (nI x)), (6, .int (nI y)), (7, .int (nI z))]) hx hb dL_areScopesRight_105 hl (k := 8) rfl (show (nI j) + 1 = (nI (j + 1)) from nI_1 j) (by decide) rfl (fun ls hl => ?_)
        refine lv_goto (tgt := 35) hx hb dL_areScopesRight_108 (by decide) ?_
        exact ih3 n3 (Nat.lt_succ_self n3) H locs ls ⟨x, y, z, (j + 1), R13, ⟨by omega, cnt_f jx (isI_f hc), cnt_f jy (ovI_f hc), cnt_f jz (faI_f hc), eR13⟩, hP, hD, hS, lv_sub hl [1, 2, 3, 4, 5, 6, 7, 8, 0] rfl⟩
