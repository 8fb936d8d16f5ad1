/-! the law: areOthersRight -/
theorem task_w8 {π τ : Sg} {T S t U : Nat} {st : Nat → List Nat} (h : Inv π T S t U st none none none τ) {k : Nat} (hk : k < T) : ∃ v, v ≤ 5 ∧ m_aboutTask τ (nI k) 8 = nI v ∧ (if τ (k + 6) 3 = 1 then τ (k + 6) 9 else 0) = nI v := by
  obtain ⟨⟨a1, _⟩, _, ⟨_, d2⟩, _⟩ := h
  have hk24 : k < 24 := by have := a1.1; omega
  rw [aT8 hk24]
  by_cases c : τ (k + 6) 3 = 1
  · rw [if_pos c]
    obtain ⟨b, _, _, g⟩ := d2 k hk
    obtain ⟨l, _, _, _, g4⟩ := g (Or.inr c)
    rcases g4 c with ⟨w, _⟩ | ⟨_, w⟩
    · exact ⟨5, by omega, w, w⟩
    · obtain ⟨n, n1, n2, n3⟩ := wkd_nat w.2.1
      exact ⟨n, by omega, n3, n3⟩
  · rw [if_neg c]; exact ⟨0, by omega, rfl, rfl⟩
theorem w8_step {τ : Sg} {k v u : Nat} (hv : (if τ (k + 6) 3 = 1 then τ (k + 6) 9 else 0) = nI v) (hv2 : v < 2 ^ 31) (hu : u < 2 ^ 31) : cnt (w8 τ u) (k + 1) = cnt (w8 τ u) k + (if u = v then 1 else 0) := by
  show cnt (w8 τ u) k + (if w8 τ u k = true then 1 else 0) = _
  unfold w8
  rw [hv]
  by_cases e : u = v
  · rw [if_pos e, if_pos (decide_eq_true_iff.mpr (by rw [e]))]
  · rw [if_neg e, if_neg (fun z => e (nI_inj hv2 hu (decide_eq_true_iff.mp z)).symm)]
theorem w8_upd {τ : Sg} {k v : Nat} {f f' : Nat → Int32} (hvw : (if τ (k + 6) 3 = 1 then τ (k + 6) 9 else 0) = nI v) (hv : v ≤ 5) (hf : ∀ u, u < 5 → f u = nI (cnt (w8 τ u) k)) (e : f' = upd f v (nI (cnt (w8 τ v) k + 1))) : ∀ u, u < 5 → f' u = nI (cnt (w8 τ u) (k + 1)) := fun u hu => by
  rw [e, w8_step hvw (by omega) (by omega)]
  by_cases ee : u = v
  · rw [if_pos ee, ee]; exact if_pos rfl
  · rw [if_neg ee]; show upd f v _ u = nI (cnt (w8 τ u) k); rw [← hf u hu]; exact if_neg ee
theorem w8_upd5 {τ : Sg} {k v : Nat} {f : Nat → Int32} (hvw : (if τ (k + 6) 3 = 1 then τ (k + 6) 9 else 0) = nI v) (hv : v = 5) (hf : ∀ u, u < 5 → f u = nI (cnt (w8 τ u) k)) : ∀ u, u < 5 → f u = nI (cnt (w8 τ u) (k + 1)) := fun u hu => by
  rw [w8_step hvw (by omega) (by omega), if_neg (by omega), Nat.add_zero]; exact hf u hu
def accS (g : Nat → Nat) : Nat → Nat
  | 0 => 0
  | n + 1 => accS g n + g n
theorem max_nI {a b : Nat} (ha : a < 2 ^ 31) (hb : b < 2 ^ 31) : (if nI a < nI b then nI b else nI a) = nI (max a b) := by
  by_cases c : a < b
  · rw [if_pos ((nI_ltI ha hb).mpr c), Nat.max_eq_right (by omega)]
  · rw [if_neg (fun z => c ((nI_ltI ha hb).mp z)), Nat.max_eq_left (by omega)]
set_option maxHeartbeats 4000000 in
set_option maxRecDepth 100000 in
theorem c_L_areOthersRight (l : Launch) (D : va_G) (cA : Nat → ClassId) (ad : Nat → Nat) (tr : List (ClassId × FieldType)) (rest : va_W) (sz : Nat) (τ : Sg) (pd : Nat → Nat) (π : Sg) (bd : Nat → Nat) (tp : Nat) (ρ : Sg) (h102 : bd 102 = ad 102) (T S t U : Nat) (st : Nat → List Nat) (h : Inv π T S t U st none none none τ) (hU : U < 2 ^ 31) : Met l yL_areOthersRight wl_areOthersRight ({ frames := 5, cells := 1, slots := 5, locals := 117 }) (va_Pc [.ref tp] (inW D (tyB cA ++ tr) (wB cA ad τ ++ (wPg cA ad pd π ++ (wB cA bd ρ ++ ((tp, .inr (8, tpF ad bd)) :: rest)))) sz)) (va_Qi (fun (r : Int32) (_ : Unit) => r = 1) (fun _ : Unit => outW D (tyB cA ++ tr) (va_A (wB cA ad τ ++ (wPg cA ad pd π ++ (wB cA bd ρ ++ ((tp, .inr (8, tpF ad bd)) :: rest)))) sz) (wB cA ad τ ++ (wPg cA ad pd π ++ (wB cA bd ρ ++ ((tp, .inr (8, tpF ad bd)) :: rest))))) (va_A (wB cA ad τ ++ (wPg cA ad pd π ++ (wB cA bd ρ ++ ((tp, .inr (8, tpF ad bd)) :: rest)))) sz)) 1 5 (va_A (wB cA ad τ ++ (wPg cA ad pd π ++ (wB cA bd ρ ++ ((tp, .inr (8, tpF ad bd)) :: rest)))) sz) := by
  refine Met.ofW (cc := cL_areOthersRight) (maxL := 6) (ret := (some .boolean)) (by decide) rfl ?_
  intro p e s m args below meth c s₁ B hml hv
  obtain ⟨rfl, hsz, hP, hK, hD0⟩ := hv
  have hx := B.exec
  have hb := B.bytes
  have hr := B.returns
  have hts := atoms_spec (ws := wl_areOthersRight) B.pre
  have hown : s.vm.findClass RL = some m.cls := findClass_of_methodNamed B.named
  have hlocks := B.notSynchronized
  subst hsz
  have hD := hD0.self (sz := s.heap.size)
  clear hD0
  generalize hAe : va_A (wB cA ad τ ++ (wPg cA ad pd π ++ (wB cA bd ρ ++ ((tp, .inr (8, tpF ad bd)) :: rest)))) s.heap.size = A at hD ⊢
  have hA : ∀ q : Nat, s.heap.size ≤ q → A q := fun q h => by rw [← hAe]; exact Or.inr h
  clear hAe
  have hS : va_S A s.heap s.heap [] := va_S.rf
  have hP : va_P D vwCl (wB cA ad τ ++ (wPg cA ad pd π ++ (wB cA bd ρ ++ ((tp, .inr (8, tpF ad bd)) :: rest)))) s.heap := hP
  have hl := lv_entry ([.ref tp]) (n := 6) (Nat.le_of_ble_eq_true rfl)
  rw [lg_entry_eq]
  generalize (lg_sl ([.ref tp]) ++ List.replicate (6 - (lg_sl ([.ref tp])).length) Slot.unset).toArray = ls at hl ⊢
  have hl : lv_has ls 6 [(0, .ref tp)] := hl
  have hT := h.1.1.1
  have hS40 := h.1.1.2.1
  refine lv_iconst (v := 5) hx hb dL_areOthersRight_0 (by decide) ?_
  refine va_newa (atype := .int) (ty := .int) (N' := 5) (a0 := (5, .inl (fun _ => 0))) hx hb (hts (.arrayClass .int) (by decide +kernel)) rfl hK hP hD hS hA (fun _ => rfl) (by decide) (by decide) (Nat.le_of_ble_eq_true rfl) (Nat.le_of_ble_eq_true rfl) (Nat.le_of_ble_eq_true rfl) dL_areOthersRight_1 (fun q1 cN H hKn hP hD hS => ?_)
  obtain rfl : cN = cA 0 := cA_int hKn rfl
  clear hKn
  rw [wL_app] at hP hD
  obtain ⟨R2, eR2⟩ : ∃ z : va_W, z = rest ++ [(q1, .inl (cA 0, 5, .inl (fun _ => 0)))] := ⟨_, rfl⟩
  have hP : va_P D vwCl (wB cA ad τ ++ (wPg cA ad pd π ++ (wB cA bd ρ ++ ((tp, .inr (8, tpF ad bd)) :: R2)))) H := by rw [eR2]; exact hP
  have hD : va_D A (wB cA ad τ ++ (wPg cA ad pd π ++ (wB cA bd ρ ++ ((tp, .inr (8, tpF ad bd)) :: R2)))) := by rw [eR2]; exact hD
  refine W.widen (k := 1) (n := 5) (by omega) (by omega) ?_
  refine lv_astore_n (lv' := [(1, .ref q1), (0, .ref tp)]) hx hb dL_areOthersRight_3 rfl hl (by decide) rfl (fun ls hl => ?_)
  refine lv_iconst (v := 0) hx hb dL_areOthersRight_4 (by decide) ?_
  refine lv_istore_n (lv' := [(2, .int 0), (1, .ref q1), (0, .ref tp)]) hx hb dL_areOthersRight_5 rfl hl (by decide) rfl (fun ls hl => ?_)
  refine W_meas (I := fun (n : Nat) (H : Heap) (locs : List Loc) (ls : Array Slot) => ∃ (k : Nat) (f : Nat → Int32) (R3 : va_W), ((n + k = T) ∧ (∀ v, v < 5 → f v = nI (cnt (w8 τ v) k)) ∧ (R3 = rest ++ [(q1, .inl (cA 0, 5, .inl f))])) ∧ va_P D vwCl (wB cA ad τ ++ (wPg cA ad pd π ++ (wB cA bd ρ ++ ((tp, .inr (8, tpF ad bd)) :: R3)))) H ∧ va_D A (wB cA ad τ ++ (wPg cA ad pd π ++ (wB cA bd ρ ++ ((tp, .inr (8, tpF ad bd)) :: R3)))) ∧ va_S A s.heap H locs ∧ lv_has ls 6 [(0, .ref tp), (1, .ref q1), (2, .int (nI k))]) T ⟨0, (fun _ => 0), R2, ⟨by omega, fun v hv => rfl, eR2⟩, hP, hD, hS, lv_sub hl [2, 1, 0] rfl⟩ ?_
  clear hP hD hS hl
  intro n ih H locs ls hI
  obtain ⟨k, f, R3, ⟨hn, hf, eR3⟩, hP, hD, hS, hl⟩ := hI
  refine lv_iload_n hx hb dL_areOthersRight_6 rfl (lv_at hl 2 rfl) ?_
  refine lv_aload_n hx hb dL_areOthersRight_7 rfl (lv_at hl 0 rfl) ?_
  refine lv_iconst (v := 1) hx hb dL_areOthersRight_8 (by decide) ?_
  refine x_Vi (As := [.int 1]) (rest0 := [.int (nI k)]) ⟨hx, hb, hml, hown, hts⟩ (c_X8_many l D cA ad tr R3 H.size τ pd π bd tp ρ h102 1 (by decide) (by decide)) (cwV 1 hts gl_areOthersRight_X8_many rfl rfl rfl (by decide +kernel) ⟨Nat.le_of_ble_eq_true rfl, Nat.le_of_ble_eq_true rfl⟩) hK hP hD hS hA 209 w_tp rfl hl.1 rfl rfl (Nat.le_of_ble_eq_true rfl) ⟨Nat.le_of_ble_eq_true rfl, Nat.le_of_ble_eq_true rfl⟩ dL_areOthersRight_9 (fun r _ H locs hw hP hD hS => ?_)
  obtain rfl : r = (nI T) := hw.trans (many_1 h.1.1)
  refine lv_icmp_ge (tgt := 45) hx hb dL_areOthersRight_12 (by decide) (fun c_12_4 => ?_) (fun c_12_4 => ?_)
  · skip
    obtain rfl : n = 0 := by have := (nI_leI (by omega) (by omega)).mp c_12_4; omega
    obtain rfl : T = k := by omega
    refine lv_iconst (v := 0) hx hb dL_areOthersRight_45 (by decide) ?_
    refine lv_istore_n (lv' := [(2, .int 0), (0, .ref tp), (1, .ref q1)]) hx hb dL_areOthersRight_46 rfl hl (by decide) rfl (fun ls hl => ?_)
    refine lv_iconst (v := 0) hx hb dL_areOthersRight_47 (by decide) ?_
    refine lv_istore_n (lv' := [(3, .int 0), (2, .int 0), (0, .ref tp), (1, .ref q1)]) hx hb dL_areOthersRight_48 rfl hl (by decide) rfl (fun ls hl => ?_)
    refine lv_iconst (v := 0) hx hb dL_areOthersRight_49 (by decide) ?_
    refine lv_istore (lv' := [(4, .int 0), (3, .int 0), (2, .int 0), (0, .ref tp), (1, .ref q1)]) hx hb dL_areOthersRight_50 hl (by decide) rfl (fun ls hl => ?_)
    refine W_meas (I := fun (n2 : Nat) (H : Heap) (locs : List Loc) (ls : Array Slot) => ∃ (a : Nat) (b : Nat) (c : Nat) (R5 : va_W), ((n2 + c = 2) ∧ (a = accS (cw τ 2) c) ∧ (b = accS (cw τ 3) c) ∧ (R5 = rest ++ [(q1, .inl (cA 0, 5, .inl f))])) ∧ va_P D vwCl (wB cA ad τ ++ (wPg cA ad pd π ++ (wB cA bd ρ ++ ((tp, .inr (8, tpF ad bd)) :: R5)))) H ∧ va_D A (wB cA ad τ ++ (wPg cA ad pd π ++ (wB cA bd ρ ++ ((tp, .inr (8, tpF ad bd)) :: R5)))) ∧ va_S A s.heap H locs ∧ lv_has ls 6 [(0, .ref tp), (1, .ref q1), (2, .int (nI a)), (3, .int (nI b)), (4, .int (nI c))]) 2 ⟨0, 0, 0, R3, ⟨by omega, rfl, rfl, eR3⟩, hP, hD, hS, lv_sub hl [3, 4, 2, 1, 0] rfl⟩ ?_
    clear hP hD hS hl
    intro n2 ih2 H locs ls hI
    obtain ⟨a, b, c, R5, ⟨hn2, ha, hb2, eR5⟩, hP, hD, hS, hl⟩ := hI
    refine lv_iload hx hb dL_areOthersRight_52 (lv_at hl 4 rfl) ?_
    refine lv_iconst (v := 2) hx hb dL_areOthersRight_54 (by decide) ?_
    refine lv_icmp_ge (tgt := 279) hx hb dL_areOthersRight_55 (by decide) (fun c_55_6 => ?_) (fun c_55_6 => ?_)
    · skip
      obtain rfl : n2 = 0 := by have := (nI_leI (a := 2) (by decide) (by omega)).mp c_55_6; omega
      obtain rfl : c = 2 := by omega
      have hs2 : a = cnt (w8 τ 2) T := by rw [ha]; show 0 + cw τ 2 0 + cw τ 2 1 = _; rw [Nat.zero_add]; exact sum_23 h (Or.inl rfl)
      have hs3 : b = cnt (w8 τ 3) T := by rw [hb2]; show 0 + cw τ 3 0 + cw τ 3 1 = _; rw [Nat.zero_add]; exact sum_23 h (Or.inr rfl)
      obtain ⟨q40, q41, q42⟩ := sum_4 h
      have l0 := cw_le τ 4 0
      have l1 := cw_le τ 4 1
      have c2 := cnt_le (w8 τ 2) T
      have c3 := cnt_le (w8 τ 3) T
      have c4 := cnt_le (w8 τ 4) T
      refine lv_aload_n hx hb dL_areOthersRight_279 rfl (lv_at hl 0 rfl) ?_
      refine lv_iconst (v := 0) hx hb dL_areOthersRight_280 (by decide) ?_
      refine lv_iconst (v := 4) hx hb dL_areOthersRight_281 (by decide) ?_
      refine x_Vi (As := [.int 0, .int 4]) (rest0 := []) ⟨hx, hb, hml, hown, hts⟩ (c_X8_ofChannel l D cA ad tr R5 H.size τ pd π bd tp ρ h102 0 4 (by decide) (by decide) (by decide) (by decide)) (cwV 2 hts gl_areOthersRight_X8_ofChannel rfl rfl rfl (by decide +kernel) ⟨Nat.le_of_ble_eq_true rfl, Nat.le_of_ble_eq_true rfl⟩) hK hP hD hS hA 209 w_tp rfl hl.1 rfl rfl (Nat.le_of_ble_eq_true rfl) ⟨Nat.le_of_ble_eq_true rfl, Nat.le_of_ble_eq_true rfl⟩ dL_areOthersRight_282 (fun r _ H locs hw hP hD hS => ?_)
      obtain rfl : r = (nI (cw τ 4 0)) := hw.trans (aC4 (c := 0) (by decide))
      refine lv_aload_n hx hb dL_areOthersRight_285 rfl (lv_at hl 0 rfl) ?_
      refine lv_iconst (v := 1) hx hb dL_areOthersRight_286 (by decide) ?_
      refine lv_iconst (v := 4) hx hb dL_areOthersRight_287 (by decide) ?_
      refine x_Vi (As := [.int 1, .int 4]) (rest0 := [.int (nI (cw τ 4 0))]) ⟨hx, hb, hml, hown, hts⟩ (c_X8_ofChannel l D cA ad tr R5 H.size τ pd π bd tp ρ h102 1 4 (by decide) (by decide) (by decide) (by decide)) (cwV 2 hts gl_areOthersRight_X8_ofChannel rfl rfl rfl (by decide +kernel) ⟨Nat.le_of_ble_eq_true rfl, Nat.le_of_ble_eq_true rfl⟩) hK hP hD hS hA 209 w_tp rfl hl.1 rfl rfl (Nat.le_of_ble_eq_true rfl) ⟨Nat.le_of_ble_eq_true rfl, Nat.le_of_ble_eq_true rfl⟩ dL_areOthersRight_288 (fun r _ H locs hw hP hD hS => ?_)
      obtain rfl : r = (nI (cw τ 4 1)) := hw.trans (aC4 (c := 1) (by decide))
      refine va_mmax (rest := []) hx hb (hml.trans hl.1.symm) hown (hts (.methodLink RL 77 Lib.Math.max.name) (by decide +kernel)) (hts (.static Lib.Math.max.name) (by decide +kernel)) (hts (.initialized "java/lang/Math") (by decide +kernel)) (hts (.code Lib.Math.max.name Lib.Math.max.code 2 (some .int)) (by decide +kernel)) (Nat.le_of_ble_eq_true rfl) (Nat.le_of_ble_eq_true rfl) (Nat.le_of_ble_eq_true rfl) (Nat.le_of_ble_eq_true rfl) dL_areOthersRight_291 ?_
      refine W.eq (g2 := F0 m 294 ls [.int (nI (max (cw τ 4 0) (cw τ 4 1)))]) (by rw [show (if (nI (cw τ 4 0)) < (nI (cw τ 4 1)) then (nI (cw τ 4 1)) else (nI (cw τ 4 0))) = (nI (max (cw τ 4 0) (cw τ 4 1))) from max_nI (by omega) (by omega)]) ?_
      refine lv_istore (lv' := [(4, .int (nI (max (cw τ 4 0) (cw τ 4 1)))), (0, .ref tp), (1, .ref q1), (2, .int (nI a)), (3, .int (nI b))]) hx hb dL_areOthersRight_294 hl (by decide) rfl (fun ls hl => ?_)
      refine lv_iload_n hx hb dL_areOthersRight_296 rfl (lv_at hl 3 rfl) ?_
      refine lv_aload_n hx hb dL_areOthersRight_297 rfl (lv_at hl 2 rfl) ?_
      refine lv_iconst (v := 2) hx hb dL_areOthersRight_298 (by decide) ?_
      refine va_iald hx hb hK hP (0 + rest.length + 210) (0) (wNewR eR5 rfl) rfl (by unfold vp_in; decide) dL_areOthersRight_299 ?_
      refine W.eq (g2 := F0 m 300 ls [.int (nI (cnt (w8 τ 2) T)), .int (nI a)]) (by show F0 m _ ls (.int (f 2) :: _) = _; rw [hf 2 (by decide)]) ?_
      refine lv_icmp_ne (tgt := 341) hx hb dL_areOthersRight_300 (by decide) (fun c_300_7 => ?_) (fun c_300_7 => ?_)
      · exact absurd ((nI_eq (a := a) (b := cnt (w8 τ 2) T) (by omega) (by omega)).mpr (by omega)) c_300_7
      · skip
        refine lv_iload_n hx hb dL_areOthersRight_303 rfl (lv_at hl 4 rfl) ?_
        refine lv_aload_n hx hb dL_areOthersRight_304 rfl (lv_at hl 2 rfl) ?_
        refine lv_iconst (v := 3) hx hb dL_areOthersRight_305 (by decide) ?_
        refine va_iald hx hb hK hP (0 + rest.length + 210) (0) (wNewR eR5 rfl) rfl (by unfold vp_in; decide) dL_areOthersRight_306 ?_
        refine W.eq (g2 := F0 m 307 ls [.int (nI (cnt (w8 τ 3) T)), .int (nI b)]) (by show F0 m _ ls (.int (f 3) :: _) = _; rw [hf 3 (by decide)]) ?_
        refine lv_icmp_ne (tgt := 341) hx hb dL_areOthersRight_307 (by decide) (fun c_307_8 => ?_) (fun c_307_8 => ?_)
        · exact absurd ((nI_eq (a := b) (b := cnt (w8 τ 3) T) (by omega) (by omega)).mpr (by omega)) c_307_8
        · skip
          refine lv_iload hx hb dL_areOthersRight_310 (lv_at hl 0 rfl) ?_
          refine lv_aload_n hx hb dL_areOthersRight_312 rfl (lv_at hl 2 rfl) ?_
          refine lv_iconst (v := 4) hx hb dL_areOthersRight_313 (by decide) ?_
          refine va_iald hx hb hK hP (0 + rest.length + 210) (0) (wNewR eR5 rfl) rfl (by unfold vp_in; decide) dL_areOthersRight_314 ?_
          refine W.eq (g2 := F0 m 315 ls [.int (nI (cnt (w8 τ 4) T)), .int (nI (max (cw τ 4 0) (cw τ 4 1)))]) (by show F0 m _ ls (.int (f 4) :: _) = _; rw [hf 4 (by decide)]) ?_
          refine lv_icmp_gt (tgt := 341) hx hb dL_areOthersRight_315 (by decide) (fun c_315_9 => ?_) (fun c_315_9 => ?_)
          · exact absurd ((nI_ltI (a := cnt (w8 τ 4) T) (b := max (cw τ 4 0) (cw τ 4 1)) (by omega) (by omega)).mp c_315_9) (by omega)
          · skip
            refine lv_aload_n hx hb dL_areOthersRight_318 rfl (lv_at hl 1 rfl) ?_
            refine lv_iconst (v := 0) hx hb dL_areOthersRight_319 (by decide) ?_
            refine lv_iconst (v := 4) hx hb dL_areOthersRight_320 (by decide) ?_
            refine x_Vi (As := [.int 0, .int 4]) (rest0 := []) ⟨hx, hb, hml, hown, hts⟩ (c_X8_ofChannel l D cA ad tr R5 H.size τ pd π bd tp ρ h102 0 4 (by decide) (by decide) (by decide) (by decide)) (cwV 2 hts gl_areOthersRight_X8_ofChannel rfl rfl rfl (by decide +kernel) ⟨Nat.le_of_ble_eq_true rfl, Nat.le_of_ble_eq_true rfl⟩) hK hP hD hS hA 209 w_tp rfl hl.1 rfl rfl (Nat.le_of_ble_eq_true rfl) ⟨Nat.le_of_ble_eq_true rfl, Nat.le_of_ble_eq_true rfl⟩ dL_areOthersRight_321 (fun r _ H locs hw hP hD hS => ?_)
            obtain rfl : r = (nI (cw τ 4 0)) := hw.trans (aC4 (c := 0) (by decide))
            refine lv_aload_n hx hb dL_areOthersRight_324 rfl (lv_at hl 1 rfl) ?_
            refine lv_iconst (v := 1) hx hb dL_areOthersRight_325 (by decide) ?_
            refine lv_iconst (v := 4) hx hb dL_areOthersRight_326 (by decide) ?_
            refine x_Vi (As := [.int 1, .int 4]) (rest0 := [.int (nI (cw τ 4 0))]) ⟨hx, hb, hml, hown, hts⟩ (c_X8_ofChannel l D cA ad tr R5 H.size τ pd π bd tp ρ h102 1 4 (by decide) (by decide) (by decide) (by decide)) (cwV 2 hts gl_areOthersRight_X8_ofChannel rfl rfl rfl (by decide +kernel) ⟨Nat.le_of_ble_eq_true rfl, Nat.le_of_ble_eq_true rfl⟩) hK hP hD hS hA 209 w_tp rfl hl.1 rfl rfl (Nat.le_of_ble_eq_true rfl) ⟨Nat.le_of_ble_eq_true rfl, Nat.le_of_ble_eq_true rfl⟩ dL_areOthersRight_327 (fun r _ H locs hw hP hD hS => ?_)
            obtain rfl : r = (nI (cw τ 4 1)) := hw.trans (aC4 (c := 1) (by decide))
            refine lv_iadd hx hb dL_areOthersRight_330 ?_
            refine W.eq (g2 := F0 m 331 ls [.int (nI ((cw τ 4 0) + (cw τ 4 1)))]) (by rw [show ((nI (cw τ 4 0)) : Int32) + (nI (cw τ 4 1)) = (nI ((cw τ 4 0) + (cw τ 4 1))) from nI_add (cw τ 4 0) (cw τ 4 1)]) ?_
            refine lv_aload_n hx hb dL_areOthersRight_331 rfl (lv_at hl 2 rfl) ?_
            refine lv_iconst (v := 4) hx hb dL_areOthersRight_332 (by decide) ?_
            refine va_iald hx hb hK hP (0 + rest.length + 210) (0) (wNewR eR5 rfl) rfl (by unfold vp_in; decide) dL_areOthersRight_333 ?_
            refine W.eq (g2 := F0 m 334 ls [.int (nI (cnt (w8 τ 4) T)), .int (nI ((cw τ 4 0) + (cw τ 4 1)))]) (by show F0 m _ ls (.int (f 4) :: _) = _; rw [hf 4 (by decide)]) ?_
            refine lv_icmp_lt (tgt := 341) hx hb dL_areOthersRight_334 (by decide) (fun c_334_10 => ?_) (fun c_334_10 => ?_)
            · exact absurd ((nI_ltI (a := (cw τ 4 0) + (cw τ 4 1)) (b := cnt (w8 τ 4) T) (by omega) (by omega)).mp c_334_10) (by omega)
            · skip
              refine lv_iconst (v := 1) hx hb dL_areOthersRight_337 (by decide) ?_
              refine lv_goto (tgt := 342) hx hb dL_areOthersRight_338 (by decide) ?_
              rw [eR5, ← wL_app] at hP hD
              have hP := wP_l hP
              have hD := wD_l hD
              exact x_zret hx hb hr rfl hlocks hK () hP hD hS dL_areOthersRight_342 rfl
    · skip
      have hc2 : c < 2 := Nat.not_le.mp (fun z => c_55_6 ((nI_leI (a := 2) (by decide) (by omega)).mpr z))
      obtain ⟨n2, rfl⟩ : ∃ j, n2 = j + 1 := ⟨n2 - 1, by omega⟩
      have hab : a ≤ 24 * 2 ∧ b ≤ 24 * 2 := by
        rw [ha, hb2]
        rcases (show c = 0 ∨ c = 1 by omega) with e | e <;> subst e
        · exact ⟨Nat.zero_le _, Nat.zero_le _⟩
        · have := cw_le τ 2 0; have := cw_le τ 3 0
          constructor
          · show 0 + cw τ 2 0 ≤ _; omega
          · show 0 + cw τ 3 0 ≤ _; omega
      have hcw2 := cw_le τ 2 c
      have hcw3 := cw_le τ 3 c
      refine W_meet (ws := wB cA ad τ ++ (wPg cA ad pd π ++ (wB cA bd ρ ++ ((tp, .inr (8, tpF ad bd)) :: R5)))) (A0 := A) (H0 := s.heap) (cl := vwCl) (D := D) (pc2 := 172) (lv := [(0, .ref tp), (1, .ref q1), (2, .int (nI a)), (3, .int (nI b)), (4, .int (nI c))]) (nL2 := 6) (st2 := []) (fun H locs ls hP hD hS hl => ?_) (fun J172 => ?_)
      · skip
        refine lv_iload_n hx hb dL_areOthersRight_172 rfl (lv_at hl 2 rfl) ?_
        refine lv_aload_n hx hb dL_areOthersRight_173 rfl (lv_at hl 0 rfl) ?_
        refine lv_iload hx hb dL_areOthersRight_174 (lv_at hl 4 rfl) ?_
        refine lv_iconst (v := 1) hx hb dL_areOthersRight_176 (by decide) ?_
        refine x_Vi (As := [.int (nI c), .int 1]) (rest0 := [.int (nI a)]) ⟨hx, hb, hml, hown, hts⟩ (c_X8_ofLock l D cA ad tr R5 H.size τ pd π bd tp ρ h102 (nI c) 1 (nI_pos (by omega)) ((nI_ltI (b := 2) (by omega) (by decide)).mpr (by omega)) (by decide) (by decide)) (cwV 2 hts gl_areOthersRight_X8_ofLock rfl rfl rfl (by decide +kernel) ⟨Nat.le_of_ble_eq_true rfl, Nat.le_of_ble_eq_true rfl⟩) hK hP hD hS hA 209 w_tp rfl hl.1 rfl rfl (Nat.le_of_ble_eq_true rfl) ⟨Nat.le_of_ble_eq_true rfl, Nat.le_of_ble_eq_true rfl⟩ dL_areOthersRight_177 (fun r _ H locs hw hP hD hS => ?_)
        obtain rfl : r = (nI (cw τ 2 c)) := hw.trans (aL1 (by omega))
        refine lv_iadd hx hb dL_areOthersRight_180 ?_
        refine W.eq (g2 := F0 m 181 ls [.int (nI (a + (cw τ 2 c)))]) (by rw [show ((nI a) : Int32) + (nI (cw τ 2 c)) = (nI (a + (cw τ 2 c))) from nI_add a (cw τ 2 c)]) ?_
        refine lv_istore_n (lv' := [(2, .int (nI (a + (cw τ 2 c)))), (0, .ref tp), (1, .ref q1), (3, .int (nI b)), (4, .int (nI c))]) hx hb dL_areOthersRight_181 rfl hl (by decide) rfl (fun ls hl => ?_)
        refine lv_iload_n hx hb dL_areOthersRight_182 rfl (lv_at hl 3 rfl) ?_
        refine lv_aload_n hx hb dL_areOthersRight_183 rfl (lv_at hl 1 rfl) ?_
        refine lv_iload hx hb dL_areOthersRight_184 (lv_at hl 4 rfl) ?_
        refine lv_iconst (v := 3) hx hb dL_areOthersRight_186 (by decide) ?_
        refine x_Vi (As := [.int (nI c), .int 3]) (rest0 := [.int (nI b)]) ⟨hx, hb, hml, hown, hts⟩ (c_X8_ofChannel l D cA ad tr R5 H.size τ pd π bd tp ρ h102 (nI c) 3 (nI_pos (by omega)) ((nI_ltI (b := 2) (by omega) (by decide)).mpr (by omega)) (by decide) (by decide)) (cwV 2 hts gl_areOthersRight_X8_ofChannel rfl rfl rfl (by decide +kernel) ⟨Nat.le_of_ble_eq_true rfl, Nat.le_of_ble_eq_true rfl⟩) hK hP hD hS hA 209 w_tp rfl hl.1 rfl rfl (Nat.le_of_ble_eq_true rfl) ⟨Nat.le_of_ble_eq_true rfl, Nat.le_of_ble_eq_true rfl⟩ dL_areOthersRight_187 (fun r _ H locs hw hP hD hS => ?_)
        obtain rfl : r = (nI (cw τ 3 c)) := hw.trans (aC3 (by omega))
        refine lv_iadd hx hb dL_areOthersRight_190 ?_
        refine W.eq (g2 := F0 m 191 ls [.int (nI (b + (cw τ 3 c)))]) (by rw [show ((nI b) : Int32) + (nI (cw τ 3 c)) = (nI (b + (cw τ 3 c))) from nI_add b (cw τ 3 c)]) ?_
        refine lv_istore_n (lv' := [(3, .int (nI (b + (cw τ 3 c)))), (2, .int (nI (a + (cw τ 2 c)))), (0, .ref tp), (1, .ref q1), (4, .int (nI c))]) hx hb dL_areOthersRight_191 rfl hl (by decide) rfl (fun ls hl => ?_)
        obtain ⟨⟨u6, hu6, hu6b⟩, hcc⟩ := chan_case h hU (c := c) (by omega)
        rcases hcc with ⟨x3, n3, hx3, k3, hn3, hn27, k1, k0, k4, k5⟩ | ⟨y4, hy4, k3, k4, k1⟩ | ⟨k3, k4⟩
        · skip
          refine lv_aload_n hx hb dL_areOthersRight_192 rfl (lv_at hl 2 rfl) ?_
          refine lv_iload hx hb dL_areOthersRight_193 (lv_at hl 4 rfl) ?_
          refine lv_iconst (v := 3) hx hb dL_areOthersRight_195 (by decide) ?_
          refine x_Vi (As := [.int (nI c), .int 3]) (rest0 := []) ⟨hx, hb, hml, hown, hts⟩ (c_X8_ofChannel l D cA ad tr R5 H.size τ pd π bd tp ρ h102 (nI c) 3 (nI_pos (by omega)) ((nI_ltI (b := 2) (by omega) (by decide)).mpr (by omega)) (by decide) (by decide)) (cwV 2 hts gl_areOthersRight_X8_ofChannel rfl rfl rfl (by decide +kernel) ⟨Nat.le_of_ble_eq_true rfl, Nat.le_of_ble_eq_true rfl⟩) hK hP hD hS hA 209 w_tp rfl hl.1 rfl rfl (Nat.le_of_ble_eq_true rfl) ⟨Nat.le_of_ble_eq_true rfl, Nat.le_of_ble_eq_true rfl⟩ dL_areOthersRight_196 (fun r _ H locs hw hP hD hS => ?_)
          obtain rfl : r = (nI (x3 + 1)) := hw.trans ((aC3 (by omega)).trans (by rw [k3]))
          refine lv_if_le (tgt := 240) hx hb dL_areOthersRight_199 (by decide) (fun c_199_11 => ?_) (fun c_199_11 => ?_)
          · exact absurd ((nI_leI (a := x3 + 1) (b := 0) (by omega) (by omega)).mp c_199_11) (by omega)
          · skip
            refine lv_aload_n hx hb dL_areOthersRight_202 rfl (lv_at hl 2 rfl) ?_
            refine lv_iload hx hb dL_areOthersRight_203 (lv_at hl 4 rfl) ?_
            refine lv_iconst (v := 1) hx hb dL_areOthersRight_205 (by decide) ?_
            refine x_Vi (As := [.int (nI c), .int 1]) (rest0 := []) ⟨hx, hb, hml, hown, hts⟩ (c_X8_ofChannel l D cA ad tr R5 H.size τ pd π bd tp ρ h102 (nI c) 1 (nI_pos (by omega)) ((nI_ltI (b := 2) (by omega) (by decide)).mpr (by omega)) (by decide) (by decide)) (cwV 2 hts gl_areOthersRight_X8_ofChannel rfl rfl rfl (by decide +kernel) ⟨Nat.le_of_ble_eq_true rfl, Nat.le_of_ble_eq_true rfl⟩) hK hP hD hS hA 209 w_tp rfl hl.1 rfl rfl (Nat.le_of_ble_eq_true rfl) ⟨Nat.le_of_ble_eq_true rfl, Nat.le_of_ble_eq_true rfl⟩ dL_areOthersRight_206 (fun r _ H locs hw hP hD hS => ?_)
            obtain rfl : r = (nI n3) := hw.trans k1
            refine lv_aload_n hx hb dL_areOthersRight_209 rfl (lv_at hl 2 rfl) ?_
            refine lv_iload hx hb dL_areOthersRight_210 (lv_at hl 4 rfl) ?_
            refine lv_iconst (v := 0) hx hb dL_areOthersRight_212 (by decide) ?_
            refine x_Vi (As := [.int (nI c), .int 0]) (rest0 := [.int (nI n3)]) ⟨hx, hb, hml, hown, hts⟩ (c_X8_ofChannel l D cA ad tr R5 H.size τ pd π bd tp ρ h102 (nI c) 0 (nI_pos (by omega)) ((nI_ltI (b := 2) (by omega) (by decide)).mpr (by omega)) (by decide) (by decide)) (cwV 2 hts gl_areOthersRight_X8_ofChannel rfl rfl rfl (by decide +kernel) ⟨Nat.le_of_ble_eq_true rfl, Nat.le_of_ble_eq_true rfl⟩) hK hP hD hS hA 209 w_tp rfl hl.1 rfl rfl (Nat.le_of_ble_eq_true rfl) ⟨Nat.le_of_ble_eq_true rfl, Nat.le_of_ble_eq_true rfl⟩ dL_areOthersRight_213 (fun r _ H locs hw hP hD hS => ?_)
            obtain rfl : r = 1 := hw.trans k0
            refine lv_icmp_lt (tgt := 271) hx hb dL_areOthersRight_216 (by decide) (fun c_216_12 => ?_) (fun c_216_12 => ?_)
            · exact absurd ((nI_ltI (a := n3) (b := 1) (by omega) (by omega)).mp c_216_12) (by omega)
            · skip
              refine lv_aload_n hx hb dL_areOthersRight_219 rfl (lv_at hl 2 rfl) ?_
              refine lv_iload hx hb dL_areOthersRight_220 (lv_at hl 4 rfl) ?_
              refine lv_iconst (v := 4) hx hb dL_areOthersRight_222 (by decide) ?_
              refine x_Vi (As := [.int (nI c), .int 4]) (rest0 := []) ⟨hx, hb, hml, hown, hts⟩ (c_X8_ofChannel l D cA ad tr R5 H.size τ pd π bd tp ρ h102 (nI c) 4 (nI_pos (by omega)) ((nI_ltI (b := 2) (by omega) (by decide)).mpr (by omega)) (by decide) (by decide)) (cwV 2 hts gl_areOthersRight_X8_ofChannel rfl rfl rfl (by decide +kernel) ⟨Nat.le_of_ble_eq_true rfl, Nat.le_of_ble_eq_true rfl⟩) hK hP hD hS hA 209 w_tp rfl hl.1 rfl rfl (Nat.le_of_ble_eq_true rfl) ⟨Nat.le_of_ble_eq_true rfl, Nat.le_of_ble_eq_true rfl⟩ dL_areOthersRight_223 (fun r _ H locs hw hP hD hS => ?_)
              obtain rfl : r = 0 := hw.trans ((aC4 (by omega)).trans (by rw [k4]; rfl))
              refine lv_if_gt (tgt := 271) hx hb dL_areOthersRight_226 (by decide) (fun c_226_13 => ?_) (fun c_226_13 => ?_)
              · exact absurd c_226_13 (by decide)
              · skip
                refine lv_aload_n hx hb dL_areOthersRight_229 rfl (lv_at hl 2 rfl) ?_
                refine lv_iload hx hb dL_areOthersRight_230 (lv_at hl 4 rfl) ?_
                refine lv_iconst (v := 5) hx hb dL_areOthersRight_232 (by decide) ?_
                refine x_Vi (As := [.int (nI c), .int 5]) (rest0 := []) ⟨hx, hb, hml, hown, hts⟩ (c_X8_ofChannel l D cA ad tr R5 H.size τ pd π bd tp ρ h102 (nI c) 5 (nI_pos (by omega)) ((nI_ltI (b := 2) (by omega) (by decide)).mpr (by omega)) (by decide) (by decide)) (cwV 2 hts gl_areOthersRight_X8_ofChannel rfl rfl rfl (by decide +kernel) ⟨Nat.le_of_ble_eq_true rfl, Nat.le_of_ble_eq_true rfl⟩) hK hP hD hS hA 209 w_tp rfl hl.1 rfl rfl (Nat.le_of_ble_eq_true rfl) ⟨Nat.le_of_ble_eq_true rfl, Nat.le_of_ble_eq_true rfl⟩ dL_areOthersRight_233 (fun r _ H locs hw hP hD hS => ?_)
                obtain rfl : r = 0 := hw.trans k5
                refine lv_iconst (v := 1) hx hb dL_areOthersRight_236 (by decide) ?_
                refine lv_icmp_eq (tgt := 271) hx hb dL_areOthersRight_237 (by decide) (fun c_237_14 => ?_) (fun c_237_14 => ?_)
                · exact absurd c_237_14 (by decide)
                · skip
                  refine lv_aload_n hx hb dL_areOthersRight_240 rfl (lv_at hl 2 rfl) ?_
                  refine lv_iload hx hb dL_areOthersRight_241 (lv_at hl 4 rfl) ?_
                  refine lv_iconst (v := 4) hx hb dL_areOthersRight_243 (by decide) ?_
                  refine x_Vi (As := [.int (nI c), .int 4]) (rest0 := []) ⟨hx, hb, hml, hown, hts⟩ (c_X8_ofChannel l D cA ad tr R5 H.size τ pd π bd tp ρ h102 (nI c) 4 (nI_pos (by omega)) ((nI_ltI (b := 2) (by omega) (by decide)).mpr (by omega)) (by decide) (by decide)) (cwV 2 hts gl_areOthersRight_X8_ofChannel rfl rfl rfl (by decide +kernel) ⟨Nat.le_of_ble_eq_true rfl, Nat.le_of_ble_eq_true rfl⟩) hK hP hD hS hA 209 w_tp rfl hl.1 rfl rfl (Nat.le_of_ble_eq_true rfl) ⟨Nat.le_of_ble_eq_true rfl, Nat.le_of_ble_eq_true rfl⟩ dL_areOthersRight_244 (fun r _ H locs hw hP hD hS => ?_)
                  obtain rfl : r = 0 := hw.trans ((aC4 (by omega)).trans (by rw [k4]; rfl))
                  refine lv_if_le (tgt := 260) hx hb dL_areOthersRight_247 (by decide) (fun c_247_15 => ?_) (fun c_247_15 => ?_)
                  · skip
                    refine lv_aload_n hx hb dL_areOthersRight_260 rfl (lv_at hl 2 rfl) ?_
                    refine lv_iload hx hb dL_areOthersRight_261 (lv_at hl 4 rfl) ?_
                    refine lv_bipush (v := 6) hx hb dL_areOthersRight_263 (by decide) ?_
                    refine x_Vi (As := [.int (nI c), .int 6]) (rest0 := []) ⟨hx, hb, hml, hown, hts⟩ (c_X8_ofChannel l D cA ad tr R5 H.size τ pd π bd tp ρ h102 (nI c) 6 (nI_pos (by omega)) ((nI_ltI (b := 2) (by omega) (by decide)).mpr (by omega)) (by decide) (by decide)) (cwV 2 hts gl_areOthersRight_X8_ofChannel rfl rfl rfl (by decide +kernel) ⟨Nat.le_of_ble_eq_true rfl, Nat.le_of_ble_eq_true rfl⟩) hK hP hD hS hA 209 w_tp rfl hl.1 rfl rfl (Nat.le_of_ble_eq_true rfl) ⟨Nat.le_of_ble_eq_true rfl, Nat.le_of_ble_eq_true rfl⟩ dL_areOthersRight_265 (fun r _ H locs hw hP hD hS => ?_)
                    obtain rfl : r = (nI u6) := hw.trans hu6b
                    refine lv_if_ge (tgt := 273) hx hb dL_areOthersRight_268 (by decide) (fun c_268_16 => ?_) (fun c_268_16 => ?_)
                    · skip
                      refine lv_iinc (v := (nI (c + 1))) (lv' := [(4, .int (nI (c + 1))), (3, .int (nI (b + (cw τ 3 c)))), (2, .int (nI (a + (cw τ 2 c)))), (0, .ref tp), (1, .ref q1)]) hx hb dL_areOthersRight_273 hl (k := 4) rfl (show (nI c) + 1 = (nI (c + 1)) from nI_1 c) (by decide) rfl (fun ls hl => ?_)
                      refine lv_goto (tgt := 52) hx hb dL_areOthersRight_276 (by decide) ?_
                      exact ih2 n2 (Nat.lt_succ_self n2) H locs ls ⟨(a + cw τ 2 c), (b + cw τ 3 c), (c + 1), R5, ⟨by omega, by rw [ha]; rfl, by rw [hb2]; rfl, eR5⟩, hP, hD, hS, lv_sub hl [3, 4, 2, 1, 0] rfl⟩
                    · exact absurd ((nI_leI (a := 0) (b := u6) (by omega) (by omega)).mpr (by omega)) c_268_16
                  · exact absurd c_247_15 (by decide)
        · skip
          refine lv_aload_n hx hb dL_areOthersRight_192 rfl (lv_at hl 2 rfl) ?_
          refine lv_iload hx hb dL_areOthersRight_193 (lv_at hl 4 rfl) ?_
          refine lv_iconst (v := 3) hx hb dL_areOthersRight_195 (by decide) ?_
          refine x_Vi (As := [.int (nI c), .int 3]) (rest0 := []) ⟨hx, hb, hml, hown, hts⟩ (c_X8_ofChannel l D cA ad tr R5 H.size τ pd π bd tp ρ h102 (nI c) 3 (nI_pos (by omega)) ((nI_ltI (b := 2) (by omega) (by decide)).mpr (by omega)) (by decide) (by decide)) (cwV 2 hts gl_areOthersRight_X8_ofChannel rfl rfl rfl (by decide +kernel) ⟨Nat.le_of_ble_eq_true rfl, Nat.le_of_ble_eq_true rfl⟩) hK hP hD hS hA 209 w_tp rfl hl.1 rfl rfl (Nat.le_of_ble_eq_true rfl) ⟨Nat.le_of_ble_eq_true rfl, Nat.le_of_ble_eq_true rfl⟩ dL_areOthersRight_196 (fun r _ H locs hw hP hD hS => ?_)
          obtain rfl : r = 0 := hw.trans ((aC3 (by omega)).trans (by rw [k3]; rfl))
          refine lv_if_le (tgt := 240) hx hb dL_areOthersRight_199 (by decide) (fun c_199_17 => ?_) (fun c_199_17 => ?_)
          · skip
            refine lv_aload_n hx hb dL_areOthersRight_240 rfl (lv_at hl 2 rfl) ?_
            refine lv_iload hx hb dL_areOthersRight_241 (lv_at hl 4 rfl) ?_
            refine lv_iconst (v := 4) hx hb dL_areOthersRight_243 (by decide) ?_
            refine x_Vi (As := [.int (nI c), .int 4]) (rest0 := []) ⟨hx, hb, hml, hown, hts⟩ (c_X8_ofChannel l D cA ad tr R5 H.size τ pd π bd tp ρ h102 (nI c) 4 (nI_pos (by omega)) ((nI_ltI (b := 2) (by omega) (by decide)).mpr (by omega)) (by decide) (by decide)) (cwV 2 hts gl_areOthersRight_X8_ofChannel rfl rfl rfl (by decide +kernel) ⟨Nat.le_of_ble_eq_true rfl, Nat.le_of_ble_eq_true rfl⟩) hK hP hD hS hA 209 w_tp rfl hl.1 rfl rfl (Nat.le_of_ble_eq_true rfl) ⟨Nat.le_of_ble_eq_true rfl, Nat.le_of_ble_eq_true rfl⟩ dL_areOthersRight_244 (fun r _ H locs hw hP hD hS => ?_)
            obtain rfl : r = (nI (y4 + 1)) := hw.trans ((aC4 (by omega)).trans (by rw [k4]))
            refine lv_if_le (tgt := 260) hx hb dL_areOthersRight_247 (by decide) (fun c_247_18 => ?_) (fun c_247_18 => ?_)
            · exact absurd ((nI_leI (a := y4 + 1) (b := 0) (by omega) (by omega)).mp c_247_18) (by omega)
            · skip
              refine lv_aload_n hx hb dL_areOthersRight_250 rfl (lv_at hl 2 rfl) ?_
              refine lv_iload hx hb dL_areOthersRight_251 (lv_at hl 4 rfl) ?_
              refine lv_iconst (v := 1) hx hb dL_areOthersRight_253 (by decide) ?_
              refine x_Vi (As := [.int (nI c), .int 1]) (rest0 := []) ⟨hx, hb, hml, hown, hts⟩ (c_X8_ofChannel l D cA ad tr R5 H.size τ pd π bd tp ρ h102 (nI c) 1 (nI_pos (by omega)) ((nI_ltI (b := 2) (by omega) (by decide)).mpr (by omega)) (by decide) (by decide)) (cwV 2 hts gl_areOthersRight_X8_ofChannel rfl rfl rfl (by decide +kernel) ⟨Nat.le_of_ble_eq_true rfl, Nat.le_of_ble_eq_true rfl⟩) hK hP hD hS hA 209 w_tp rfl hl.1 rfl rfl (Nat.le_of_ble_eq_true rfl) ⟨Nat.le_of_ble_eq_true rfl, Nat.le_of_ble_eq_true rfl⟩ dL_areOthersRight_254 (fun r _ H locs hw hP hD hS => ?_)
              obtain rfl : r = 0 := hw.trans k1
              refine lv_if_gt (tgt := 271) hx hb dL_areOthersRight_257 (by decide) (fun c_257_19 => ?_) (fun c_257_19 => ?_)
              · exact absurd c_257_19 (by decide)
              · skip
                refine lv_aload_n hx hb dL_areOthersRight_260 rfl (lv_at hl 2 rfl) ?_
                refine lv_iload hx hb dL_areOthersRight_261 (lv_at hl 4 rfl) ?_
                refine lv_bipush (v := 6) hx hb dL_areOthersRight_263 (by decide) ?_
                refine x_Vi (As := [.int (nI c), .int 6]) (rest0 := []) ⟨hx, hb, hml, hown, hts⟩ (c_X8_ofChannel l D cA ad tr R5 H.size τ pd π bd tp ρ h102 (nI c) 6 (nI_pos (by omega)) ((nI_ltI (b := 2) (by omega) (by decide)).mpr (by omega)) (by decide) (by decide)) (cwV 2 hts gl_areOthersRight_X8_ofChannel rfl rfl rfl (by decide +kernel) ⟨Nat.le_of_ble_eq_true rfl, Nat.le_of_ble_eq_true rfl⟩) hK hP hD hS hA 209 w_tp rfl hl.1 rfl rfl (Nat.le_of_ble_eq_true rfl) ⟨Nat.le_of_ble_eq_true rfl, Nat.le_of_ble_eq_true rfl⟩ dL_areOthersRight_265 (fun r _ H locs hw hP hD hS => ?_)
                obtain rfl : r = (nI u6) := hw.trans hu6b
                refine lv_if_ge (tgt := 273) hx hb dL_areOthersRight_268 (by decide) (fun c_268_20 => ?_) (fun c_268_20 => ?_)
                · skip
                  refine lv_iinc (v := (nI (c + 1))) (lv' := [(4, .int (nI (c + 1))), (3, .int (nI (b + (cw τ 3 c)))), (2, .int (nI (a + (cw τ 2 c)))), (0, .ref tp), (1, .ref q1)]) hx hb dL_areOthersRight_273 hl (k := 4) rfl (show (nI c) + 1 = (nI (c + 1)) from nI_1 c) (by decide) rfl (fun ls hl => ?_)
                  refine lv_goto (tgt := 52) hx hb dL_areOthersRight_276 (by decide) ?_
                  exact ih2 n2 (Nat.lt_succ_self n2) H locs ls ⟨(a + cw τ 2 c), (b + cw τ 3 c), (c + 1), R5, ⟨by omega, by rw [ha]; rfl, by rw [hb2]; rfl, eR5⟩, hP, hD, hS, lv_sub hl [3, 4, 2, 1, 0] rfl⟩
                · exact absurd ((nI_leI (a := 0) (b := u6) (by omega) (by omega)).mpr (by omega)) c_268_20
          · exact absurd c_199_17 (by decide)
        · skip
          refine lv_aload_n hx hb dL_areOthersRight_192 rfl (lv_at hl 2 rfl) ?_
          refine lv_iload hx hb dL_areOthersRight_193 (lv_at hl 4 rfl) ?_
          refine lv_iconst (v := 3) hx hb dL_areOthersRight_195 (by decide) ?_
          refine x_Vi (As := [.int (nI c), .int 3]) (rest0 := []) ⟨hx, hb, hml, hown, hts⟩ (c_X8_ofChannel l D cA ad tr R5 H.size τ pd π bd tp ρ h102 (nI c) 3 (nI_pos (by omega)) ((nI_ltI (b := 2) (by omega) (by decide)).mpr (by omega)) (by decide) (by decide)) (cwV 2 hts gl_areOthersRight_X8_ofChannel rfl rfl rfl (by decide +kernel) ⟨Nat.le_of_ble_eq_true rfl, Nat.le_of_ble_eq_true rfl⟩) hK hP hD hS hA 209 w_tp rfl hl.1 rfl rfl (Nat.le_of_ble_eq_true rfl) ⟨Nat.le_of_ble_eq_true rfl, Nat.le_of_ble_eq_true rfl⟩ dL_areOthersRight_196 (fun r _ H locs hw hP hD hS => ?_)
          obtain rfl : r = 0 := hw.trans ((aC3 (by omega)).trans (by rw [k3]; rfl))
          refine lv_if_le (tgt := 240) hx hb dL_areOthersRight_199 (by decide) (fun c_199_21 => ?_) (fun c_199_21 => ?_)
          · skip
            refine lv_aload_n hx hb dL_areOthersRight_240 rfl (lv_at hl 2 rfl) ?_
            refine lv_iload hx hb dL_areOthersRight_241 (lv_at hl 4 rfl) ?_
            refine lv_iconst (v := 4) hx hb dL_areOthersRight_243 (by decide) ?_
            refine x_Vi (As := [.int (nI c), .int 4]) (rest0 := []) ⟨hx, hb, hml, hown, hts⟩ (c_X8_ofChannel l D cA ad tr R5 H.size τ pd π bd tp ρ h102 (nI c) 4 (nI_pos (by omega)) ((nI_ltI (b := 2) (by omega) (by decide)).mpr (by omega)) (by decide) (by decide)) (cwV 2 hts gl_areOthersRight_X8_ofChannel rfl rfl rfl (by decide +kernel) ⟨Nat.le_of_ble_eq_true rfl, Nat.le_of_ble_eq_true rfl⟩) hK hP hD hS hA 209 w_tp rfl hl.1 rfl rfl (Nat.le_of_ble_eq_true rfl) ⟨Nat.le_of_ble_eq_true rfl, Nat.le_of_ble_eq_true rfl⟩ dL_areOthersRight_244 (fun r _ H locs hw hP hD hS => ?_)
            obtain rfl : r = 0 := hw.trans ((aC4 (by omega)).trans (by rw [k4]; rfl))
            refine lv_if_le (tgt := 260) hx hb dL_areOthersRight_247 (by decide) (fun c_247_22 => ?_) (fun c_247_22 => ?_)
            · skip
              refine lv_aload_n hx hb dL_areOthersRight_260 rfl (lv_at hl 2 rfl) ?_
              refine lv_iload hx hb dL_areOthersRight_261 (lv_at hl 4 rfl) ?_
              refine lv_bipush (v := 6) hx hb dL_areOthersRight_263 (by decide) ?_
              refine x_Vi (As := [.int (nI c), .int 6]) (rest0 := []) ⟨hx, hb, hml, hown, hts⟩ (c_X8_ofChannel l D cA ad tr R5 H.size τ pd π bd tp ρ h102 (nI c) 6 (nI_pos (by omega)) ((nI_ltI (b := 2) (by omega) (by decide)).mpr (by omega)) (by decide) (by decide)) (cwV 2 hts gl_areOthersRight_X8_ofChannel rfl rfl rfl (by decide +kernel) ⟨Nat.le_of_ble_eq_true rfl, Nat.le_of_ble_eq_true rfl⟩) hK hP hD hS hA 209 w_tp rfl hl.1 rfl rfl (Nat.le_of_ble_eq_true rfl) ⟨Nat.le_of_ble_eq_true rfl, Nat.le_of_ble_eq_true rfl⟩ dL_areOthersRight_265 (fun r _ H locs hw hP hD hS => ?_)
              obtain rfl : r = (nI u6) := hw.trans hu6b
              refine lv_if_ge (tgt := 273) hx hb dL_areOthersRight_268 (by decide) (fun c_268_23 => ?_) (fun c_268_23 => ?_)
              · skip
                refine lv_iinc (v := (nI (c + 1))) (lv' := [(4, .int (nI (c + 1))), (3, .int (nI (b + (cw τ 3 c)))), (2, .int (nI (a + (cw τ 2 c)))), (0, .ref tp), (1, .ref q1)]) hx hb dL_areOthersRight_273 hl (k := 4) rfl (show (nI c) + 1 = (nI (c + 1)) from nI_1 c) (by decide) rfl (fun ls hl => ?_)
                refine lv_goto (tgt := 52) hx hb dL_areOthersRight_276 (by decide) ?_
                exact ih2 n2 (Nat.lt_succ_self n2) H locs ls ⟨(a + cw τ 2 c), (b + cw τ 3 c), (c + 1), R5, ⟨by omega, by rw [ha]; rfl, by rw [hb2]; rfl, eR5⟩, hP, hD, hS, lv_sub hl [3, 4, 2, 1, 0] rfl⟩
              · exact absurd ((nI_leI (a := 0) (b := u6) (by omega) (by omega)).mpr (by omega)) c_268_23
            · exact absurd c_247_22 (by decide)
          · exact absurd c_199_21 (by decide)
      rcases lock_case h (c := c) (by omega) with ⟨l0, lw, l2⟩ | ⟨p1, v1, hp1, l0, hv1, lt, lw, l2⟩ | ⟨p1, v1, n1, f1, hp1, l0, hv1, lt, hn1, lw, hf1, l2, lf, hne⟩
      · skip
        refine lv_aload_n hx hb dL_areOthersRight_58 rfl (lv_at hl 0 rfl) ?_
        refine lv_iload hx hb dL_areOthersRight_59 (lv_at hl 4 rfl) ?_
        refine lv_iconst (v := 0) hx hb dL_areOthersRight_61 (by decide) ?_
        refine x_Vi (As := [.int (nI c), .int 0]) (rest0 := []) ⟨hx, hb, hml, hown, hts⟩ (c_X8_ofLock l D cA ad tr R5 H.size τ pd π bd tp ρ h102 (nI c) 0 (nI_pos (by omega)) ((nI_ltI (b := 2) (by omega) (by decide)).mpr (by omega)) (by decide) (by decide)) (cwV 2 hts gl_areOthersRight_X8_ofLock rfl rfl rfl (by decide +kernel) ⟨Nat.le_of_ble_eq_true rfl, Nat.le_of_ble_eq_true rfl⟩) hK hP hD hS hA 209 w_tp rfl hl.1 rfl rfl (Nat.le_of_ble_eq_true rfl) ⟨Nat.le_of_ble_eq_true rfl, Nat.le_of_ble_eq_true rfl⟩ dL_areOthersRight_62 (fun r _ H locs hw hP hD hS => ?_)
        obtain rfl : r = (-1) := hw.trans l0
        refine lv_istore (lv' := [(5, .int (-1)), (0, .ref tp), (1, .ref q1), (2, .int (nI a)), (3, .int (nI b)), (4, .int (nI c))]) hx hb dL_areOthersRight_65 hl (by decide) rfl (fun ls hl => ?_)
        refine lv_iload hx hb dL_areOthersRight_67 (lv_at hl 0 rfl) ?_
        refine lv_if_lt (tgt := 83) hx hb dL_areOthersRight_69 (by decide) (fun c_69_24 => ?_) (fun c_69_24 => ?_)
        · skip
          refine lv_iload hx hb dL_areOthersRight_83 (lv_at hl 0 rfl) ?_
          refine lv_if_ge (tgt := 98) hx hb dL_areOthersRight_85 (by decide) (fun c_85_25 => ?_) (fun c_85_25 => ?_)
          · exact absurd c_85_25 (by decide)
          · skip
            refine lv_aload_n hx hb dL_areOthersRight_88 rfl (lv_at hl 1 rfl) ?_
            refine lv_iload hx hb dL_areOthersRight_89 (lv_at hl 5 rfl) ?_
            refine lv_iconst (v := 1) hx hb dL_areOthersRight_91 (by decide) ?_
            refine x_Vi (As := [.int (nI c), .int 1]) (rest0 := []) ⟨hx, hb, hml, hown, hts⟩ (c_X8_ofLock l D cA ad tr R5 H.size τ pd π bd tp ρ h102 (nI c) 1 (nI_pos (by omega)) ((nI_ltI (b := 2) (by omega) (by decide)).mpr (by omega)) (by decide) (by decide)) (cwV 2 hts gl_areOthersRight_X8_ofLock rfl rfl rfl (by decide +kernel) ⟨Nat.le_of_ble_eq_true rfl, Nat.le_of_ble_eq_true rfl⟩) hK hP hD hS hA 209 w_tp rfl hl.1 rfl rfl (Nat.le_of_ble_eq_true rfl) ⟨Nat.le_of_ble_eq_true rfl, Nat.le_of_ble_eq_true rfl⟩ dL_areOthersRight_92 (fun r _ H locs hw hP hD hS => ?_)
            obtain rfl : r = 0 := hw.trans ((aL1 (by omega)).trans (by rw [lw]; rfl))
            refine lv_if_gt (tgt := 170) hx hb dL_areOthersRight_95 (by decide) (fun c_95_26 => ?_) (fun c_95_26 => ?_)
            · exact absurd c_95_26 (by decide)
            · skip
              refine lv_aload_n hx hb dL_areOthersRight_98 rfl (lv_at hl 1 rfl) ?_
              refine lv_iload hx hb dL_areOthersRight_99 (lv_at hl 5 rfl) ?_
              refine lv_iconst (v := 1) hx hb dL_areOthersRight_101 (by decide) ?_
              refine x_Vi (As := [.int (nI c), .int 1]) (rest0 := []) ⟨hx, hb, hml, hown, hts⟩ (c_X8_ofLock l D cA ad tr R5 H.size τ pd π bd tp ρ h102 (nI c) 1 (nI_pos (by omega)) ((nI_ltI (b := 2) (by omega) (by decide)).mpr (by omega)) (by decide) (by decide)) (cwV 2 hts gl_areOthersRight_X8_ofLock rfl rfl rfl (by decide +kernel) ⟨Nat.le_of_ble_eq_true rfl, Nat.le_of_ble_eq_true rfl⟩) hK hP hD hS hA 209 w_tp rfl hl.1 rfl rfl (Nat.le_of_ble_eq_true rfl) ⟨Nat.le_of_ble_eq_true rfl, Nat.le_of_ble_eq_true rfl⟩ dL_areOthersRight_102 (fun r _ H locs hw hP hD hS => ?_)
              obtain rfl : r = 0 := hw.trans ((aL1 (by omega)).trans (by rw [lw]; rfl))
              refine lv_if_le (tgt := 112) hx hb dL_areOthersRight_105 (by decide) (fun c_105_27 => ?_) (fun c_105_27 => ?_)
              · skip
                refine lv_iconst (v := 0) hx hb dL_areOthersRight_112 (by decide) ?_
                refine lv_aload_n hx hb dL_areOthersRight_113 rfl (lv_at hl 1 rfl) ?_
                refine lv_iload hx hb dL_areOthersRight_114 (lv_at hl 5 rfl) ?_
                refine lv_iconst (v := 2) hx hb dL_areOthersRight_116 (by decide) ?_
                refine x_Vi (As := [.int (nI c), .int 2]) (rest0 := [.int 0]) ⟨hx, hb, hml, hown, hts⟩ (c_X8_ofLock l D cA ad tr R5 H.size τ pd π bd tp ρ h102 (nI c) 2 (nI_pos (by omega)) ((nI_ltI (b := 2) (by omega) (by decide)).mpr (by omega)) (by decide) (by decide)) (cwV 2 hts gl_areOthersRight_X8_ofLock rfl rfl rfl (by decide +kernel) ⟨Nat.le_of_ble_eq_true rfl, Nat.le_of_ble_eq_true rfl⟩) hK hP hD hS hA 209 w_tp rfl hl.1 rfl rfl (Nat.le_of_ble_eq_true rfl) ⟨Nat.le_of_ble_eq_true rfl, Nat.le_of_ble_eq_true rfl⟩ dL_areOthersRight_117 (fun r _ H locs hw hP hD hS => ?_)
                obtain rfl : r = (-1) := hw.trans l2
                refine lv_if_lt (tgt := 127) hx hb dL_areOthersRight_120 (by decide) (fun c_120_28 => ?_) (fun c_120_28 => ?_)
                · skip
                  refine lv_iconst (v := 0) hx hb dL_areOthersRight_127 (by decide) ?_
                  refine lv_icmp_ne (tgt := 170) hx hb dL_areOthersRight_128 (by decide) (fun c_128_29 => ?_) (fun c_128_29 => ?_)
                  · exact absurd c_128_29 (by decide)
                  · skip
                    refine lv_aload_n hx hb dL_areOthersRight_131 rfl (lv_at hl 1 rfl) ?_
                    refine lv_iload hx hb dL_areOthersRight_132 (lv_at hl 5 rfl) ?_
                    refine lv_iconst (v := 2) hx hb dL_areOthersRight_134 (by decide) ?_
                    refine x_Vi (As := [.int (nI c), .int 2]) (rest0 := []) ⟨hx, hb, hml, hown, hts⟩ (c_X8_ofLock l D cA ad tr R5 H.size τ pd π bd tp ρ h102 (nI c) 2 (nI_pos (by omega)) ((nI_ltI (b := 2) (by omega) (by decide)).mpr (by omega)) (by decide) (by decide)) (cwV 2 hts gl_areOthersRight_X8_ofLock rfl rfl rfl (by decide +kernel) ⟨Nat.le_of_ble_eq_true rfl, Nat.le_of_ble_eq_true rfl⟩) hK hP hD hS hA 209 w_tp rfl hl.1 rfl rfl (Nat.le_of_ble_eq_true rfl) ⟨Nat.le_of_ble_eq_true rfl, Nat.le_of_ble_eq_true rfl⟩ dL_areOthersRight_135 (fun r _ H locs hw hP hD hS => ?_)
                    obtain rfl : r = (-1) := hw.trans l2
                    refine lv_if_lt (tgt := 172) hx hb dL_areOthersRight_138 (by decide) (fun c_138_30 => ?_) (fun c_138_30 => ?_)
                    · skip
                      exact J172 H locs ls hP hD hS (lv_sub hl [1, 2, 3, 4, 5] rfl)
                    · exact absurd c_138_30 (by decide)
                · exact absurd c_120_28 (by decide)
              · exact absurd c_105_27 (by decide)
        · exact absurd c_69_24 (by decide)
      · skip
        refine lv_aload_n hx hb dL_areOthersRight_58 rfl (lv_at hl 0 rfl) ?_
        refine lv_iload hx hb dL_areOthersRight_59 (lv_at hl 4 rfl) ?_
        refine lv_iconst (v := 0) hx hb dL_areOthersRight_61 (by decide) ?_
        refine x_Vi (As := [.int (nI c), .int 0]) (rest0 := []) ⟨hx, hb, hml, hown, hts⟩ (c_X8_ofLock l D cA ad tr R5 H.size τ pd π bd tp ρ h102 (nI c) 0 (nI_pos (by omega)) ((nI_ltI (b := 2) (by omega) (by decide)).mpr (by omega)) (by decide) (by decide)) (cwV 2 hts gl_areOthersRight_X8_ofLock rfl rfl rfl (by decide +kernel) ⟨Nat.le_of_ble_eq_true rfl, Nat.le_of_ble_eq_true rfl⟩) hK hP hD hS hA 209 w_tp rfl hl.1 rfl rfl (Nat.le_of_ble_eq_true rfl) ⟨Nat.le_of_ble_eq_true rfl, Nat.le_of_ble_eq_true rfl⟩ dL_areOthersRight_62 (fun r _ H locs hw hP hD hS => ?_)
        obtain rfl : r = (nI p1) := hw.trans l0
        refine lv_istore (lv' := [(5, .int (nI p1)), (0, .ref tp), (1, .ref q1), (2, .int (nI a)), (3, .int (nI b)), (4, .int (nI c))]) hx hb dL_areOthersRight_65 hl (by decide) rfl (fun ls hl => ?_)
        refine lv_iload hx hb dL_areOthersRight_67 (lv_at hl 0 rfl) ?_
        refine lv_if_lt (tgt := 83) hx hb dL_areOthersRight_69 (by decide) (fun c_69_31 => ?_) (fun c_69_31 => ?_)
        · exact absurd ((nI_ltI (a := p1) (b := 0) (by omega) (by omega)).mp c_69_31) (by omega)
        · skip
          refine lv_aload_n hx hb dL_areOthersRight_72 rfl (lv_at hl 1 rfl) ?_
          refine lv_iload hx hb dL_areOthersRight_73 (lv_at hl 0 rfl) ?_
          refine lv_iconst (v := 1) hx hb dL_areOthersRight_75 (by decide) ?_
          refine x_Vi (As := [.int (nI p1), .int 1]) (rest0 := []) ⟨hx, hb, hml, hown, hts⟩ (c_X8_ofTask l D cA ad tr R5 H.size τ pd π bd tp ρ h102 (nI p1) 1 (nI_pos (by omega)) (by rw [h.1.1.2.2.1]; exact (nI_ltI (by omega) (by omega)).mpr (by omega)) (by decide) (by decide)) (cwV 2 hts gl_areOthersRight_X8_ofTask rfl rfl rfl (by decide +kernel) ⟨Nat.le_of_ble_eq_true rfl, Nat.le_of_ble_eq_true rfl⟩) hK hP hD hS hA 209 w_tp rfl hl.1 rfl rfl (Nat.le_of_ble_eq_true rfl) ⟨Nat.le_of_ble_eq_true rfl, Nat.le_of_ble_eq_true rfl⟩ dL_areOthersRight_76 (fun r _ H locs hw hP hD hS => ?_)
          obtain rfl : r = (nI v1) := hw.trans lt
          refine lv_iconst (v := 1) hx hb dL_areOthersRight_79 (by decide) ?_
          refine lv_icmp_gt (tgt := 170) hx hb dL_areOthersRight_80 (by decide) (fun c_80_32 => ?_) (fun c_80_32 => ?_)
          · exact absurd ((nI_ltI (a := 1) (b := v1) (by omega) (by omega)).mp c_80_32) (by omega)
          · skip
            refine lv_iload hx hb dL_areOthersRight_83 (lv_at hl 0 rfl) ?_
            refine lv_if_ge (tgt := 98) hx hb dL_areOthersRight_85 (by decide) (fun c_85_33 => ?_) (fun c_85_33 => ?_)
            · skip
              refine lv_aload_n hx hb dL_areOthersRight_98 rfl (lv_at hl 1 rfl) ?_
              refine lv_iload hx hb dL_areOthersRight_99 (lv_at hl 5 rfl) ?_
              refine lv_iconst (v := 1) hx hb dL_areOthersRight_101 (by decide) ?_
              refine x_Vi (As := [.int (nI c), .int 1]) (rest0 := []) ⟨hx, hb, hml, hown, hts⟩ (c_X8_ofLock l D cA ad tr R5 H.size τ pd π bd tp ρ h102 (nI c) 1 (nI_pos (by omega)) ((nI_ltI (b := 2) (by omega) (by decide)).mpr (by omega)) (by decide) (by decide)) (cwV 2 hts gl_areOthersRight_X8_ofLock rfl rfl rfl (by decide +kernel) ⟨Nat.le_of_ble_eq_true rfl, Nat.le_of_ble_eq_true rfl⟩) hK hP hD hS hA 209 w_tp rfl hl.1 rfl rfl (Nat.le_of_ble_eq_true rfl) ⟨Nat.le_of_ble_eq_true rfl, Nat.le_of_ble_eq_true rfl⟩ dL_areOthersRight_102 (fun r _ H locs hw hP hD hS => ?_)
              obtain rfl : r = 0 := hw.trans ((aL1 (by omega)).trans (by rw [lw]; rfl))
              refine lv_if_le (tgt := 112) hx hb dL_areOthersRight_105 (by decide) (fun c_105_34 => ?_) (fun c_105_34 => ?_)
              · skip
                refine lv_iconst (v := 0) hx hb dL_areOthersRight_112 (by decide) ?_
                refine lv_aload_n hx hb dL_areOthersRight_113 rfl (lv_at hl 1 rfl) ?_
                refine lv_iload hx hb dL_areOthersRight_114 (lv_at hl 5 rfl) ?_
                refine lv_iconst (v := 2) hx hb dL_areOthersRight_116 (by decide) ?_
                refine x_Vi (As := [.int (nI c), .int 2]) (rest0 := [.int 0]) ⟨hx, hb, hml, hown, hts⟩ (c_X8_ofLock l D cA ad tr R5 H.size τ pd π bd tp ρ h102 (nI c) 2 (nI_pos (by omega)) ((nI_ltI (b := 2) (by omega) (by decide)).mpr (by omega)) (by decide) (by decide)) (cwV 2 hts gl_areOthersRight_X8_ofLock rfl rfl rfl (by decide +kernel) ⟨Nat.le_of_ble_eq_true rfl, Nat.le_of_ble_eq_true rfl⟩) hK hP hD hS hA 209 w_tp rfl hl.1 rfl rfl (Nat.le_of_ble_eq_true rfl) ⟨Nat.le_of_ble_eq_true rfl, Nat.le_of_ble_eq_true rfl⟩ dL_areOthersRight_117 (fun r _ H locs hw hP hD hS => ?_)
                obtain rfl : r = (-1) := hw.trans l2
                refine lv_if_lt (tgt := 127) hx hb dL_areOthersRight_120 (by decide) (fun c_120_35 => ?_) (fun c_120_35 => ?_)
                · skip
                  refine lv_iconst (v := 0) hx hb dL_areOthersRight_127 (by decide) ?_
                  refine lv_icmp_ne (tgt := 170) hx hb dL_areOthersRight_128 (by decide) (fun c_128_36 => ?_) (fun c_128_36 => ?_)
                  · exact absurd c_128_36 (by decide)
                  · skip
                    refine lv_aload_n hx hb dL_areOthersRight_131 rfl (lv_at hl 1 rfl) ?_
                    refine lv_iload hx hb dL_areOthersRight_132 (lv_at hl 5 rfl) ?_
                    refine lv_iconst (v := 2) hx hb dL_areOthersRight_134 (by decide) ?_
                    refine x_Vi (As := [.int (nI c), .int 2]) (rest0 := []) ⟨hx, hb, hml, hown, hts⟩ (c_X8_ofLock l D cA ad tr R5 H.size τ pd π bd tp ρ h102 (nI c) 2 (nI_pos (by omega)) ((nI_ltI (b := 2) (by omega) (by decide)).mpr (by omega)) (by decide) (by decide)) (cwV 2 hts gl_areOthersRight_X8_ofLock rfl rfl rfl (by decide +kernel) ⟨Nat.le_of_ble_eq_true rfl, Nat.le_of_ble_eq_true rfl⟩) hK hP hD hS hA 209 w_tp rfl hl.1 rfl rfl (Nat.le_of_ble_eq_true rfl) ⟨Nat.le_of_ble_eq_true rfl, Nat.le_of_ble_eq_true rfl⟩ dL_areOthersRight_135 (fun r _ H locs hw hP hD hS => ?_)
                    obtain rfl : r = (-1) := hw.trans l2
                    refine lv_if_lt (tgt := 172) hx hb dL_areOthersRight_138 (by decide) (fun c_138_37 => ?_) (fun c_138_37 => ?_)
                    · skip
                      exact J172 H locs ls hP hD hS (lv_sub hl [1, 2, 3, 4, 5] rfl)
                    · exact absurd c_138_37 (by decide)
                · exact absurd c_120_35 (by decide)
              · exact absurd c_105_34 (by decide)
            · exact absurd ((nI_leI (a := 0) (b := p1) (by omega) (by omega)).mpr (by omega)) c_85_33
      · skip
        refine lv_aload_n hx hb dL_areOthersRight_58 rfl (lv_at hl 0 rfl) ?_
        refine lv_iload hx hb dL_areOthersRight_59 (lv_at hl 4 rfl) ?_
        refine lv_iconst (v := 0) hx hb dL_areOthersRight_61 (by decide) ?_
        refine x_Vi (As := [.int (nI c), .int 0]) (rest0 := []) ⟨hx, hb, hml, hown, hts⟩ (c_X8_ofLock l D cA ad tr R5 H.size τ pd π bd tp ρ h102 (nI c) 0 (nI_pos (by omega)) ((nI_ltI (b := 2) (by omega) (by decide)).mpr (by omega)) (by decide) (by decide)) (cwV 2 hts gl_areOthersRight_X8_ofLock rfl rfl rfl (by decide +kernel) ⟨Nat.le_of_ble_eq_true rfl, Nat.le_of_ble_eq_true rfl⟩) hK hP hD hS hA 209 w_tp rfl hl.1 rfl rfl (Nat.le_of_ble_eq_true rfl) ⟨Nat.le_of_ble_eq_true rfl, Nat.le_of_ble_eq_true rfl⟩ dL_areOthersRight_62 (fun r _ H locs hw hP hD hS => ?_)
        obtain rfl : r = (nI p1) := hw.trans l0
        refine lv_istore (lv' := [(5, .int (nI p1)), (0, .ref tp), (1, .ref q1), (2, .int (nI a)), (3, .int (nI b)), (4, .int (nI c))]) hx hb dL_areOthersRight_65 hl (by decide) rfl (fun ls hl => ?_)
        refine lv_iload hx hb dL_areOthersRight_67 (lv_at hl 0 rfl) ?_
        refine lv_if_lt (tgt := 83) hx hb dL_areOthersRight_69 (by decide) (fun c_69_38 => ?_) (fun c_69_38 => ?_)
        · exact absurd ((nI_ltI (a := p1) (b := 0) (by omega) (by omega)).mp c_69_38) (by omega)
        · skip
          refine lv_aload_n hx hb dL_areOthersRight_72 rfl (lv_at hl 1 rfl) ?_
          refine lv_iload hx hb dL_areOthersRight_73 (lv_at hl 0 rfl) ?_
          refine lv_iconst (v := 1) hx hb dL_areOthersRight_75 (by decide) ?_
          refine x_Vi (As := [.int (nI p1), .int 1]) (rest0 := []) ⟨hx, hb, hml, hown, hts⟩ (c_X8_ofTask l D cA ad tr R5 H.size τ pd π bd tp ρ h102 (nI p1) 1 (nI_pos (by omega)) (by rw [h.1.1.2.2.1]; exact (nI_ltI (by omega) (by omega)).mpr (by omega)) (by decide) (by decide)) (cwV 2 hts gl_areOthersRight_X8_ofTask rfl rfl rfl (by decide +kernel) ⟨Nat.le_of_ble_eq_true rfl, Nat.le_of_ble_eq_true rfl⟩) hK hP hD hS hA 209 w_tp rfl hl.1 rfl rfl (Nat.le_of_ble_eq_true rfl) ⟨Nat.le_of_ble_eq_true rfl, Nat.le_of_ble_eq_true rfl⟩ dL_areOthersRight_76 (fun r _ H locs hw hP hD hS => ?_)
          obtain rfl : r = (nI v1) := hw.trans lt
          refine lv_iconst (v := 1) hx hb dL_areOthersRight_79 (by decide) ?_
          refine lv_icmp_gt (tgt := 170) hx hb dL_areOthersRight_80 (by decide) (fun c_80_39 => ?_) (fun c_80_39 => ?_)
          · exact absurd ((nI_ltI (a := 1) (b := v1) (by omega) (by omega)).mp c_80_39) (by omega)
          · skip
            refine lv_iload hx hb dL_areOthersRight_83 (lv_at hl 0 rfl) ?_
            refine lv_if_ge (tgt := 98) hx hb dL_areOthersRight_85 (by decide) (fun c_85_40 => ?_) (fun c_85_40 => ?_)
            · skip
              refine lv_aload_n hx hb dL_areOthersRight_98 rfl (lv_at hl 1 rfl) ?_
              refine lv_iload hx hb dL_areOthersRight_99 (lv_at hl 5 rfl) ?_
              refine lv_iconst (v := 1) hx hb dL_areOthersRight_101 (by decide) ?_
              refine x_Vi (As := [.int (nI c), .int 1]) (rest0 := []) ⟨hx, hb, hml, hown, hts⟩ (c_X8_ofLock l D cA ad tr R5 H.size τ pd π bd tp ρ h102 (nI c) 1 (nI_pos (by omega)) ((nI_ltI (b := 2) (by omega) (by decide)).mpr (by omega)) (by decide) (by decide)) (cwV 2 hts gl_areOthersRight_X8_ofLock rfl rfl rfl (by decide +kernel) ⟨Nat.le_of_ble_eq_true rfl, Nat.le_of_ble_eq_true rfl⟩) hK hP hD hS hA 209 w_tp rfl hl.1 rfl rfl (Nat.le_of_ble_eq_true rfl) ⟨Nat.le_of_ble_eq_true rfl, Nat.le_of_ble_eq_true rfl⟩ dL_areOthersRight_102 (fun r _ H locs hw hP hD hS => ?_)
              obtain rfl : r = (nI (n1 + 1)) := hw.trans ((aL1 (by omega)).trans (by rw [lw]))
              refine lv_if_le (tgt := 112) hx hb dL_areOthersRight_105 (by decide) (fun c_105_41 => ?_) (fun c_105_41 => ?_)
              · exact absurd ((nI_leI (a := n1 + 1) (b := 0) (by omega) (by omega)).mp c_105_41) (by omega)
              · skip
                refine lv_iconst (v := 1) hx hb dL_areOthersRight_108 (by decide) ?_
                refine lv_goto (tgt := 113) hx hb dL_areOthersRight_109 (by decide) ?_
                refine lv_aload_n hx hb dL_areOthersRight_113 rfl (lv_at hl 1 rfl) ?_
                refine lv_iload hx hb dL_areOthersRight_114 (lv_at hl 5 rfl) ?_
                refine lv_iconst (v := 2) hx hb dL_areOthersRight_116 (by decide) ?_
                refine x_Vi (As := [.int (nI c), .int 2]) (rest0 := [.int 1]) ⟨hx, hb, hml, hown, hts⟩ (c_X8_ofLock l D cA ad tr R5 H.size τ pd π bd tp ρ h102 (nI c) 2 (nI_pos (by omega)) ((nI_ltI (b := 2) (by omega) (by decide)).mpr (by omega)) (by decide) (by decide)) (cwV 2 hts gl_areOthersRight_X8_ofLock rfl rfl rfl (by decide +kernel) ⟨Nat.le_of_ble_eq_true rfl, Nat.le_of_ble_eq_true rfl⟩) hK hP hD hS hA 209 w_tp rfl hl.1 rfl rfl (Nat.le_of_ble_eq_true rfl) ⟨Nat.le_of_ble_eq_true rfl, Nat.le_of_ble_eq_true rfl⟩ dL_areOthersRight_117 (fun r _ H locs hw hP hD hS => ?_)
                obtain rfl : r = (nI f1) := hw.trans l2
                refine lv_if_lt (tgt := 127) hx hb dL_areOthersRight_120 (by decide) (fun c_120_42 => ?_) (fun c_120_42 => ?_)
                · exact absurd ((nI_ltI (a := f1) (b := 0) (by omega) (by omega)).mp c_120_42) (by omega)
                · skip
                  refine lv_iconst (v := 1) hx hb dL_areOthersRight_123 (by decide) ?_
                  refine lv_goto (tgt := 128) hx hb dL_areOthersRight_124 (by decide) ?_
                  refine lv_icmp_ne (tgt := 170) hx hb dL_areOthersRight_128 (by decide) (fun c_128_43 => ?_) (fun c_128_43 => ?_)
                  · exact absurd c_128_43 (by decide)
                  · skip
                    refine lv_aload_n hx hb dL_areOthersRight_131 rfl (lv_at hl 1 rfl) ?_
                    refine lv_iload hx hb dL_areOthersRight_132 (lv_at hl 5 rfl) ?_
                    refine lv_iconst (v := 2) hx hb dL_areOthersRight_134 (by decide) ?_
                    refine x_Vi (As := [.int (nI c), .int 2]) (rest0 := []) ⟨hx, hb, hml, hown, hts⟩ (c_X8_ofLock l D cA ad tr R5 H.size τ pd π bd tp ρ h102 (nI c) 2 (nI_pos (by omega)) ((nI_ltI (b := 2) (by omega) (by decide)).mpr (by omega)) (by decide) (by decide)) (cwV 2 hts gl_areOthersRight_X8_ofLock rfl rfl rfl (by decide +kernel) ⟨Nat.le_of_ble_eq_true rfl, Nat.le_of_ble_eq_true rfl⟩) hK hP hD hS hA 209 w_tp rfl hl.1 rfl rfl (Nat.le_of_ble_eq_true rfl) ⟨Nat.le_of_ble_eq_true rfl, Nat.le_of_ble_eq_true rfl⟩ dL_areOthersRight_135 (fun r _ H locs hw hP hD hS => ?_)
                    obtain rfl : r = (nI f1) := hw.trans l2
                    refine lv_if_lt (tgt := 172) hx hb dL_areOthersRight_138 (by decide) (fun c_138_44 => ?_) (fun c_138_44 => ?_)
                    · exact absurd ((nI_ltI (a := f1) (b := 0) (by omega) (by omega)).mp c_138_44) (by omega)
                    · skip
                      refine lv_aload_n hx hb dL_areOthersRight_141 rfl (lv_at hl 1 rfl) ?_
                      refine lv_aload_n hx hb dL_areOthersRight_142 rfl (lv_at hl 1 rfl) ?_
                      refine lv_iload hx hb dL_areOthersRight_143 (lv_at hl 5 rfl) ?_
                      refine lv_iconst (v := 2) hx hb dL_areOthersRight_145 (by decide) ?_
                      refine x_Vi (As := [.int (nI c), .int 2]) (rest0 := [.ref tp]) ⟨hx, hb, hml, hown, hts⟩ (c_X8_ofLock l D cA ad tr R5 H.size τ pd π bd tp ρ h102 (nI c) 2 (nI_pos (by omega)) ((nI_ltI (b := 2) (by omega) (by decide)).mpr (by omega)) (by decide) (by decide)) (cwV 2 hts gl_areOthersRight_X8_ofLock rfl rfl rfl (by decide +kernel) ⟨Nat.le_of_ble_eq_true rfl, Nat.le_of_ble_eq_true rfl⟩) hK hP hD hS hA 209 w_tp rfl hl.1 rfl rfl (Nat.le_of_ble_eq_true rfl) ⟨Nat.le_of_ble_eq_true rfl, Nat.le_of_ble_eq_true rfl⟩ dL_areOthersRight_146 (fun r _ H locs hw hP hD hS => ?_)
                      obtain rfl : r = (nI f1) := hw.trans l2
                      refine lv_bipush (v := 8) hx hb dL_areOthersRight_149 (by decide) ?_
                      refine x_Vi (As := [.int (nI f1), .int 8]) (rest0 := []) ⟨hx, hb, hml, hown, hts⟩ (c_X8_ofTask l D cA ad tr R5 H.size τ pd π bd tp ρ h102 (nI f1) 8 (nI_pos (by omega)) (by rw [h.1.1.2.2.1]; exact (nI_ltI (by omega) (by omega)).mpr (by omega)) (by decide) (by decide)) (cwV 2 hts gl_areOthersRight_X8_ofTask rfl rfl rfl (by decide +kernel) ⟨Nat.le_of_ble_eq_true rfl, Nat.le_of_ble_eq_true rfl⟩) hK hP hD hS hA 209 w_tp rfl hl.1 rfl rfl (Nat.le_of_ble_eq_true rfl) ⟨Nat.le_of_ble_eq_true rfl, Nat.le_of_ble_eq_true rfl⟩ dL_areOthersRight_151 (fun r _ H locs hw hP hD hS => ?_)
                      obtain rfl : r = 2 := hw.trans lf
                      refine lv_iconst (v := 2) hx hb dL_areOthersRight_154 (by decide) ?_
                      refine lv_icmp_ne (tgt := 170) hx hb dL_areOthersRight_155 (by decide) (fun c_155_45 => ?_) (fun c_155_45 => ?_)
                      · exact absurd c_155_45 (by decide)
                      · skip
                        refine lv_aload_n hx hb dL_areOthersRight_158 rfl (lv_at hl 1 rfl) ?_
                        refine lv_iload hx hb dL_areOthersRight_159 (lv_at hl 5 rfl) ?_
                        refine lv_iconst (v := 2) hx hb dL_areOthersRight_161 (by decide) ?_
                        refine x_Vi (As := [.int (nI c), .int 2]) (rest0 := []) ⟨hx, hb, hml, hown, hts⟩ (c_X8_ofLock l D cA ad tr R5 H.size τ pd π bd tp ρ h102 (nI c) 2 (nI_pos (by omega)) ((nI_ltI (b := 2) (by omega) (by decide)).mpr (by omega)) (by decide) (by decide)) (cwV 2 hts gl_areOthersRight_X8_ofLock rfl rfl rfl (by decide +kernel) ⟨Nat.le_of_ble_eq_true rfl, Nat.le_of_ble_eq_true rfl⟩) hK hP hD hS hA 209 w_tp rfl hl.1 rfl rfl (Nat.le_of_ble_eq_true rfl) ⟨Nat.le_of_ble_eq_true rfl, Nat.le_of_ble_eq_true rfl⟩ dL_areOthersRight_162 (fun r _ H locs hw hP hD hS => ?_)
                        obtain rfl : r = (nI f1) := hw.trans l2
                        refine lv_iload hx hb dL_areOthersRight_165 (lv_at hl 0 rfl) ?_
                        refine lv_icmp_ne (tgt := 172) hx hb dL_areOthersRight_167 (by decide) (fun c_167_46 => ?_) (fun c_167_46 => ?_)
                        · skip
                          exact J172 H locs ls hP hD hS (lv_sub hl [1, 2, 3, 4, 5] rfl)
                        · exact absurd ((nI_eq (a := f1) (b := p1) (by omega) (by omega)).mp c_167_46) (by omega)
            · exact absurd ((nI_leI (a := 0) (b := p1) (by omega) (by omega)).mpr (by omega)) c_85_40
  · skip
    have hk : k < T := Nat.not_le.mp (fun z => c_12_4 ((nI_leI (by omega) (by omega)).mpr z))
    obtain ⟨n, rfl⟩ : ∃ j, n = j + 1 := ⟨n - 1, by omega⟩
    obtain ⟨v, hv5, hv8, hvw⟩ := task_w8 h hk
    refine lv_aload_n hx hb dL_areOthersRight_15 rfl (lv_at hl 0 rfl) ?_
    refine lv_iload_n hx hb dL_areOthersRight_16 rfl (lv_at hl 2 rfl) ?_
    refine lv_bipush (v := 8) hx hb dL_areOthersRight_17 (by decide) ?_
    refine x_Vi (As := [.int (nI k), .int 8]) (rest0 := []) ⟨hx, hb, hml, hown, hts⟩ (c_X8_ofTask l D cA ad tr R3 H.size τ pd π bd tp ρ h102 (nI k) 8 (nI_pos (by omega)) (by rw [h.1.1.2.2.1]; exact (nI_ltI (by omega) (by omega)).mpr (by omega)) (by decide) (by decide)) (cwV 2 hts gl_areOthersRight_X8_ofTask rfl rfl rfl (by decide +kernel) ⟨Nat.le_of_ble_eq_true rfl, Nat.le_of_ble_eq_true rfl⟩) hK hP hD hS hA 209 w_tp rfl hl.1 rfl rfl (Nat.le_of_ble_eq_true rfl) ⟨Nat.le_of_ble_eq_true rfl, Nat.le_of_ble_eq_true rfl⟩ dL_areOthersRight_19 (fun r _ H locs hw hP hD hS => ?_)
    obtain rfl : r = (nI v) := hw.trans hv8
    refine lv_iconst (v := 5) hx hb dL_areOthersRight_22 (by decide) ?_
    refine lv_icmp_ge (tgt := 39) hx hb dL_areOthersRight_23 (by decide) (fun c_23_47 => ?_) (fun c_23_47 => ?_)
    · skip
      have hv : v = 5 := by have := (nI_leI (a := 5) (by decide) (by omega)).mp c_23_47; omega
      refine lv_iinc (v := (nI (k + 1))) (lv' := [(2, .int (nI (k + 1))), (0, .ref tp), (1, .ref q1)]) hx hb dL_areOthersRight_39 hl (k := 2) rfl (show (nI k) + 1 = (nI (k + 1)) from nI_1 k) (by decide) rfl (fun ls hl => ?_)
      refine lv_goto (tgt := 6) hx hb dL_areOthersRight_42 (by decide) ?_
      exact ih n (Nat.lt_succ_self n) H locs ls ⟨(k + 1), f, R3, ⟨by omega, w8_upd5 hvw hv hf, eR3⟩, hP, hD, hS, lv_sub hl [1, 2, 0] rfl⟩
    · skip
      have hv : v < 5 := Nat.not_le.mp (fun z => c_23_47 ((nI_leI (a := 5) (by decide) (by omega)).mpr z))
      refine lv_aload_n hx hb dL_areOthersRight_26 rfl (lv_at hl 1 rfl) ?_
      refine lv_aload_n hx hb dL_areOthersRight_27 rfl (lv_at hl 0 rfl) ?_
      refine lv_iload_n hx hb dL_areOthersRight_28 rfl (lv_at hl 2 rfl) ?_
      refine lv_bipush (v := 8) hx hb dL_areOthersRight_29 (by decide) ?_
      refine x_Vi (As := [.int (nI k), .int 8]) (rest0 := [.ref q1]) ⟨hx, hb, hml, hown, hts⟩ (c_X8_ofTask l D cA ad tr R3 H.size τ pd π bd tp ρ h102 (nI k) 8 (nI_pos (by omega)) (by rw [h.1.1.2.2.1]; exact (nI_ltI (by omega) (by omega)).mpr (by omega)) (by decide) (by decide)) (cwV 2 hts gl_areOthersRight_X8_ofTask rfl rfl rfl (by decide +kernel) ⟨Nat.le_of_ble_eq_true rfl, Nat.le_of_ble_eq_true rfl⟩) hK hP hD hS hA 209 w_tp rfl hl.1 rfl rfl (Nat.le_of_ble_eq_true rfl) ⟨Nat.le_of_ble_eq_true rfl, Nat.le_of_ble_eq_true rfl⟩ dL_areOthersRight_31 (fun r _ H locs hw hP hD hS => ?_)
      obtain rfl : r = (nI v) := hw.trans hv8
      refine lv_dup2_11 hx hb dL_areOthersRight_34 rfl rfl ?_
      refine va_iald hx hb hK hP (0 + rest.length + 210) (0) (wNewR eR3 rfl) rfl (vp_in_nI (by omega) (by omega)) dL_areOthersRight_35 ?_
      refine W.eq (g2 := F0 m 36 ls [.int (nI (cnt (w8 τ v) k)), .int (nI v), .ref q1]) (by rw [nI_clamp (show v < 2 ^ 31 by omega)]; show F0 m _ ls (.int (f v) :: _) = _; rw [hf v hv]) ?_
      refine lv_iconst (v := 1) hx hb dL_areOthersRight_36 (by decide) ?_
      refine lv_iadd hx hb dL_areOthersRight_37 ?_
      refine W.eq (g2 := F0 m 38 ls [.int (nI ((cnt (w8 τ v) k) + 1)), .int (nI v), .ref q1]) (by rw [show ((nI (cnt (w8 τ v) k)) : Int32) + 1 = (nI ((cnt (w8 τ v) k) + 1)) from nI_add (cnt (w8 τ v) k) 1]) ?_
      refine va_iast hx hb hK hP hD hS (0 + rest.length + 210) (0) (wNewR eR3 rfl) rfl (vp_in_nI (by omega) (by omega)) dL_areOthersRight_38 (fun H locs hP hD hS => ?_)
      rw [wNewSR eR3] at hP hD
      rw [nI_clamp (show v < 2 ^ 31 by omega)] at hP hD
      obtain ⟨f48, ef48⟩ : ∃ z : Nat → Int32, z = upd f v (nI ((cnt (w8 τ v) k) + 1)) := ⟨_, rfl⟩
      obtain ⟨R49, eR49⟩ : ∃ z : va_W, z = rest ++ [(q1, .inl (cA 0, 5, .inl f48))] := ⟨_, rfl⟩
      have hP : va_P D vwCl (wB cA ad τ ++ (wPg cA ad pd π ++ (wB cA bd ρ ++ ((tp, .inr (8, tpF ad bd)) :: R49)))) H := by rw [eR49, ef48]; exact hP
      have hD : va_D A (wB cA ad τ ++ (wPg cA ad pd π ++ (wB cA bd ρ ++ ((tp, .inr (8, tpF ad bd)) :: R49)))) := by rw [eR49, ef48]; exact hD
      refine lv_iinc (v := (nI (k + 1))) (lv' := [(2, .int (nI (k + 1))), (0, .ref tp), (1, .ref q1)]) hx hb dL_areOthersRight_39 hl (k := 2) rfl (show (nI k) + 1 = (nI (k + 1)) from nI_1 k) (by decide) rfl (fun ls hl => ?_)
      refine lv_goto (tgt := 6) hx hb dL_areOthersRight_42 (by decide) ?_
      exact ih n (Nat.lt_succ_self n) H locs ls ⟨(k + 1), f48, R49, ⟨by omega, w8_upd hvw hv5 hf ef48, eR49⟩, hP, hD, hS, lv_sub hl [1, 2, 0] rfl⟩
