/-! act, where a call throws -/
noncomputable def wl9_act : List Cond := .codeWith yL_act cL_act 11 (some .boolean) [(6, 95, 344, 95), (96, 191, 344, 95), (192, 261, 344, 95), (262, 343, 344, 95), (6, 95, 370, 97), (96, 191, 370, 97), (192, 261, 370, 97), (262, 343, 370, 97)] :: ([.classLink RL 95 IOE, .classLink RL 97 ISE, .methodLink RL 77 Lib.Math.max.name, .static Lib.Math.max.name, .initialized "java/lang/Math", .code Lib.Math.max.name Lib.Math.max.code 2 (some .int)] ++ (wsV RL 43 RX8 yX8_many w8_many ++ (va_wsS RL 25 yL_below wl_below ++ (wsV RL 74 RX8 yX8_start wl9_start ++ (wsV RL 82 RX8 yX8_wouldHit wl9_wouldHit ++ [])))))
theorem gl_act9_X8_many : GoodIn wl9_act (wsV RL 43 RX8 yX8_many w8_many) := gw_c (gw_r (gw_l (gw_self (by decide +kernel))))
theorem gl_act9_L_below : GoodIn wl9_act (va_wsS RL 25 yL_below wl_below) := gw_c (gw_r (gw_r (gw_l (gw_self (by decide +kernel)))))
theorem gl_act9_X8_start : GoodIn wl9_act (wsV RL 74 RX8 yX8_start wl9_start) := gw_c (gw_r (gw_r (gw_r (gw_l (gw_self (by decide +kernel))))))
theorem gl_act9_X8_wouldHit : GoodIn wl9_act (wsV RL 82 RX8 yX8_wouldHit wl9_wouldHit) := gw_c (gw_r (gw_r (gw_r (gw_r (gw_l (gw_self (by decide +kernel)))))))
theorem max1_0 : (if (1 : Int32) < nI 0 then nI 0 else 1) = nI 1 := by decide
set_option maxHeartbeats 1000000 in
set_option maxRecDepth 100000 in
theorem c_L_act_w (l : Launch) (htr : l.stackTraces = false) (D : va_G) (cA : Nat → ClassId) (ad : Nat → Nat) (tr : List (ClassId × FieldType)) (rest : va_W) (sz : Nat) (τ : Sg) (pd : Nat → Nat) (π : Sg) (bd : Nat → Nat) (tp : Nat) (ρ : Sg) (h102 : bd 102 = ad 102) (sa : Nat) (tx : String) (x : Int32) (T : Nat) (hT : T ≤ 24) (h1 : m_howMany τ π 1 = nI T) (e0 : m_below x (nI 9) = nI 2) (h7 : m_howMany τ π 7 = nI 0) (h03 : τ 0 3 = nI 0) : vx_Met l yL_act wl9_act ({ frames := 8, cells := 1, slots := 6, locals := 200 }) (va_Pc [.ref tp, .int x] (fun U => inW D (tyB cA ++ tr) (wB cA ad τ ++ (wPg cA ad pd π ++ (wB cA bd ρ ++ ((tp, .inr (8, tpF ad bd)) :: rest)))) sz U ∧ TH IOE 178 tx sa (va_A (wB cA ad τ ++ (wPg cA ad pd π ++ (wB cA bd ρ ++ ((tp, .inr (8, tpF ad bd)) :: rest)))) sz) U U.heap ∧ va_Nc ISE IOE U)) (va_Qi (fun (r : Int32) (_ : Unit) => r = 1) (fun _ : Unit => outW D (tyB cA ++ tr) (va_A (wB cA ad τ ++ (wPg cA ad pd π ++ (wB cA bd ρ ++ ((tp, .inr (8, tpF ad bd)) :: rest)))) sz) (wB cA ad τ ++ (wPg cA ad pd π ++ (wB cA bd ρ ++ ((tp, .inr (8, tpF ad bd)) :: rest))))) (va_A (wB cA ad τ ++ (wPg cA ad pd π ++ (wB cA bd ρ ++ ((tp, .inr (8, tpF ad bd)) :: rest)))) sz)) (fun _ _ _ => False) 1 6 (va_A (wB cA ad τ ++ (wPg cA ad pd π ++ (wB cA bd ρ ++ ((tp, .inr (8, tpF ad bd)) :: rest)))) sz) := by
  refine vx_ofWH (cc := cL_act) (maxL := 11) (ret := (some .boolean)) (by decide) rfl ?_
  intro p e s m args below meth c s₁ B9 hml hv
  obtain ⟨rfl, ⟨hsz, hP, hK, hD0⟩, hTH, hNc⟩ := hv
  have hx := B9.exec
  have hb := B9.bytes
  have hr := B9.returns
  have hts := atoms_spec (ws := wl9_act) B9.pre
  have hown : s.vm.findClass RL = some m.cls := findClass_of_methodNamed B9.named
  have hlocks := B9.notSynchronized
  subst hsz
  have htab := vx_table (x := yL_act) B9 (hts (.codeWith yL_act cL_act 11 (some .boolean) [(6, 95, 344, 95), (96, 191, 344, 95), (192, 261, 344, 95), (262, 343, 344, 95), (6, 95, 370, 97), (96, 191, 370, 97), (192, 261, 370, 97), (262, 343, 370, 97)]) List.mem_cons_self)
  have k95 := hts (.classLink RL 95 IOE) (List.mem_cons_of_mem _ List.mem_cons_self)
  have k97 := hts (.classLink RL 97 ISE) (List.mem_cons_of_mem _ (List.mem_cons_of_mem _ List.mem_cons_self))
  have hD := hD0.self (sz := s.heap.size)
  clear hD0
  generalize hAe : va_A (wB cA ad τ ++ (wPg cA ad pd π ++ (wB cA bd ρ ++ ((tp, .inr (8, tpF ad bd)) :: rest)))) s.heap.size = A at hD hTH ⊢
  have hA : ∀ q : Nat, s.heap.size ≤ q → A q := fun q h => by rw [← hAe]; exact Or.inr h
  clear hAe
  have hS : va_S A s.heap s.heap [] := va_S.rf
  have hP : va_P D vwCl (wB cA ad τ ++ (wPg cA ad pd π ++ (wB cA bd ρ ++ ((tp, .inr (8, tpF ad bd)) :: rest)))) s.heap := hP
  have hl := lv_entry ([.ref tp, .int x]) (n := 11) (Nat.le_of_ble_eq_true rfl)
  rw [lg_entry_eq]
  generalize (lg_sl ([.ref tp, .int x]) ++ List.replicate (11 - (lg_sl ([.ref tp, .int x])).length) Slot.unset).toArray = ls at hl ⊢
  have hl : lv_has ls 11 [(0, .ref tp), (1, .int x)] := hl
  refine lv_aload_n hx hb dL_act_0 rfl (lv_at hl 0 rfl) ?_
  refine lv_iconst (v := 1) hx hb dL_act_1 (by decide) ?_
  refine x_Vi (As := [.int 1]) (rest0 := []) ⟨hx, hb, hml, hown, hts⟩ (c_X8_many l D cA ad tr rest s.heap.size τ pd π bd tp ρ h102 1 (by decide) (by decide)) (cwV 1 hts gl_act9_X8_many rfl rfl rfl (by decide +kernel) ⟨Nat.le_of_ble_eq_true rfl, Nat.le_of_ble_eq_true rfl⟩) hK hP hD hS hA 209 w_tp rfl hl.1 rfl rfl (Nat.le_of_ble_eq_true rfl) ⟨Nat.le_of_ble_eq_true rfl, Nat.le_of_ble_eq_true rfl⟩ dL_act_2 (fun r _ H locs hw hP hD hS => ?_)
  obtain rfl : r = (nI T) := hw.trans h1
  refine lv_istore_n (lv' := [(2, .int (nI T)), (0, .ref tp), (1, .int x)]) hx hb dL_act_5 rfl hl (by decide) rfl (fun ls hl => ?_)
  refine lv_iload_n hx hb dL_act_6 rfl (lv_at hl 2 rfl) ?_
  refine lv_bipush (v := 9) hx hb dL_act_7 (by decide) ?_
  refine x_Si (As := [.int x, .int 9]) (rest0 := []) ⟨hx, hb, hml, hown, hts⟩ (c_L_below l D (tyB cA ++ tr) (wB cA ad τ ++ (wPg cA ad pd π ++ (wB cA bd ρ ++ ((tp, .inr (8, tpF ad bd)) :: rest)))) _ x 9 (by decide)) (va_cwS 2 hts gl_act9_L_below rfl rfl rfl (by decide +kernel) ⟨Nat.le_of_ble_eq_true rfl, Nat.le_of_ble_eq_true rfl⟩) hK hP hD hS hA hl.1 rfl rfl (Nat.le_of_ble_eq_true rfl) ⟨Nat.le_of_ble_eq_true rfl, Nat.le_of_ble_eq_true rfl⟩ dL_act_9 (fun r _ H locs hw hP hD hS => ?_)
  obtain ⟨y1, hy1, ey1⟩ := below_nI x (k := 9) (by omega) (by omega)
  obtain rfl : r = nI y1 := hw.trans ey1
  have z9 : y1 = 2 := nI_inj (by omega) (by omega) (ey1.symm.trans e0)
  rw [z9]
  refine lv_tableIn (off := 84) (tgt := 96) hx hb dL_act_12 (by decide) (by decide) (by decide) (by decide) ?_
  refine lv_iload_n hx hb dL_act_96 rfl (lv_at hl 2 rfl) ?_
  refine lv_iconst (v := 4) hx hb dL_act_97 (by decide) ?_
  refine lv_ishr hx hb dL_act_98 ?_
  refine lv_iconst (v := 1) hx hb dL_act_99 (by decide) ?_
  refine lv_aload_n hx hb dL_act_100 rfl (lv_at hl 1 rfl) ?_
  refine lv_bipush (v := 7) hx hb dL_act_101 (by decide) ?_
  refine x_Vi (As := [.int 7]) (rest0 := [.int 1, .int (x >>> (4 &&& 31))]) ⟨hx, hb, hml, hown, hts⟩ (c_X8_many l D cA ad tr rest H.size τ pd π bd tp ρ h102 7 (by decide) (by decide)) (cwV 1 hts gl_act9_X8_many rfl rfl rfl (by decide +kernel) ⟨Nat.le_of_ble_eq_true rfl, Nat.le_of_ble_eq_true rfl⟩) hK hP hD hS hA 209 w_tp rfl hl.1 rfl rfl (Nat.le_of_ble_eq_true rfl) ⟨Nat.le_of_ble_eq_true rfl, Nat.le_of_ble_eq_true rfl⟩ dL_act_103 (fun r _ H locs hw hP hD hS => ?_)
  obtain rfl : r = (nI 0) := hw.trans h7
  refine va_mmax (rest := [.int (x >>> (4 &&& 31))]) hx hb (hml.trans hl.1.symm) hown (hts (.methodLink RL 77 Lib.Math.max.name) (by decide +kernel)) (hts (.static Lib.Math.max.name) (by decide +kernel)) (hts (.initialized "java/lang/Math") (by decide +kernel)) (hts (.code Lib.Math.max.name Lib.Math.max.code 2 (some .int)) (by decide +kernel)) (Nat.le_of_ble_eq_true rfl) (Nat.le_of_ble_eq_true rfl) (Nat.le_of_ble_eq_true rfl) (Nat.le_of_ble_eq_true rfl) dL_act_106 ?_
  refine W.eq (g2 := F0 m 109 ls [.int (nI 1), .int (x >>> (4 &&& 31))]) (by rw [show (if 1 < (nI 0) then (nI 0) else 1) = (nI 1) from max1_0]) ?_
  refine x_Si (As := [.int (x >>> (4 &&& 31)), .int (nI 1)]) (rest0 := []) ⟨hx, hb, hml, hown, hts⟩ (c_L_below l D (tyB cA ++ tr) (wB cA ad τ ++ (wPg cA ad pd π ++ (wB cA bd ρ ++ ((tp, .inr (8, tpF ad bd)) :: rest)))) _ (x >>> (4 &&& 31)) (nI 1) (fun z => absurd ((nI_eq (a := 1) (b := 0) (by omega) (by decide)).mp z) (by omega))) (va_cwS 2 hts gl_act9_L_below rfl rfl rfl (by decide +kernel) ⟨Nat.le_of_ble_eq_true rfl, Nat.le_of_ble_eq_true rfl⟩) hK hP hD hS hA hl.1 rfl rfl (Nat.le_of_ble_eq_true rfl) ⟨Nat.le_of_ble_eq_true rfl, Nat.le_of_ble_eq_true rfl⟩ dL_act_109 (fun r _ H locs hw hP hD hS => ?_)
  obtain ⟨y2, hy2, ey2⟩ := below_nI (x >>> (4 &&& 31)) (k := 1) (by omega) (by omega)
  obtain rfl : r = nI y2 := hw.trans ey2
  refine lv_istore_n (lv' := [(3, .int (nI y2)), (2, .int (nI T)), (0, .ref tp), (1, .int x)]) hx hb dL_act_112 rfl hl (by decide) rfl (fun ls hl => ?_)
  refine lv_aload_n hx hb dL_act_113 rfl (lv_at hl 2 rfl) ?_
  refine lv_iload_n hx hb dL_act_114 rfl (lv_at hl 0 rfl) ?_
  have hFc := xA hD hS hA
  refine vx_calli (mc := 1) (ms := 6) (vx_runV (As := [.int (nI y2)]) (rest := []) ⟨hx, hb, hml, hown, hts⟩ (c_X8_wouldHit_t l htr D cA ad tr rest H.size τ pd π bd tp ρ sa tx (nI y2) (nI_pos (by omega)) (by rw [h03]; exact fun z => absurd ((nI_ltI (b := 0) (by omega) (by decide)).mp z) (by omega))) (cwV 1 hts gl_act9_X8_wouldHit rfl rfl rfl (by decide +kernel) ⟨Nat.le_of_ble_eq_true rfl, Nat.le_of_ble_eq_true rfl⟩) ⟨fun a U g mk q => ⟨q.1, inW_blind q.2.1, TH.call q.2.2⟩, va_recv hK hP (show vwCl[8]? = some (RX8, TX8, 7) from rfl) w_tp, fun U hU hW => ⟨rfl, ⟨by rw [hU], by rw [hU]; exact hP, va_K.moved hW.alike hK, hD.weaken (fun _ _ _ _ => trivial)⟩, by rw [hU]; exact ((hTH.kept hS.2.1).narrow hFc).warm hW⟩⟩ rfl rfl hl.1 rfl (Nat.le_of_ble_eq_true rfl) dL_act_115 ⟨Nat.le_of_ble_eq_true rfl, Nat.le_of_ble_eq_true rfl⟩) hS (fun q _ h => hFc q h) hFc (fun q _ h => hFc q h) (fun E ce q9 u t9 H1 locs1 ht hvm _ hB hz hk hS1 hce hcv hcl => ?_) (fun r u t9 H1 locs1 ht hvm hpo => hpo.elim)
  obtain ⟨hE, hP1, hK1, hD1⟩ := hB
  subst hE
  have hP : va_P D vwCl (wB cA ad τ ++ (wPg cA ad pd π ++ (wB cA bd ρ ++ ((tp, .inr (8, tpF ad bd)) :: rest)))) H1 := by rw [← ht]; exact hP1
  have hD : va_D A (wB cA ad τ ++ (wPg cA ad pd π ++ (wB cA bd ρ ++ ((tp, .inr (8, tpF ad bd)) :: rest)))) := hD1.weaken (fun k q _ h => hFc q.1 h)
  have hS := hS1
  refine vx_catch (name := IOE) hown [⟨6, 95, 344, 95⟩] ⟨96, 191, 344, 95⟩ [⟨192, 261, 344, 95⟩, ⟨262, 343, 344, 95⟩, ⟨6, 95, 370, 97⟩, ⟨96, 191, 370, 97⟩, ⟨192, 261, 370, 97⟩, ⟨262, 343, 370, 97⟩] (htab.trans rfl) (fun z hz => Or.inl (by rw [List.mem_singleton.mp hz]; decide)) (by decide) (by decide) k95 (hTH.words _ _ (by unfold bdw; exact List.mem_cons_of_mem _ (List.mem_cons_of_mem _ (List.mem_cons_of_mem _ List.mem_cons_self)))) hce hcv hcl ?_
  refine lv_astore_n (lv' := [(3, .ref q9), (2, .int (nI T)), (0, .ref tp), (1, .int x)]) hx hb dL_act_344 rfl hl (by decide) rfl (fun ls hl => ?_)
  refine lv_iload_n hx hb dL_act_345 rfl (lv_at hl 3 rfl) ?_
  refine lv_bipush (v := 9) hx hb dL_act_346 (by decide) ?_
  refine x_Si (As := [.int x, .int 9]) (rest0 := []) ⟨hx, hb, hml, hown, hts⟩ (c_L_below l D (tyB cA ++ tr) (wB cA ad τ ++ (wPg cA ad pd π ++ (wB cA bd ρ ++ ((tp, .inr (8, tpF ad bd)) :: rest)))) _ x 9 (by decide)) (va_cwS 2 hts gl_act9_L_below rfl rfl rfl (by decide +kernel) ⟨Nat.le_of_ble_eq_true rfl, Nat.le_of_ble_eq_true rfl⟩) hK hP hD hS hA hl.1 rfl rfl (Nat.le_of_ble_eq_true rfl) ⟨Nat.le_of_ble_eq_true rfl, Nat.le_of_ble_eq_true rfl⟩ dL_act_348 (fun r _ H locs hw hP hD hS => ?_)
  obtain rfl : r = nI y1 := hw.trans ey1
  refine lv_iconst (v := 2) hx hb dL_act_351 (by decide) ?_
  refine lv_icmp_ne (tgt := 368) hx hb dL_act_352 (by decide) (fun c_352_3 => ?_) (fun c_352_3 => ?_)
  · exact absurd ((nI_eq (a := y1) (b := 2) (by omega) (by omega)).mpr (by omega)) c_352_3
  · skip
    refine lv_aload_n hx hb dL_act_355 rfl (lv_at hl 2 rfl) ?_
    refine lv_bipush (v := 7) hx hb dL_act_356 (by decide) ?_
    refine x_Vi (As := [.int 7]) (rest0 := []) ⟨hx, hb, hml, hown, hts⟩ (c_X8_many l D cA ad tr rest H.size τ pd π bd tp ρ h102 7 (by decide) (by decide)) (cwV 1 hts gl_act9_X8_many rfl rfl rfl (by decide +kernel) ⟨Nat.le_of_ble_eq_true rfl, Nat.le_of_ble_eq_true rfl⟩) hK hP hD hS hA 209 w_tp rfl hl.1 rfl rfl (Nat.le_of_ble_eq_true rfl) ⟨Nat.le_of_ble_eq_true rfl, Nat.le_of_ble_eq_true rfl⟩ dL_act_358 (fun r _ H locs hw hP hD hS => ?_)
    obtain rfl : r = (nI 0) := hw.trans h7
    refine lv_if_ne (tgt := 368) hx hb dL_act_361 (by decide) (fun c_361_4 => ?_) (fun c_361_4 => ?_)
    · exact absurd ((nI_eq (a := 0) (b := 0) (by omega) (by omega)).mpr (by omega)) c_361_4
    · skip
      refine lv_iconst (v := 1) hx hb dL_act_364 (by decide) ?_
      refine lv_goto (tgt := 369) hx hb dL_act_365 (by decide) ?_
      exact vx_ret (x_zret hx hb hr rfl hlocks hK () hP hD hS dL_act_369 rfl)
set_option maxHeartbeats 1000000 in
set_option maxRecDepth 100000 in
theorem c_L_act_s (l : Launch) (htr : l.stackTraces = false) (D : va_G) (cA : Nat → ClassId) (ad : Nat → Nat) (tr : List (ClassId × FieldType)) (rest : va_W) (sz : Nat) (τ : Sg) (pd : Nat → Nat) (π : Sg) (bd : Nat → Nat) (tp : Nat) (ρ : Sg) (h102 : bd 102 = ad 102) (sa : Nat) (tx : String) (x : Int32) (T : Nat) (hT : T ≤ 24) (h1 : m_howMany τ π 1 = nI T) (j0 : Nat) (hj0 : j0 < 2) (e0 : m_below x (nI 9) = nI j0) (hT24 : T = 24) (hfull : m_at (τ 0 1) 24 = none) (B : Nat) (hB5 : B = 5) (hIP : IP π B) : vx_Met l yL_act wl9_act ({ frames := 8, cells := 1, slots := 6, locals := 200 }) (va_Pc [.ref tp, .int x] (fun U => inW D (tyB cA ++ tr) (wB cA ad τ ++ (wPg cA ad pd π ++ (wB cA bd ρ ++ ((tp, .inr (8, tpF ad bd)) :: rest)))) sz U ∧ TH ISE 106 tx sa (va_A (wB cA ad τ ++ (wPg cA ad pd π ++ (wB cA bd ρ ++ ((tp, .inr (8, tpF ad bd)) :: rest)))) sz) U U.heap ∧ va_Nc ISE IOE U)) (va_Qi (fun (r : Int32) (_ : Unit) => r = 1) (fun _ : Unit => outW D (tyB cA ++ tr) (va_A (wB cA ad τ ++ (wPg cA ad pd π ++ (wB cA bd ρ ++ ((tp, .inr (8, tpF ad bd)) :: rest)))) sz) (wB cA ad τ ++ (wPg cA ad pd π ++ (wB cA bd ρ ++ ((tp, .inr (8, tpF ad bd)) :: rest))))) (va_A (wB cA ad τ ++ (wPg cA ad pd π ++ (wB cA bd ρ ++ ((tp, .inr (8, tpF ad bd)) :: rest)))) sz)) (fun _ _ _ => False) 1 6 (va_A (wB cA ad τ ++ (wPg cA ad pd π ++ (wB cA bd ρ ++ ((tp, .inr (8, tpF ad bd)) :: rest)))) sz) := by
  refine vx_ofWH (cc := cL_act) (maxL := 11) (ret := (some .boolean)) (by decide) rfl ?_
  intro p e s m args below meth c s₁ B9 hml hv
  obtain ⟨rfl, ⟨hsz, hP, hK, hD0⟩, hTH, hNc⟩ := hv
  have hx := B9.exec
  have hb := B9.bytes
  have hr := B9.returns
  have hts := atoms_spec (ws := wl9_act) B9.pre
  have hown : s.vm.findClass RL = some m.cls := findClass_of_methodNamed B9.named
  have hlocks := B9.notSynchronized
  subst hsz
  have htab := vx_table (x := yL_act) B9 (hts (.codeWith yL_act cL_act 11 (some .boolean) [(6, 95, 344, 95), (96, 191, 344, 95), (192, 261, 344, 95), (262, 343, 344, 95), (6, 95, 370, 97), (96, 191, 370, 97), (192, 261, 370, 97), (262, 343, 370, 97)]) List.mem_cons_self)
  have k95 := hts (.classLink RL 95 IOE) (List.mem_cons_of_mem _ List.mem_cons_self)
  have k97 := hts (.classLink RL 97 ISE) (List.mem_cons_of_mem _ (List.mem_cons_of_mem _ List.mem_cons_self))
  have hD := hD0.self (sz := s.heap.size)
  clear hD0
  generalize hAe : va_A (wB cA ad τ ++ (wPg cA ad pd π ++ (wB cA bd ρ ++ ((tp, .inr (8, tpF ad bd)) :: rest)))) s.heap.size = A at hD hTH ⊢
  have hA : ∀ q : Nat, s.heap.size ≤ q → A q := fun q h => by rw [← hAe]; exact Or.inr h
  clear hAe
  have hS : va_S A s.heap s.heap [] := va_S.rf
  have hP : va_P D vwCl (wB cA ad τ ++ (wPg cA ad pd π ++ (wB cA bd ρ ++ ((tp, .inr (8, tpF ad bd)) :: rest)))) s.heap := hP
  have hl := lv_entry ([.ref tp, .int x]) (n := 11) (Nat.le_of_ble_eq_true rfl)
  rw [lg_entry_eq]
  generalize (lg_sl ([.ref tp, .int x]) ++ List.replicate (11 - (lg_sl ([.ref tp, .int x])).length) Slot.unset).toArray = ls at hl ⊢
  have hl : lv_has ls 11 [(0, .ref tp), (1, .int x)] := hl
  refine lv_aload_n hx hb dL_act_0 rfl (lv_at hl 0 rfl) ?_
  refine lv_iconst (v := 1) hx hb dL_act_1 (by decide) ?_
  refine x_Vi (As := [.int 1]) (rest0 := []) ⟨hx, hb, hml, hown, hts⟩ (c_X8_many l D cA ad tr rest s.heap.size τ pd π bd tp ρ h102 1 (by decide) (by decide)) (cwV 1 hts gl_act9_X8_many rfl rfl rfl (by decide +kernel) ⟨Nat.le_of_ble_eq_true rfl, Nat.le_of_ble_eq_true rfl⟩) hK hP hD hS hA 209 w_tp rfl hl.1 rfl rfl (Nat.le_of_ble_eq_true rfl) ⟨Nat.le_of_ble_eq_true rfl, Nat.le_of_ble_eq_true rfl⟩ dL_act_2 (fun r _ H locs hw hP hD hS => ?_)
  obtain rfl : r = (nI T) := hw.trans h1
  refine lv_istore_n (lv' := [(2, .int (nI T)), (0, .ref tp), (1, .int x)]) hx hb dL_act_5 rfl hl (by decide) rfl (fun ls hl => ?_)
  refine lv_iload_n hx hb dL_act_6 rfl (lv_at hl 2 rfl) ?_
  refine lv_bipush (v := 9) hx hb dL_act_7 (by decide) ?_
  refine x_Si (As := [.int x, .int 9]) (rest0 := []) ⟨hx, hb, hml, hown, hts⟩ (c_L_below l D (tyB cA ++ tr) (wB cA ad τ ++ (wPg cA ad pd π ++ (wB cA bd ρ ++ ((tp, .inr (8, tpF ad bd)) :: rest)))) _ x 9 (by decide)) (va_cwS 2 hts gl_act9_L_below rfl rfl rfl (by decide +kernel) ⟨Nat.le_of_ble_eq_true rfl, Nat.le_of_ble_eq_true rfl⟩) hK hP hD hS hA hl.1 rfl rfl (Nat.le_of_ble_eq_true rfl) ⟨Nat.le_of_ble_eq_true rfl, Nat.le_of_ble_eq_true rfl⟩ dL_act_9 (fun r _ H locs hw hP hD hS => ?_)
  obtain ⟨y1, hy1, ey1⟩ := below_nI x (k := 9) (by omega) (by omega)
  obtain rfl : r = nI y1 := hw.trans ey1
  have z9 : y1 = j0 := nI_inj (by omega) (by omega) (ey1.symm.trans e0)
  rcases (show j0 = 0 ∨ j0 = 1 by omega) with e1 | e1
  · skip
    rw [z9, e1]
    refine lv_tableIn (off := 36) (tgt := 48) hx hb dL_act_12 (by decide) (by decide) (by decide) (by decide) ?_
    refine lv_aload_n hx hb dL_act_48 rfl (lv_at hl 1 rfl) ?_
    refine lv_iload_n hx hb dL_act_49 rfl (lv_at hl 2 rfl) ?_
    refine lv_iconst (v := 4) hx hb dL_act_50 (by decide) ?_
    refine lv_ishr hx hb dL_act_51 ?_
    refine lv_iconst (v := 5) hx hb dL_act_52 (by decide) ?_
    refine x_Si (As := [.int (x >>> (4 &&& 31)), .int 5]) (rest0 := [.ref tp]) ⟨hx, hb, hml, hown, hts⟩ (c_L_below l D (tyB cA ++ tr) (wB cA ad τ ++ (wPg cA ad pd π ++ (wB cA bd ρ ++ ((tp, .inr (8, tpF ad bd)) :: rest)))) _ (x >>> (4 &&& 31)) 5 (by decide)) (va_cwS 2 hts gl_act9_L_below rfl rfl rfl (by decide +kernel) ⟨Nat.le_of_ble_eq_true rfl, Nat.le_of_ble_eq_true rfl⟩) hK hP hD hS hA hl.1 rfl rfl (Nat.le_of_ble_eq_true rfl) ⟨Nat.le_of_ble_eq_true rfl, Nat.le_of_ble_eq_true rfl⟩ dL_act_53 (fun r _ H locs hw hP hD hS => ?_)
    obtain ⟨y2, hy2, ey2⟩ := below_nI (x >>> (4 &&& 31)) (k := 5) (by omega) (by omega)
    obtain rfl : r = nI y2 := hw.trans ey2
    have hFc := xA hD hS hA
    refine vx_calli (mc := 1) (ms := 6) (vx_runV (As := [.int (nI y2)]) (rest := []) ⟨hx, hb, hml, hown, hts⟩ (c_X8_start_t l htr D cA ad tr rest H.size τ pd π bd tp ρ sa tx (nI y2) (nI_pos (by omega)) (by rw [hIP.1]; exact (nI_ltI (by omega) (by omega)).mpr (by omega)) hfull) (cwV 1 hts gl_act9_X8_start rfl rfl rfl (by decide +kernel) ⟨Nat.le_of_ble_eq_true rfl, Nat.le_of_ble_eq_true rfl⟩) ⟨fun a U g mk q => ⟨q.1, inW_blind q.2.1, TH.call q.2.2⟩, va_recv hK hP (show vwCl[8]? = some (RX8, TX8, 7) from rfl) w_tp, fun U hU hW => ⟨rfl, ⟨by rw [hU], by rw [hU]; exact hP, va_K.moved hW.alike hK, hD.weaken (fun _ _ _ _ => trivial)⟩, by rw [hU]; exact ((hTH.kept hS.2.1).narrow hFc).warm hW⟩⟩ rfl rfl hl.1 rfl (Nat.le_of_ble_eq_true rfl) dL_act_56 ⟨Nat.le_of_ble_eq_true rfl, Nat.le_of_ble_eq_true rfl⟩) hS (fun q _ h => hFc q h) hFc (fun q _ h => hFc q h) (fun E ce q9 u t9 H1 locs1 ht hvm _ hB hz hk hS1 hce hcv hcl => ?_) (fun r u t9 H1 locs1 ht hvm hpo => hpo.elim)
    obtain ⟨hE, hP1, hK1, hD1⟩ := hB
    subst hE
    have hP : va_P D vwCl (wB cA ad τ ++ (wPg cA ad pd π ++ (wB cA bd ρ ++ ((tp, .inr (8, tpF ad bd)) :: rest)))) H1 := by rw [← ht]; exact hP1
    have hD : va_D A (wB cA ad τ ++ (wPg cA ad pd π ++ (wB cA bd ρ ++ ((tp, .inr (8, tpF ad bd)) :: rest)))) := hD1.weaken (fun k q _ h => hFc q.1 h)
    have hS := hS1
    refine vx_catch (name := ISE) hown [⟨6, 95, 344, 95⟩, ⟨96, 191, 344, 95⟩, ⟨192, 261, 344, 95⟩, ⟨262, 343, 344, 95⟩] ⟨6, 95, 370, 97⟩ [⟨96, 191, 370, 97⟩, ⟨192, 261, 370, 97⟩, ⟨262, 343, 370, 97⟩] (htab.trans rfl) (fun z hz => (List.mem_cons.mp hz).elim (fun e => Or.inr (by rw [e]; exact ⟨by decide, IOE, k95, hNc⟩)) (fun hz => (List.mem_cons.mp hz).elim (fun e => Or.inl (by rw [e]; decide)) (fun hz => (List.mem_cons.mp hz).elim (fun e => Or.inl (by rw [e]; decide)) (fun hz => Or.inl (by rw [List.mem_singleton.mp hz]; decide))))) (by decide) (by decide) k97 (hTH.words _ _ (by unfold bdw; exact List.mem_cons_of_mem _ (List.mem_cons_of_mem _ (List.mem_cons_of_mem _ List.mem_cons_self)))) hce hcv hcl ?_
    refine lv_astore_n (lv' := [(3, .ref q9), (2, .int (nI T)), (0, .ref tp), (1, .int x)]) hx hb dL_act_370 rfl hl (by decide) rfl (fun ls hl => ?_)
    refine lv_iload_n hx hb dL_act_371 rfl (lv_at hl 3 rfl) ?_
    refine lv_bipush (v := 9) hx hb dL_act_372 (by decide) ?_
    refine x_Si (As := [.int x, .int 9]) (rest0 := []) ⟨hx, hb, hml, hown, hts⟩ (c_L_below l D (tyB cA ++ tr) (wB cA ad τ ++ (wPg cA ad pd π ++ (wB cA bd ρ ++ ((tp, .inr (8, tpF ad bd)) :: rest)))) _ x 9 (by decide)) (va_cwS 2 hts gl_act9_L_below rfl rfl rfl (by decide +kernel) ⟨Nat.le_of_ble_eq_true rfl, Nat.le_of_ble_eq_true rfl⟩) hK hP hD hS hA hl.1 rfl rfl (Nat.le_of_ble_eq_true rfl) ⟨Nat.le_of_ble_eq_true rfl, Nat.le_of_ble_eq_true rfl⟩ dL_act_374 (fun r _ H locs hw hP hD hS => ?_)
    obtain rfl : r = nI y1 := hw.trans ey1
    refine lv_iconst (v := 2) hx hb dL_act_377 (by decide) ?_
    refine lv_icmp_ge (tgt := 391) hx hb dL_act_378 (by decide) (fun c_378_3 => ?_) (fun c_378_3 => ?_)
    · exact absurd ((nI_leI (a := 2) (b := y1) (by omega) (by omega)).mp c_378_3) (by omega)
    · skip
      refine lv_iload_n hx hb dL_act_381 rfl (lv_at hl 1 rfl) ?_
      refine lv_bipush (v := 24) hx hb dL_act_382 (by decide) ?_
      refine lv_icmp_ne (tgt := 391) hx hb dL_act_384 (by decide) (fun c_384_4 => ?_) (fun c_384_4 => ?_)
      · exact absurd ((nI_eq (a := T) (b := 24) (by omega) (by omega)).mpr (by omega)) c_384_4
      · skip
        refine lv_iconst (v := 1) hx hb dL_act_387 (by decide) ?_
        refine lv_goto (tgt := 392) hx hb dL_act_388 (by decide) ?_
        exact vx_ret (x_zret hx hb hr rfl hlocks hK () hP hD hS dL_act_392 rfl)
  · skip
    rw [z9, e1]
    refine lv_tableIn (off := 36) (tgt := 48) hx hb dL_act_12 (by decide) (by decide) (by decide) (by decide) ?_
    refine lv_aload_n hx hb dL_act_48 rfl (lv_at hl 1 rfl) ?_
    refine lv_iload_n hx hb dL_act_49 rfl (lv_at hl 2 rfl) ?_
    refine lv_iconst (v := 4) hx hb dL_act_50 (by decide) ?_
    refine lv_ishr hx hb dL_act_51 ?_
    refine lv_iconst (v := 5) hx hb dL_act_52 (by decide) ?_
    refine x_Si (As := [.int (x >>> (4 &&& 31)), .int 5]) (rest0 := [.ref tp]) ⟨hx, hb, hml, hown, hts⟩ (c_L_below l D (tyB cA ++ tr) (wB cA ad τ ++ (wPg cA ad pd π ++ (wB cA bd ρ ++ ((tp, .inr (8, tpF ad bd)) :: rest)))) _ (x >>> (4 &&& 31)) 5 (by decide)) (va_cwS 2 hts gl_act9_L_below rfl rfl rfl (by decide +kernel) ⟨Nat.le_of_ble_eq_true rfl, Nat.le_of_ble_eq_true rfl⟩) hK hP hD hS hA hl.1 rfl rfl (Nat.le_of_ble_eq_true rfl) ⟨Nat.le_of_ble_eq_true rfl, Nat.le_of_ble_eq_true rfl⟩ dL_act_53 (fun r _ H locs hw hP hD hS => ?_)
    obtain ⟨y5, hy5, ey5⟩ := below_nI (x >>> (4 &&& 31)) (k := 5) (by omega) (by omega)
    obtain rfl : r = nI y5 := hw.trans ey5
    have hFc := xA hD hS hA
    refine vx_calli (mc := 1) (ms := 6) (vx_runV (As := [.int (nI y5)]) (rest := []) ⟨hx, hb, hml, hown, hts⟩ (c_X8_start_t l htr D cA ad tr rest H.size τ pd π bd tp ρ sa tx (nI y5) (nI_pos (by omega)) (by rw [hIP.1]; exact (nI_ltI (by omega) (by omega)).mpr (by omega)) hfull) (cwV 1 hts gl_act9_X8_start rfl rfl rfl (by decide +kernel) ⟨Nat.le_of_ble_eq_true rfl, Nat.le_of_ble_eq_true rfl⟩) ⟨fun a U g mk q => ⟨q.1, inW_blind q.2.1, TH.call q.2.2⟩, va_recv hK hP (show vwCl[8]? = some (RX8, TX8, 7) from rfl) w_tp, fun U hU hW => ⟨rfl, ⟨by rw [hU], by rw [hU]; exact hP, va_K.moved hW.alike hK, hD.weaken (fun _ _ _ _ => trivial)⟩, by rw [hU]; exact ((hTH.kept hS.2.1).narrow hFc).warm hW⟩⟩ rfl rfl hl.1 rfl (Nat.le_of_ble_eq_true rfl) dL_act_56 ⟨Nat.le_of_ble_eq_true rfl, Nat.le_of_ble_eq_true rfl⟩) hS (fun q _ h => hFc q h) hFc (fun q _ h => hFc q h) (fun E ce q9 u t9 H1 locs1 ht hvm _ hB hz hk hS1 hce hcv hcl => ?_) (fun r u t9 H1 locs1 ht hvm hpo => hpo.elim)
    obtain ⟨hE, hP1, hK1, hD1⟩ := hB
    subst hE
    have hP : va_P D vwCl (wB cA ad τ ++ (wPg cA ad pd π ++ (wB cA bd ρ ++ ((tp, .inr (8, tpF ad bd)) :: rest)))) H1 := by rw [← ht]; exact hP1
    have hD : va_D A (wB cA ad τ ++ (wPg cA ad pd π ++ (wB cA bd ρ ++ ((tp, .inr (8, tpF ad bd)) :: rest)))) := hD1.weaken (fun k q _ h => hFc q.1 h)
    have hS := hS1
    refine vx_catch (name := ISE) hown [⟨6, 95, 344, 95⟩, ⟨96, 191, 344, 95⟩, ⟨192, 261, 344, 95⟩, ⟨262, 343, 344, 95⟩] ⟨6, 95, 370, 97⟩ [⟨96, 191, 370, 97⟩, ⟨192, 261, 370, 97⟩, ⟨262, 343, 370, 97⟩] (htab.trans rfl) (fun z hz => (List.mem_cons.mp hz).elim (fun e => Or.inr (by rw [e]; exact ⟨by decide, IOE, k95, hNc⟩)) (fun hz => (List.mem_cons.mp hz).elim (fun e => Or.inl (by rw [e]; decide)) (fun hz => (List.mem_cons.mp hz).elim (fun e => Or.inl (by rw [e]; decide)) (fun hz => Or.inl (by rw [List.mem_singleton.mp hz]; decide))))) (by decide) (by decide) k97 (hTH.words _ _ (by unfold bdw; exact List.mem_cons_of_mem _ (List.mem_cons_of_mem _ (List.mem_cons_of_mem _ List.mem_cons_self)))) hce hcv hcl ?_
    refine lv_astore_n (lv' := [(3, .ref q9), (2, .int (nI T)), (0, .ref tp), (1, .int x)]) hx hb dL_act_370 rfl hl (by decide) rfl (fun ls hl => ?_)
    refine lv_iload_n hx hb dL_act_371 rfl (lv_at hl 3 rfl) ?_
    refine lv_bipush (v := 9) hx hb dL_act_372 (by decide) ?_
    refine x_Si (As := [.int x, .int 9]) (rest0 := []) ⟨hx, hb, hml, hown, hts⟩ (c_L_below l D (tyB cA ++ tr) (wB cA ad τ ++ (wPg cA ad pd π ++ (wB cA bd ρ ++ ((tp, .inr (8, tpF ad bd)) :: rest)))) _ x 9 (by decide)) (va_cwS 2 hts gl_act9_L_below rfl rfl rfl (by decide +kernel) ⟨Nat.le_of_ble_eq_true rfl, Nat.le_of_ble_eq_true rfl⟩) hK hP hD hS hA hl.1 rfl rfl (Nat.le_of_ble_eq_true rfl) ⟨Nat.le_of_ble_eq_true rfl, Nat.le_of_ble_eq_true rfl⟩ dL_act_374 (fun r _ H locs hw hP hD hS => ?_)
    obtain rfl : r = nI y1 := hw.trans ey1
    refine lv_iconst (v := 2) hx hb dL_act_377 (by decide) ?_
    refine lv_icmp_ge (tgt := 391) hx hb dL_act_378 (by decide) (fun c_378_6 => ?_) (fun c_378_6 => ?_)
    · exact absurd ((nI_leI (a := 2) (b := y1) (by omega) (by omega)).mp c_378_6) (by omega)
    · skip
      refine lv_iload_n hx hb dL_act_381 rfl (lv_at hl 1 rfl) ?_
      refine lv_bipush (v := 24) hx hb dL_act_382 (by decide) ?_
      refine lv_icmp_ne (tgt := 391) hx hb dL_act_384 (by decide) (fun c_384_7 => ?_) (fun c_384_7 => ?_)
      · exact absurd ((nI_eq (a := T) (b := 24) (by omega) (by omega)).mpr (by omega)) c_384_7
      · skip
        refine lv_iconst (v := 1) hx hb dL_act_387 (by decide) ?_
        refine lv_goto (tgt := 392) hx hb dL_act_388 (by decide) ?_
        exact vx_ret (x_zret hx hb hr rfl hlocks hK () hP hD hS dL_act_392 rfl)
