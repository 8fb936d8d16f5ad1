/-! the law: the fifty-four -/
theorem vx_andT {l : Launch} {y : MethodName} {ws : List Cond} {rm : Room} {av : List Value} {B : State → Prop} {Qc : Array Value → State → Outcome → State → Prop} {XC : String → State → State → Prop} {mc ms : Nat} {free : Addr → Prop} (h : vx_Met l y ws rm (va_Pc av B) Qc XC mc ms free) : vx_Met l y ws rm (va_Pc av (fun U => B U ∧ True)) Qc XC mc ms free := by
  have e : (fun U => B U ∧ True) = B := funext fun U => by simp
  rw [e]; exact h
set_option maxHeartbeats 8000000 in
set_option maxRecDepth 100000 in
theorem law_E (l : Launch) {p : Program} {e : Env} {s : State} {m : MethodId} {below : List Frame} {meth : Method} {c : Code} {b : Nat} {Q : State → Prop} (hx : p.tables.exec = Jvm.exec) (hb : c.code = code) (hml : c.maxLocals = 9) (hown : s.vm.findClass RL = some m.cls) (hts : ∀ w ∈ lw_tbl, w.before #[Value.ref b] s = true) {D : va_G} {cA : Nat → ClassId} {tr : List (ClassId × FieldType)} (hK : va_K D vwCl (tyB cA ++ tr) s) {A : Nat → Prop} (hA : ∀ q, s.heap.size ≤ q → A q) (htr : l.stackTraces = false) (ad pd bd : Nat → Nat) (tp : Nat) (h102 : bd 102 = ad 102) {c2 c3 : ClassId} {j2 j3 : Nat} (ht2 : tr[j2]? = some (c2, .array .int)) (ht3 : tr[j3]? = some (c3, .array (.array .int))) (oq la sq : Nat) (lb : Nat → Nat) (kc : Nat × va_E) {L : Nat} {xs : Nat → Int32} (hX : va_X b L xs s s.heap) (hL : L < 2 ^ 31) (hbl : b < s.heap.size) (hbA : ¬ A b) (sa1 sa2 : Nat) (tx1 tx2 : String) (hTH_IOE : TH IOE 178 tx1 sa1 A s s.heap) (hTH_ISE : TH ISE 106 tx2 sa2 A s s.heap) (hNc : va_Nc ISE IOE s) (hN99 : va_Nw (.fieldLinkNest RL 99 RX9 "lines" "[[[I" RL) s) (lq cq : Nat) (lr cr : Nat → Nat) (qk : Nat) (R : va_W) {π : Sg} (hO : OI (cA 0) c2 c3 oq la sq lb kc π 5 R) {H : Heap} {locs : List Loc} {ls : Array Slot} (R0 : va_W) (eR0 : R0 = R ++ XX (cA 0) c2 lq lr cq cr (fun _ _ => 0) (fun _ _ => 0)) (hl : lv_has ls 9 [(5, .ref cq), (4, .ref lq), (3, .ref qk), (2, .ref oq), (1, .ref tp), (0, .ref b)]) (hP : va_P D vwCl (wB cA ad s0 ++ (wPg cA ad pd π ++ (wB cA bd s0 ++ ((tp, .inr (8, tpF ad bd)) :: R0)))) H) (hD : va_D A (wB cA ad s0 ++ (wPg cA ad pd π ++ (wB cA bd s0 ++ ((tp, .inr (8, tpF ad bd)) :: R0))))) (hS : va_S A s.heap H locs) (kk : ∀ (τ : Sg) (R1 : va_W) (T S t U : Nat) (st : Nat → List Nat) (H : Heap) (locs : List Loc) (ls : Array Slot), Inv π T S t U st none none none τ → FL τ → t ≤ 3 * 54 → U ≤ 900 * 54 → lv_has ls 9 [(5, .ref cq), (4, .ref lq), (3, .ref qk), (2, .ref oq), (1, .ref tp), (0, .ref b)] → va_P D vwCl (wB cA ad τ ++ (wPg cA ad pd π ++ (wB cA bd s0 ++ ((tp, .inr (8, tpF ad bd)) :: R1)))) H → va_D A (wB cA ad τ ++ (wPg cA ad pd π ++ (wB cA bd s0 ++ ((tp, .inr (8, tpF ad bd)) :: R1)))) → va_S A s.heap H locs → W p l e room_1 s m #[Value.ref b] below meth c H locs (348 + 6 * 54) (3307 + 83 * 54) Q (F0 m 628 ls [])) : W p l e room_1 s m #[Value.ref b] below meth c H locs 348 3307 Q (F0 m 336 ls []) := by
  obtain ⟨-, -, -, -, hIP, -, -, -, hPB⟩ := id hO
  refine lv_iconst (v := 0) hx hb dL_law_336 (by decide) ?_
  refine lv_istore (lv' := [(6, .int 0), (5, .ref cq), (4, .ref lq), (3, .ref qk), (2, .ref oq), (1, .ref tp), (0, .ref b)]) hx hb dL_law_337 hl (by decide) rfl (fun ls hl => ?_)
  have hl : lv_has ls 9 [(6, .int (nI 0)), (5, .ref cq), (4, .ref lq), (3, .ref qk), (2, .ref oq), (1, .ref tp), (0, .ref b)] := hl
  refine W_measC (I := fun n9 H locs ls cells slots => ∃ (time : Nat) (τ : Sg) (F G : Nat → Nat → Int32) (R1 : va_W) (T S t U : Nat) (st : Nat → List Nat), time + n9 = 54 ∧ R1 = R ++ XX (cA 0) c2 lq lr cq cr F G ∧ Inv π T S t U st none none none τ ∧ TB τ ∧ FL τ ∧ t ≤ 3 * time ∧ U ≤ 900 * time ∧ FT τ T F ∧ GS τ S G ∧ lv_has ls 9 [(6, .int (nI time)), (5, .ref cq), (4, .ref lq), (3, .ref qk), (2, .ref oq), (1, .ref tp), (0, .ref b)] ∧ va_P D vwCl (wB cA ad τ ++ (wPg cA ad pd π ++ (wB cA bd s0 ++ ((tp, .inr (8, tpF ad bd)) :: R1)))) H ∧ va_D A (wB cA ad τ ++ (wPg cA ad pd π ++ (wB cA bd s0 ++ ((tp, .inr (8, tpF ad bd)) :: R1)))) ∧ va_S A s.heap H locs ∧ cells = 348 + 6 * time ∧ slots = 3307 + 83 * time) 54 ⟨0, s0, (fun _ _ => 0), (fun _ _ => 0), R0, 0, 0, 0, 0, (fun _ => []), rfl, eR0, inv_s0 π, tb_s0, fl_s0, by omega, by omega, FT_0, GS_0, hl, hP, hD, hS, rfl, rfl⟩ ?_
  clear hP hD hS hl eR0
  intro n9 ih H locs ls cells slots hI
  obtain ⟨time, τ, F, G, R1, T, S, t, U, st, hi, eR1, h, hTB, hFL, ht, hU, hFT, hGS, hl, hP, hD, hS, rfl, rfl⟩ := hI
  refine lv_iload hx hb dL_law_339 (lv_at hl 0 rfl) ?_
  refine lv_bipush (v := 54) hx hb dL_law_341 (by decide) ?_
  refine lv_icmp_ge (tgt := 628) hx hb dL_law_343 (by decide) (fun c343_1 => ?_) (fun c343_1 => ?_)
  · skip
    obtain rfl : time = 54 := by have := (nI_leI (a := 54) (b := time) (by decide) (by omega)).mp c343_1; omega
    exact kk τ R1 T S t U st H locs ls h hFL ht hU (lv_sub hl [1, 2, 3, 4, 5, 6] rfl) hP hD hS
  · skip
    have htm : time < 54 := Nat.not_le.mp (fun z => c343_1 ((nI_leI (a := 54) (b := time) (by decide) (by omega)).mpr z))
    refine lv_aload_n hx hb dL_law_346 rfl (lv_at hl 6 rfl) ?_
    refine lv_iconst (v := 3) hx hb dL_law_347 (by decide) ?_
    refine lv_iload hx hb dL_law_348 (lv_at hl 0 rfl) ?_
    refine lv_bipush (v := 26) hx hb dL_law_350 (by decide) ?_
    refine lv_irem hx hb dL_law_352 (by decide) ?_
    refine W.eq (g2 := F0 m 353 ls [.int (nI (time % 26)), .int 3, .ref b]) (by rw [show (nI time) - (nI time) / 26 * 26 = nI (time % 26) from rem_nI (a := time) (k := 26) (by omega) (by decide)]) ?_
    refine lv_iadd hx hb dL_law_353 ?_
    refine W.eq (g2 := F0 m 354 ls [.int (nI (3 + (time % 26))), .ref b]) (by rw [show (3 : Int32) + (nI (time % 26)) = nI (3 + (time % 26)) from nI_add 3 (time % 26)]) ?_
    have hXH := x_scr hX hbl hbA hS
    refine x_SiE (As := [.ref b, .int (nI (3 + (time % 26)))]) (rest0 := []) (XE b L xs) (fun _ _ _ _ h9 => h9.call) (fun U hU hW => XE.warm hXH hU hW) ⟨hx, hb, hml, hown, hts⟩ (c_L_cell l D (tyB cA ++ tr) (wB cA ad τ ++ (wPg cA ad pd π ++ (wB cA bd s0 ++ ((tp, .inr (8, tpF ad bd)) :: R1)))) H.size b L xs ((3 + (time % 26))) (by omega) hL (Nat.lt_of_lt_of_le hbl hS.1) (fun z => hbA (xA hD hS hA b z))) (va_cwS 2 hts glw_cell rfl rfl rfl (by decide +kernel) ⟨Nat.le_of_ble_eq_true rfl, Nat.le_of_ble_eq_true rfl⟩) hK hP hD hS hA hl.1 rfl rfl (Nat.le_of_ble_eq_true rfl) ⟨(by show 348 + 6 * time + 0 ≤ 600104; omega), (by show 3307 + 83 * time + 0 ≤ 7301314; omega)⟩ dL_law_354 (fun r _ H locs _ hP hD hS => ?_)
    obtain ⟨r2, er2⟩ : ∃ z : Int32, z = r := ⟨_, rfl⟩
    subst er2
    clear hXH
    refine lv_iload hx hb dL_law_357 (lv_at hl 0 rfl) ?_
    refine lv_bipush (v := 26) hx hb dL_law_359 (by decide) ?_
    refine lv_idiv hx hb dL_law_361 (by decide) ?_
    refine W.eq (g2 := F0 m 362 ls [.int (nI (time / 26)), .int r2]) (by rw [show (nI time) / 26 = nI (time / 26) from div_nI (a := time) (k := 26) (by omega) (by decide)]) ?_
    refine lv_bipush (v := 9) hx hb dL_law_362 (by decide) ?_
    refine lv_imul hx hb dL_law_364 ?_
    refine W.eq (g2 := F0 m 365 ls [.int (nI ((time / 26) * 9)), .int r2]) (by rw [show ((nI (time / 26)) : Int32) * 9 = nI ((time / 26) * 9) from (Int32.ofNat_mul _ _).symm]) ?_
    refine lv_ishr hx hb dL_law_365 ?_
    refine lv_topi (fun x3 _ => ?_)
    refine lv_istore (lv' := [(7, .int x3), (6, .int (nI time)), (5, .ref cq), (4, .ref lq), (3, .ref qk), (2, .ref oq), (1, .ref tp), (0, .ref b)]) hx hb dL_law_366 hl (by decide) rfl (fun ls hl => ?_)
    refine lv_aload_n hx hb dL_law_368 rfl (lv_at hl 6 rfl) ?_
    refine lv_iload hx hb dL_law_369 (lv_at hl 0 rfl) ?_
    have J : ∀ (σ : Sg) (H : Heap) (locs : List Loc), AP π τ T S t U σ → va_P D vwCl (wB cA ad σ ++ (wPg cA ad pd π ++ (wB cA bd s0 ++ ((tp, .inr (8, tpF ad bd)) :: R1)))) H → va_D A (wB cA ad σ ++ (wPg cA ad pd π ++ (wB cA bd s0 ++ ((tp, .inr (8, tpF ad bd)) :: R1)))) → va_S A s.heap H locs → W p l e room_1 s m #[Value.ref b] below meth c H locs (348 + 6 * time + 1) (3307 + 83 * time + 6) Q (F0 m 374 ls [.int 1]) := by
      clear hP hD hS
      intro σ H locs hAP hP hD hS
      obtain ⟨T', S', t', U', st', hTT, hSS, ht', hU', h2, hTB2, hFL2, hMt, hMs⟩ := hAP
      refine lv_if_ne (tgt := 379) hx hb dL_law_374 (by decide) (fun c374_4 => ?_) (fun c374_4 => ?_)
      rotate_left
      · exact absurd c374_4 (by decide)
      refine law_E1 l hx hb hml hown hts hK hA ad pd bd tp h102 ht2 lq cq lr cr qk oq time x3 R h h2 hMt hFT hTT (by omega) (by omega) R1 eR1 hl hP hD hS (fun F1 H locs ls hFT1 hl hP hD hS => ?_)
      obtain ⟨R2, eR2⟩ : ∃ z : va_W, z = R ++ XX (cA 0) c2 lq lr cq cr F1 G := ⟨_, rfl⟩
      rw [← eR2] at hP hD
      refine law_E2 l hx hb hml hown hts hK hA ad pd bd tp h102 ht2 lq cq lr cr qk oq time x3 R h h2 hMs hGS hSS (by omega) (by omega) R2 eR2 hl hP hD hS (fun G1 H locs ls hGS1 hl hP hD hS => ?_)
      obtain ⟨R3, eR3⟩ : ∃ z : va_W, z = R ++ XX (cA 0) c2 lq lr cq cr F1 G1 := ⟨_, rfl⟩
      rw [← eR3] at hP hD
      refine law_E3 l hx hb hml hown hts hK hA ad pd bd tp h102 ht2 ht3 oq la sq lb kc lq cq lr cr qk time htm x3 R hO hN99 h2 hTB2 (by omega) (by omega) (by omega) R3 eR3 hl hP hD hS (fun H locs ls hl hP hD hS => ?_)
      refine lv_iinc (v := (nI (time + 1))) (lv' := [(6, .int (nI (time + 1))), (7, .int x3), (5, .ref cq), (4, .ref lq), (3, .ref qk), (2, .ref oq), (1, .ref tp), (0, .ref b)]) hx hb dL_law_622 hl (k := 1) rfl (show (nI time) + 1 = (nI (time + 1)) from nI_1 time) (by decide) rfl (fun ls hl => ?_)
      refine lv_goto (tgt := 339) hx hb dL_law_625 (by decide) ?_
      exact ih (n9 - 1) (by omega) _ _ _ _ _ ⟨time + 1, σ, F1, G1, R3, T', S', t', U', st', by omega, eR3, h2, hTB2, hFL2, by omega, by omega, hFT1, hGS1, lv_sub hl [0, 2, 3, 4, 5, 6, 7] rfl, hP, hD, hS, by omega, by omega⟩
    rcases act_roads h x3 with ⟨n1, n2⟩ | ⟨j0, hj0, e0, hT24, hat⟩ | ⟨e0, h7, h03⟩
    · skip
      refine x_SiX (As := [.ref tp, .int x3]) (rest0 := []) (fun _ => True) (fun _ _ _ _ _ => trivial) (fun _ _ _ => trivial) ⟨hx, hb, hml, hown, hts⟩ (vx_andT (c_L_act0 l D cA ad tr R1 H.size τ pd π bd tp s0 h102 T S t U st h 5 rfl hIP hPB hTB hFL (by omega) (by omega) x3 n1 n2 (fun _ _ _ => False))) (vx_cwSW 2 hts glw_act rfl rfl rfl (by decide +kernel) ⟨Nat.le_of_ble_eq_true rfl, Nat.le_of_ble_eq_true rfl⟩) hK hP hD hS hA hl.1 rfl rfl (Nat.le_of_ble_eq_true rfl) ⟨(by show 348 + 6 * time + 0 ≤ 600104; omega), (by show 3307 + 83 * time + 0 ≤ 7301314; omega)⟩ dL_law_371 (fun r u H locs hw hP hD hS => ?_)
      obtain ⟨er, hAP⟩ := hw
      obtain rfl : r = 1 := er
      refine W.widen (k := 348 + 6 * time + 1) (n := 3307 + 83 * time + 6) (by omega) (by omega) ?_
      exact J u H locs hAP hP hD hS
    · skip
      have hT9 : TH ISE 106 tx2 sa2 (va_A (wB cA ad τ ++ (wPg cA ad pd π ++ (wB cA bd s0 ++ ((tp, .inr (8, tpF ad bd)) :: R1)))) H.size) s H := (hTH_ISE.kept (fun a ha hn => hS.2.1 a ha hn)).narrow (fun q hq => xA hD hS hA q hq)
      refine x_SiX (As := [.ref tp, .int x3]) (rest0 := []) (fun U => TH ISE 106 tx2 sa2 (va_A (wB cA ad τ ++ (wPg cA ad pd π ++ (wB cA bd s0 ++ ((tp, .inr (8, tpF ad bd)) :: R1)))) H.size) U U.heap ∧ va_Nc ISE IOE U) (fun U g mk a h9 => ⟨h9.1.call, va_Nc.moved (u := U) (U := U.calling g mk a) (Vm.Alike.refl U.vm) h9.2⟩) (fun U hU hW => ⟨by rw [hU]; exact hT9.warm hW, hNc.moved hW.alike⟩) ⟨hx, hb, hml, hown, hts⟩ (c_L_act_s l htr D cA ad tr R1 H.size τ pd π bd tp s0 h102 sa2 tx2 x3 T h.1.1.1 (many_1 h.1.1) j0 hj0 e0 hT24 hat 5 rfl hIP) (vx_cwSW 2 hts glw_act9 rfl rfl rfl (by decide +kernel) ⟨Nat.le_of_ble_eq_true rfl, Nat.le_of_ble_eq_true rfl⟩) hK hP hD hS hA hl.1 rfl rfl (Nat.le_of_ble_eq_true rfl) ⟨(by show 348 + 6 * time + 1 ≤ 600104; omega), (by show 3307 + 83 * time + 6 ≤ 7301314; omega)⟩ dL_law_371 (fun r u H locs hw hP hD hS => ?_)
      obtain rfl : r = 1 := hw
      exact J τ H locs (AP_rf h hTB hFL) hP hD hS
    · skip
      have hT9 : TH IOE 178 tx1 sa1 (va_A (wB cA ad τ ++ (wPg cA ad pd π ++ (wB cA bd s0 ++ ((tp, .inr (8, tpF ad bd)) :: R1)))) H.size) s H := (hTH_IOE.kept (fun a ha hn => hS.2.1 a ha hn)).narrow (fun q hq => xA hD hS hA q hq)
      refine x_SiX (As := [.ref tp, .int x3]) (rest0 := []) (fun U => TH IOE 178 tx1 sa1 (va_A (wB cA ad τ ++ (wPg cA ad pd π ++ (wB cA bd s0 ++ ((tp, .inr (8, tpF ad bd)) :: R1)))) H.size) U U.heap ∧ va_Nc ISE IOE U) (fun U g mk a h9 => ⟨h9.1.call, va_Nc.moved (u := U) (U := U.calling g mk a) (Vm.Alike.refl U.vm) h9.2⟩) (fun U hU hW => ⟨by rw [hU]; exact hT9.warm hW, hNc.moved hW.alike⟩) ⟨hx, hb, hml, hown, hts⟩ (c_L_act_w l htr D cA ad tr R1 H.size τ pd π bd tp s0 h102 sa1 tx1 x3 T h.1.1.1 (many_1 h.1.1) e0 h7 h03) (vx_cwSW 2 hts glw_act9 rfl rfl rfl (by decide +kernel) ⟨Nat.le_of_ble_eq_true rfl, Nat.le_of_ble_eq_true rfl⟩) hK hP hD hS hA hl.1 rfl rfl (Nat.le_of_ble_eq_true rfl) ⟨(by show 348 + 6 * time + 1 ≤ 600104; omega), (by show 3307 + 83 * time + 6 ≤ 7301314; omega)⟩ dL_law_371 (fun r u H locs hw hP hD hS => ?_)
      obtain rfl : r = 1 := hw
      exact J τ H locs (AP_rf h hTB hFL) hP hD hS
