/-! the law: the bodies -/
set_option maxHeartbeats 8000000 in
set_option maxRecDepth 100000 in
theorem law_C (l : Launch) {p : Program} {e : Env} {s : State} {m : MethodId} {below : List Frame} {meth : Method} {c : Code} {b : Nat} {Q : State → Prop} (hx : p.tables.exec = Jvm.exec) (hb : c.code = code) (hml : c.maxLocals = 9) (hown : s.vm.findClass RL = some m.cls) (hts : ∀ w ∈ lw_tbl, w.before #[Value.ref b] s = true) {D : va_G} {cA : Nat → ClassId} {tr : List (ClassId × FieldType)} (hK : va_K D vwCl (tyB cA ++ tr) s) {A : Nat → Prop} (hA : ∀ q, s.heap.size ≤ q → A q) (ad pd bd : Nat → Nat) (tp : Nat) (h102 : bd 102 = ad 102) {c2 c3 : ClassId} {j2 j3 : Nat} (ht2 : tr[j2]? = some (c2, .array .int)) (ht3 : tr[j3]? = some (c3, .array (.array .int))) (oq la sq : Nat) (lb : Nat → Nat) {L : Nat} {xs : Nat → Int32} (hX : va_X b L xs s s.heap) (hL : L < 2 ^ 31) (hbl : b < s.heap.size) (hbA : ¬ A b) (hAE : AE c2 (cA 0) s) (hN32 : va_Nw (.methodLinkNest RX9 32 yL_below RL) s) (qk : Nat) (kf : Nat → Int32) (hkf : ∀ i, i < 26 → ∃ kd, kd ≤ 18 ∧ kf i = nI kd) (π0 : Sg) (R0 : va_W) (hO : OI (cA 0) c2 c3 oq la sq lb (qk, .inl (cA 0, 26, .inl kf)) π0 0 R0) {H : Heap} {locs : List Loc} {ls : Array Slot} (hl : lv_has ls 9 [(3, .ref qk), (2, .ref oq), (1, .ref tp), (0, .ref b)]) (hP : va_P D vwCl (wB cA ad s0 ++ (wPg cA ad pd π0 ++ (wB cA bd s0 ++ ((tp, .inr (8, tpF ad bd)) :: R0)))) H) (hD : va_D A (wB cA ad s0 ++ (wPg cA ad pd π0 ++ (wB cA bd s0 ++ ((tp, .inr (8, tpF ad bd)) :: R0))))) (hS : va_S A s.heap H locs) (kk : ∀ (π : Sg) (R : va_W) (H : Heap) (locs : List Loc) (ls : Array Slot), OI (cA 0) c2 c3 oq la sq lb (qk, .inl (cA 0, 26, .inl kf)) π 5 R → lv_has ls 9 [(3, .ref qk), (2, .ref oq), (1, .ref tp), (0, .ref b)] → va_P D vwCl (wB cA ad s0 ++ (wPg cA ad pd π ++ (wB cA bd s0 ++ ((tp, .inr (8, tpF ad bd)) :: R)))) H → va_D A (wB cA ad s0 ++ (wPg cA ad pd π ++ (wB cA bd s0 ++ ((tp, .inr (8, tpF ad bd)) :: R)))) → va_S A s.heap H locs → W p l e room_1 s m #[Value.ref b] below meth c H locs (222 + 12 * 5) (2935 + 36 * 5) Q (F0 m 318 ls [])) : W p l e room_1 s m #[Value.ref b] below meth c H locs 222 2935 Q (F0 m 165 ls []) := by
  have hL5 : ∀ j, j < 9 → m_fits 7 (nI j) 9 (nI 0) = true := by decide +kernel
  have hL6 : ∀ j, j < 5 → m_fits 10 (nI j) 0 (nI 1) = true := by decide +kernel
  refine lv_iconst (v := 0) hx hb dL_law_165 (by decide) ?_
  refine lv_istore (lv' := [(4, .int 0), (3, .ref qk), (2, .ref oq), (1, .ref tp), (0, .ref b)]) hx hb dL_law_166 hl (by decide) rfl (fun ls hl => ?_)
  have hl : lv_has ls 9 [(4, .int (nI 0)), (3, .ref qk), (2, .ref oq), (1, .ref tp), (0, .ref b)] := hl
  refine W_measC (I := fun n9 H locs ls cells slots => ∃ (body : Nat) (π : Sg) (R : va_W), body + n9 = 5 ∧ OI (cA 0) c2 c3 oq la sq lb (qk, .inl (cA 0, 26, .inl kf)) π body R ∧ lv_has ls 9 [(4, .int (nI body)), (3, .ref qk), (2, .ref oq), (1, .ref tp), (0, .ref b)] ∧ va_P D vwCl (wB cA ad s0 ++ (wPg cA ad pd π ++ (wB cA bd s0 ++ ((tp, .inr (8, tpF ad bd)) :: R)))) H ∧ va_D A (wB cA ad s0 ++ (wPg cA ad pd π ++ (wB cA bd s0 ++ ((tp, .inr (8, tpF ad bd)) :: R)))) ∧ va_S A s.heap H locs ∧ cells = 222 + 12 * body ∧ slots = 2935 + 36 * body) 5 ⟨0, π0, R0, rfl, hO, hl, hP, hD, hS, rfl, rfl⟩ ?_
  clear hP hD hS hl hO
  intro n9 ih H locs ls cells slots hI
  obtain ⟨body, π, R, hi, hO, hl, hP, hD, hS, rfl, rfl⟩ := hI
  refine lv_iload hx hb dL_law_168 (lv_at hl 0 rfl) ?_
  refine lv_iconst (v := 5) hx hb dL_law_170 (by decide) ?_
  refine lv_icmp_ge (tgt := 318) hx hb dL_law_171 (by decide) (fun c171_1 => ?_) (fun c171_1 => ?_)
  · skip
    have hb5 : body = 5 := by have := (nI_leI (a := 5) (b := body) (by decide) (by omega)).mp c171_1; omega
    subst hb5
    exact kk π R H locs ls hO (lv_sub hl [1, 2, 3, 4] rfl) hP hD hS
  · skip
    have hb5 : body < 5 := Nat.not_le.mp (fun z => c171_1 ((nI_leI (a := 5) (b := body) (by decide) (by omega)).mpr z))
    have hz0 : π 1 body = nI 0 := hO.choose_spec.choose_spec.choose_spec.2.2.2.1 body (Nat.le_refl _) (by omega)
    refine lv_aload_n hx hb dL_law_174 rfl (lv_at hl 2 rfl) ?_
    refine lv_aload_n hx hb dL_law_175 rfl (lv_at hl 3 rfl) ?_
    obtain ⟨LA9, z9, r9, hR, -⟩ := id hO
    refine x_Vi (As := [.ref tp]) (rest0 := []) ⟨hx, hb, hml, hown, hts⟩ (c_X9_isTold l D cA ad tr R H.size s0 pd π bd tp s0 h102 c2 c3 oq la sq lb (qk, .inl (cA 0, 26, .inl kf)) body hO (by omega)) (cwV 1 hts glw_isTold rfl rfl rfl (by decide +kernel) ⟨Nat.le_of_ble_eq_true rfl, Nat.le_of_ble_eq_true rfl⟩) hK hP hD hS hA (0 + 210) (by rw [wL_at]; exact own0 hR) rfl hl.1 rfl rfl (Nat.le_of_ble_eq_true rfl) ⟨(by show 222 + 12 * body ≤ 600104; omega), (by show 2935 + 36 * body ≤ 7301314; omega)⟩ dL_law_176 (fun r u H locs hw hP hD hS => ?_)
    clear hR hO
    obtain ⟨R1, π1⟩ := u
    obtain ⟨er, hO, eπ1⟩ := hw
    obtain rfl : r = 1 := er
    have hO : OI (cA 0) c2 c3 oq la sq lb (qk, .inl (cA 0, 26, .inl kf)) π1 (body + 1) R1 := hO
    have hz1 : π1 1 body = nI 0 := by rw [show π1 = up2 π 0 0 (nI (body + 1)) from eπ1, up2_ne (by decide)]; exact hz0
    have hP : va_P D vwCl (wB cA ad s0 ++ (wPg cA ad pd π1 ++ (wB cA bd s0 ++ ((tp, .inr (8, tpF ad bd)) :: R1)))) H := hP
    have hD : va_D A (wB cA ad s0 ++ (wPg cA ad pd π1 ++ (wB cA bd s0 ++ ((tp, .inr (8, tpF ad bd)) :: R1)))) := hD
    refine lv_if_ne (tgt := 184) hx hb dL_law_179 (by decide) (fun c179_2 => ?_) (fun c179_2 => ?_)
    rotate_left
    · exact absurd c179_2 (by decide)
    have J : ∀ (π2 : Sg) (R2 : va_W) (H : Heap) (locs : List Loc) (ls : Array Slot), OI (cA 0) c2 c3 oq la sq lb (qk, .inl (cA 0, 26, .inl kf)) π2 (body + 1) R2 → va_P D vwCl (wB cA ad s0 ++ (wPg cA ad pd π2 ++ (wB cA bd s0 ++ ((tp, .inr (8, tpF ad bd)) :: R2)))) H → va_D A (wB cA ad s0 ++ (wPg cA ad pd π2 ++ (wB cA bd s0 ++ ((tp, .inr (8, tpF ad bd)) :: R2)))) → va_S A s.heap H locs → lv_has ls 9 [(4, .int (nI body)), (3, .ref qk), (2, .ref oq), (1, .ref tp), (0, .ref b)] → W p l e room_1 s m #[Value.ref b] below meth c H locs (222 + 12 * body + 2) (2935 + 36 * body + 6) Q (F0 m 246 ls []) := by
      intro π2 R2 H locs ls hO hP hD hS hl
      refine lv_iconst (v := 0) hx hb dL_law_246 (by decide) ?_
      refine lv_istore (lv' := [(5, .int 0), (4, .int (nI body)), (3, .ref qk), (2, .ref oq), (1, .ref tp), (0, .ref b)]) hx hb dL_law_247 hl (by decide) rfl (fun ls hl => ?_)
      have hl : lv_has ls 9 [(5, .int (nI 0)), (4, .int (nI body)), (3, .ref qk), (2, .ref oq), (1, .ref tp), (0, .ref b)] := hl
      refine W_measC (I := fun n8 H locs ls cells slots => ∃ (k : Nat) (π : Sg) (R : va_W), k + n8 = 9 ∧ OI (cA 0) c2 c3 oq la sq lb (qk, .inl (cA 0, 26, .inl kf)) π (body + 1) R ∧ lv_has ls 9 [(5, .int (nI k)), (4, .int (nI body)), (3, .ref qk), (2, .ref oq), (1, .ref tp), (0, .ref b)] ∧ va_P D vwCl (wB cA ad s0 ++ (wPg cA ad pd π ++ (wB cA bd s0 ++ ((tp, .inr (8, tpF ad bd)) :: R)))) H ∧ va_D A (wB cA ad s0 ++ (wPg cA ad pd π ++ (wB cA bd s0 ++ ((tp, .inr (8, tpF ad bd)) :: R)))) ∧ va_S A s.heap H locs ∧ cells = 222 + 12 * body + 2 + k ∧ slots = 2935 + 36 * body + 6 + 3 * k) 9 ⟨0, π2, R2, rfl, hO, hl, hP, hD, hS, rfl, rfl⟩ ?_
      clear hP hD hS hl hO
      intro n8 ih2 H locs ls cells slots hI
      obtain ⟨k, π, R, hi2, hO, hl, hP, hD, hS, rfl, rfl⟩ := hI
      refine lv_iload hx hb dL_law_249 (lv_at hl 0 rfl) ?_
      refine lv_iconst (v := 3) hx hb dL_law_251 (by decide) ?_
      refine lv_aload_n hx hb dL_law_252 rfl (lv_at hl 5 rfl) ?_
      refine lv_iload hx hb dL_law_253 (lv_at hl 1 rfl) ?_
      have hXH := x_scr hX hbl hbA hS
      refine x_SiE (As := [.ref b, .int (nI body)]) (rest0 := [.int 3, .int (nI k)]) (XE b L xs) (fun _ _ _ _ h9 => h9.call) (fun U hU hW => XE.warm hXH hU hW) ⟨hx, hb, hml, hown, hts⟩ (c_L_cell l D (tyB cA ++ tr) (wB cA ad s0 ++ (wPg cA ad pd π ++ (wB cA bd s0 ++ ((tp, .inr (8, tpF ad bd)) :: R)))) H.size b L xs (body) (by omega) hL (Nat.lt_of_lt_of_le hbl hS.1) (fun z => hbA (xA hD hS hA b z))) (va_cwS 2 hts glw_cell rfl rfl rfl (by decide +kernel) ⟨Nat.le_of_ble_eq_true rfl, Nat.le_of_ble_eq_true rfl⟩) hK hP hD hS hA hl.1 rfl rfl (Nat.le_of_ble_eq_true rfl) ⟨(by show 222 + 12 * body + 2 + k + 0 ≤ 600104; omega), (by show 2935 + 36 * body + 6 + 3 * k + 0 ≤ 7301314; omega)⟩ dL_law_255 (fun r _ H locs _ hP hD hS => ?_)
      obtain ⟨r3, er3⟩ : ∃ z : Int32, z = r := ⟨_, rfl⟩
      subst er3
      clear hXH
      refine lv_bipush (v := 7) hx hb dL_law_258 (by decide) ?_
      refine x_Si (As := [.int r3, .int 7]) (rest0 := [.int 3, .int (nI k)]) ⟨hx, hb, hml, hown, hts⟩ (c_L_below l D (tyB cA ++ tr) (wB cA ad s0 ++ (wPg cA ad pd π ++ (wB cA bd s0 ++ ((tp, .inr (8, tpF ad bd)) :: R)))) H.size r3 7 (by decide)) (va_cwS 2 hts glw_below rfl rfl rfl (by decide +kernel) ⟨Nat.le_of_ble_eq_true rfl, Nat.le_of_ble_eq_true rfl⟩) hK hP hD hS hA hl.1 rfl rfl (Nat.le_of_ble_eq_true rfl) ⟨(by show 222 + 12 * body + 2 + k ≤ 600104; omega), (by show 2935 + 36 * body + 6 + 3 * k ≤ 7301314; omega)⟩ dL_law_260 (fun r _ H locs hw hP hD hS => ?_)
      obtain ⟨j4, hj4, ej4⟩ := below_nI r3 (k := 7) (by decide) (by omega)
      obtain rfl : r = nI j4 := hw.trans ej4
      refine lv_iadd hx hb dL_law_263 ?_
      refine W.eq (g2 := F0 m 264 ls [.int (nI (3 + j4)), .int (nI k)]) (by rw [show (3 : Int32) + (nI j4) = nI (3 + j4) from nI_add 3 j4]) ?_
      refine lv_icmp_ge (tgt := 312) hx hb dL_law_264 (by decide) (fun c264_5 => ?_) (fun c264_5 => ?_)
      · skip
        refine lv_iinc (v := (nI (body + 1))) (lv' := [(4, .int (nI (body + 1))), (5, .int (nI k)), (3, .ref qk), (2, .ref oq), (1, .ref tp), (0, .ref b)]) hx hb dL_law_312 hl (k := 1) rfl (show (nI body) + 1 = (nI (body + 1)) from nI_1 body) (by decide) rfl (fun ls hl => ?_)
        refine lv_goto (tgt := 168) hx hb dL_law_315 (by decide) ?_
        refine W.widen (k := 222 + 12 * (body + 1)) (n := 2935 + 36 * (body + 1)) (by omega) (by omega) ?_
        exact ih (n9 - 1) (by omega) _ _ _ _ _ ⟨body + 1, π, R, by omega, hO, lv_sub hl [0, 2, 3, 4, 5] rfl, hP, hD, hS, rfl, rfl⟩
      · skip
        have hk9 : k < 3 + j4 := Nat.not_le.mp (fun z => c264_5 ((nI_leI (by omega) (by omega)).mpr z))
        refine lv_aload_n hx hb dL_law_267 rfl (lv_at hl 3 rfl) ?_
        refine lv_aload_n hx hb dL_law_268 rfl (lv_at hl 4 rfl) ?_
        refine lv_iload hx hb dL_law_269 (lv_at hl 1 rfl) ?_
        refine lv_aload_n hx hb dL_law_271 rfl (lv_at hl 5 rfl) ?_
        refine lv_iconst (v := 5) hx hb dL_law_272 (by decide) ?_
        refine lv_iload hx hb dL_law_273 (lv_at hl 1 rfl) ?_
        refine lv_bipush (v := 7) hx hb dL_law_275 (by decide) ?_
        refine lv_imul hx hb dL_law_277 ?_
        refine W.eq (g2 := F0 m 278 ls [.int (nI (body * 7)), .int 5, .ref b, .int (nI body), .ref tp, .ref oq]) (by rw [show ((nI body) : Int32) * 7 = nI (body * 7) from (Int32.ofNat_mul _ _).symm]) ?_
        refine lv_iload hx hb dL_law_278 (lv_at hl 0 rfl) ?_
        refine lv_iadd hx hb dL_law_280 ?_
        refine W.eq (g2 := F0 m 281 ls [.int (nI ((body * 7) + k)), .int 5, .ref b, .int (nI body), .ref tp, .ref oq]) (by rw [show ((nI (body * 7)) : Int32) + (nI k) = nI ((body * 7) + k) from nI_add (body * 7) k]) ?_
        refine lv_bipush (v := 21) hx hb dL_law_281 (by decide) ?_
        refine lv_irem hx hb dL_law_283 (by decide) ?_
        refine W.eq (g2 := F0 m 284 ls [.int (nI (((body * 7) + k) % 21)), .int 5, .ref b, .int (nI body), .ref tp, .ref oq]) (by rw [show (nI ((body * 7) + k)) - (nI ((body * 7) + k)) / 21 * 21 = nI (((body * 7) + k) % 21) from rem_nI (a := ((body * 7) + k)) (k := 21) (by omega) (by decide)]) ?_
        refine lv_iadd hx hb dL_law_284 ?_
        refine W.eq (g2 := F0 m 285 ls [.int (nI (5 + (((body * 7) + k) % 21))), .ref b, .int (nI body), .ref tp, .ref oq]) (by rw [show (5 : Int32) + (nI (((body * 7) + k) % 21)) = nI (5 + (((body * 7) + k) % 21)) from nI_add 5 (((body * 7) + k) % 21)]) ?_
        have hXH := x_scr hX hbl hbA hS
        refine x_SiE (As := [.ref b, .int (nI (5 + (((body * 7) + k) % 21)))]) (rest0 := [.int (nI body), .ref tp, .ref oq]) (XE b L xs) (fun _ _ _ _ h9 => h9.call) (fun U hU hW => XE.warm hXH hU hW) ⟨hx, hb, hml, hown, hts⟩ (c_L_cell l D (tyB cA ++ tr) (wB cA ad s0 ++ (wPg cA ad pd π ++ (wB cA bd s0 ++ ((tp, .inr (8, tpF ad bd)) :: R)))) H.size b L xs ((5 + (((body * 7) + k) % 21))) (by omega) hL (Nat.lt_of_lt_of_le hbl hS.1) (fun z => hbA (xA hD hS hA b z))) (va_cwS 2 hts glw_cell rfl rfl rfl (by decide +kernel) ⟨Nat.le_of_ble_eq_true rfl, Nat.le_of_ble_eq_true rfl⟩) hK hP hD hS hA hl.1 rfl rfl (Nat.le_of_ble_eq_true rfl) ⟨(by show 222 + 12 * body + 2 + k + 0 ≤ 600104; omega), (by show 2935 + 36 * body + 6 + 3 * k + 0 ≤ 7301314; omega)⟩ dL_law_285 (fun r _ H locs _ hP hD hS => ?_)
        obtain ⟨r6, er6⟩ : ∃ z : Int32, z = r := ⟨_, rfl⟩
        subst er6
        clear hXH
        refine lv_iload hx hb dL_law_288 (lv_at hl 1 rfl) ?_
        refine lv_iload hx hb dL_law_290 (lv_at hl 0 rfl) ?_
        refine lv_iadd hx hb dL_law_292 ?_
        refine W.eq (g2 := F0 m 293 ls [.int (nI (body + k)), .int r6, .int (nI body), .ref tp, .ref oq]) (by rw [show ((nI body) : Int32) + (nI k) = nI (body + k) from nI_add body k]) ?_
        refine lv_bipush (v := 6) hx hb dL_law_293 (by decide) ?_
        refine lv_irem hx hb dL_law_295 (by decide) ?_
        refine W.eq (g2 := F0 m 296 ls [.int (nI ((body + k) % 6)), .int r6, .int (nI body), .ref tp, .ref oq]) (by rw [show (nI (body + k)) - (nI (body + k)) / 6 * 6 = nI ((body + k) % 6) from rem_nI (a := (body + k)) (k := 6) (by omega) (by decide)]) ?_
        refine lv_ishr hx hb dL_law_296 ?_
        refine lv_topi (fun x7 _ => ?_)
        refine lv_aload_n hx hb dL_law_297 rfl (lv_at hl 2 rfl) ?_
        obtain ⟨LA9, z9, r9, hR, -⟩ := id hO
        refine x_ViE (As := [.ref tp, .int (nI body), .int x7, .ref qk]) (rest0 := []) (fun U => AE c2 (cA 0) U ∧ va_Nw (.methodLinkNest RX9 32 yL_below RL) U) (fun U g mk a h9 => ⟨h9.1.call, va_Nw.same (u := U) (U := U.calling g mk a) rfl rfl h9.2⟩) (fun U _ hW => ⟨hAE.moved hW.alike, va_Nw.warmM hW hN32⟩) ⟨hx, hb, hml, hown, hts⟩ (c_X9_isDrawn l D cA ad tr R H.size s0 pd π bd tp s0 h102 c2 c3 oq la sq lb (qk, .inl (cA 0, 26, .inl kf)) (body + 1) j2 j3 ht2 ht3 hO qk body x7 kf rfl hkf (Nat.lt_succ_self _) (used_s0 _)) (cwV 4 hts glw_isDrawn rfl rfl rfl (by decide +kernel) ⟨Nat.le_of_ble_eq_true rfl, Nat.le_of_ble_eq_true rfl⟩) hK hP hD hS hA (0 + 210) (by rw [wL_at]; exact own0 hR) rfl hl.1 rfl rfl (Nat.le_of_ble_eq_true rfl) ⟨(by show 222 + 12 * body + 2 + k + 1 ≤ 600104; omega), (by show 2935 + 36 * body + 6 + 3 * k + 3 ≤ 7301314; omega)⟩ dL_law_298 (fun r u H locs hw hP hD hS => ?_)
        clear hR hO
        obtain ⟨R1, π1⟩ := u
        obtain ⟨er, hO⟩ := hw
        obtain rfl : r = 1 := er
        refine lv_if_ne (tgt := 306) hx hb dL_law_301 (by decide) (fun c301_8 => ?_) (fun c301_8 => ?_)
        rotate_left
        · exact absurd c301_8 (by decide)
        refine lv_iinc (v := (nI (k + 1))) (lv' := [(5, .int (nI (k + 1))), (4, .int (nI body)), (3, .ref qk), (2, .ref oq), (1, .ref tp), (0, .ref b)]) hx hb dL_law_306 hl (k := 0) rfl (show (nI k) + 1 = (nI (k + 1)) from nI_1 k) (by decide) rfl (fun ls hl => ?_)
        refine lv_goto (tgt := 249) hx hb dL_law_309 (by decide) ?_
        exact ih2 (n8 - 1) (by omega) _ _ _ _ _ ⟨k + 1, π1, R1, by omega, hO, lv_sub hl [0, 1, 2, 3, 4, 5] rfl, hP, hD, hS, by omega, by omega⟩
    refine lv_iload hx hb dL_law_184 (lv_at hl 0 rfl) ?_
    refine lv_iconst (v := 1) hx hb dL_law_186 (by decide) ?_
    refine lv_icmp_le (tgt := 246) hx hb dL_law_187 (by decide) (fun c187_9 => ?_) (fun c187_9 => ?_)
    · skip
      refine W.widen (k := 222 + 12 * body + 2) (n := 2935 + 36 * body + 6) (by omega) (by omega) ?_
      exact J π1 R1 H locs ls hO hP hD hS hl
    · skip
      have hb1 : 1 < body := Nat.not_le.mp (fun z => c187_9 ((nI_leI (a := body) (b := 1) (by omega) (by decide)).mpr z))
      refine lv_aload_n hx hb dL_law_190 rfl (lv_at hl 2 rfl) ?_
      refine lv_aload_n hx hb dL_law_191 rfl (lv_at hl 3 rfl) ?_
      refine lv_iload hx hb dL_law_192 (lv_at hl 0 rfl) ?_
      refine lv_bipush (v := 7) hx hb dL_law_194 (by decide) ?_
      refine lv_aload_n hx hb dL_law_196 rfl (lv_at hl 4 rfl) ?_
      refine lv_iload hx hb dL_law_197 (lv_at hl 0 rfl) ?_
      have hXH := x_scr hX hbl hbA hS
      refine x_SiE (As := [.ref b, .int (nI body)]) (rest0 := [.int 7, .int (nI body), .ref tp, .ref oq]) (XE b L xs) (fun _ _ _ _ h9 => h9.call) (fun U hU hW => XE.warm hXH hU hW) ⟨hx, hb, hml, hown, hts⟩ (c_L_cell l D (tyB cA ++ tr) (wB cA ad s0 ++ (wPg cA ad pd π1 ++ (wB cA bd s0 ++ ((tp, .inr (8, tpF ad bd)) :: R1)))) H.size b L xs (body) (by omega) hL (Nat.lt_of_lt_of_le hbl hS.1) (fun z => hbA (xA hD hS hA b z))) (va_cwS 2 hts glw_cell rfl rfl rfl (by decide +kernel) ⟨Nat.le_of_ble_eq_true rfl, Nat.le_of_ble_eq_true rfl⟩) hK hP hD hS hA hl.1 rfl rfl (Nat.le_of_ble_eq_true rfl) ⟨(by show 222 + 12 * body + 0 ≤ 600104; omega), (by show 2935 + 36 * body + 0 ≤ 7301314; omega)⟩ dL_law_199 (fun r _ H locs _ hP hD hS => ?_)
      obtain ⟨r10, er10⟩ : ∃ z : Int32, z = r := ⟨_, rfl⟩
      subst er10
      clear hXH
      refine lv_bipush (v := 9) hx hb dL_law_202 (by decide) ?_
      refine lv_ishr hx hb dL_law_204 ?_
      refine lv_topi (fun x11 _ => ?_)
      refine lv_bipush (v := 9) hx hb dL_law_205 (by decide) ?_
      refine x_Si (As := [.int x11, .int 9]) (rest0 := [.int 7, .int (nI body), .ref tp, .ref oq]) ⟨hx, hb, hml, hown, hts⟩ (c_L_below l D (tyB cA ++ tr) (wB cA ad s0 ++ (wPg cA ad pd π1 ++ (wB cA bd s0 ++ ((tp, .inr (8, tpF ad bd)) :: R1)))) H.size x11 9 (by decide)) (va_cwS 2 hts glw_below rfl rfl rfl (by decide +kernel) ⟨Nat.le_of_ble_eq_true rfl, Nat.le_of_ble_eq_true rfl⟩) hK hP hD hS hA hl.1 rfl rfl (Nat.le_of_ble_eq_true rfl) ⟨(by show 222 + 12 * body ≤ 600104; omega), (by show 2935 + 36 * body ≤ 7301314; omega)⟩ dL_law_207 (fun r _ H locs hw hP hD hS => ?_)
      obtain ⟨j12, hj12, ej12⟩ := below_nI x11 (k := 9) (by decide) (by omega)
      obtain rfl : r = nI j12 := hw.trans ej12
      refine lv_bipush (v := 9) hx hb dL_law_210 (by decide) ?_
      obtain ⟨LA9, z9, r9, hR, -⟩ := id hO
      refine x_ViE (As := [.ref tp, .int (nI body), .int 7, .int (nI j12), .int 9]) (rest0 := []) (AE c2 (cA 0)) (fun _ _ _ _ h9 => h9.call) (fun U _ hW => hAE.moved hW.alike) ⟨hx, hb, hml, hown, hts⟩ (c_X9_isLine l D cA ad tr R1 H.size s0 pd π1 bd tp s0 h102 c2 c3 oq la sq lb (qk, .inl (cA 0, 26, .inl kf)) (body + 1) j2 j3 ht2 ht3 hO body 0 7 (nI j12) 9 (Nat.lt_succ_self _) (by decide) hz1 (fun _ => hL5 j12 hj12) (used_s0 _)) (cwV 5 hts glw_isLine rfl rfl rfl (by decide +kernel) ⟨Nat.le_of_ble_eq_true rfl, Nat.le_of_ble_eq_true rfl⟩) hK hP hD hS hA (0 + 210) (by rw [wL_at]; exact own0 hR) rfl hl.1 rfl rfl (Nat.le_of_ble_eq_true rfl) ⟨(by show 222 + 12 * body + 1 ≤ 600104; omega), (by show 2935 + 36 * body + 3 ≤ 7301314; omega)⟩ dL_law_212 (fun r u H locs hw hP hD hS => ?_)
      clear hR
      clear hO
      obtain ⟨R2, π2⟩ := u
      obtain ⟨er, hO, ez⟩ := hw
      obtain rfl : r = 1 := er
      have hz2 : π2 1 body = nI 1 := ez (by decide)
      have hP : va_P D vwCl (wB cA ad s0 ++ (wPg cA ad pd π2 ++ (wB cA bd s0 ++ ((tp, .inr (8, tpF ad bd)) :: R2)))) H := hP
      have hD : va_D A (wB cA ad s0 ++ (wPg cA ad pd π2 ++ (wB cA bd s0 ++ ((tp, .inr (8, tpF ad bd)) :: R2)))) := hD
      refine lv_if_eq (tgt := 244) hx hb dL_law_215 (by decide) (fun c215_13 => ?_) (fun c215_13 => ?_)
      · exact absurd c215_13 (by decide)
      refine lv_aload_n hx hb dL_law_218 rfl (lv_at hl 2 rfl) ?_
      refine lv_aload_n hx hb dL_law_219 rfl (lv_at hl 3 rfl) ?_
      refine lv_iload hx hb dL_law_220 (lv_at hl 0 rfl) ?_
      refine lv_bipush (v := 10) hx hb dL_law_222 (by decide) ?_
      refine lv_aload_n hx hb dL_law_224 rfl (lv_at hl 4 rfl) ?_
      refine lv_iload hx hb dL_law_225 (lv_at hl 0 rfl) ?_
      have hXH := x_scr hX hbl hbA hS
      refine x_SiE (As := [.ref b, .int (nI body)]) (rest0 := [.int 10, .int (nI body), .ref tp, .ref oq]) (XE b L xs) (fun _ _ _ _ h9 => h9.call) (fun U hU hW => XE.warm hXH hU hW) ⟨hx, hb, hml, hown, hts⟩ (c_L_cell l D (tyB cA ++ tr) (wB cA ad s0 ++ (wPg cA ad pd π2 ++ (wB cA bd s0 ++ ((tp, .inr (8, tpF ad bd)) :: R2)))) H.size b L xs (body) (by omega) hL (Nat.lt_of_lt_of_le hbl hS.1) (fun z => hbA (xA hD hS hA b z))) (va_cwS 2 hts glw_cell rfl rfl rfl (by decide +kernel) ⟨Nat.le_of_ble_eq_true rfl, Nat.le_of_ble_eq_true rfl⟩) hK hP hD hS hA hl.1 rfl rfl (Nat.le_of_ble_eq_true rfl) ⟨(by show 222 + 12 * body + 1 + 0 ≤ 600104; omega), (by show 2935 + 36 * body + 3 + 0 ≤ 7301314; omega)⟩ dL_law_227 (fun r _ H locs _ hP hD hS => ?_)
      obtain ⟨r14, er14⟩ : ∃ z : Int32, z = r := ⟨_, rfl⟩
      subst er14
      clear hXH
      refine lv_iconst (v := 2) hx hb dL_law_230 (by decide) ?_
      refine lv_ishr hx hb dL_law_231 ?_
      refine lv_topi (fun x15 _ => ?_)
      refine lv_iload hx hb dL_law_232 (lv_at hl 0 rfl) ?_
      refine x_Si (As := [.int x15, .int (nI body)]) (rest0 := [.int 10, .int (nI body), .ref tp, .ref oq]) ⟨hx, hb, hml, hown, hts⟩ (c_L_below l D (tyB cA ++ tr) (wB cA ad s0 ++ (wPg cA ad pd π2 ++ (wB cA bd s0 ++ ((tp, .inr (8, tpF ad bd)) :: R2)))) H.size x15 (nI body) (fun z => by have := nI_inj (b := 0) (by omega) (by decide) z; omega)) (va_cwS 2 hts glw_below rfl rfl rfl (by decide +kernel) ⟨Nat.le_of_ble_eq_true rfl, Nat.le_of_ble_eq_true rfl⟩) hK hP hD hS hA hl.1 rfl rfl (Nat.le_of_ble_eq_true rfl) ⟨(by show 222 + 12 * body + 1 ≤ 600104; omega), (by show 2935 + 36 * body + 3 ≤ 7301314; omega)⟩ dL_law_234 (fun r _ H locs hw hP hD hS => ?_)
      obtain ⟨j16, hj16, ej16⟩ := below_nI x15 (k := body) (by omega) (by omega)
      obtain rfl : r = nI j16 := hw.trans ej16
      refine lv_iconst (v := 0) hx hb dL_law_237 (by decide) ?_
      obtain ⟨LA9, z9, r9, hR, -⟩ := id hO
      refine x_ViE (As := [.ref tp, .int (nI body), .int 10, .int (nI j16), .int 0]) (rest0 := []) (AE c2 (cA 0)) (fun _ _ _ _ h9 => h9.call) (fun U _ hW => hAE.moved hW.alike) ⟨hx, hb, hml, hown, hts⟩ (c_X9_isLine l D cA ad tr R2 H.size s0 pd π2 bd tp s0 h102 c2 c3 oq la sq lb (qk, .inl (cA 0, 26, .inl kf)) (body + 1) j2 j3 ht2 ht3 hO body 1 10 (nI j16) 0 (Nat.lt_succ_self _) (by decide) hz2 (fun _ => hL6 j16 (by omega)) (used_s0 _)) (cwV 5 hts glw_isLine rfl rfl rfl (by decide +kernel) ⟨Nat.le_of_ble_eq_true rfl, Nat.le_of_ble_eq_true rfl⟩) hK hP hD hS hA (0 + 210) (by rw [wL_at]; exact own0 hR) rfl hl.1 rfl rfl (Nat.le_of_ble_eq_true rfl) ⟨(by show 222 + 12 * body + 1 + 1 ≤ 600104; omega), (by show 2935 + 36 * body + 3 + 3 ≤ 7301314; omega)⟩ dL_law_238 (fun r u H locs hw hP hD hS => ?_)
      clear hR
      clear hO
      obtain ⟨R3, π3⟩ := u
      obtain ⟨er, hO, _⟩ := hw
      obtain rfl : r = 1 := er
      refine lv_if_ne (tgt := 246) hx hb dL_law_241 (by decide) (fun c241_17 => ?_) (fun c241_17 => ?_)
      rotate_left
      · exact absurd c241_17 (by decide)
      exact J π3 R3 H locs ls hO hP hD hS hl
