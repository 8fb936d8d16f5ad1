/-! the law: its end -/
set_option maxHeartbeats 4000000 in
set_option maxRecDepth 100000 in
theorem law_F (l : Launch) {p : Program} {e : Env} {s : State} {m : MethodId} {below : List Frame} {meth : Method} {c : Code} {b : Nat} {Q : State → Prop} (hx : p.tables.exec = Jvm.exec) (hb : c.code = code) (hml : c.maxLocals = 9) (hown : s.vm.findClass RL = some m.cls) (hts : ∀ w ∈ lw_tbl, w.before #[Value.ref b] s = true) {D : va_G} {cA : Nat → ClassId} {tr : List (ClassId × FieldType)} (hK : va_K D vwCl (tyB cA ++ tr) s) {A : Nat → Prop} (hA : ∀ q, s.heap.size ≤ q → A q) (ad pd bd : Nat → Nat) (tp : Nat) (h102 : bd 102 = ad 102) (lq cq qk oq : Nat) (R : va_W) {τ π : Sg} {T S t U : Nat} {st : Nat → List Nat} (h : Inv π T S t U st none none none τ) (hFL : FL τ) (ht : t ≤ 3 * 54) (hU : U ≤ 900 * 54) {B : Nat} (hIP : IP π B) (hPB : ∀ q, bnd (π 3 q)) {H : Heap} {locs : List Loc} {ls : Array Slot} (hl : lv_has ls 9 [(5, .ref cq), (4, .ref lq), (3, .ref qk), (2, .ref oq), (1, .ref tp), (0, .ref b)]) (hP : va_P D vwCl (wB cA ad τ ++ (wPg cA ad pd π ++ (wB cA bd s0 ++ ((tp, .inr (8, tpF ad bd)) :: R)))) H) (hD : va_D A (wB cA ad τ ++ (wPg cA ad pd π ++ (wB cA bd s0 ++ ((tp, .inr (8, tpF ad bd)) :: R))))) (hS : va_S A s.heap H locs) (kk : ∀ (H : Heap) (locs : List Loc) (ls : Array Slot), va_S A s.heap H locs → W p l e room_1 s m #[Value.ref b] below meth c H locs (348 + 6 * 54) (3307 + 83 * 54) Q (F0 m 662 ls [.int 1])) : W p l e room_1 s m #[Value.ref b] below meth c H locs (348 + 6 * 54) (3307 + 83 * 54) Q (F0 m 628 ls []) := by
  have hT := h.1.1.1
  have hS40 := h.1.1.2.1
  refine lv_aload_n hx hb dL_law_628 rfl (lv_at hl 4 rfl) ?_
  refine x_Vl (As := []) (rest0 := []) ⟨hx, hb, hml, hown, hts⟩ (c_X8_digest l D cA ad tr R H.size τ pd π bd tp s0 h102 T h.1.1.2.2.1 (by omega) S h.1.1.2.2.2.1 (by omega) hFL.flags) (cwV 0 hts glw_digest rfl rfl rfl (by decide +kernel) ⟨Nat.le_of_ble_eq_true rfl, Nat.le_of_ble_eq_true rfl⟩) hK hP hD hS hA 209 w_tp rfl hl.1 rfl rfl (Nat.le_of_ble_eq_true rfl) ⟨Nat.le_of_ble_eq_true rfl, Nat.le_of_ble_eq_true rfl⟩ dL_law_629 (fun r u H locs hw hP hD hS => ?_)
  obtain ⟨er, eu⟩ := hw
  obtain ⟨ρ1, eρ1⟩ : ∃ z, z = (m_overS π 10 5 (m_copy (m_overS π 10 1 (m_copy s0 τ)) τ)) := ⟨_, rfl⟩
  obtain ⟨d1, ed1⟩ : ∃ z, z = m_dig τ π s0 T S := ⟨_, rfl⟩
  obtain rfl : r = d1 := er.trans ed1.symm
  obtain rfl : u = ρ1 := eu.trans eρ1.symm
  refine lv_lstore (lv' := [(6, .long r), (5, .ref cq), (4, .ref lq), (3, .ref qk), (2, .ref oq), (1, .ref tp), (0, .ref b)]) hx hb dL_law_632 hl (by decide) rfl (fun ls hl => ?_)
  refine lv_aload_n hx hb dL_law_634 rfl (lv_at hl 5 rfl) ?_
  refine lv_iconst (v := 1) hx hb dL_law_635 (by decide) ?_
  refine lv_iconst (v := 1) hx hb dL_law_636 (by decide) ?_
  refine x_Vi (As := [.int (nI 1), .int (nI 1)]) (rest0 := []) ⟨hx, hb, hml, hown, hts⟩ (c_X8_overBy l D cA ad tr R H.size τ pd π bd tp u h102 1 1 (by decide) (by decide) (by decide) (by decide) (by decide) (by decide) hFL.flags) (cwV 2 hts glw_overBy rfl rfl rfl (by decide +kernel) ⟨Nat.le_of_ble_eq_true rfl, Nat.le_of_ble_eq_true rfl⟩) hK hP hD hS hA 209 w_tp rfl hl.1 rfl rfl (Nat.le_of_ble_eq_true rfl) ⟨Nat.le_of_ble_eq_true rfl, Nat.le_of_ble_eq_true rfl⟩ dL_law_637 (fun r2 u2 H locs hw hP hD hS => ?_)
  obtain ⟨er2, eu2⟩ := hw
  refine lv_aload_n hx hb dL_law_640 rfl (lv_at hl 5 rfl) ?_
  refine x_Si (As := [.ref tp]) (rest0 := [.int r2]) ⟨hx, hb, hml, hown, hts⟩ (c_L_over l D cA ad tr R H.size τ pd π bd tp u2 h102) (va_cwS 1 hts glw_over rfl rfl rfl (by decide +kernel) ⟨Nat.le_of_ble_eq_true rfl, Nat.le_of_ble_eq_true rfl⟩) hK hP hD hS hA hl.1 rfl rfl (Nat.le_of_ble_eq_true rfl) ⟨Nat.le_of_ble_eq_true rfl, Nat.le_of_ble_eq_true rfl⟩ dL_law_641 (fun r3 _ H locs hw hP hD hS => ?_)
  refine lv_icmp_lt (tgt := 661) hx hb dL_law_644 (by decide) (fun c644_1 => ?_) (fun c644_1 => ?_)
  · exact absurd c644_1 (Int32.not_lt.mpr (by rw [hw, er2]; exact overBy_ge hIP h (by omega) (by omega)))
  refine lv_aload_n hx hb dL_law_647 rfl (lv_at hl 5 rfl) ?_
  refine x_Vl (As := []) (rest0 := []) ⟨hx, hb, hml, hown, hts⟩ (c_X8_digest l D cA ad tr R H.size τ pd π bd tp u2 h102 T h.1.1.2.2.1 (by omega) S h.1.1.2.2.2.1 (by omega) hFL.flags) (cwV 0 hts glw_digest rfl rfl rfl (by decide +kernel) ⟨Nat.le_of_ble_eq_true rfl, Nat.le_of_ble_eq_true rfl⟩) hK hP hD hS hA 209 w_tp rfl hl.1 rfl rfl (Nat.le_of_ble_eq_true rfl) ⟨Nat.le_of_ble_eq_true rfl, Nat.le_of_ble_eq_true rfl⟩ dL_law_648 (fun r4 u4 H locs hw4 hP hD hS => ?_)
  obtain ⟨er4, -⟩ := hw4
  have e4 : r4 = r := by rw [er4, eu2, eρ1, ed1]; exact dig_end hPB T S
  subst e4
  refine lv_lload hx hb dL_law_651 (lv_at hl 0 rfl) ?_
  refine W.lcmp hx hb dL_law_653 ?_
  refine W.eq (g2 := F0 m 654 ls [.int 0]) (by rw [show lg_cmp r4 r4 = 0 from by simp [lg_cmp]]) ?_
  refine lv_if_ne (tgt := 661) hx hb dL_law_654 (by decide) (fun c654_2 => ?_) (fun c654_2 => ?_)
  · exact absurd rfl c654_2
  refine lv_iconst (v := 1) hx hb dL_law_657 (by decide) ?_
  refine lv_goto (tgt := 662) hx hb dL_law_658 (by decide) ?_
  exact kk H locs ls hS
