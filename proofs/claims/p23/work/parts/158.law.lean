/-! the law: its checks -/
set_option maxHeartbeats 4000000 in
set_option maxRecDepth 100000 in
theorem law_E3 (l : Launch) {p : Program} {e : Env} {s : State} {m : MethodId} {below : List Frame} {meth : Method} {c : Code} {b : Nat} {Q : State → Prop} (hx : p.tables.exec = Jvm.exec) (hb : c.code = code) (hml : c.maxLocals = 9) (hown : s.vm.findClass RL = some m.cls) (hts : ∀ w ∈ lw_tbl, w.before #[Value.ref b] s = true) {D : va_G} {cA : Nat → ClassId} {tr : List (ClassId × FieldType)} (hK : va_K D vwCl (tyB cA ++ tr) s) {A : Nat → Prop} (hA : ∀ q, s.heap.size ≤ q → A q) (ad pd bd : Nat → Nat) (tp : Nat) (h102 : bd 102 = ad 102) {c2 c3 : ClassId} {j2 j3 : Nat} (ht2 : tr[j2]? = some (c2, .array .int)) (ht3 : tr[j3]? = some (c3, .array (.array .int))) (oq la sq : Nat) (lb : Nat → Nat) (kc : Nat × va_E) (lq cq : Nat) (lr cr : Nat → Nat) (qk time : Nat) (htm : time < 54) (x : Int32) (R : va_W) {σ π ρ : Sg} (hO : OI (cA 0) c2 c3 oq la sq lb kc π 5 R) (hN99 : va_Nw (.fieldLinkNest RL 99 RX9 "lines" "[[[I" RL) s) {T' S' t' U' : Nat} {st' : Nat → List Nat} (h2 : Inv π T' S' t' U' st' none none none σ) (hTB : TB σ) (hU : U' < 100000) {F G : Nat → Nat → Int32} {cells slots : Nat} (hc : cells + 5 ≤ 600104) (hs : slots + 77 ≤ 7301314) {H : Heap} {locs : List Loc} {ls : Array Slot} (R1 : va_W) (eR1 : R1 = R ++ XX (cA 0) c2 lq lr cq cr F G) (hl : lv_has ls 9 [(7, .int x), (6, .int (nI time)), (5, .ref cq), (4, .ref lq), (3, .ref qk), (2, .ref oq), (1, .ref tp), (0, .ref b)]) (hP : va_P D vwCl (wB cA ad σ ++ (wPg cA ad pd π ++ (wB cA bd ρ ++ ((tp, .inr (8, tpF ad bd)) :: R1)))) H) (hD : va_D A (wB cA ad σ ++ (wPg cA ad pd π ++ (wB cA bd ρ ++ ((tp, .inr (8, tpF ad bd)) :: R1))))) (hS : va_S A s.heap H locs) (kk : ∀ (H : Heap) (locs : List Loc) (ls : Array Slot), lv_has ls 9 [(7, .int x), (6, .int (nI time)), (5, .ref cq), (4, .ref lq), (3, .ref qk), (2, .ref oq), (1, .ref tp), (0, .ref b)] → va_P D vwCl (wB cA ad σ ++ (wPg cA ad pd π ++ (wB cA bd ρ ++ ((tp, .inr (8, tpF ad bd)) :: R1)))) H → va_D A (wB cA ad σ ++ (wPg cA ad pd π ++ (wB cA bd ρ ++ ((tp, .inr (8, tpF ad bd)) :: R1)))) → va_S A s.heap H locs → W p l e room_1 s m #[Value.ref b] below meth c H locs (cells + 5) (slots + 77) Q (F0 m 622 ls [])) : W p l e room_1 s m #[Value.ref b] below meth c H locs cells slots Q (F0 m 585 ls []) := by
  refine lv_iload hx hb dL_law_585 (lv_at hl 1 rfl) ?_
  refine lv_bipush (v := 9) hx hb dL_law_587 (by decide) ?_
  refine lv_irem hx hb dL_law_589 (by decide) ?_
  refine W.eq (g2 := F0 m 590 ls [.int (nI (time % 9))]) (by rw [show (nI time) - (nI time) / 9 * 9 = nI (time % 9) from rem_nI (a := time) (k := 9) (by omega) (by decide)]) ?_
  refine lv_bipush (v := 8) hx hb dL_law_590 (by decide) ?_
  refine lv_icmp_eq (tgt := 598) hx hb dL_law_592 (by decide) (fun c592_1 => ?_) (fun c592_1 => ?_)
  rotate_left
  · skip
    refine lv_goto (tgt := 622) hx hb dL_law_595 (by decide) ?_
    refine W.widen (k := cells + 5) (n := slots + 77) (by omega) (by omega) ?_
    exact kk H locs ls hl hP hD hS
  refine lv_aload_n hx hb dL_law_598 rfl (lv_at hl 6 rfl) ?_
  refine lv_aload_n hx hb dL_law_599 rfl (lv_at hl 5 rfl) ?_
  obtain ⟨L9, hL9⟩ := ready_of h2
  obtain ⟨LA, z9, r9, hR, hIP, -, -, hLn, -⟩ := id hO
  have hR1 : R1 = oW (cA 0) c2 c3 oq la sq (nI 5) lb LA z9 ++ ((kc :: r9) ++ XX (cA 0) c2 lq lr cq cr F G) := by rw [eR1, hR, List.append_assoc]
  have hLn1 : ∀ i, i < 8 → ∀ j, j < 12 → nI j < π 1 i → ∃ (q k : Nat) (f : Nat → Int32), LA i j = some q ∧ ((kc :: r9) ++ XX (cA 0) c2 lq lr cq cr F G)[k]? = some (q, .inl (cA 0, 3, .inl f)) ∧ f 0 = π 2 (i * 12 + j) := fun i hi j hj z => by
    obtain ⟨q, k, f, g1, g2, g3⟩ := hLn i hi j hj z
    exact ⟨q, k, f, g1, xv_old g2, g3⟩
  refine x_SiE (As := [.ref tp, .ref oq]) (rest0 := []) (va_Nw (.fieldLinkNest RL 99 RX9 "lines" "[[[I" RL)) (fun U g mk a h9 => va_Nw.same (u := U) (U := U.calling g mk a) rfl rfl h9) (fun U _ hW => va_Nw.warmF hW hN99) ⟨hx, hb, hml, hown, hts⟩ (c_L_areTasksRight l D cA ad tr R1 H.size σ pd π bd tp ρ h102 T' S' t' U' st' h2 5 hIP hTB L9 hL9 c2 c3 j2 j3 oq la sq (nI 5) lb LA z9 ((kc :: r9) ++ XX (cA 0) c2 lq lr cq cr F G) ht2 ht3 hR1 hLn1) (va_cwS 2 hts glw_areTasksRight rfl rfl rfl (by decide +kernel) ⟨Nat.le_of_ble_eq_true rfl, Nat.le_of_ble_eq_true rfl⟩) hK hP hD hS hA hl.1 rfl rfl (Nat.le_of_ble_eq_true rfl) ⟨(by show cells + 3 ≤ 600104; omega), (by show slots + 48 ≤ 7301314; omega)⟩ dL_law_600 (fun r _ H locs hw hP hD hS => ?_)
  obtain rfl : r = 1 := hw
  refine lv_if_eq (tgt := 620) hx hb dL_law_603 (by decide) (fun c603_2 => ?_) (fun c603_2 => ?_)
  · exact absurd c603_2 (by decide)
  refine lv_aload_n hx hb dL_law_606 rfl (lv_at hl 6 rfl) ?_
  refine x_SiE (As := [.ref tp]) (rest0 := []) (fun _ => True) (fun _ _ _ _ _ => trivial) (fun _ _ _ => trivial) ⟨hx, hb, hml, hown, hts⟩ (Met.andT (c_L_areScopesRight l D cA ad tr R1 H.size σ pd π bd tp ρ h102 T' S' t' U' st' h2)) (va_cwS 1 hts glw_areScopesRight rfl rfl rfl (by decide +kernel) ⟨Nat.le_of_ble_eq_true rfl, Nat.le_of_ble_eq_true rfl⟩) hK hP hD hS hA hl.1 rfl rfl (Nat.le_of_ble_eq_true rfl) ⟨(by show cells + 3 + 1 ≤ 600104; omega), (by show slots + 48 + 24 ≤ 7301314; omega)⟩ dL_law_607 (fun r _ H locs hw hP hD hS => ?_)
  obtain rfl : r = 1 := hw
  refine lv_if_eq (tgt := 620) hx hb dL_law_610 (by decide) (fun c610_3 => ?_) (fun c610_3 => ?_)
  · exact absurd c610_3 (by decide)
  refine lv_aload_n hx hb dL_law_613 rfl (lv_at hl 6 rfl) ?_
  refine x_SiE (As := [.ref tp]) (rest0 := []) (fun _ => True) (fun _ _ _ _ _ => trivial) (fun _ _ _ => trivial) ⟨hx, hb, hml, hown, hts⟩ (Met.andT (c_L_areOthersRight l D cA ad tr R1 H.size σ pd π bd tp ρ h102 T' S' t' U' st' h2 (by omega))) (va_cwS 1 hts glw_areOthersRight rfl rfl rfl (by decide +kernel) ⟨Nat.le_of_ble_eq_true rfl, Nat.le_of_ble_eq_true rfl⟩) hK hP hD hS hA hl.1 rfl rfl (Nat.le_of_ble_eq_true rfl) ⟨(by show cells + 4 + 1 ≤ 600104; omega), (by show slots + 72 + 5 ≤ 7301314; omega)⟩ dL_law_614 (fun r _ H locs hw hP hD hS => ?_)
  obtain rfl : r = 1 := hw
  refine lv_if_ne (tgt := 622) hx hb dL_law_617 (by decide) (fun c617_4 => ?_) (fun c617_4 => ?_)
  rotate_left
  · exact absurd c617_4 (by decide)
  refine W.widen (k := cells + 5) (n := slots + 77) (by omega) (by omega) ?_
  exact kk H locs ls hl hP hD hS
