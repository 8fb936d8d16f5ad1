/-! the law: its objects -/
set_option maxHeartbeats 4000000 in
set_option maxRecDepth 100000 in
theorem law_A (l : Launch) {p : Program} {e : Env} {s : State} {m : MethodId} {below : List Frame} {meth : Method} {c : Code} {b : Nat} {Q : State → Prop} (hx : p.tables.exec = Jvm.exec) (hb : c.code = code) (hml : c.maxLocals = 9) (hown : s.vm.findClass RL = some m.cls) (hts : ∀ w ∈ lw_tbl, w.before #[Value.ref b] s = true) {D : va_G} {cA : Nat → ClassId} {tr : List (ClassId × FieldType)} (hK : va_K D vwCl (tyB cA ++ tr) s) {A : Nat → Prop} (hA : ∀ q, s.heap.size ≤ q → A q) (hE8 : EX8 s) (hE9 : EX9 s) (hN14 : va_Nw (.methodLinkNest RL 14 yX9_init RL) s) {c2 c3 : ClassId} {j2 j3 : Nat} (ht2 : tr[j2]? = some (c2, .array .int)) (ht3 : tr[j3]? = some (c3, .array (.array .int))) {ls : Array Slot} (hl : lv_has ls 9 [(0, .ref b)]) (kk : ∀ (ad pd bd : Nat → Nat) (tp oq la sq : Nat) (lb : Nat → Nat) (H : Heap) (locs : List Loc) (ls : Array Slot), bd 102 = ad 102 → lv_has ls 9 [(2, .ref oq), (1, .ref tp), (0, .ref b)] → va_P D vwCl (wB cA ad s0 ++ (wPg cA ad pd (fun _ _ => 0) ++ (wB cA bd s0 ++ ((tp, .inr (8, tpF ad bd)) :: oW (cA 0) c2 c3 oq la sq (nI 0) lb (fun _ _ => none) (fun _ => 0))))) H → va_D A (wB cA ad s0 ++ (wPg cA ad pd (fun _ _ => 0) ++ (wB cA bd s0 ++ ((tp, .inr (8, tpF ad bd)) :: oW (cA 0) c2 c3 oq la sq (nI 0) lb (fun _ _ => none) (fun _ => 0))))) → va_S A s.heap H locs → W p l e room_1 s m #[Value.ref b] below meth c H locs 221 2909 Q (F0 m 16 ls [])) : W p l e room_1 s m #[Value.ref b] below meth c s.heap [] 0 0 Q (F0 m 0 ls []) := by
  have hP : va_P D vwCl [] s.heap := fun k q hk => by cases hk
  have hD : va_D A [] := ⟨fun i j p q hi => (by cases hi), fun k q hk => (by cases hk)⟩
  have hS : va_S A s.heap s.heap [] := va_S.rf
  refine va_new (ci := 8) (fs := [.null, .null, .null, .null, .null, .null, .null]) (C := RX8) (T := TX8) (N := 7) hx hb hts nlw_X8 tyX8 tyX8_ok hown (hts (.classLink RL 9 RX8) (by decide +kernel)) (hts (.instantiable RX8 7) (by decide +kernel)) (hts (.initialized RX8) (by decide +kernel)) hK hP hD hS hA rfl (fun j hj => by rcases (show j = 0 ∨ j = 1 ∨ j = 2 ∨ j = 3 ∨ j = 4 ∨ j = 5 ∨ j = 6 by omega) with rfl | rfl | rfl | rfl | rfl | rfl | rfl <;> rfl) (Nat.le_of_ble_eq_true rfl) (Nat.le_of_ble_eq_true rfl) dL_law_0 (fun tp H hP hD hS => ?_)
  have hP : va_P D vwCl [(tp, .inr (8, [.null, .null, .null, .null, .null, .null, .null]))] H := hP
  have hD : va_D A [(tp, .inr (8, [.null, .null, .null, .null, .null, .null, .null]))] := hD
  refine W.widen (k := 1) (n := 7) (by omega) (by omega) ?_
  refine lv_dup hx hb dL_law_3 rfl ?_
  refine x_Iv (As := []) (rest0 := [.ref tp]) EX8 (fun _ _ _ _ h9 => h9.call) (fun U _ hW => hE8.warm hW) ⟨hx, hb, hml, hown, hts⟩ (c_X8_init l D cA tr H.size tp) (cwI 0 hts glw_init8 rfl rfl rfl (hts (.initialized RX8) (by decide +kernel)) (hts (.methodLink RL 11 yX8_init) (by decide +kernel)) (hts (.instanceMethod yX8_init) (by decide +kernel)) rfl (by decide +kernel) ⟨Nat.le_of_ble_eq_true rfl, Nat.le_of_ble_eq_true rfl⟩) hK hP hD hS hA hl.1 rfl rfl (Nat.le_of_ble_eq_true rfl) ⟨Nat.le_of_ble_eq_true rfl, Nat.le_of_ble_eq_true rfl⟩ dL_law_4 (fun u H locs hw hP hD hS => ?_)
  obtain ⟨ad, pd, bd⟩ := u
  have h102 : bd 102 = ad 102 := hw
  have hP : va_P D vwCl (wB cA ad s0 ++ (wPg cA ad pd (fun _ _ => 0) ++ (wB cA bd s0 ++ ((tp, .inr (8, tpF ad bd)) :: [])))) H := hP
  have hD : va_D A (wB cA ad s0 ++ (wPg cA ad pd (fun _ _ => 0) ++ (wB cA bd s0 ++ ((tp, .inr (8, tpF ad bd)) :: [])))) := hD
  refine W.widen (k := 210) (n := 2794) (by omega) (by omega) ?_
  refine lv_astore_n (lv' := [(1, .ref tp), (0, .ref b)]) hx hb dL_law_7 rfl hl (by decide) rfl (fun ls hl => ?_)
  obtain ⟨W0, eW0⟩ : ∃ z : va_W, z = wB cA ad s0 ++ (wPg cA ad pd (fun _ _ => 0) ++ (wB cA bd s0 ++ ((tp, .inr (8, tpF ad bd)) :: []))) := ⟨_, rfl⟩
  rw [← eW0] at hP hD
  refine va_new (ci := 9) (fs := [.null, .null, .int 0]) (C := RX9) (T := TX9) (N := 3) hx hb hts nlw_X9 tyX9 tyX9_ok hown (hts (.classLink RL 12 RX9) (by decide +kernel)) (hts (.instantiable RX9 3) (by decide +kernel)) (hts (.initialized RX9) (by decide +kernel)) hK hP hD hS hA rfl (fun j hj => by rcases (show j = 0 ∨ j = 1 ∨ j = 2 by omega) with rfl | rfl | rfl <;> rfl) (Nat.le_of_ble_eq_true rfl) (Nat.le_of_ble_eq_true rfl) dL_law_8 (fun oq H hP hD hS => ?_)
  refine W.widen (k := 211) (n := 2797) (by omega) (by omega) ?_
  refine lv_dup hx hb dL_law_11 rfl ?_
  refine x_IvN (As := []) (rest0 := [.ref oq]) EX9 (fun _ _ _ _ h9 => h9.call) (fun U _ hW => hE9.warm hW) ⟨hx, hb, hml, hown, hts⟩ (c_X9_init l D cA tr (W0 ++ [(oq, .inr (9, [.null, .null, .int 0]))]) H.size W0.length oq xv_new c2 c3 j2 j3 ht2 ht3) ⟨va_cnB 0 hts glw_init9 rfl rfl rfl hN14 (hts (.initialized RX9) (by decide +kernel)) (by decide +kernel) ⟨Nat.le_of_ble_eq_true rfl, Nat.le_of_ble_eq_true rfl⟩, rfl, hts (.instanceMethod yX9_init) (by decide +kernel)⟩ hK hP hD hS hA hl.1 rfl rfl (Nat.le_of_ble_eq_true rfl) ⟨Nat.le_of_ble_eq_true rfl, Nat.le_of_ble_eq_true rfl⟩ dL_law_12 (fun u H locs _ hP hD hS => ?_)
  obtain ⟨la, lb, sq⟩ := u
  refine W.widen (k := 221) (n := 2909) (by omega) (by omega) ?_
  rw [xv_put, eW0, wL_app, wL_app] at hP hD
  refine lv_astore_n (lv' := [(2, .ref oq), (1, .ref tp), (0, .ref b)]) hx hb dL_law_15 rfl hl (by decide) rfl (fun ls hl => ?_)
  exact kk ad pd bd tp oq la sq lb H locs ls h102 hl hP hD hS
