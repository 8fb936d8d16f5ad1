/-! the law: the kinds -/
set_option maxHeartbeats 4000000 in
set_option maxRecDepth 100000 in
theorem law_B (l : Launch) {p : Program} {e : Env} {s : State} {m : MethodId} {below : List Frame} {meth : Method} {c : Code} {b : Nat} {Q : State → Prop} (hx : p.tables.exec = Jvm.exec) (hb : c.code = code) (hml : c.maxLocals = 9) (hown : s.vm.findClass RL = some m.cls) (hts : ∀ w ∈ lw_tbl, w.before #[Value.ref b] s = true) {D : va_G} {cA : Nat → ClassId} {tr : List (ClassId × FieldType)} (hK : va_K D vwCl (tyB cA ++ tr) s) {A : Nat → Prop} (hA : ∀ q, s.heap.size ≤ q → A q) (ad pd bd : Nat → Nat) (tp oq : Nat) (τ π ρ : Sg) (O0 : va_W) {H : Heap} {locs : List Loc} {ls : Array Slot} (hl : lv_has ls 9 [(2, .ref oq), (1, .ref tp), (0, .ref b)]) (hP : va_P D vwCl (wB cA ad τ ++ (wPg cA ad pd π ++ (wB cA bd ρ ++ ((tp, .inr (8, tpF ad bd)) :: O0)))) H) (hD : va_D A (wB cA ad τ ++ (wPg cA ad pd π ++ (wB cA bd ρ ++ ((tp, .inr (8, tpF ad bd)) :: O0))))) (hS : va_S A s.heap H locs) (kk : ∀ (qk : Nat) (kf : Nat → Int32) (H : Heap) (locs : List Loc) (ls : Array Slot), (∀ i, i < 26 → ∃ kd, kd ≤ 18 ∧ kf i = nI kd) → lv_has ls 9 [(3, .ref qk), (2, .ref oq), (1, .ref tp), (0, .ref b)] → va_P D vwCl (wB cA ad τ ++ (wPg cA ad pd π ++ (wB cA bd ρ ++ ((tp, .inr (8, tpF ad bd)) :: O0 ++ [(qk, .inl (cA 0, 26, .inl kf))])))) H → va_D A (wB cA ad τ ++ (wPg cA ad pd π ++ (wB cA bd ρ ++ ((tp, .inr (8, tpF ad bd)) :: O0 ++ [(qk, .inl (cA 0, 26, .inl kf))])))) → va_S A s.heap H locs → W p l e room_1 s m #[Value.ref b] below meth c H locs 222 2935 Q (F0 m 165 ls [])) : W p l e room_1 s m #[Value.ref b] below meth c H locs 221 2909 Q (F0 m 16 ls []) := by
  refine lv_bipush (v := 26) hx hb dL_law_16 (by decide) ?_
  refine va_newa (atype := .int) (ty := .int) (N' := 26) (a0 := (26, .inl (fun _ => 0))) hx hb (hts (.arrayClass .int) (by decide +kernel)) rfl hK hP hD hS hA (fun _ => rfl) (by decide) (by decide) (Nat.le_of_ble_eq_true rfl) (Nat.le_of_ble_eq_true rfl) (Nat.le_of_ble_eq_true rfl) dL_law_18 (fun qk cN H hKn hP hD hS => ?_)
  obtain rfl : cN = cA 0 := cA_int hKn rfl
  clear hKn
  rw [wL_app] at hP hD
  refine W.widen (k := 222) (n := 2935) (by omega) (by omega) ?_
  obtain ⟨f0, ef0⟩ : ∃ z : Nat → Int32, z = (fun _ => 0) := ⟨_, rfl⟩
  obtain ⟨R0, eR0⟩ : ∃ z : va_W, z = O0 ++ [(qk, .inl (cA 0, 26, .inl f0))] := ⟨_, rfl⟩
  have hP : va_P D vwCl (wB cA ad τ ++ (wPg cA ad pd π ++ (wB cA bd ρ ++ ((tp, .inr (8, tpF ad bd)) :: R0)))) H := by rw [eR0, ef0]; exact hP
  have hD : va_D A (wB cA ad τ ++ (wPg cA ad pd π ++ (wB cA bd ρ ++ ((tp, .inr (8, tpF ad bd)) :: R0)))) := by rw [eR0, ef0]; exact hD
  refine lv_dup hx hb dL_law_20 rfl ?_
  refine lv_iconst (v := 0) hx hb dL_law_21 (by decide) ?_
  refine lv_iconst (v := 0) hx hb dL_law_22 (by decide) ?_
  refine va_iast hx hb hK hP hD hS (0 + O0.length + 210) 0 (wNewR eR0 rfl) rfl (by unfold vp_in; decide) dL_law_23 (fun H locs hP hD hS => ?_)
  rw [wNewSR eR0] at hP hD
  obtain ⟨f1, ef1⟩ : ∃ z : Nat → Int32, z = upd f0 0 0 := ⟨_, rfl⟩
  obtain ⟨R1, eR1⟩ : ∃ z : va_W, z = O0 ++ [(qk, .inl (cA 0, 26, .inl f1))] := ⟨_, rfl⟩
  have hP : va_P D vwCl (wB cA ad τ ++ (wPg cA ad pd π ++ (wB cA bd ρ ++ ((tp, .inr (8, tpF ad bd)) :: R1)))) H := by rw [eR1, ef1]; exact hP
  have hD : va_D A (wB cA ad τ ++ (wPg cA ad pd π ++ (wB cA bd ρ ++ ((tp, .inr (8, tpF ad bd)) :: R1)))) := by rw [eR1, ef1]; exact hD
  refine lv_dup hx hb dL_law_24 rfl ?_
  refine lv_iconst (v := 1) hx hb dL_law_25 (by decide) ?_
  refine lv_iconst (v := 1) hx hb dL_law_26 (by decide) ?_
  refine va_iast hx hb hK hP hD hS (0 + O0.length + 210) 0 (wNewR eR1 rfl) rfl (by unfold vp_in; decide) dL_law_27 (fun H locs hP hD hS => ?_)
  rw [wNewSR eR1] at hP hD
  obtain ⟨f2, ef2⟩ : ∃ z : Nat → Int32, z = upd f1 1 1 := ⟨_, rfl⟩
  obtain ⟨R2, eR2⟩ : ∃ z : va_W, z = O0 ++ [(qk, .inl (cA 0, 26, .inl f2))] := ⟨_, rfl⟩
  have hP : va_P D vwCl (wB cA ad τ ++ (wPg cA ad pd π ++ (wB cA bd ρ ++ ((tp, .inr (8, tpF ad bd)) :: R2)))) H := by rw [eR2, ef2]; exact hP
  have hD : va_D A (wB cA ad τ ++ (wPg cA ad pd π ++ (wB cA bd ρ ++ ((tp, .inr (8, tpF ad bd)) :: R2)))) := by rw [eR2, ef2]; exact hD
  refine lv_dup hx hb dL_law_28 rfl ?_
  refine lv_iconst (v := 2) hx hb dL_law_29 (by decide) ?_
  refine lv_iconst (v := 2) hx hb dL_law_30 (by decide) ?_
  refine va_iast hx hb hK hP hD hS (0 + O0.length + 210) 0 (wNewR eR2 rfl) rfl (by unfold vp_in; decide) dL_law_31 (fun H locs hP hD hS => ?_)
  rw [wNewSR eR2] at hP hD
  obtain ⟨f3, ef3⟩ : ∃ z : Nat → Int32, z = upd f2 2 2 := ⟨_, rfl⟩
  obtain ⟨R3, eR3⟩ : ∃ z : va_W, z = O0 ++ [(qk, .inl (cA 0, 26, .inl f3))] := ⟨_, rfl⟩
  have hP : va_P D vwCl (wB cA ad τ ++ (wPg cA ad pd π ++ (wB cA bd ρ ++ ((tp, .inr (8, tpF ad bd)) :: R3)))) H := by rw [eR3, ef3]; exact hP
  have hD : va_D A (wB cA ad τ ++ (wPg cA ad pd π ++ (wB cA bd ρ ++ ((tp, .inr (8, tpF ad bd)) :: R3)))) := by rw [eR3, ef3]; exact hD
  refine lv_dup hx hb dL_law_32 rfl ?_
  refine lv_iconst (v := 3) hx hb dL_law_33 (by decide) ?_
  refine lv_iconst (v := 3) hx hb dL_law_34 (by decide) ?_
  refine va_iast hx hb hK hP hD hS (0 + O0.length + 210) 0 (wNewR eR3 rfl) rfl (by unfold vp_in; decide) dL_law_35 (fun H locs hP hD hS => ?_)
  rw [wNewSR eR3] at hP hD
  obtain ⟨f4, ef4⟩ : ∃ z : Nat → Int32, z = upd f3 3 3 := ⟨_, rfl⟩
  obtain ⟨R4, eR4⟩ : ∃ z : va_W, z = O0 ++ [(qk, .inl (cA 0, 26, .inl f4))] := ⟨_, rfl⟩
  have hP : va_P D vwCl (wB cA ad τ ++ (wPg cA ad pd π ++ (wB cA bd ρ ++ ((tp, .inr (8, tpF ad bd)) :: R4)))) H := by rw [eR4, ef4]; exact hP
  have hD : va_D A (wB cA ad τ ++ (wPg cA ad pd π ++ (wB cA bd ρ ++ ((tp, .inr (8, tpF ad bd)) :: R4)))) := by rw [eR4, ef4]; exact hD
  refine lv_dup hx hb dL_law_36 rfl ?_
  refine lv_iconst (v := 4) hx hb dL_law_37 (by decide) ?_
  refine lv_iconst (v := 4) hx hb dL_law_38 (by decide) ?_
  refine va_iast hx hb hK hP hD hS (0 + O0.length + 210) 0 (wNewR eR4 rfl) rfl (by unfold vp_in; decide) dL_law_39 (fun H locs hP hD hS => ?_)
  rw [wNewSR eR4] at hP hD
  obtain ⟨f5, ef5⟩ : ∃ z : Nat → Int32, z = upd f4 4 4 := ⟨_, rfl⟩
  obtain ⟨R5, eR5⟩ : ∃ z : va_W, z = O0 ++ [(qk, .inl (cA 0, 26, .inl f5))] := ⟨_, rfl⟩
  have hP : va_P D vwCl (wB cA ad τ ++ (wPg cA ad pd π ++ (wB cA bd ρ ++ ((tp, .inr (8, tpF ad bd)) :: R5)))) H := by rw [eR5, ef5]; exact hP
  have hD : va_D A (wB cA ad τ ++ (wPg cA ad pd π ++ (wB cA bd ρ ++ ((tp, .inr (8, tpF ad bd)) :: R5)))) := by rw [eR5, ef5]; exact hD
  refine lv_dup hx hb dL_law_40 rfl ?_
  refine lv_iconst (v := 5) hx hb dL_law_41 (by decide) ?_
  refine lv_iconst (v := 5) hx hb dL_law_42 (by decide) ?_
  refine va_iast hx hb hK hP hD hS (0 + O0.length + 210) 0 (wNewR eR5 rfl) rfl (by unfold vp_in; decide) dL_law_43 (fun H locs hP hD hS => ?_)
  rw [wNewSR eR5] at hP hD
  obtain ⟨f6, ef6⟩ : ∃ z : Nat → Int32, z = upd f5 5 5 := ⟨_, rfl⟩
  obtain ⟨R6, eR6⟩ : ∃ z : va_W, z = O0 ++ [(qk, .inl (cA 0, 26, .inl f6))] := ⟨_, rfl⟩
  have hP : va_P D vwCl (wB cA ad τ ++ (wPg cA ad pd π ++ (wB cA bd ρ ++ ((tp, .inr (8, tpF ad bd)) :: R6)))) H := by rw [eR6, ef6]; exact hP
  have hD : va_D A (wB cA ad τ ++ (wPg cA ad pd π ++ (wB cA bd ρ ++ ((tp, .inr (8, tpF ad bd)) :: R6)))) := by rw [eR6, ef6]; exact hD
  refine lv_dup hx hb dL_law_44 rfl ?_
  refine lv_bipush (v := 6) hx hb dL_law_45 (by decide) ?_
  refine lv_bipush (v := 6) hx hb dL_law_47 (by decide) ?_
  refine va_iast hx hb hK hP hD hS (0 + O0.length + 210) 0 (wNewR eR6 rfl) rfl (by unfold vp_in; decide) dL_law_49 (fun H locs hP hD hS => ?_)
  rw [wNewSR eR6] at hP hD
  obtain ⟨f7, ef7⟩ : ∃ z : Nat → Int32, z = upd f6 6 6 := ⟨_, rfl⟩
  obtain ⟨R7, eR7⟩ : ∃ z : va_W, z = O0 ++ [(qk, .inl (cA 0, 26, .inl f7))] := ⟨_, rfl⟩
  have hP : va_P D vwCl (wB cA ad τ ++ (wPg cA ad pd π ++ (wB cA bd ρ ++ ((tp, .inr (8, tpF ad bd)) :: R7)))) H := by rw [eR7, ef7]; exact hP
  have hD : va_D A (wB cA ad τ ++ (wPg cA ad pd π ++ (wB cA bd ρ ++ ((tp, .inr (8, tpF ad bd)) :: R7)))) := by rw [eR7, ef7]; exact hD
  refine lv_dup hx hb dL_law_50 rfl ?_
  refine lv_bipush (v := 7) hx hb dL_law_51 (by decide) ?_
  refine lv_bipush (v := 7) hx hb dL_law_53 (by decide) ?_
  refine va_iast hx hb hK hP hD hS (0 + O0.length + 210) 0 (wNewR eR7 rfl) rfl (by unfold vp_in; decide) dL_law_55 (fun H locs hP hD hS => ?_)
  rw [wNewSR eR7] at hP hD
  obtain ⟨f8, ef8⟩ : ∃ z : Nat → Int32, z = upd f7 7 7 := ⟨_, rfl⟩
  obtain ⟨R8, eR8⟩ : ∃ z : va_W, z = O0 ++ [(qk, .inl (cA 0, 26, .inl f8))] := ⟨_, rfl⟩
  have hP : va_P D vwCl (wB cA ad τ ++ (wPg cA ad pd π ++ (wB cA bd ρ ++ ((tp, .inr (8, tpF ad bd)) :: R8)))) H := by rw [eR8, ef8]; exact hP
  have hD : va_D A (wB cA ad τ ++ (wPg cA ad pd π ++ (wB cA bd ρ ++ ((tp, .inr (8, tpF ad bd)) :: R8)))) := by rw [eR8, ef8]; exact hD
  refine lv_dup hx hb dL_law_56 rfl ?_
  refine lv_bipush (v := 8) hx hb dL_law_57 (by decide) ?_
  refine lv_bipush (v := 7) hx hb dL_law_59 (by decide) ?_
  refine va_iast hx hb hK hP hD hS (0 + O0.length + 210) 0 (wNewR eR8 rfl) rfl (by unfold vp_in; decide) dL_law_61 (fun H locs hP hD hS => ?_)
  rw [wNewSR eR8] at hP hD
  obtain ⟨f9, ef9⟩ : ∃ z : Nat → Int32, z = upd f8 8 7 := ⟨_, rfl⟩
  obtain ⟨R9, eR9⟩ : ∃ z : va_W, z = O0 ++ [(qk, .inl (cA 0, 26, .inl f9))] := ⟨_, rfl⟩
  have hP : va_P D vwCl (wB cA ad τ ++ (wPg cA ad pd π ++ (wB cA bd ρ ++ ((tp, .inr (8, tpF ad bd)) :: R9)))) H := by rw [eR9, ef9]; exact hP
  have hD : va_D A (wB cA ad τ ++ (wPg cA ad pd π ++ (wB cA bd ρ ++ ((tp, .inr (8, tpF ad bd)) :: R9)))) := by rw [eR9, ef9]; exact hD
  refine lv_dup hx hb dL_law_62 rfl ?_
  refine lv_bipush (v := 9) hx hb dL_law_63 (by decide) ?_
  refine lv_bipush (v := 8) hx hb dL_law_65 (by decide) ?_
  refine va_iast hx hb hK hP hD hS (0 + O0.length + 210) 0 (wNewR eR9 rfl) rfl (by unfold vp_in; decide) dL_law_67 (fun H locs hP hD hS => ?_)
  rw [wNewSR eR9] at hP hD
  obtain ⟨f10, ef10⟩ : ∃ z : Nat → Int32, z = upd f9 9 8 := ⟨_, rfl⟩
  obtain ⟨R10, eR10⟩ : ∃ z : va_W, z = O0 ++ [(qk, .inl (cA 0, 26, .inl f10))] := ⟨_, rfl⟩
  have hP : va_P D vwCl (wB cA ad τ ++ (wPg cA ad pd π ++ (wB cA bd ρ ++ ((tp, .inr (8, tpF ad bd)) :: R10)))) H := by rw [eR10, ef10]; exact hP
  have hD : va_D A (wB cA ad τ ++ (wPg cA ad pd π ++ (wB cA bd ρ ++ ((tp, .inr (8, tpF ad bd)) :: R10)))) := by rw [eR10, ef10]; exact hD
  refine lv_dup hx hb dL_law_68 rfl ?_
  refine lv_bipush (v := 10) hx hb dL_law_69 (by decide) ?_
  refine lv_bipush (v := 9) hx hb dL_law_71 (by decide) ?_
  refine va_iast hx hb hK hP hD hS (0 + O0.length + 210) 0 (wNewR eR10 rfl) rfl (by unfold vp_in; decide) dL_law_73 (fun H locs hP hD hS => ?_)
  rw [wNewSR eR10] at hP hD
  obtain ⟨f11, ef11⟩ : ∃ z : Nat → Int32, z = upd f10 10 9 := ⟨_, rfl⟩
  obtain ⟨R11, eR11⟩ : ∃ z : va_W, z = O0 ++ [(qk, .inl (cA 0, 26, .inl f11))] := ⟨_, rfl⟩
  have hP : va_P D vwCl (wB cA ad τ ++ (wPg cA ad pd π ++ (wB cA bd ρ ++ ((tp, .inr (8, tpF ad bd)) :: R11)))) H := by rw [eR11, ef11]; exact hP
  have hD : va_D A (wB cA ad τ ++ (wPg cA ad pd π ++ (wB cA bd ρ ++ ((tp, .inr (8, tpF ad bd)) :: R11)))) := by rw [eR11, ef11]; exact hD
  refine lv_dup hx hb dL_law_74 rfl ?_
  refine lv_bipush (v := 11) hx hb dL_law_75 (by decide) ?_
  refine lv_bipush (v := 9) hx hb dL_law_77 (by decide) ?_
  refine va_iast hx hb hK hP hD hS (0 + O0.length + 210) 0 (wNewR eR11 rfl) rfl (by unfold vp_in; decide) dL_law_79 (fun H locs hP hD hS => ?_)
  rw [wNewSR eR11] at hP hD
  obtain ⟨f12, ef12⟩ : ∃ z : Nat → Int32, z = upd f11 11 9 := ⟨_, rfl⟩
  obtain ⟨R12, eR12⟩ : ∃ z : va_W, z = O0 ++ [(qk, .inl (cA 0, 26, .inl f12))] := ⟨_, rfl⟩
  have hP : va_P D vwCl (wB cA ad τ ++ (wPg cA ad pd π ++ (wB cA bd ρ ++ ((tp, .inr (8, tpF ad bd)) :: R12)))) H := by rw [eR12, ef12]; exact hP
  have hD : va_D A (wB cA ad τ ++ (wPg cA ad pd π ++ (wB cA bd ρ ++ ((tp, .inr (8, tpF ad bd)) :: R12)))) := by rw [eR12, ef12]; exact hD
  refine lv_dup hx hb dL_law_80 rfl ?_
  refine lv_bipush (v := 12) hx hb dL_law_81 (by decide) ?_
  refine lv_bipush (v := 10) hx hb dL_law_83 (by decide) ?_
  refine va_iast hx hb hK hP hD hS (0 + O0.length + 210) 0 (wNewR eR12 rfl) rfl (by unfold vp_in; decide) dL_law_85 (fun H locs hP hD hS => ?_)
  rw [wNewSR eR12] at hP hD
  obtain ⟨f13, ef13⟩ : ∃ z : Nat → Int32, z = upd f12 12 10 := ⟨_, rfl⟩
  obtain ⟨R13, eR13⟩ : ∃ z : va_W, z = O0 ++ [(qk, .inl (cA 0, 26, .inl f13))] := ⟨_, rfl⟩
  have hP : va_P D vwCl (wB cA ad τ ++ (wPg cA ad pd π ++ (wB cA bd ρ ++ ((tp, .inr (8, tpF ad bd)) :: R13)))) H := by rw [eR13, ef13]; exact hP
  have hD : va_D A (wB cA ad τ ++ (wPg cA ad pd π ++ (wB cA bd ρ ++ ((tp, .inr (8, tpF ad bd)) :: R13)))) := by rw [eR13, ef13]; exact hD
  refine lv_dup hx hb dL_law_86 rfl ?_
  refine lv_bipush (v := 13) hx hb dL_law_87 (by decide) ?_
  refine lv_bipush (v := 10) hx hb dL_law_89 (by decide) ?_
  refine va_iast hx hb hK hP hD hS (0 + O0.length + 210) 0 (wNewR eR13 rfl) rfl (by unfold vp_in; decide) dL_law_91 (fun H locs hP hD hS => ?_)
  rw [wNewSR eR13] at hP hD
  obtain ⟨f14, ef14⟩ : ∃ z : Nat → Int32, z = upd f13 13 10 := ⟨_, rfl⟩
  obtain ⟨R14, eR14⟩ : ∃ z : va_W, z = O0 ++ [(qk, .inl (cA 0, 26, .inl f14))] := ⟨_, rfl⟩
  have hP : va_P D vwCl (wB cA ad τ ++ (wPg cA ad pd π ++ (wB cA bd ρ ++ ((tp, .inr (8, tpF ad bd)) :: R14)))) H := by rw [eR14, ef14]; exact hP
  have hD : va_D A (wB cA ad τ ++ (wPg cA ad pd π ++ (wB cA bd ρ ++ ((tp, .inr (8, tpF ad bd)) :: R14)))) := by rw [eR14, ef14]; exact hD
  refine lv_dup hx hb dL_law_92 rfl ?_
  refine lv_bipush (v := 14) hx hb dL_law_93 (by decide) ?_
  refine lv_bipush (v := 10) hx hb dL_law_95 (by decide) ?_
  refine va_iast hx hb hK hP hD hS (0 + O0.length + 210) 0 (wNewR eR14 rfl) rfl (by unfold vp_in; decide) dL_law_97 (fun H locs hP hD hS => ?_)
  rw [wNewSR eR14] at hP hD
  obtain ⟨f15, ef15⟩ : ∃ z : Nat → Int32, z = upd f14 14 10 := ⟨_, rfl⟩
  obtain ⟨R15, eR15⟩ : ∃ z : va_W, z = O0 ++ [(qk, .inl (cA 0, 26, .inl f15))] := ⟨_, rfl⟩
  have hP : va_P D vwCl (wB cA ad τ ++ (wPg cA ad pd π ++ (wB cA bd ρ ++ ((tp, .inr (8, tpF ad bd)) :: R15)))) H := by rw [eR15, ef15]; exact hP
  have hD : va_D A (wB cA ad τ ++ (wPg cA ad pd π ++ (wB cA bd ρ ++ ((tp, .inr (8, tpF ad bd)) :: R15)))) := by rw [eR15, ef15]; exact hD
  refine lv_dup hx hb dL_law_98 rfl ?_
  refine lv_bipush (v := 15) hx hb dL_law_99 (by decide) ?_
  refine lv_bipush (v := 11) hx hb dL_law_101 (by decide) ?_
  refine va_iast hx hb hK hP hD hS (0 + O0.length + 210) 0 (wNewR eR15 rfl) rfl (by unfold vp_in; decide) dL_law_103 (fun H locs hP hD hS => ?_)
  rw [wNewSR eR15] at hP hD
  obtain ⟨f16, ef16⟩ : ∃ z : Nat → Int32, z = upd f15 15 11 := ⟨_, rfl⟩
  obtain ⟨R16, eR16⟩ : ∃ z : va_W, z = O0 ++ [(qk, .inl (cA 0, 26, .inl f16))] := ⟨_, rfl⟩
  have hP : va_P D vwCl (wB cA ad τ ++ (wPg cA ad pd π ++ (wB cA bd ρ ++ ((tp, .inr (8, tpF ad bd)) :: R16)))) H := by rw [eR16, ef16]; exact hP
  have hD : va_D A (wB cA ad τ ++ (wPg cA ad pd π ++ (wB cA bd ρ ++ ((tp, .inr (8, tpF ad bd)) :: R16)))) := by rw [eR16, ef16]; exact hD
  refine lv_dup hx hb dL_law_104 rfl ?_
  refine lv_bipush (v := 16) hx hb dL_law_105 (by decide) ?_
  refine lv_bipush (v := 12) hx hb dL_law_107 (by decide) ?_
  refine va_iast hx hb hK hP hD hS (0 + O0.length + 210) 0 (wNewR eR16 rfl) rfl (by unfold vp_in; decide) dL_law_109 (fun H locs hP hD hS => ?_)
  rw [wNewSR eR16] at hP hD
  obtain ⟨f17, ef17⟩ : ∃ z : Nat → Int32, z = upd f16 16 12 := ⟨_, rfl⟩
  obtain ⟨R17, eR17⟩ : ∃ z : va_W, z = O0 ++ [(qk, .inl (cA 0, 26, .inl f17))] := ⟨_, rfl⟩
  have hP : va_P D vwCl (wB cA ad τ ++ (wPg cA ad pd π ++ (wB cA bd ρ ++ ((tp, .inr (8, tpF ad bd)) :: R17)))) H := by rw [eR17, ef17]; exact hP
  have hD : va_D A (wB cA ad τ ++ (wPg cA ad pd π ++ (wB cA bd ρ ++ ((tp, .inr (8, tpF ad bd)) :: R17)))) := by rw [eR17, ef17]; exact hD
  refine lv_dup hx hb dL_law_110 rfl ?_
  refine lv_bipush (v := 17) hx hb dL_law_111 (by decide) ?_
  refine lv_bipush (v := 12) hx hb dL_law_113 (by decide) ?_
  refine va_iast hx hb hK hP hD hS (0 + O0.length + 210) 0 (wNewR eR17 rfl) rfl (by unfold vp_in; decide) dL_law_115 (fun H locs hP hD hS => ?_)
  rw [wNewSR eR17] at hP hD
  obtain ⟨f18, ef18⟩ : ∃ z : Nat → Int32, z = upd f17 17 12 := ⟨_, rfl⟩
  obtain ⟨R18, eR18⟩ : ∃ z : va_W, z = O0 ++ [(qk, .inl (cA 0, 26, .inl f18))] := ⟨_, rfl⟩
  have hP : va_P D vwCl (wB cA ad τ ++ (wPg cA ad pd π ++ (wB cA bd ρ ++ ((tp, .inr (8, tpF ad bd)) :: R18)))) H := by rw [eR18, ef18]; exact hP
  have hD : va_D A (wB cA ad τ ++ (wPg cA ad pd π ++ (wB cA bd ρ ++ ((tp, .inr (8, tpF ad bd)) :: R18)))) := by rw [eR18, ef18]; exact hD
  refine lv_dup hx hb dL_law_116 rfl ?_
  refine lv_bipush (v := 18) hx hb dL_law_117 (by decide) ?_
  refine lv_bipush (v := 13) hx hb dL_law_119 (by decide) ?_
  refine va_iast hx hb hK hP hD hS (0 + O0.length + 210) 0 (wNewR eR18 rfl) rfl (by unfold vp_in; decide) dL_law_121 (fun H locs hP hD hS => ?_)
  rw [wNewSR eR18] at hP hD
  obtain ⟨f19, ef19⟩ : ∃ z : Nat → Int32, z = upd f18 18 13 := ⟨_, rfl⟩
  obtain ⟨R19, eR19⟩ : ∃ z : va_W, z = O0 ++ [(qk, .inl (cA 0, 26, .inl f19))] := ⟨_, rfl⟩
  have hP : va_P D vwCl (wB cA ad τ ++ (wPg cA ad pd π ++ (wB cA bd ρ ++ ((tp, .inr (8, tpF ad bd)) :: R19)))) H := by rw [eR19, ef19]; exact hP
  have hD : va_D A (wB cA ad τ ++ (wPg cA ad pd π ++ (wB cA bd ρ ++ ((tp, .inr (8, tpF ad bd)) :: R19)))) := by rw [eR19, ef19]; exact hD
  refine lv_dup hx hb dL_law_122 rfl ?_
  refine lv_bipush (v := 19) hx hb dL_law_123 (by decide) ?_
  refine lv_bipush (v := 14) hx hb dL_law_125 (by decide) ?_
  refine va_iast hx hb hK hP hD hS (0 + O0.length + 210) 0 (wNewR eR19 rfl) rfl (by unfold vp_in; decide) dL_law_127 (fun H locs hP hD hS => ?_)
  rw [wNewSR eR19] at hP hD
  obtain ⟨f20, ef20⟩ : ∃ z : Nat → Int32, z = upd f19 19 14 := ⟨_, rfl⟩
  obtain ⟨R20, eR20⟩ : ∃ z : va_W, z = O0 ++ [(qk, .inl (cA 0, 26, .inl f20))] := ⟨_, rfl⟩
  have hP : va_P D vwCl (wB cA ad τ ++ (wPg cA ad pd π ++ (wB cA bd ρ ++ ((tp, .inr (8, tpF ad bd)) :: R20)))) H := by rw [eR20, ef20]; exact hP
  have hD : va_D A (wB cA ad τ ++ (wPg cA ad pd π ++ (wB cA bd ρ ++ ((tp, .inr (8, tpF ad bd)) :: R20)))) := by rw [eR20, ef20]; exact hD
  refine lv_dup hx hb dL_law_128 rfl ?_
  refine lv_bipush (v := 20) hx hb dL_law_129 (by decide) ?_
  refine lv_bipush (v := 15) hx hb dL_law_131 (by decide) ?_
  refine va_iast hx hb hK hP hD hS (0 + O0.length + 210) 0 (wNewR eR20 rfl) rfl (by unfold vp_in; decide) dL_law_133 (fun H locs hP hD hS => ?_)
  rw [wNewSR eR20] at hP hD
  obtain ⟨f21, ef21⟩ : ∃ z : Nat → Int32, z = upd f20 20 15 := ⟨_, rfl⟩
  obtain ⟨R21, eR21⟩ : ∃ z : va_W, z = O0 ++ [(qk, .inl (cA 0, 26, .inl f21))] := ⟨_, rfl⟩
  have hP : va_P D vwCl (wB cA ad τ ++ (wPg cA ad pd π ++ (wB cA bd ρ ++ ((tp, .inr (8, tpF ad bd)) :: R21)))) H := by rw [eR21, ef21]; exact hP
  have hD : va_D A (wB cA ad τ ++ (wPg cA ad pd π ++ (wB cA bd ρ ++ ((tp, .inr (8, tpF ad bd)) :: R21)))) := by rw [eR21, ef21]; exact hD
  refine lv_dup hx hb dL_law_134 rfl ?_
  refine lv_bipush (v := 21) hx hb dL_law_135 (by decide) ?_
  refine lv_bipush (v := 15) hx hb dL_law_137 (by decide) ?_
  refine va_iast hx hb hK hP hD hS (0 + O0.length + 210) 0 (wNewR eR21 rfl) rfl (by unfold vp_in; decide) dL_law_139 (fun H locs hP hD hS => ?_)
  rw [wNewSR eR21] at hP hD
  obtain ⟨f22, ef22⟩ : ∃ z : Nat → Int32, z = upd f21 21 15 := ⟨_, rfl⟩
  obtain ⟨R22, eR22⟩ : ∃ z : va_W, z = O0 ++ [(qk, .inl (cA 0, 26, .inl f22))] := ⟨_, rfl⟩
  have hP : va_P D vwCl (wB cA ad τ ++ (wPg cA ad pd π ++ (wB cA bd ρ ++ ((tp, .inr (8, tpF ad bd)) :: R22)))) H := by rw [eR22, ef22]; exact hP
  have hD : va_D A (wB cA ad τ ++ (wPg cA ad pd π ++ (wB cA bd ρ ++ ((tp, .inr (8, tpF ad bd)) :: R22)))) := by rw [eR22, ef22]; exact hD
  refine lv_dup hx hb dL_law_140 rfl ?_
  refine lv_bipush (v := 22) hx hb dL_law_141 (by decide) ?_
  refine lv_bipush (v := 16) hx hb dL_law_143 (by decide) ?_
  refine va_iast hx hb hK hP hD hS (0 + O0.length + 210) 0 (wNewR eR22 rfl) rfl (by unfold vp_in; decide) dL_law_145 (fun H locs hP hD hS => ?_)
  rw [wNewSR eR22] at hP hD
  obtain ⟨f23, ef23⟩ : ∃ z : Nat → Int32, z = upd f22 22 16 := ⟨_, rfl⟩
  obtain ⟨R23, eR23⟩ : ∃ z : va_W, z = O0 ++ [(qk, .inl (cA 0, 26, .inl f23))] := ⟨_, rfl⟩
  have hP : va_P D vwCl (wB cA ad τ ++ (wPg cA ad pd π ++ (wB cA bd ρ ++ ((tp, .inr (8, tpF ad bd)) :: R23)))) H := by rw [eR23, ef23]; exact hP
  have hD : va_D A (wB cA ad τ ++ (wPg cA ad pd π ++ (wB cA bd ρ ++ ((tp, .inr (8, tpF ad bd)) :: R23)))) := by rw [eR23, ef23]; exact hD
  refine lv_dup hx hb dL_law_146 rfl ?_
  refine lv_bipush (v := 23) hx hb dL_law_147 (by decide) ?_
  refine lv_bipush (v := 17) hx hb dL_law_149 (by decide) ?_
  refine va_iast hx hb hK hP hD hS (0 + O0.length + 210) 0 (wNewR eR23 rfl) rfl (by unfold vp_in; decide) dL_law_151 (fun H locs hP hD hS => ?_)
  rw [wNewSR eR23] at hP hD
  obtain ⟨f24, ef24⟩ : ∃ z : Nat → Int32, z = upd f23 23 17 := ⟨_, rfl⟩
  obtain ⟨R24, eR24⟩ : ∃ z : va_W, z = O0 ++ [(qk, .inl (cA 0, 26, .inl f24))] := ⟨_, rfl⟩
  have hP : va_P D vwCl (wB cA ad τ ++ (wPg cA ad pd π ++ (wB cA bd ρ ++ ((tp, .inr (8, tpF ad bd)) :: R24)))) H := by rw [eR24, ef24]; exact hP
  have hD : va_D A (wB cA ad τ ++ (wPg cA ad pd π ++ (wB cA bd ρ ++ ((tp, .inr (8, tpF ad bd)) :: R24)))) := by rw [eR24, ef24]; exact hD
  refine lv_dup hx hb dL_law_152 rfl ?_
  refine lv_bipush (v := 24) hx hb dL_law_153 (by decide) ?_
  refine lv_bipush (v := 18) hx hb dL_law_155 (by decide) ?_
  refine va_iast hx hb hK hP hD hS (0 + O0.length + 210) 0 (wNewR eR24 rfl) rfl (by unfold vp_in; decide) dL_law_157 (fun H locs hP hD hS => ?_)
  rw [wNewSR eR24] at hP hD
  obtain ⟨f25, ef25⟩ : ∃ z : Nat → Int32, z = upd f24 24 18 := ⟨_, rfl⟩
  obtain ⟨R25, eR25⟩ : ∃ z : va_W, z = O0 ++ [(qk, .inl (cA 0, 26, .inl f25))] := ⟨_, rfl⟩
  have hP : va_P D vwCl (wB cA ad τ ++ (wPg cA ad pd π ++ (wB cA bd ρ ++ ((tp, .inr (8, tpF ad bd)) :: R25)))) H := by rw [eR25, ef25]; exact hP
  have hD : va_D A (wB cA ad τ ++ (wPg cA ad pd π ++ (wB cA bd ρ ++ ((tp, .inr (8, tpF ad bd)) :: R25)))) := by rw [eR25, ef25]; exact hD
  refine lv_dup hx hb dL_law_158 rfl ?_
  refine lv_bipush (v := 25) hx hb dL_law_159 (by decide) ?_
  refine lv_bipush (v := 12) hx hb dL_law_161 (by decide) ?_
  refine va_iast hx hb hK hP hD hS (0 + O0.length + 210) 0 (wNewR eR25 rfl) rfl (by unfold vp_in; decide) dL_law_163 (fun H locs hP hD hS => ?_)
  rw [wNewSR eR25] at hP hD
  obtain ⟨f26, ef26⟩ : ∃ z : Nat → Int32, z = upd f25 25 12 := ⟨_, rfl⟩
  obtain ⟨R26, eR26⟩ : ∃ z : va_W, z = O0 ++ [(qk, .inl (cA 0, 26, .inl f26))] := ⟨_, rfl⟩
  have hP : va_P D vwCl (wB cA ad τ ++ (wPg cA ad pd π ++ (wB cA bd ρ ++ ((tp, .inr (8, tpF ad bd)) :: R26)))) H := by rw [eR26, ef26]; exact hP
  have hD : va_D A (wB cA ad τ ++ (wPg cA ad pd π ++ (wB cA bd ρ ++ ((tp, .inr (8, tpF ad bd)) :: R26)))) := by rw [eR26, ef26]; exact hD
  refine lv_astore_n (lv' := [(3, .ref qk), (2, .ref oq), (1, .ref tp), (0, .ref b)]) hx hb dL_law_164 rfl hl (by decide) rfl (fun ls hl => ?_)
  have hf : ∀ i, i < 26 → ∃ kd, kd ≤ 18 ∧ f26 i = nI kd := by
    intro i hi
    rw [ef26, ef25, ef24, ef23, ef22, ef21, ef20, ef19, ef18, ef17, ef16, ef15, ef14, ef13, ef12, ef11, ef10, ef9, ef8, ef7, ef6, ef5, ef4, ef3, ef2, ef1, ef0]
    rcases (show i = 0 ∨ i = 1 ∨ i = 2 ∨ i = 3 ∨ i = 4 ∨ i = 5 ∨ i = 6 ∨ i = 7 ∨ i = 8 ∨ i = 9 ∨ i = 10 ∨ i = 11 ∨ i = 12 ∨ i = 13 ∨ i = 14 ∨ i = 15 ∨ i = 16 ∨ i = 17 ∨ i = 18 ∨ i = 19 ∨ i = 20 ∨ i = 21 ∨ i = 22 ∨ i = 23 ∨ i = 24 ∨ i = 25 by omega) with z | z | z | z | z | z | z | z | z | z | z | z | z | z | z | z | z | z | z | z | z | z | z | z | z | z
    · subst z; exact ⟨0, by decide, rfl⟩
    · subst z; exact ⟨1, by decide, rfl⟩
    · subst z; exact ⟨2, by decide, rfl⟩
    · subst z; exact ⟨3, by decide, rfl⟩
    · subst z; exact ⟨4, by decide, rfl⟩
    · subst z; exact ⟨5, by decide, rfl⟩
    · subst z; exact ⟨6, by decide, rfl⟩
    · subst z; exact ⟨7, by decide, rfl⟩
    · subst z; exact ⟨7, by decide, rfl⟩
    · subst z; exact ⟨8, by decide, rfl⟩
    · subst z; exact ⟨9, by decide, rfl⟩
    · subst z; exact ⟨9, by decide, rfl⟩
    · subst z; exact ⟨10, by decide, rfl⟩
    · subst z; exact ⟨10, by decide, rfl⟩
    · subst z; exact ⟨10, by decide, rfl⟩
    · subst z; exact ⟨11, by decide, rfl⟩
    · subst z; exact ⟨12, by decide, rfl⟩
    · subst z; exact ⟨12, by decide, rfl⟩
    · subst z; exact ⟨13, by decide, rfl⟩
    · subst z; exact ⟨14, by decide, rfl⟩
    · subst z; exact ⟨15, by decide, rfl⟩
    · subst z; exact ⟨15, by decide, rfl⟩
    · subst z; exact ⟨16, by decide, rfl⟩
    · subst z; exact ⟨17, by decide, rfl⟩
    · subst z; exact ⟨18, by decide, rfl⟩
    · subst z; exact ⟨12, by decide, rfl⟩
  rw [eR26] at hP hD
  exact kk qk f26 H locs ls hf hl hP hD hS
