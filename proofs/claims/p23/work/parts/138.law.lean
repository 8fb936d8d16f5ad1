/-! start, where all TASKS are there -/
noncomputable def wl9_start : List Cond := .code yX8_start cX8_start 3 (some .int) :: ([.fieldLink RX8 12 "ScopeRow" "program" "LScopeRow$Program;", .fieldLink RX8 48 "ScopeRow$Program" "bodies" "I", .fieldLink RX8 19 "ScopeRow" "state" "LScopeRow$State;", .classLink RX8 52 ISE, .initialized ISE] ++ (wsX80 ++ (wsX30 ++ (va_wsS RX8 63 yX8_checkNumber w8_checkNumber ++ (wsV RX8 103 RX6 yX6_makeTask wsX6_makeTask ++ ((vx_atS RX8 56 ISE exn).filter goodWord ++ []))))))
theorem nl9_start_X8 : ∀ w ∈ u_ws RX8 TX8 7, w ∈ wl9_start := mw_c (mw_r (mw_l (fun _ h => h)))
theorem nl9_start_X3 : ∀ w ∈ u_ws RX3 TX3 5, w ∈ wl9_start := mw_c (mw_r (mw_r (mw_l (fun _ h => h))))
theorem gl9_start_c : GoodIn wl9_start (va_wsS RX8 63 yX8_checkNumber w8_checkNumber) := gw_c (gw_r (gw_r (gw_r (gw_l (gw_self (by decide +kernel))))))
theorem gl9_start_m : GoodIn wl9_start (wsV RX8 103 RX6 yX6_makeTask wsX6_makeTask) := gw_c (gw_r (gw_r (gw_r (gw_r (gw_l (gw_self (by decide +kernel)))))))
theorem nl9_start_t : ∀ w ∈ (vx_atS RX8 56 ISE exn).filter goodWord, w ∈ wl9_start := mw_c (mw_r (mw_r (mw_r (mw_r (mw_r (mw_l (fun _ h => h)))))))
theorem bad_ISE : ∀ w ∈ (vx_atS RX8 56 ISE exn).filter (fun w => !goodWord w), w ∈ bdw ISE := by decide +kernel
theorem ot_ISE : ∀ w ∈ Cond.classLink RX8 52 ISE :: Cond.initialized ISE :: vx_atS RX8 56 ISE exn, vx_ot w = true := by decide +kernel
set_option maxHeartbeats 1000000 in
theorem c_X8_start_t (l : Launch) (htr : l.stackTraces = false) (D : va_G) (cA : Nat → ClassId) (ad : Nat → Nat) (tr : List (ClassId × FieldType)) (rest : va_W) (sz : Nat) (τ : Sg) (pd : Nat → Nat) (π : Sg) (bd : Nat → Nat) (tp : Nat) (ρ : Sg) (sa : Nat) (tx : String) (b : Int32) (h0 : ¬ b < 0) (h1 : b < π 0 0) (h2 : m_at (τ 0 1) 24 = none) : vx_Met l yX8_start wl9_start ({ frames := 6, cells := 1, slots := 6, locals := 82 }) (va_Pc [.ref tp, .int b] (fun U => inW D (tyB cA ++ tr) (wB cA ad τ ++ (wPg cA ad pd π ++ (wB cA bd ρ ++ ((tp, .inr (8, tpF ad bd)) :: rest)))) sz U ∧ TH ISE 106 tx sa (va_A (wB cA ad τ ++ (wPg cA ad pd π ++ (wB cA bd ρ ++ ((tp, .inr (8, tpF ad bd)) :: rest)))) sz) U U.heap)) (va_Qi (fun (_ : Int32) (_ : Unit) => False) (fun _ : Unit => outW D (tyB cA ++ tr) (va_A (wB cA ad τ ++ (wPg cA ad pd π ++ (wB cA bd ρ ++ ((tp, .inr (8, tpF ad bd)) :: rest)))) sz) (wB cA ad τ ++ (wPg cA ad pd π ++ (wB cA bd ρ ++ ((tp, .inr (8, tpF ad bd)) :: rest))))) (va_A (wB cA ad τ ++ (wPg cA ad pd π ++ (wB cA bd ρ ++ ((tp, .inr (8, tpF ad bd)) :: rest)))) sz)) (XW ISE D (tyB cA ++ tr) (wB cA ad τ ++ (wPg cA ad pd π ++ (wB cA bd ρ ++ ((tp, .inr (8, tpF ad bd)) :: rest)))) (va_A (wB cA ad τ ++ (wPg cA ad pd π ++ (wB cA bd ρ ++ ((tp, .inr (8, tpF ad bd)) :: rest)))) sz)) 1 6 (va_A (wB cA ad τ ++ (wPg cA ad pd π ++ (wB cA bd ρ ++ ((tp, .inr (8, tpF ad bd)) :: rest)))) sz) := by
  refine vx_ofW (cc := cX8_start) (maxL := 3) (ret := (some .int)) (by decide) rfl ?_
  intro p e s m args below meth c s₁ B9 hml hex hv
  obtain ⟨rfl, ⟨hsz, hP, hK, hD0⟩, hT⟩ := hv
  have hx := B9.exec
  have hb := B9.bytes
  have hts := atoms_spec (ws := wl9_start) B9.pre
  have hown : s.vm.findClass RX8 = some m.cls := findClass_of_methodNamed B9.named
  have hlocks := B9.notSynchronized
  subst hsz
  have hD := hD0.self (sz := s.heap.size)
  clear hD0
  generalize hAe : va_A (wB cA ad τ ++ (wPg cA ad pd π ++ (wB cA bd ρ ++ ((tp, .inr (8, tpF ad bd)) :: rest)))) s.heap.size = A at hD hT ⊢
  have hA : ∀ q : Nat, s.heap.size ≤ q → A q := fun q h => by rw [← hAe]; exact Or.inr h
  clear hAe
  have hS : va_S A s.heap s.heap [] := va_S.rf
  have hP : va_P D vwCl (wB cA ad τ ++ (wPg cA ad pd π ++ (wB cA bd ρ ++ ((tp, .inr (8, tpF ad bd)) :: rest)))) s.heap := hP
  have hl := lv_entry ([.ref tp, .int b]) (n := 3) (Nat.le_of_ble_eq_true rfl)
  rw [lg_entry_eq]
  generalize (lg_sl ([.ref tp, .int b]) ++ List.replicate (3 - (lg_sl ([.ref tp, .int b])).length) Slot.unset).toArray = ls at hl ⊢
  have hl : lv_has ls 3 [(0, .ref tp), (1, .int b)] := hl
  have k12 := hts (.fieldLink RX8 12 "ScopeRow" "program" "LScopeRow$Program;") (by decide +kernel)
  have k48 := hts (.fieldLink RX8 48 "ScopeRow$Program" "bodies" "I") (by decide +kernel)
  have k19 := hts (.fieldLink RX8 19 "ScopeRow" "state" "LScopeRow$State;") (by decide +kernel)
  have j1 := hts (.classLink RX8 52 ISE) (by decide +kernel)
  have j2 := hts (.initialized ISE) (by decide +kernel)
  have j3 : ∀ w ∈ vx_atS RX8 56 ISE exn, w.before #[.ref tp, .int b] s = true := vx_hat (fun w hw => hts w (nl9_start_t w hw)) bad_ISE (hT.words _)
  refine lv_iload_n hx hb dX8_start_0 rfl (lv_at hl 1 rfl) ?_
  refine lv_aload_n hx hb dX8_start_1 rfl (lv_at hl 0 rfl) ?_
  refine va_get (D := D) (C := RX8) (T := TX8) (N := 7) (ci := 8) (v := .ref (ad 102)) hx hb hts nl9_start_X8 hown hK hP 209 w_tp rfl 0 (by decide) k12 (fun _ h9 => h9) rfl dX8_start_2 ?_
  refine va_get (D := D) (C := RX3) (T := TX3) (N := 5) (ci := 3) (v := .int (π 0 0)) hx hb hts nl9_start_X3 hown hK hP 102 w_pg rfl 0 (by decide) k48 (fun _ h9 => h9) rfl dX8_start_5 ?_
  refine x_Sv (As := [.int b, .int (π 0 0)]) (rest0 := []) ⟨hx, hb, hml, hown, hts⟩ (c_X8_checkNumber l D cA ad tr (wPg cA ad pd π ++ (wB cA bd ρ ++ ((tp, .inr (8, tpF ad bd)) :: rest))) s.heap.size τ b (π 0 0) h0 h1) (va_cwS 2 hts gl9_start_c rfl rfl rfl (by decide +kernel) ⟨Nat.le_of_ble_eq_true rfl, Nat.le_of_ble_eq_true rfl⟩) hK hP hD hS hA hl.1 rfl rfl (Nat.le_of_ble_eq_true rfl) ⟨Nat.zero_le _, Nat.zero_le _⟩ dX8_start_8 (fun _ H locs hw hP hD hS => ?_)
  refine lv_aload_n hx hb dX8_start_11 rfl (lv_at hl 0 rfl) ?_
  refine va_get (D := D) (C := RX8) (T := TX8) (N := 7) (ci := 8) (v := .ref (ad 0)) hx hb hts nl9_start_X8 hown hK hP 209 w_tp rfl 1 (by decide) k19 (fun _ h9 => h9) rfl dX8_start_12 ?_
  refine lv_iload_n hx hb dX8_start_15 rfl (lv_at hl 1 rfl) ?_
  refine lv_iconst (v := (-1)) hx hb dX8_start_16 (by decide) ?_
  refine x_Vi (As := [.int b, .int (-1)]) (rest0 := []) ⟨hx, hb, hml, hown, hts⟩ (c_X6_makeTask l D cA ad tr (wPg cA ad pd π ++ (wB cA bd ρ ++ ((tp, .inr (8, tpF ad bd)) :: rest))) H.size τ b (-1)) (cwV 2 hts gl9_start_m rfl rfl rfl (by decide +kernel) ⟨Nat.le_of_ble_eq_true rfl, Nat.le_of_ble_eq_true rfl⟩) hK hP hD hS hA 0 w_st rfl hl.1 rfl rfl (Nat.le_of_ble_eq_true rfl) ⟨Nat.zero_le _, Nat.zero_le _⟩ dX8_start_17 (fun r1 τ2 H locs hw hP hD hS => ?_)
  obtain ⟨er1, eτ2⟩ := hw
  obtain rfl : r1 = -1 := er1.trans (by unfold m_makeTask; rw [h2])
  have e9 : τ2 = τ := eτ2.trans (by unfold m_makeTaskW; rw [h2])
  rw [e9] at hP hD
  refine lv_istore_n (lv' := [(2, .int (-1)), (0, .ref tp), (1, .int b)]) hx hb dX8_start_20 rfl hl (by decide) rfl (fun ls hl => ?_)
  refine lv_iload_n hx hb dX8_start_21 rfl (lv_at hl 0 rfl) ?_
  refine lv_iconst (v := (-1)) hx hb dX8_start_22 (by decide) ?_
  refine lv_icmp_ne (tgt := 36) hx hb dX8_start_23 (by decide) (fun c1 => absurd rfl c1) (fun c1 => ?_)
  refine vx_throwS (pc := 26) (cls := ISE) (names := exn) (ik := 52) (is := 106) (ic := 56) (sa := sa) (text := tx) (A := A) hx hb htr hown (by decide +kernel) (by decide +kernel) j1 j2 hT.2.1 j3 ot_ISE hT.2.2.1 hT.2.2.2 hS (hl.1.trans hml.symm) dX8_start_26 dX8_start_29 dX8_start_30 dX8_start_32 dX8_start_35 (fun z hz => (hex z hz).elim) (by decide) (by decide) (Nat.le_of_ble_eq_true rfl) (Nat.le_of_ble_eq_true rfl) hlocks (fun t ht hz hk => ?_) (fun z hz => hS.2.2 z hz) (by decide) (by decide)
  exact ⟨(), trivial, ⟨rfl, hP.kept (fun k q hq => hk _ ((hP k q hq).lt)), va_K.moved ht hK, hD⟩, Nat.le_trans hS.1 hz, fun q hq hn => (hk q (Nat.lt_of_lt_of_le hq hS.1)).trans (hS.2.1 q hq hn)⟩
