/-! the law: act, where nothing throws -/
theorem max1 {S : Nat} (h : 0 < S) (h2 : S < 2 ^ 31) : (if (1 : Int32) < nI S then nI S else 1) = nI S := (max_nI (a := 1) (by decide) h2).trans (congrArg nI (by omega))
def AP (π τ : Sg) (T S t U : Nat) (u : Sg) : Prop := ∃ (T' S' t' U' : Nat) (st' : Nat → List Nat), T ≤ T' ∧ S ≤ S' ∧ t' ≤ t + 3 ∧ U' ≤ U + 900 ∧ Inv π T' S' t' U' st' none none none u ∧ TB u ∧ FL u ∧ Mt τ u ∧ Ms τ u
set_option maxHeartbeats 4000000 in
set_option maxRecDepth 100000 in
theorem c_L_act0 (l : Launch) (D : va_G) (cA : Nat → ClassId) (ad : Nat → Nat) (tr : List (ClassId × FieldType)) (rest : va_W) (sz : Nat) (τ : Sg) (pd : Nat → Nat) (π : Sg) (bd : Nat → Nat) (tp : Nat) (ρ : Sg) (h102 : bd 102 = ad 102) (T S t U : Nat) (st : Nat → List Nat) (h : Inv π T S t U st none none none τ) (B : Nat) (hB5 : B = 5) (hIP : IP π B) (hPB : ∀ q, bnd (π 3 q)) (hTB : TB τ) (hFL : FL τ) (ht : t + 20 < 100000) (hU : U + 2000 < 2 ^ 31 - 1) (x : Int32) (hno1 : ∀ j, m_below x (nI 9) = nI j → j < 2 → T < 24) (hno2 : m_below x (nI 9) = nI 2 → 0 < S) (XC : String → State → State → Prop) : vx_Met l yL_act wl_act ({ frames := 7, cells := 0, slots := 0, locals := 200 }) (va_Pc [.ref tp, .int x] (inW D (tyB cA ++ tr) (wB cA ad τ ++ (wPg cA ad pd π ++ (wB cA bd ρ ++ ((tp, .inr (8, tpF ad bd)) :: rest)))) sz)) (va_Qi (fun (r : Int32) (u : Sg) => r = 1 ∧ AP π τ T S t U u) (fun u : Sg => outW D (tyB cA ++ tr) (va_A (wB cA ad τ ++ (wPg cA ad pd π ++ (wB cA bd ρ ++ ((tp, .inr (8, tpF ad bd)) :: rest)))) sz) (wB cA ad u ++ (wPg cA ad pd π ++ (wB cA bd ρ ++ ((tp, .inr (8, tpF ad bd)) :: rest))))) (va_A (wB cA ad τ ++ (wPg cA ad pd π ++ (wB cA bd ρ ++ ((tp, .inr (8, tpF ad bd)) :: rest)))) sz)) XC 0 0 (va_A (wB cA ad τ ++ (wPg cA ad pd π ++ (wB cA bd ρ ++ ((tp, .inr (8, tpF ad bd)) :: rest)))) sz) := by
  refine vx_ofWH (cc := cL_act) (maxL := 11) (ret := (some .boolean)) (by decide) rfl ?_
  intro p e s m args below meth c s₁ B9 hml hv
  obtain ⟨rfl, hsz, hP, hK, hD0⟩ := hv
  have hx := B9.exec
  have hb := B9.bytes
  have hr := B9.returns
  have hts := atoms_spec (ws := wl_act) B9.pre
  have hown : s.vm.findClass RL = some m.cls := findClass_of_methodNamed B9.named
  have hlocks := B9.notSynchronized
  subst hsz
  have hD := hD0.self (sz := s.heap.size)
  clear hD0
  generalize hAe : va_A (wB cA ad τ ++ (wPg cA ad pd π ++ (wB cA bd ρ ++ ((tp, .inr (8, tpF ad bd)) :: rest)))) s.heap.size = A at hD ⊢
  have hA : ∀ q : Nat, s.heap.size ≤ q → A q := fun q h => by rw [← hAe]; exact Or.inr h
  clear hAe
  have hS : va_S A s.heap s.heap [] := va_S.rf
  have hP : va_P D vwCl (wB cA ad τ ++ (wPg cA ad pd π ++ (wB cA bd ρ ++ ((tp, .inr (8, tpF ad bd)) :: rest)))) s.heap := hP
  have hl := lv_entry ([.ref tp, .int x]) (n := 11) (Nat.le_of_ble_eq_true rfl)
  rw [lg_entry_eq]
  generalize (lg_sl ([.ref tp, .int x]) ++ List.replicate (11 - (lg_sl ([.ref tp, .int x])).length) Slot.unset).toArray = ls at hl ⊢
  have hl : lv_has ls 11 [(0, .ref tp), (1, .int x)] := hl
  have hT := h.1.1.1
  have hS40 := h.1.1.2.1
  obtain ⟨Lr, hLr⟩ := ready_of h
  have hmL := many_2 h hLr
  have hLl := hLr.1.2.1
  refine lv_aload_n hx hb dL_act_0 rfl (lv_at hl 0 rfl) ?_
  refine lv_iconst (v := 1) hx hb dL_act_1 (by decide) ?_
  refine x_Vi (As := [.int 1]) (rest0 := []) ⟨hx, hb, hml, hown, hts⟩ (c_X8_many l D cA ad tr rest s.heap.size τ pd π bd tp ρ h102 1 (by decide) (by decide)) (cwV 1 hts gl_act_X8_many rfl rfl rfl (by decide +kernel) ⟨Nat.le_of_ble_eq_true rfl, Nat.le_of_ble_eq_true rfl⟩) hK hP hD hS hA 209 w_tp rfl hl.1 rfl rfl (Nat.le_of_ble_eq_true rfl) ⟨Nat.le_of_ble_eq_true rfl, Nat.le_of_ble_eq_true rfl⟩ dL_act_2 (fun r _ H locs hw hP hD hS => ?_)
  obtain rfl : r = (nI T) := hw.trans (many_1 h.1.1)
  refine lv_istore_n (lv' := [(2, .int (nI T)), (0, .ref tp), (1, .int x)]) hx hb dL_act_5 rfl hl (by decide) rfl (fun ls hl => ?_)
  refine lv_iload_n hx hb dL_act_6 rfl (lv_at hl 2 rfl) ?_
  refine lv_bipush (v := 9) hx hb dL_act_7 (by decide) ?_
  refine x_Si (As := [.int x, .int 9]) (rest0 := []) ⟨hx, hb, hml, hown, hts⟩ (c_L_below l D (tyB cA ++ tr) (wB cA ad τ ++ (wPg cA ad pd π ++ (wB cA bd ρ ++ ((tp, .inr (8, tpF ad bd)) :: rest)))) _ x 9 (by decide)) (va_cwS 2 hts gl_act_L_below rfl rfl rfl (by decide +kernel) ⟨Nat.le_of_ble_eq_true rfl, Nat.le_of_ble_eq_true rfl⟩) hK hP hD hS hA hl.1 rfl rfl (Nat.le_of_ble_eq_true rfl) ⟨Nat.le_of_ble_eq_true rfl, Nat.le_of_ble_eq_true rfl⟩ dL_act_9 (fun r _ H locs hw hP hD hS => ?_)
  obtain ⟨y1, hy1, ey1⟩ := below_nI x (k := 9) (by omega) (by omega)
  obtain rfl : r = nI y1 := hw.trans ey1
  rcases (show y1 = 0 ∨ y1 = 1 ∨ y1 = 2 ∨ y1 = 3 ∨ y1 = 4 ∨ y1 = 5 ∨ y1 = 6 ∨ y1 = 7 ∨ y1 = 8 by omega) with z9 | z9 | z9 | z9 | z9 | z9 | z9 | z9 | z9 <;> subst z9
  · skip
    have hT24 : T < 24 := hno1 0 ey1 (by decide)
    refine lv_tableIn (off := 36) (tgt := 48) hx hb dL_act_12 (by decide) (by decide) (by decide) (by decide) ?_
    refine lv_aload_n hx hb dL_act_48 rfl (lv_at hl 1 rfl) ?_
    refine lv_iload_n hx hb dL_act_49 rfl (lv_at hl 2 rfl) ?_
    refine lv_iconst (v := 4) hx hb dL_act_50 (by decide) ?_
    refine lv_ishr hx hb dL_act_51 ?_
    refine lv_iconst (v := 5) hx hb dL_act_52 (by decide) ?_
    refine x_Si (As := [.int (x >>> (4 &&& 31)), .int 5]) (rest0 := [.ref tp]) ⟨hx, hb, hml, hown, hts⟩ (c_L_below l D (tyB cA ++ tr) (wB cA ad τ ++ (wPg cA ad pd π ++ (wB cA bd ρ ++ ((tp, .inr (8, tpF ad bd)) :: rest)))) _ (x >>> (4 &&& 31)) 5 (by decide)) (va_cwS 2 hts gl_act_L_below rfl rfl rfl (by decide +kernel) ⟨Nat.le_of_ble_eq_true rfl, Nat.le_of_ble_eq_true rfl⟩) hK hP hD hS hA hl.1 rfl rfl (Nat.le_of_ble_eq_true rfl) ⟨Nat.le_of_ble_eq_true rfl, Nat.le_of_ble_eq_true rfl⟩ dL_act_53 (fun r _ H locs hw hP hD hS => ?_)
    obtain ⟨y2, hy2, ey2⟩ := below_nI (x >>> (4 &&& 31)) (k := 5) (by omega) (by omega)
    obtain rfl : r = nI y2 := hw.trans ey2
    obtain ⟨a1, a2, a3, a4, a5, a6, ⟨p9, hp9, a7, a8⟩, a9⟩ := act_start (b8 := y2) hT24 (by omega) h hTB hFL
    refine x_Vi (As := [.int (nI y2)]) (rest0 := []) ⟨hx, hb, hml, hown, hts⟩ (c_X8_start l D cA ad tr rest _ τ pd π bd tp ρ h102 (nI y2) (nI_pos (by omega)) (by rw [hIP.1]; exact (nI_ltI (by omega) (by omega)).mpr (by omega)) (by rw [a1]; exact fun z => neg1_ne (k := T) (by omega) z.symm)) (cwV 1 hts gl_act_X8_start rfl rfl rfl (by decide +kernel) ⟨Nat.le_of_ble_eq_true rfl, Nat.le_of_ble_eq_true rfl⟩) hK hP hD hS hA 209 w_tp rfl hl.1 rfl rfl (Nat.le_of_ble_eq_true rfl) ⟨Nat.le_of_ble_eq_true rfl, Nat.le_of_ble_eq_true rfl⟩ dL_act_56 (fun r u1 H locs hw hP hD hS => ?_)
    obtain ⟨er, eu⟩ := hw
    rw [a1] at er
    subst er
    rw [← eu] at a2 a3 a4 a5 a6 a7 a8 a9
    refine lv_iload_n hx hb dL_act_59 rfl (lv_at hl 0 rfl) ?_
    refine lv_icmp_ne (tgt := 94) hx hb dL_act_60 (by decide) (fun c_60_3 => ?_) (fun c_60_3 => ?_)
    · exact absurd ((nI_eq (a := T) (b := T) (by omega) (by omega)).mpr (by omega)) c_60_3
    · skip
      refine lv_aload_n hx hb dL_act_63 rfl (lv_at hl 1 rfl) ?_
      refine lv_iload_n hx hb dL_act_64 rfl (lv_at hl 0 rfl) ?_
      refine lv_bipush (v := 6) hx hb dL_act_65 (by decide) ?_
      refine x_Vi (As := [.int (nI T), .int 6]) (rest0 := []) ⟨hx, hb, hml, hown, hts⟩ (c_X8_ofTask l D cA ad tr rest H.size u1 pd π bd tp ρ h102 (nI T) 6 (nI_pos (by omega)) (by rw [a2.1.1.2.2.1]; exact (nI_ltI (by omega) (by omega)).mpr (by omega)) (by decide) (by decide)) (cwV 2 hts gl_act_X8_ofTask rfl rfl rfl (by decide +kernel) ⟨Nat.le_of_ble_eq_true rfl, Nat.le_of_ble_eq_true rfl⟩) hK hP hD hS hA 209 w_tp rfl hl.1 rfl rfl (Nat.le_of_ble_eq_true rfl) ⟨Nat.le_of_ble_eq_true rfl, Nat.le_of_ble_eq_true rfl⟩ dL_act_67 (fun r _ H locs hw hP hD hS => ?_)
      obtain rfl : r = (nI p9) := hw.trans a7
      refine lv_aload_n hx hb dL_act_70 rfl (lv_at hl 1 rfl) ?_
      refine lv_iconst (v := 2) hx hb dL_act_71 (by decide) ?_
      refine x_Vi (As := [.int 2]) (rest0 := [.int (nI p9)]) ⟨hx, hb, hml, hown, hts⟩ (c_X8_many l D cA ad tr rest H.size u1 pd π bd tp ρ h102 2 (by decide) (by decide)) (cwV 1 hts gl_act_X8_many rfl rfl rfl (by decide +kernel) ⟨Nat.le_of_ble_eq_true rfl, Nat.le_of_ble_eq_true rfl⟩) hK hP hD hS hA 209 w_tp rfl hl.1 rfl rfl (Nat.le_of_ble_eq_true rfl) ⟨Nat.le_of_ble_eq_true rfl, Nat.le_of_ble_eq_true rfl⟩ dL_act_72 (fun r _ H locs hw hP hD hS => ?_)
      obtain rfl : r = (nI (p9 + 1)) := hw.trans a8
      refine lv_iconst (v := 1) hx hb dL_act_75 (by decide) ?_
      refine lv_isub hx hb dL_act_76 ?_
      refine lv_icmp_ne (tgt := 94) hx hb dL_act_77 (by decide) (fun c_77_4 => ?_) (fun c_77_4 => ?_)
      · exact absurd (by rw [← nI_1]; exact (Int32.add_sub_cancel (nI p9) 1).symm) c_77_4
      · skip
        refine lv_aload_n hx hb dL_act_80 rfl (lv_at hl 1 rfl) ?_
        refine lv_iload_n hx hb dL_act_81 rfl (lv_at hl 0 rfl) ?_
        refine lv_iconst (v := 4) hx hb dL_act_82 (by decide) ?_
        refine x_Vi (As := [.int (nI T), .int 4]) (rest0 := []) ⟨hx, hb, hml, hown, hts⟩ (c_X8_ofTask l D cA ad tr rest H.size u1 pd π bd tp ρ h102 (nI T) 4 (nI_pos (by omega)) (by rw [a2.1.1.2.2.1]; exact (nI_ltI (by omega) (by omega)).mpr (by omega)) (by decide) (by decide)) (cwV 2 hts gl_act_X8_ofTask rfl rfl rfl (by decide +kernel) ⟨Nat.le_of_ble_eq_true rfl, Nat.le_of_ble_eq_true rfl⟩) hK hP hD hS hA 209 w_tp rfl hl.1 rfl rfl (Nat.le_of_ble_eq_true rfl) ⟨Nat.le_of_ble_eq_true rfl, Nat.le_of_ble_eq_true rfl⟩ dL_act_83 (fun r _ H locs hw hP hD hS => ?_)
        obtain rfl : r = (-1) := hw.trans a9
        refine lv_iconst (v := (-1)) hx hb dL_act_86 (by decide) ?_
        refine lv_icmp_ne (tgt := 94) hx hb dL_act_87 (by decide) (fun c_87_5 => ?_) (fun c_87_5 => ?_)
        · exact absurd c_87_5 (by decide)
        · skip
          refine lv_iconst (v := 1) hx hb dL_act_90 (by decide) ?_
          refine lv_goto (tgt := 95) hx hb dL_act_91 (by decide) ?_
          exact vx_ret (x_zret hx hb hr rfl hlocks hK u1 hP hD hS dL_act_95 ⟨rfl, ⟨T + 1, S, t, U, st, by omega, by omega, by omega, by omega, a2, a3, a4, a5, a6⟩⟩)
  · skip
    have hT24 : T < 24 := hno1 1 ey1 (by decide)
    refine lv_tableIn (off := 36) (tgt := 48) hx hb dL_act_12 (by decide) (by decide) (by decide) (by decide) ?_
    refine lv_aload_n hx hb dL_act_48 rfl (lv_at hl 1 rfl) ?_
    refine lv_iload_n hx hb dL_act_49 rfl (lv_at hl 2 rfl) ?_
    refine lv_iconst (v := 4) hx hb dL_act_50 (by decide) ?_
    refine lv_ishr hx hb dL_act_51 ?_
    refine lv_iconst (v := 5) hx hb dL_act_52 (by decide) ?_
    refine x_Si (As := [.int (x >>> (4 &&& 31)), .int 5]) (rest0 := [.ref tp]) ⟨hx, hb, hml, hown, hts⟩ (c_L_below l D (tyB cA ++ tr) (wB cA ad τ ++ (wPg cA ad pd π ++ (wB cA bd ρ ++ ((tp, .inr (8, tpF ad bd)) :: rest)))) _ (x >>> (4 &&& 31)) 5 (by decide)) (va_cwS 2 hts gl_act_L_below rfl rfl rfl (by decide +kernel) ⟨Nat.le_of_ble_eq_true rfl, Nat.le_of_ble_eq_true rfl⟩) hK hP hD hS hA hl.1 rfl rfl (Nat.le_of_ble_eq_true rfl) ⟨Nat.le_of_ble_eq_true rfl, Nat.le_of_ble_eq_true rfl⟩ dL_act_53 (fun r _ H locs hw hP hD hS => ?_)
    obtain ⟨y6, hy6, ey6⟩ := below_nI (x >>> (4 &&& 31)) (k := 5) (by omega) (by omega)
    obtain rfl : r = nI y6 := hw.trans ey6
    obtain ⟨a1, a2, a3, a4, a5, a6, ⟨p9, hp9, a7, a8⟩, a9⟩ := act_start (b8 := y6) hT24 (by omega) h hTB hFL
    refine x_Vi (As := [.int (nI y6)]) (rest0 := []) ⟨hx, hb, hml, hown, hts⟩ (c_X8_start l D cA ad tr rest _ τ pd π bd tp ρ h102 (nI y6) (nI_pos (by omega)) (by rw [hIP.1]; exact (nI_ltI (by omega) (by omega)).mpr (by omega)) (by rw [a1]; exact fun z => neg1_ne (k := T) (by omega) z.symm)) (cwV 1 hts gl_act_X8_start rfl rfl rfl (by decide +kernel) ⟨Nat.le_of_ble_eq_true rfl, Nat.le_of_ble_eq_true rfl⟩) hK hP hD hS hA 209 w_tp rfl hl.1 rfl rfl (Nat.le_of_ble_eq_true rfl) ⟨Nat.le_of_ble_eq_true rfl, Nat.le_of_ble_eq_true rfl⟩ dL_act_56 (fun r u1 H locs hw hP hD hS => ?_)
    obtain ⟨er, eu⟩ := hw
    rw [a1] at er
    subst er
    rw [← eu] at a2 a3 a4 a5 a6 a7 a8 a9
    refine lv_iload_n hx hb dL_act_59 rfl (lv_at hl 0 rfl) ?_
    refine lv_icmp_ne (tgt := 94) hx hb dL_act_60 (by decide) (fun c_60_7 => ?_) (fun c_60_7 => ?_)
    · exact absurd ((nI_eq (a := T) (b := T) (by omega) (by omega)).mpr (by omega)) c_60_7
    · skip
      refine lv_aload_n hx hb dL_act_63 rfl (lv_at hl 1 rfl) ?_
      refine lv_iload_n hx hb dL_act_64 rfl (lv_at hl 0 rfl) ?_
      refine lv_bipush (v := 6) hx hb dL_act_65 (by decide) ?_
      refine x_Vi (As := [.int (nI T), .int 6]) (rest0 := []) ⟨hx, hb, hml, hown, hts⟩ (c_X8_ofTask l D cA ad tr rest H.size u1 pd π bd tp ρ h102 (nI T) 6 (nI_pos (by omega)) (by rw [a2.1.1.2.2.1]; exact (nI_ltI (by omega) (by omega)).mpr (by omega)) (by decide) (by decide)) (cwV 2 hts gl_act_X8_ofTask rfl rfl rfl (by decide +kernel) ⟨Nat.le_of_ble_eq_true rfl, Nat.le_of_ble_eq_true rfl⟩) hK hP hD hS hA 209 w_tp rfl hl.1 rfl rfl (Nat.le_of_ble_eq_true rfl) ⟨Nat.le_of_ble_eq_true rfl, Nat.le_of_ble_eq_true rfl⟩ dL_act_67 (fun r _ H locs hw hP hD hS => ?_)
      obtain rfl : r = (nI p9) := hw.trans a7
      refine lv_aload_n hx hb dL_act_70 rfl (lv_at hl 1 rfl) ?_
      refine lv_iconst (v := 2) hx hb dL_act_71 (by decide) ?_
      refine x_Vi (As := [.int 2]) (rest0 := [.int (nI p9)]) ⟨hx, hb, hml, hown, hts⟩ (c_X8_many l D cA ad tr rest H.size u1 pd π bd tp ρ h102 2 (by decide) (by decide)) (cwV 1 hts gl_act_X8_many rfl rfl rfl (by decide +kernel) ⟨Nat.le_of_ble_eq_true rfl, Nat.le_of_ble_eq_true rfl⟩) hK hP hD hS hA 209 w_tp rfl hl.1 rfl rfl (Nat.le_of_ble_eq_true rfl) ⟨Nat.le_of_ble_eq_true rfl, Nat.le_of_ble_eq_true rfl⟩ dL_act_72 (fun r _ H locs hw hP hD hS => ?_)
      obtain rfl : r = (nI (p9 + 1)) := hw.trans a8
      refine lv_iconst (v := 1) hx hb dL_act_75 (by decide) ?_
      refine lv_isub hx hb dL_act_76 ?_
      refine lv_icmp_ne (tgt := 94) hx hb dL_act_77 (by decide) (fun c_77_8 => ?_) (fun c_77_8 => ?_)
      · exact absurd (by rw [← nI_1]; exact (Int32.add_sub_cancel (nI p9) 1).symm) c_77_8
      · skip
        refine lv_aload_n hx hb dL_act_80 rfl (lv_at hl 1 rfl) ?_
        refine lv_iload_n hx hb dL_act_81 rfl (lv_at hl 0 rfl) ?_
        refine lv_iconst (v := 4) hx hb dL_act_82 (by decide) ?_
        refine x_Vi (As := [.int (nI T), .int 4]) (rest0 := []) ⟨hx, hb, hml, hown, hts⟩ (c_X8_ofTask l D cA ad tr rest H.size u1 pd π bd tp ρ h102 (nI T) 4 (nI_pos (by omega)) (by rw [a2.1.1.2.2.1]; exact (nI_ltI (by omega) (by omega)).mpr (by omega)) (by decide) (by decide)) (cwV 2 hts gl_act_X8_ofTask rfl rfl rfl (by decide +kernel) ⟨Nat.le_of_ble_eq_true rfl, Nat.le_of_ble_eq_true rfl⟩) hK hP hD hS hA 209 w_tp rfl hl.1 rfl rfl (Nat.le_of_ble_eq_true rfl) ⟨Nat.le_of_ble_eq_true rfl, Nat.le_of_ble_eq_true rfl⟩ dL_act_83 (fun r _ H locs hw hP hD hS => ?_)
        obtain rfl : r = (-1) := hw.trans a9
        refine lv_iconst (v := (-1)) hx hb dL_act_86 (by decide) ?_
        refine lv_icmp_ne (tgt := 94) hx hb dL_act_87 (by decide) (fun c_87_9 => ?_) (fun c_87_9 => ?_)
        · exact absurd c_87_9 (by decide)
        · skip
          refine lv_iconst (v := 1) hx hb dL_act_90 (by decide) ?_
          refine lv_goto (tgt := 95) hx hb dL_act_91 (by decide) ?_
          exact vx_ret (x_zret hx hb hr rfl hlocks hK u1 hP hD hS dL_act_95 ⟨rfl, ⟨T + 1, S, t, U, st, by omega, by omega, by omega, by omega, a2, a3, a4, a5, a6⟩⟩)
  · skip
    have hS0 : 0 < S := hno2 ey1
    refine lv_tableIn (off := 84) (tgt := 96) hx hb dL_act_12 (by decide) (by decide) (by decide) (by decide) ?_
    refine lv_iload_n hx hb dL_act_96 rfl (lv_at hl 2 rfl) ?_
    refine lv_iconst (v := 4) hx hb dL_act_97 (by decide) ?_
    refine lv_ishr hx hb dL_act_98 ?_
    refine lv_iconst (v := 1) hx hb dL_act_99 (by decide) ?_
    refine lv_aload_n hx hb dL_act_100 rfl (lv_at hl 1 rfl) ?_
    refine lv_bipush (v := 7) hx hb dL_act_101 (by decide) ?_
    refine x_Vi (As := [.int 7]) (rest0 := [.int 1, .int (x >>> (4 &&& 31))]) ⟨hx, hb, hml, hown, hts⟩ (c_X8_many l D cA ad tr rest H.size τ pd π bd tp ρ h102 7 (by decide) (by decide)) (cwV 1 hts gl_act_X8_many rfl rfl rfl (by decide +kernel) ⟨Nat.le_of_ble_eq_true rfl, Nat.le_of_ble_eq_true rfl⟩) hK hP hD hS hA 209 w_tp rfl hl.1 rfl rfl (Nat.le_of_ble_eq_true rfl) ⟨Nat.le_of_ble_eq_true rfl, Nat.le_of_ble_eq_true rfl⟩ dL_act_103 (fun r _ H locs hw hP hD hS => ?_)
    obtain rfl : r = (nI S) := hw.trans (many_7 h.1.1)
    refine va_mmax (rest := [.int (x >>> (4 &&& 31))]) hx hb (hml.trans hl.1.symm) hown (hts (.methodLink RL 77 Lib.Math.max.name) (by decide +kernel)) (hts (.static Lib.Math.max.name) (by decide +kernel)) (hts (.initialized "java/lang/Math") (by decide +kernel)) (hts (.code Lib.Math.max.name Lib.Math.max.code 2 (some .int)) (by decide +kernel)) (Nat.le_of_ble_eq_true rfl) (Nat.le_of_ble_eq_true rfl) (Nat.le_of_ble_eq_true rfl) (Nat.le_of_ble_eq_true rfl) dL_act_106 ?_
    refine W.eq (g2 := F0 m 109 ls [.int (nI S), .int (x >>> (4 &&& 31))]) (by rw [show (if 1 < (nI S) then (nI S) else 1) = (nI S) from max1 hS0 (by omega)]) ?_
    refine x_Si (As := [.int (x >>> (4 &&& 31)), .int (nI S)]) (rest0 := []) ⟨hx, hb, hml, hown, hts⟩ (c_L_below l D (tyB cA ++ tr) (wB cA ad τ ++ (wPg cA ad pd π ++ (wB cA bd ρ ++ ((tp, .inr (8, tpF ad bd)) :: rest)))) _ (x >>> (4 &&& 31)) (nI S) (fun z => absurd ((nI_eq (a := S) (b := 0) (by omega) (by decide)).mp z) (by omega))) (va_cwS 2 hts gl_act_L_below rfl rfl rfl (by decide +kernel) ⟨Nat.le_of_ble_eq_true rfl, Nat.le_of_ble_eq_true rfl⟩) hK hP hD hS hA hl.1 rfl rfl (Nat.le_of_ble_eq_true rfl) ⟨Nat.le_of_ble_eq_true rfl, Nat.le_of_ble_eq_true rfl⟩ dL_act_109 (fun r _ H locs hw hP hD hS => ?_)
    obtain ⟨y10, hy10, ey10⟩ := below_nI (x >>> (4 &&& 31)) (k := S) (by omega) (by omega)
    obtain rfl : r = nI y10 := hw.trans ey10
    refine lv_istore_n (lv' := [(3, .int (nI y10)), (2, .int (nI T)), (0, .ref tp), (1, .int x)]) hx hb dL_act_112 rfl hl (by decide) rfl (fun ls hl => ?_)
    refine lv_aload_n hx hb dL_act_113 rfl (lv_at hl 2 rfl) ?_
    refine lv_iload_n hx hb dL_act_114 rfl (lv_at hl 0 rfl) ?_
    refine x_Vi (As := [.int (nI y10)]) (rest0 := []) ⟨hx, hb, hml, hown, hts⟩ (c_X8_wouldHit l D cA ad tr rest _ τ pd π bd tp ρ h102 (nI y10) (nI_pos (by omega)) (by rw [h.1.1.2.2.2.1]; exact (nI_ltI (by omega) (by omega)).mpr (by omega))) (cwV 1 hts gl_act_X8_wouldHit rfl rfl rfl (by decide +kernel) ⟨Nat.le_of_ble_eq_true rfl, Nat.le_of_ble_eq_true rfl⟩) hK hP hD hS hA 209 w_tp rfl hl.1 rfl rfl (Nat.le_of_ble_eq_true rfl) ⟨Nat.le_of_ble_eq_true rfl, Nat.le_of_ble_eq_true rfl⟩ dL_act_115 (fun r u1 H locs hw hP hD hS => ?_)
    obtain rfl : r = nI (m_newlyHit τ (nI y10)) := hw
    clear u1
    refine lv_istore (lv' := [(4, .int (nI (m_newlyHit τ (nI y10)))), (3, .int (nI y10)), (2, .int (nI T)), (0, .ref tp), (1, .int x)]) hx hb dL_act_118 hl (by decide) rfl (fun ls hl => ?_)
    obtain ⟨a2, a3, a4, a5, a6, kk⟩ := act_cancel (k := y10) hy10 h hTB hFL
    rcases kk with ⟨v9, hv9, k1, k2, k4, k6⟩ | ⟨v9, hv9, k1, k2, k4, k5, k6⟩ | ⟨k1, k4, k5, k6, k7⟩
    · skip
      refine lv_aload_n hx hb dL_act_120 rfl (lv_at hl 3 rfl) ?_
      refine lv_iload_n hx hb dL_act_121 rfl (lv_at hl 1 rfl) ?_
      refine lv_iconst (v := 1) hx hb dL_act_122 (by decide) ?_
      refine x_Vi (As := [.int (nI y10), .int 1]) (rest0 := []) ⟨hx, hb, hml, hown, hts⟩ (c_X8_ofScope l D cA ad tr rest H.size τ pd π bd tp ρ h102 (nI y10) 1 (nI_pos (by omega)) (by rw [h.1.1.2.2.2.1]; exact (nI_ltI (by omega) (by omega)).mpr (by omega)) (by decide) (by decide)) (cwV 2 hts gl_act_X8_ofScope rfl rfl rfl (by decide +kernel) ⟨Nat.le_of_ble_eq_true rfl, Nat.le_of_ble_eq_true rfl⟩) hK hP hD hS hA 209 w_tp rfl hl.1 rfl rfl (Nat.le_of_ble_eq_true rfl) ⟨Nat.le_of_ble_eq_true rfl, Nat.le_of_ble_eq_true rfl⟩ dL_act_123 (fun r _ H locs hw hP hD hS => ?_)
      obtain rfl : r = (nI v9) := hw.trans k1
      refine lv_iconst (v := 2) hx hb dL_act_126 (by decide) ?_
      refine lv_icmp_ge (tgt := 143) hx hb dL_act_127 (by decide) (fun c_127_11 => ?_) (fun c_127_11 => ?_)
      · exact absurd ((nI_leI (a := 2) (b := v9) (by omega) (by omega)).mp c_127_11) (by omega)
      · skip
        refine lv_aload_n hx hb dL_act_130 rfl (lv_at hl 3 rfl) ?_
        refine lv_iload_n hx hb dL_act_131 rfl (lv_at hl 1 rfl) ?_
        refine lv_iconst (v := 2) hx hb dL_act_132 (by decide) ?_
        refine x_Vi (As := [.int (nI y10), .int 2]) (rest0 := []) ⟨hx, hb, hml, hown, hts⟩ (c_X8_ofScope l D cA ad tr rest H.size τ pd π bd tp ρ h102 (nI y10) 2 (nI_pos (by omega)) (by rw [h.1.1.2.2.2.1]; exact (nI_ltI (by omega) (by omega)).mpr (by omega)) (by decide) (by decide)) (cwV 2 hts gl_act_X8_ofScope rfl rfl rfl (by decide +kernel) ⟨Nat.le_of_ble_eq_true rfl, Nat.le_of_ble_eq_true rfl⟩) hK hP hD hS hA 209 w_tp rfl hl.1 rfl rfl (Nat.le_of_ble_eq_true rfl) ⟨Nat.le_of_ble_eq_true rfl, Nat.le_of_ble_eq_true rfl⟩ dL_act_133 (fun r _ H locs hw hP hD hS => ?_)
        obtain rfl : r = 0 := hw.trans k2
        refine lv_if_ne (tgt := 143) hx hb dL_act_136 (by decide) (fun c_136_12 => ?_) (fun c_136_12 => ?_)
        · exact absurd c_136_12 (by decide)
        · skip
          refine lv_iconst (v := 1) hx hb dL_act_139 (by decide) ?_
          refine lv_goto (tgt := 144) hx hb dL_act_140 (by decide) ?_
          refine lv_istore (lv' := [(5, .int 1), (4, .int (nI (m_newlyHit τ (nI y10)))), (3, .int (nI y10)), (2, .int (nI T)), (0, .ref tp), (1, .int x)]) hx hb dL_act_144 hl (by decide) rfl (fun ls hl => ?_)
          refine lv_aload_n hx hb dL_act_146 rfl (lv_at hl 4 rfl) ?_
          refine lv_iload_n hx hb dL_act_147 rfl (lv_at hl 2 rfl) ?_
          refine x_Vi (As := [.int (nI y10)]) (rest0 := []) ⟨hx, hb, hml, hown, hts⟩ (c_X8_cancel l D cA ad tr rest _ τ pd π bd tp ρ h102 (nI y10) (nI_pos (by omega)) (by rw [h.1.1.2.2.2.1]; exact (nI_ltI (by omega) (by omega)).mpr (by omega)) y10 (m_at_nI (by omega) (by decide))) (cwV 1 hts gl_act_X8_cancel rfl rfl rfl (by decide +kernel) ⟨Nat.le_of_ble_eq_true rfl, Nat.le_of_ble_eq_true rfl⟩) hK hP hD hS hA 209 w_tp rfl hl.1 rfl rfl (Nat.le_of_ble_eq_true rfl) ⟨Nat.le_of_ble_eq_true rfl, Nat.le_of_ble_eq_true rfl⟩ dL_act_148 (fun r u1 H locs hw hP hD hS => ?_)
          obtain ⟨er, eu⟩ := hw
          rw [k4] at er
          obtain rfl : r = 1 := er
          rw [← eu] at a2 a3 a4 a5 a6 k6
          refine lv_iload hx hb dL_act_151 (lv_at hl 0 rfl) ?_
          refine lv_icmp_ne (tgt := 190) hx hb dL_act_153 (by decide) (fun c_153_13 => ?_) (fun c_153_13 => ?_)
          · exact absurd c_153_13 (by decide)
          · skip
            refine lv_iload hx hb dL_act_156 (lv_at hl 0 rfl) ?_
            refine lv_if_ne (tgt := 166) hx hb dL_act_158 (by decide) (fun c_158_14 => ?_) (fun c_158_14 => ?_)
            · skip
              refine lv_aload_n hx hb dL_act_166 rfl (lv_at hl 4 rfl) ?_
              refine lv_iload_n hx hb dL_act_167 rfl (lv_at hl 2 rfl) ?_
              refine lv_iconst (v := 2) hx hb dL_act_168 (by decide) ?_
              refine x_Vi (As := [.int (nI y10), .int 2]) (rest0 := []) ⟨hx, hb, hml, hown, hts⟩ (c_X8_ofScope l D cA ad tr rest H.size u1 pd π bd tp ρ h102 (nI y10) 2 (nI_pos (by omega)) (by rw [a2.1.1.2.2.2.1]; exact (nI_ltI (by omega) (by omega)).mpr (by omega)) (by decide) (by decide)) (cwV 2 hts gl_act_X8_ofScope rfl rfl rfl (by decide +kernel) ⟨Nat.le_of_ble_eq_true rfl, Nat.le_of_ble_eq_true rfl⟩) hK hP hD hS hA 209 w_tp rfl hl.1 rfl rfl (Nat.le_of_ble_eq_true rfl) ⟨Nat.le_of_ble_eq_true rfl, Nat.le_of_ble_eq_true rfl⟩ dL_act_169 (fun r _ H locs hw hP hD hS => ?_)
              obtain rfl : r = 1 := hw.trans k6
              refine lv_iconst (v := 1) hx hb dL_act_172 (by decide) ?_
              refine lv_icmp_eq (tgt := 186) hx hb dL_act_173 (by decide) (fun c_173_15 => ?_) (fun c_173_15 => ?_)
              · skip
                refine lv_iconst (v := 1) hx hb dL_act_186 (by decide) ?_
                refine lv_goto (tgt := 191) hx hb dL_act_187 (by decide) ?_
                exact vx_ret (x_zret hx hb hr rfl hlocks hK u1 hP hD hS dL_act_191 ⟨rfl, ⟨T, S, t, U, st, by omega, by omega, by omega, by omega, a2, a3, a4, a5, a6⟩⟩)
              · exact absurd c_173_15 (by decide)
            · exact absurd c_158_14 (by decide)
    · skip
      refine lv_aload_n hx hb dL_act_120 rfl (lv_at hl 3 rfl) ?_
      refine lv_iload_n hx hb dL_act_121 rfl (lv_at hl 1 rfl) ?_
      refine lv_iconst (v := 1) hx hb dL_act_122 (by decide) ?_
      refine x_Vi (As := [.int (nI y10), .int 1]) (rest0 := []) ⟨hx, hb, hml, hown, hts⟩ (c_X8_ofScope l D cA ad tr rest H.size τ pd π bd tp ρ h102 (nI y10) 1 (nI_pos (by omega)) (by rw [h.1.1.2.2.2.1]; exact (nI_ltI (by omega) (by omega)).mpr (by omega)) (by decide) (by decide)) (cwV 2 hts gl_act_X8_ofScope rfl rfl rfl (by decide +kernel) ⟨Nat.le_of_ble_eq_true rfl, Nat.le_of_ble_eq_true rfl⟩) hK hP hD hS hA 209 w_tp rfl hl.1 rfl rfl (Nat.le_of_ble_eq_true rfl) ⟨Nat.le_of_ble_eq_true rfl, Nat.le_of_ble_eq_true rfl⟩ dL_act_123 (fun r _ H locs hw hP hD hS => ?_)
      obtain rfl : r = (nI v9) := hw.trans k1
      refine lv_iconst (v := 2) hx hb dL_act_126 (by decide) ?_
      refine lv_icmp_ge (tgt := 143) hx hb dL_act_127 (by decide) (fun c_127_16 => ?_) (fun c_127_16 => ?_)
      · exact absurd ((nI_leI (a := 2) (b := v9) (by omega) (by omega)).mp c_127_16) (by omega)
      · skip
        refine lv_aload_n hx hb dL_act_130 rfl (lv_at hl 3 rfl) ?_
        refine lv_iload_n hx hb dL_act_131 rfl (lv_at hl 1 rfl) ?_
        refine lv_iconst (v := 2) hx hb dL_act_132 (by decide) ?_
        refine x_Vi (As := [.int (nI y10), .int 2]) (rest0 := []) ⟨hx, hb, hml, hown, hts⟩ (c_X8_ofScope l D cA ad tr rest H.size τ pd π bd tp ρ h102 (nI y10) 2 (nI_pos (by omega)) (by rw [h.1.1.2.2.2.1]; exact (nI_ltI (by omega) (by omega)).mpr (by omega)) (by decide) (by decide)) (cwV 2 hts gl_act_X8_ofScope rfl rfl rfl (by decide +kernel) ⟨Nat.le_of_ble_eq_true rfl, Nat.le_of_ble_eq_true rfl⟩) hK hP hD hS hA 209 w_tp rfl hl.1 rfl rfl (Nat.le_of_ble_eq_true rfl) ⟨Nat.le_of_ble_eq_true rfl, Nat.le_of_ble_eq_true rfl⟩ dL_act_133 (fun r _ H locs hw hP hD hS => ?_)
        obtain rfl : r = 1 := hw.trans k2
        refine lv_if_ne (tgt := 143) hx hb dL_act_136 (by decide) (fun c_136_17 => ?_) (fun c_136_17 => ?_)
        · skip
          refine lv_iconst (v := 0) hx hb dL_act_143 (by decide) ?_
          refine lv_istore (lv' := [(5, .int 0), (4, .int (nI (m_newlyHit τ (nI y10)))), (3, .int (nI y10)), (2, .int (nI T)), (0, .ref tp), (1, .int x)]) hx hb dL_act_144 hl (by decide) rfl (fun ls hl => ?_)
          refine lv_aload_n hx hb dL_act_146 rfl (lv_at hl 4 rfl) ?_
          refine lv_iload_n hx hb dL_act_147 rfl (lv_at hl 2 rfl) ?_
          refine x_Vi (As := [.int (nI y10)]) (rest0 := []) ⟨hx, hb, hml, hown, hts⟩ (c_X8_cancel l D cA ad tr rest _ τ pd π bd tp ρ h102 (nI y10) (nI_pos (by omega)) (by rw [h.1.1.2.2.2.1]; exact (nI_ltI (by omega) (by omega)).mpr (by omega)) y10 (m_at_nI (by omega) (by decide))) (cwV 1 hts gl_act_X8_cancel rfl rfl rfl (by decide +kernel) ⟨Nat.le_of_ble_eq_true rfl, Nat.le_of_ble_eq_true rfl⟩) hK hP hD hS hA 209 w_tp rfl hl.1 rfl rfl (Nat.le_of_ble_eq_true rfl) ⟨Nat.le_of_ble_eq_true rfl, Nat.le_of_ble_eq_true rfl⟩ dL_act_148 (fun r u1 H locs hw hP hD hS => ?_)
          obtain ⟨er, eu⟩ := hw
          rw [k4] at er
          obtain rfl : r = 0 := er
          rw [← eu] at a2 a3 a4 a5 a6 k6
          refine lv_iload hx hb dL_act_151 (lv_at hl 0 rfl) ?_
          refine lv_icmp_ne (tgt := 190) hx hb dL_act_153 (by decide) (fun c_153_18 => ?_) (fun c_153_18 => ?_)
          · exact absurd c_153_18 (by decide)
          · skip
            refine lv_iload hx hb dL_act_156 (lv_at hl 0 rfl) ?_
            refine lv_if_ne (tgt := 166) hx hb dL_act_158 (by decide) (fun c_158_19 => ?_) (fun c_158_19 => ?_)
            · exact absurd c_158_19 (by decide)
            · skip
              refine lv_iload hx hb dL_act_161 (lv_at hl 1 rfl) ?_
              refine lv_if_ne (tgt := 190) hx hb dL_act_163 (by decide) (fun c_163_20 => ?_) (fun c_163_20 => ?_)
              · exact absurd ((nI_eq (a := m_newlyHit τ (nI y10)) (b := 0) (by omega) (by omega)).mpr (by omega)) c_163_20
              · skip
                refine lv_aload_n hx hb dL_act_166 rfl (lv_at hl 4 rfl) ?_
                refine lv_iload_n hx hb dL_act_167 rfl (lv_at hl 2 rfl) ?_
                refine lv_iconst (v := 2) hx hb dL_act_168 (by decide) ?_
                refine x_Vi (As := [.int (nI y10), .int 2]) (rest0 := []) ⟨hx, hb, hml, hown, hts⟩ (c_X8_ofScope l D cA ad tr rest H.size u1 pd π bd tp ρ h102 (nI y10) 2 (nI_pos (by omega)) (by rw [a2.1.1.2.2.2.1]; exact (nI_ltI (by omega) (by omega)).mpr (by omega)) (by decide) (by decide)) (cwV 2 hts gl_act_X8_ofScope rfl rfl rfl (by decide +kernel) ⟨Nat.le_of_ble_eq_true rfl, Nat.le_of_ble_eq_true rfl⟩) hK hP hD hS hA 209 w_tp rfl hl.1 rfl rfl (Nat.le_of_ble_eq_true rfl) ⟨Nat.le_of_ble_eq_true rfl, Nat.le_of_ble_eq_true rfl⟩ dL_act_169 (fun r _ H locs hw hP hD hS => ?_)
                obtain rfl : r = 1 := hw.trans k6
                refine lv_iconst (v := 1) hx hb dL_act_172 (by decide) ?_
                refine lv_icmp_eq (tgt := 186) hx hb dL_act_173 (by decide) (fun c_173_21 => ?_) (fun c_173_21 => ?_)
                · skip
                  refine lv_iconst (v := 1) hx hb dL_act_186 (by decide) ?_
                  refine lv_goto (tgt := 191) hx hb dL_act_187 (by decide) ?_
                  exact vx_ret (x_zret hx hb hr rfl hlocks hK u1 hP hD hS dL_act_191 ⟨rfl, ⟨T, S, t, U, st, by omega, by omega, by omega, by omega, a2, a3, a4, a5, a6⟩⟩)
                · exact absurd c_173_21 (by decide)
        · exact absurd c_136_17 (by decide)
    · skip
      rcases k6 with k6 | k6
      · skip
        refine lv_aload_n hx hb dL_act_120 rfl (lv_at hl 3 rfl) ?_
        refine lv_iload_n hx hb dL_act_121 rfl (lv_at hl 1 rfl) ?_
        refine lv_iconst (v := 1) hx hb dL_act_122 (by decide) ?_
        refine x_Vi (As := [.int (nI y10), .int 1]) (rest0 := []) ⟨hx, hb, hml, hown, hts⟩ (c_X8_ofScope l D cA ad tr rest H.size τ pd π bd tp ρ h102 (nI y10) 1 (nI_pos (by omega)) (by rw [h.1.1.2.2.2.1]; exact (nI_ltI (by omega) (by omega)).mpr (by omega)) (by decide) (by decide)) (cwV 2 hts gl_act_X8_ofScope rfl rfl rfl (by decide +kernel) ⟨Nat.le_of_ble_eq_true rfl, Nat.le_of_ble_eq_true rfl⟩) hK hP hD hS hA 209 w_tp rfl hl.1 rfl rfl (Nat.le_of_ble_eq_true rfl) ⟨Nat.le_of_ble_eq_true rfl, Nat.le_of_ble_eq_true rfl⟩ dL_act_123 (fun r _ H locs hw hP hD hS => ?_)
        obtain rfl : r = 2 := hw.trans k1
        refine lv_iconst (v := 2) hx hb dL_act_126 (by decide) ?_
        refine lv_icmp_ge (tgt := 143) hx hb dL_act_127 (by decide) (fun c_127_22 => ?_) (fun c_127_22 => ?_)
        · skip
          refine lv_iconst (v := 0) hx hb dL_act_143 (by decide) ?_
          refine lv_istore (lv' := [(5, .int 0), (4, .int (nI (m_newlyHit τ (nI y10)))), (3, .int (nI y10)), (2, .int (nI T)), (0, .ref tp), (1, .int x)]) hx hb dL_act_144 hl (by decide) rfl (fun ls hl => ?_)
          refine lv_aload_n hx hb dL_act_146 rfl (lv_at hl 4 rfl) ?_
          refine lv_iload_n hx hb dL_act_147 rfl (lv_at hl 2 rfl) ?_
          refine x_Vi (As := [.int (nI y10)]) (rest0 := []) ⟨hx, hb, hml, hown, hts⟩ (c_X8_cancel l D cA ad tr rest _ τ pd π bd tp ρ h102 (nI y10) (nI_pos (by omega)) (by rw [h.1.1.2.2.2.1]; exact (nI_ltI (by omega) (by omega)).mpr (by omega)) y10 (m_at_nI (by omega) (by decide))) (cwV 1 hts gl_act_X8_cancel rfl rfl rfl (by decide +kernel) ⟨Nat.le_of_ble_eq_true rfl, Nat.le_of_ble_eq_true rfl⟩) hK hP hD hS hA 209 w_tp rfl hl.1 rfl rfl (Nat.le_of_ble_eq_true rfl) ⟨Nat.le_of_ble_eq_true rfl, Nat.le_of_ble_eq_true rfl⟩ dL_act_148 (fun r u1 H locs hw hP hD hS => ?_)
          obtain ⟨er, eu⟩ := hw
          rw [k4] at er
          obtain rfl : r = 0 := er
          rw [← eu] at a2 a3 a4 a5 a6 k6 k7
          refine lv_iload hx hb dL_act_151 (lv_at hl 0 rfl) ?_
          refine lv_icmp_ne (tgt := 190) hx hb dL_act_153 (by decide) (fun c_153_23 => ?_) (fun c_153_23 => ?_)
          · exact absurd c_153_23 (by decide)
          · skip
            refine lv_iload hx hb dL_act_156 (lv_at hl 0 rfl) ?_
            refine lv_if_ne (tgt := 166) hx hb dL_act_158 (by decide) (fun c_158_24 => ?_) (fun c_158_24 => ?_)
            · exact absurd c_158_24 (by decide)
            · skip
              refine lv_iload hx hb dL_act_161 (lv_at hl 1 rfl) ?_
              refine lv_if_ne (tgt := 190) hx hb dL_act_163 (by decide) (fun c_163_25 => ?_) (fun c_163_25 => ?_)
              · exact absurd ((nI_eq (a := m_newlyHit τ (nI y10)) (b := 0) (by omega) (by omega)).mpr (by omega)) c_163_25
              · skip
                refine lv_aload_n hx hb dL_act_166 rfl (lv_at hl 4 rfl) ?_
                refine lv_iload_n hx hb dL_act_167 rfl (lv_at hl 2 rfl) ?_
                refine lv_iconst (v := 2) hx hb dL_act_168 (by decide) ?_
                refine x_Vi (As := [.int (nI y10), .int 2]) (rest0 := []) ⟨hx, hb, hml, hown, hts⟩ (c_X8_ofScope l D cA ad tr rest H.size u1 pd π bd tp ρ h102 (nI y10) 2 (nI_pos (by omega)) (by rw [a2.1.1.2.2.2.1]; exact (nI_ltI (by omega) (by omega)).mpr (by omega)) (by decide) (by decide)) (cwV 2 hts gl_act_X8_ofScope rfl rfl rfl (by decide +kernel) ⟨Nat.le_of_ble_eq_true rfl, Nat.le_of_ble_eq_true rfl⟩) hK hP hD hS hA 209 w_tp rfl hl.1 rfl rfl (Nat.le_of_ble_eq_true rfl) ⟨Nat.le_of_ble_eq_true rfl, Nat.le_of_ble_eq_true rfl⟩ dL_act_169 (fun r _ H locs hw hP hD hS => ?_)
                obtain rfl : r = 1 := hw.trans k6
                refine lv_iconst (v := 1) hx hb dL_act_172 (by decide) ?_
                refine lv_icmp_eq (tgt := 186) hx hb dL_act_173 (by decide) (fun c_173_26 => ?_) (fun c_173_26 => ?_)
                · skip
                  refine lv_iconst (v := 1) hx hb dL_act_186 (by decide) ?_
                  refine lv_goto (tgt := 191) hx hb dL_act_187 (by decide) ?_
                  exact vx_ret (x_zret hx hb hr rfl hlocks hK u1 hP hD hS dL_act_191 ⟨rfl, ⟨T, S, t, U, st, by omega, by omega, by omega, by omega, a2, a3, a4, a5, a6⟩⟩)
                · exact absurd c_173_26 (by decide)
        · exact absurd c_127_22 (by decide)
      · skip
        refine lv_aload_n hx hb dL_act_120 rfl (lv_at hl 3 rfl) ?_
        refine lv_iload_n hx hb dL_act_121 rfl (lv_at hl 1 rfl) ?_
        refine lv_iconst (v := 1) hx hb dL_act_122 (by decide) ?_
        refine x_Vi (As := [.int (nI y10), .int 1]) (rest0 := []) ⟨hx, hb, hml, hown, hts⟩ (c_X8_ofScope l D cA ad tr rest H.size τ pd π bd tp ρ h102 (nI y10) 1 (nI_pos (by omega)) (by rw [h.1.1.2.2.2.1]; exact (nI_ltI (by omega) (by omega)).mpr (by omega)) (by decide) (by decide)) (cwV 2 hts gl_act_X8_ofScope rfl rfl rfl (by decide +kernel) ⟨Nat.le_of_ble_eq_true rfl, Nat.le_of_ble_eq_true rfl⟩) hK hP hD hS hA 209 w_tp rfl hl.1 rfl rfl (Nat.le_of_ble_eq_true rfl) ⟨Nat.le_of_ble_eq_true rfl, Nat.le_of_ble_eq_true rfl⟩ dL_act_123 (fun r _ H locs hw hP hD hS => ?_)
        obtain rfl : r = 2 := hw.trans k1
        refine lv_iconst (v := 2) hx hb dL_act_126 (by decide) ?_
        refine lv_icmp_ge (tgt := 143) hx hb dL_act_127 (by decide) (fun c_127_27 => ?_) (fun c_127_27 => ?_)
        · skip
          refine lv_iconst (v := 0) hx hb dL_act_143 (by decide) ?_
          refine lv_istore (lv' := [(5, .int 0), (4, .int (nI (m_newlyHit τ (nI y10)))), (3, .int (nI y10)), (2, .int (nI T)), (0, .ref tp), (1, .int x)]) hx hb dL_act_144 hl (by decide) rfl (fun ls hl => ?_)
          refine lv_aload_n hx hb dL_act_146 rfl (lv_at hl 4 rfl) ?_
          refine lv_iload_n hx hb dL_act_147 rfl (lv_at hl 2 rfl) ?_
          refine x_Vi (As := [.int (nI y10)]) (rest0 := []) ⟨hx, hb, hml, hown, hts⟩ (c_X8_cancel l D cA ad tr rest _ τ pd π bd tp ρ h102 (nI y10) (nI_pos (by omega)) (by rw [h.1.1.2.2.2.1]; exact (nI_ltI (by omega) (by omega)).mpr (by omega)) y10 (m_at_nI (by omega) (by decide))) (cwV 1 hts gl_act_X8_cancel rfl rfl rfl (by decide +kernel) ⟨Nat.le_of_ble_eq_true rfl, Nat.le_of_ble_eq_true rfl⟩) hK hP hD hS hA 209 w_tp rfl hl.1 rfl rfl (Nat.le_of_ble_eq_true rfl) ⟨Nat.le_of_ble_eq_true rfl, Nat.le_of_ble_eq_true rfl⟩ dL_act_148 (fun r u1 H locs hw hP hD hS => ?_)
          obtain ⟨er, eu⟩ := hw
          rw [k4] at er
          obtain rfl : r = 0 := er
          rw [← eu] at a2 a3 a4 a5 a6 k6 k7
          refine lv_iload hx hb dL_act_151 (lv_at hl 0 rfl) ?_
          refine lv_icmp_ne (tgt := 190) hx hb dL_act_153 (by decide) (fun c_153_28 => ?_) (fun c_153_28 => ?_)
          · exact absurd c_153_28 (by decide)
          · skip
            refine lv_iload hx hb dL_act_156 (lv_at hl 0 rfl) ?_
            refine lv_if_ne (tgt := 166) hx hb dL_act_158 (by decide) (fun c_158_29 => ?_) (fun c_158_29 => ?_)
            · exact absurd c_158_29 (by decide)
            · skip
              refine lv_iload hx hb dL_act_161 (lv_at hl 1 rfl) ?_
              refine lv_if_ne (tgt := 190) hx hb dL_act_163 (by decide) (fun c_163_30 => ?_) (fun c_163_30 => ?_)
              · exact absurd ((nI_eq (a := m_newlyHit τ (nI y10)) (b := 0) (by omega) (by omega)).mpr (by omega)) c_163_30
              · skip
                refine lv_aload_n hx hb dL_act_166 rfl (lv_at hl 4 rfl) ?_
                refine lv_iload_n hx hb dL_act_167 rfl (lv_at hl 2 rfl) ?_
                refine lv_iconst (v := 2) hx hb dL_act_168 (by decide) ?_
                refine x_Vi (As := [.int (nI y10), .int 2]) (rest0 := []) ⟨hx, hb, hml, hown, hts⟩ (c_X8_ofScope l D cA ad tr rest H.size u1 pd π bd tp ρ h102 (nI y10) 2 (nI_pos (by omega)) (by rw [a2.1.1.2.2.2.1]; exact (nI_ltI (by omega) (by omega)).mpr (by omega)) (by decide) (by decide)) (cwV 2 hts gl_act_X8_ofScope rfl rfl rfl (by decide +kernel) ⟨Nat.le_of_ble_eq_true rfl, Nat.le_of_ble_eq_true rfl⟩) hK hP hD hS hA 209 w_tp rfl hl.1 rfl rfl (Nat.le_of_ble_eq_true rfl) ⟨Nat.le_of_ble_eq_true rfl, Nat.le_of_ble_eq_true rfl⟩ dL_act_169 (fun r _ H locs hw hP hD hS => ?_)
                obtain rfl : r = 0 := hw.trans k6
                refine lv_iconst (v := 1) hx hb dL_act_172 (by decide) ?_
                refine lv_icmp_eq (tgt := 186) hx hb dL_act_173 (by decide) (fun c_173_31 => ?_) (fun c_173_31 => ?_)
                · exact absurd c_173_31 (by decide)
                · skip
                  refine lv_aload_n hx hb dL_act_176 rfl (lv_at hl 4 rfl) ?_
                  refine lv_iload_n hx hb dL_act_177 rfl (lv_at hl 2 rfl) ?_
                  refine lv_iconst (v := 1) hx hb dL_act_178 (by decide) ?_
                  refine x_Vi (As := [.int (nI y10), .int 1]) (rest0 := []) ⟨hx, hb, hml, hown, hts⟩ (c_X8_ofScope l D cA ad tr rest H.size u1 pd π bd tp ρ h102 (nI y10) 1 (nI_pos (by omega)) (by rw [a2.1.1.2.2.2.1]; exact (nI_ltI (by omega) (by omega)).mpr (by omega)) (by decide) (by decide)) (cwV 2 hts gl_act_X8_ofScope rfl rfl rfl (by decide +kernel) ⟨Nat.le_of_ble_eq_true rfl, Nat.le_of_ble_eq_true rfl⟩) hK hP hD hS hA 209 w_tp rfl hl.1 rfl rfl (Nat.le_of_ble_eq_true rfl) ⟨Nat.le_of_ble_eq_true rfl, Nat.le_of_ble_eq_true rfl⟩ dL_act_179 (fun r _ H locs hw hP hD hS => ?_)
                  obtain rfl : r = 2 := hw.trans k7
                  refine lv_iconst (v := 2) hx hb dL_act_182 (by decide) ?_
                  refine lv_icmp_ne (tgt := 190) hx hb dL_act_183 (by decide) (fun c_183_32 => ?_) (fun c_183_32 => ?_)
                  · exact absurd c_183_32 (by decide)
                  · skip
                    refine lv_iconst (v := 1) hx hb dL_act_186 (by decide) ?_
                    refine lv_goto (tgt := 191) hx hb dL_act_187 (by decide) ?_
                    exact vx_ret (x_zret hx hb hr rfl hlocks hK u1 hP hD hS dL_act_191 ⟨rfl, ⟨T, S, t, U, st, by omega, by omega, by omega, by omega, a2, a3, a4, a5, a6⟩⟩)
        · exact absurd c_127_27 (by decide)
  · skip
    refine lv_tableIn (off := 180) (tgt := 192) hx hb dL_act_12 (by decide) (by decide) (by decide) (by decide) ?_
    refine lv_aload_n hx hb dL_act_192 rfl (lv_at hl 1 rfl) ?_
    refine lv_bipush (v := 10) hx hb dL_act_193 (by decide) ?_
    refine x_Vi (As := [.int 10]) (rest0 := []) ⟨hx, hb, hml, hown, hts⟩ (c_X8_many l D cA ad tr rest H.size τ pd π bd tp ρ h102 10 (by decide) (by decide)) (cwV 1 hts gl_act_X8_many rfl rfl rfl (by decide +kernel) ⟨Nat.le_of_ble_eq_true rfl, Nat.le_of_ble_eq_true rfl⟩) hK hP hD hS hA 209 w_tp rfl hl.1 rfl rfl (Nat.le_of_ble_eq_true rfl) ⟨Nat.le_of_ble_eq_true rfl, Nat.le_of_ble_eq_true rfl⟩ dL_act_195 (fun r _ H locs hw hP hD hS => ?_)
    obtain rfl : r = (nI t) := hw.trans (many_10 h)
    refine lv_istore (lv' := [(6, .int (nI t)), (2, .int (nI T)), (0, .ref tp), (1, .int x)]) hx hb dL_act_198 hl (by decide) rfl (fun ls hl => ?_)
    refine lv_aload_n hx hb dL_act_200 rfl (lv_at hl 2 rfl) ?_
    refine lv_iconst (v := 2) hx hb dL_act_201 (by decide) ?_
    refine x_Vi (As := [.int 2]) (rest0 := []) ⟨hx, hb, hml, hown, hts⟩ (c_X8_many l D cA ad tr rest H.size τ pd π bd tp ρ h102 2 (by decide) (by decide)) (cwV 1 hts gl_act_X8_many rfl rfl rfl (by decide +kernel) ⟨Nat.le_of_ble_eq_true rfl, Nat.le_of_ble_eq_true rfl⟩) hK hP hD hS hA 209 w_tp rfl hl.1 rfl rfl (Nat.le_of_ble_eq_true rfl) ⟨Nat.le_of_ble_eq_true rfl, Nat.le_of_ble_eq_true rfl⟩ dL_act_202 (fun r _ H locs hw hP hD hS => ?_)
    obtain rfl : r = (nI Lr.length) := hw.trans hmL
    refine lv_istore (lv' := [(7, .int (nI Lr.length)), (6, .int (nI t)), (2, .int (nI T)), (0, .ref tp), (1, .int x)]) hx hb dL_act_205 hl (by decide) rfl (fun ls hl => ?_)
    refine lv_aload_n hx hb dL_act_207 rfl (lv_at hl 3 rfl) ?_
    refine lv_iconst (v := 1) hx hb dL_act_208 (by decide) ?_
    refine lv_iload_n hx hb dL_act_209 rfl (lv_at hl 4 rfl) ?_
    refine lv_iconst (v := 4) hx hb dL_act_210 (by decide) ?_
    refine lv_ishr hx hb dL_act_211 ?_
    refine lv_iconst (v := 3) hx hb dL_act_212 (by decide) ?_
    refine x_Si (As := [.int (x >>> (4 &&& 31)), .int 3]) (rest0 := [.int 1, .ref tp]) ⟨hx, hb, hml, hown, hts⟩ (c_L_below l D (tyB cA ++ tr) (wB cA ad τ ++ (wPg cA ad pd π ++ (wB cA bd ρ ++ ((tp, .inr (8, tpF ad bd)) :: rest)))) _ (x >>> (4 &&& 31)) 3 (by decide)) (va_cwS 2 hts gl_act_L_below rfl rfl rfl (by decide +kernel) ⟨Nat.le_of_ble_eq_true rfl, Nat.le_of_ble_eq_true rfl⟩) hK hP hD hS hA hl.1 rfl rfl (Nat.le_of_ble_eq_true rfl) ⟨Nat.le_of_ble_eq_true rfl, Nat.le_of_ble_eq_true rfl⟩ dL_act_213 (fun r _ H locs hw hP hD hS => ?_)
    obtain ⟨y33, hy33, ey33⟩ := below_nI (x >>> (4 &&& 31)) (k := 3) (by omega) (by omega)
    obtain rfl : r = nI y33 := hw.trans ey33
    refine lv_iadd hx hb dL_act_216 ?_
    refine W.eq (g2 := F0 m 217 ls [.int (nI (1 + y33)), .ref tp]) (by rw [show (1 : Int32) + (nI y33) = (nI (1 + y33)) from nI_add 1 y33]) ?_
    obtain ⟨a2, a3, a4, a5, a6, a7, a8, b8, a9, b9, c9⟩ := act_tick (n := 1 + y33) (by omega) h hTB hFL
    obtain ⟨mo, emo⟩ : ∃ z : Int32, z = (m_ticks (1 + y33) τ 0).2 := ⟨_, rfl⟩
    rw [← emo] at c9
    refine x_Vi (As := [.int (nI (1 + y33))]) (rest0 := []) ⟨hx, hb, hml, hown, hts⟩ (c_X8_tick l D cA ad tr rest _ τ pd π bd tp ρ h102 (1 + y33) (fun z => absurd ((nI_ltI (b := 1) (by omega) (by decide)).mp z) (by omega)) ((nI_leI (b := 20) (by omega) (by decide)).mpr (by omega)) (by omega)) (cwV 1 hts gl_act_X8_tick rfl rfl rfl (by decide +kernel) ⟨Nat.le_of_ble_eq_true rfl, Nat.le_of_ble_eq_true rfl⟩) hK hP hD hS hA 209 w_tp rfl hl.1 rfl rfl (Nat.le_of_ble_eq_true rfl) ⟨Nat.le_of_ble_eq_true rfl, Nat.le_of_ble_eq_true rfl⟩ dL_act_217 (fun r u1 H locs hw hP hD hS => ?_)
    obtain ⟨er, eu⟩ := hw
    rw [← emo] at er
    subst er
    rw [← eu] at a2 a3 a4 a5 a6 a7 b9
    rw [hmL] at a9
    rw [← a9] at c9
    refine lv_istore (lv' := [(8, .int r), (7, .int (nI Lr.length)), (6, .int (nI t)), (2, .int (nI T)), (0, .ref tp), (1, .int x)]) hx hb dL_act_220 hl (by decide) rfl (fun ls hl => ?_)
    refine lv_aload_n hx hb dL_act_222 rfl (lv_at hl 4 rfl) ?_
    refine lv_bipush (v := 10) hx hb dL_act_223 (by decide) ?_
    refine x_Vi (As := [.int 10]) (rest0 := []) ⟨hx, hb, hml, hown, hts⟩ (c_X8_many l D cA ad tr rest H.size u1 pd π bd tp ρ h102 10 (by decide) (by decide)) (cwV 1 hts gl_act_X8_many rfl rfl rfl (by decide +kernel) ⟨Nat.le_of_ble_eq_true rfl, Nat.le_of_ble_eq_true rfl⟩) hK hP hD hS hA 209 w_tp rfl hl.1 rfl rfl (Nat.le_of_ble_eq_true rfl) ⟨Nat.le_of_ble_eq_true rfl, Nat.le_of_ble_eq_true rfl⟩ dL_act_225 (fun r _ H locs hw hP hD hS => ?_)
    obtain rfl : r = (nI (t + (1 + y33))) := hw.trans a7
    refine lv_iload hx hb dL_act_228 (lv_at hl 2 rfl) ?_
    refine lv_iconst (v := 1) hx hb dL_act_230 (by decide) ?_
    refine lv_iadd hx hb dL_act_231 ?_
    refine W.eq (g2 := F0 m 232 ls [.int (nI (t + 1)), .int (nI (t + (1 + y33)))]) (by rw [show ((nI t) : Int32) + 1 = (nI (t + 1)) from nI_add t 1]) ?_
    refine lv_iload_n hx hb dL_act_232 rfl (lv_at hl 5 rfl) ?_
    refine lv_iconst (v := 4) hx hb dL_act_233 (by decide) ?_
    refine lv_ishr hx hb dL_act_234 ?_
    refine lv_iconst (v := 3) hx hb dL_act_235 (by decide) ?_
    refine x_Si (As := [.int (x >>> (4 &&& 31)), .int 3]) (rest0 := [.int (nI (t + 1)), .int (nI (t + (1 + y33)))]) ⟨hx, hb, hml, hown, hts⟩ (c_L_below l D (tyB cA ++ tr) (wB cA ad u1 ++ (wPg cA ad pd π ++ (wB cA bd ρ ++ ((tp, .inr (8, tpF ad bd)) :: rest)))) _ (x >>> (4 &&& 31)) 3 (by decide)) (va_cwS 2 hts gl_act_L_below rfl rfl rfl (by decide +kernel) ⟨Nat.le_of_ble_eq_true rfl, Nat.le_of_ble_eq_true rfl⟩) hK hP hD hS hA hl.1 rfl rfl (Nat.le_of_ble_eq_true rfl) ⟨Nat.le_of_ble_eq_true rfl, Nat.le_of_ble_eq_true rfl⟩ dL_act_236 (fun r _ H locs hw hP hD hS => ?_)
    obtain rfl : r = nI y33 := hw.trans ey33
    refine lv_iadd hx hb dL_act_239 ?_
    refine W.eq (g2 := F0 m 240 ls [.int (nI ((t + 1) + y33)), .int (nI (t + (1 + y33)))]) (by rw [show ((nI (t + 1)) : Int32) + (nI y33) = (nI ((t + 1) + y33)) from nI_add (t + 1) y33]) ?_
    refine lv_icmp_ne (tgt := 260) hx hb dL_act_240 (by decide) (fun c_240_34 => ?_) (fun c_240_34 => ?_)
    · exact absurd ((nI_eq (a := t + (1 + y33)) (b := (t + 1) + y33) (by omega) (by omega)).mpr (by omega)) c_240_34
    · skip
      refine lv_aload_n hx hb dL_act_243 rfl (lv_at hl 4 rfl) ?_
      refine lv_iconst (v := 2) hx hb dL_act_244 (by decide) ?_
      refine x_Vi (As := [.int 2]) (rest0 := []) ⟨hx, hb, hml, hown, hts⟩ (c_X8_many l D cA ad tr rest H.size u1 pd π bd tp ρ h102 2 (by decide) (by decide)) (cwV 1 hts gl_act_X8_many rfl rfl rfl (by decide +kernel) ⟨Nat.le_of_ble_eq_true rfl, Nat.le_of_ble_eq_true rfl⟩) hK hP hD hS hA 209 w_tp rfl hl.1 rfl rfl (Nat.le_of_ble_eq_true rfl) ⟨Nat.le_of_ble_eq_true rfl, Nat.le_of_ble_eq_true rfl⟩ dL_act_245 (fun r _ H locs hw hP hD hS => ?_)
      obtain rfl : r = (nI b8) := hw.trans b9
      refine lv_iload hx hb dL_act_248 (lv_at hl 1 rfl) ?_
      refine lv_iload hx hb dL_act_250 (lv_at hl 0 rfl) ?_
      refine lv_iadd hx hb dL_act_252 ?_
      refine lv_icmp_ne (tgt := 260) hx hb dL_act_253 (by decide) (fun c_253_35 => ?_) (fun c_253_35 => ?_)
      · exact absurd c9 c_253_35
      · skip
        refine lv_iconst (v := 1) hx hb dL_act_256 (by decide) ?_
        refine lv_goto (tgt := 261) hx hb dL_act_257 (by decide) ?_
        exact vx_ret (x_zret hx hb hr rfl hlocks hK u1 hP hD hS dL_act_261 ⟨rfl, ⟨T, S, t + (1 + y33), U, st, by omega, by omega, by omega, by omega, a2, a3, a4, a5, a6⟩⟩)
  · skip
    refine lv_tableIn (off := 180) (tgt := 192) hx hb dL_act_12 (by decide) (by decide) (by decide) (by decide) ?_
    refine lv_aload_n hx hb dL_act_192 rfl (lv_at hl 1 rfl) ?_
    refine lv_bipush (v := 10) hx hb dL_act_193 (by decide) ?_
    refine x_Vi (As := [.int 10]) (rest0 := []) ⟨hx, hb, hml, hown, hts⟩ (c_X8_many l D cA ad tr rest H.size τ pd π bd tp ρ h102 10 (by decide) (by decide)) (cwV 1 hts gl_act_X8_many rfl rfl rfl (by decide +kernel) ⟨Nat.le_of_ble_eq_true rfl, Nat.le_of_ble_eq_true rfl⟩) hK hP hD hS hA 209 w_tp rfl hl.1 rfl rfl (Nat.le_of_ble_eq_true rfl) ⟨Nat.le_of_ble_eq_true rfl, Nat.le_of_ble_eq_true rfl⟩ dL_act_195 (fun r _ H locs hw hP hD hS => ?_)
    obtain rfl : r = (nI t) := hw.trans (many_10 h)
    refine lv_istore (lv' := [(6, .int (nI t)), (2, .int (nI T)), (0, .ref tp), (1, .int x)]) hx hb dL_act_198 hl (by decide) rfl (fun ls hl => ?_)
    refine lv_aload_n hx hb dL_act_200 rfl (lv_at hl 2 rfl) ?_
    refine lv_iconst (v := 2) hx hb dL_act_201 (by decide) ?_
    refine x_Vi (As := [.int 2]) (rest0 := []) ⟨hx, hb, hml, hown, hts⟩ (c_X8_many l D cA ad tr rest H.size τ pd π bd tp ρ h102 2 (by decide) (by decide)) (cwV 1 hts gl_act_X8_many rfl rfl rfl (by decide +kernel) ⟨Nat.le_of_ble_eq_true rfl, Nat.le_of_ble_eq_true rfl⟩) hK hP hD hS hA 209 w_tp rfl hl.1 rfl rfl (Nat.le_of_ble_eq_true rfl) ⟨Nat.le_of_ble_eq_true rfl, Nat.le_of_ble_eq_true rfl⟩ dL_act_202 (fun r _ H locs hw hP hD hS => ?_)
    obtain rfl : r = (nI Lr.length) := hw.trans hmL
    refine lv_istore (lv' := [(7, .int (nI Lr.length)), (6, .int (nI t)), (2, .int (nI T)), (0, .ref tp), (1, .int x)]) hx hb dL_act_205 hl (by decide) rfl (fun ls hl => ?_)
    refine lv_aload_n hx hb dL_act_207 rfl (lv_at hl 3 rfl) ?_
    refine lv_iconst (v := 1) hx hb dL_act_208 (by decide) ?_
    refine lv_iload_n hx hb dL_act_209 rfl (lv_at hl 4 rfl) ?_
    refine lv_iconst (v := 4) hx hb dL_act_210 (by decide) ?_
    refine lv_ishr hx hb dL_act_211 ?_
    refine lv_iconst (v := 3) hx hb dL_act_212 (by decide) ?_
    refine x_Si (As := [.int (x >>> (4 &&& 31)), .int 3]) (rest0 := [.int 1, .ref tp]) ⟨hx, hb, hml, hown, hts⟩ (c_L_below l D (tyB cA ++ tr) (wB cA ad τ ++ (wPg cA ad pd π ++ (wB cA bd ρ ++ ((tp, .inr (8, tpF ad bd)) :: rest)))) _ (x >>> (4 &&& 31)) 3 (by decide)) (va_cwS 2 hts gl_act_L_below rfl rfl rfl (by decide +kernel) ⟨Nat.le_of_ble_eq_true rfl, Nat.le_of_ble_eq_true rfl⟩) hK hP hD hS hA hl.1 rfl rfl (Nat.le_of_ble_eq_true rfl) ⟨Nat.le_of_ble_eq_true rfl, Nat.le_of_ble_eq_true rfl⟩ dL_act_213 (fun r _ H locs hw hP hD hS => ?_)
    obtain ⟨y36, hy36, ey36⟩ := below_nI (x >>> (4 &&& 31)) (k := 3) (by omega) (by omega)
    obtain rfl : r = nI y36 := hw.trans ey36
    refine lv_iadd hx hb dL_act_216 ?_
    refine W.eq (g2 := F0 m 217 ls [.int (nI (1 + y36)), .ref tp]) (by rw [show (1 : Int32) + (nI y36) = (nI (1 + y36)) from nI_add 1 y36]) ?_
    obtain ⟨a2, a3, a4, a5, a6, a7, a8, b8, a9, b9, c9⟩ := act_tick (n := 1 + y36) (by omega) h hTB hFL
    obtain ⟨mo, emo⟩ : ∃ z : Int32, z = (m_ticks (1 + y36) τ 0).2 := ⟨_, rfl⟩
    rw [← emo] at c9
    refine x_Vi (As := [.int (nI (1 + y36))]) (rest0 := []) ⟨hx, hb, hml, hown, hts⟩ (c_X8_tick l D cA ad tr rest _ τ pd π bd tp ρ h102 (1 + y36) (fun z => absurd ((nI_ltI (b := 1) (by omega) (by decide)).mp z) (by omega)) ((nI_leI (b := 20) (by omega) (by decide)).mpr (by omega)) (by omega)) (cwV 1 hts gl_act_X8_tick rfl rfl rfl (by decide +kernel) ⟨Nat.le_of_ble_eq_true rfl, Nat.le_of_ble_eq_true rfl⟩) hK hP hD hS hA 209 w_tp rfl hl.1 rfl rfl (Nat.le_of_ble_eq_true rfl) ⟨Nat.le_of_ble_eq_true rfl, Nat.le_of_ble_eq_true rfl⟩ dL_act_217 (fun r u1 H locs hw hP hD hS => ?_)
    obtain ⟨er, eu⟩ := hw
    rw [← emo] at er
    subst er
    rw [← eu] at a2 a3 a4 a5 a6 a7 b9
    rw [hmL] at a9
    rw [← a9] at c9
    refine lv_istore (lv' := [(8, .int r), (7, .int (nI Lr.length)), (6, .int (nI t)), (2, .int (nI T)), (0, .ref tp), (1, .int x)]) hx hb dL_act_220 hl (by decide) rfl (fun ls hl => ?_)
    refine lv_aload_n hx hb dL_act_222 rfl (lv_at hl 4 rfl) ?_
    refine lv_bipush (v := 10) hx hb dL_act_223 (by decide) ?_
    refine x_Vi (As := [.int 10]) (rest0 := []) ⟨hx, hb, hml, hown, hts⟩ (c_X8_many l D cA ad tr rest H.size u1 pd π bd tp ρ h102 10 (by decide) (by decide)) (cwV 1 hts gl_act_X8_many rfl rfl rfl (by decide +kernel) ⟨Nat.le_of_ble_eq_true rfl, Nat.le_of_ble_eq_true rfl⟩) hK hP hD hS hA 209 w_tp rfl hl.1 rfl rfl (Nat.le_of_ble_eq_true rfl) ⟨Nat.le_of_ble_eq_true rfl, Nat.le_of_ble_eq_true rfl⟩ dL_act_225 (fun r _ H locs hw hP hD hS => ?_)
    obtain rfl : r = (nI (t + (1 + y36))) := hw.trans a7
    refine lv_iload hx hb dL_act_228 (lv_at hl 2 rfl) ?_
    refine lv_iconst (v := 1) hx hb dL_act_230 (by decide) ?_
    refine lv_iadd hx hb dL_act_231 ?_
    refine W.eq (g2 := F0 m 232 ls [.int (nI (t + 1)), .int (nI (t + (1 + y36)))]) (by rw [show ((nI t) : Int32) + 1 = (nI (t + 1)) from nI_add t 1]) ?_
    refine lv_iload_n hx hb dL_act_232 rfl (lv_at hl 5 rfl) ?_
    refine lv_iconst (v := 4) hx hb dL_act_233 (by decide) ?_
    refine lv_ishr hx hb dL_act_234 ?_
    refine lv_iconst (v := 3) hx hb dL_act_235 (by decide) ?_
    refine x_Si (As := [.int (x >>> (4 &&& 31)), .int 3]) (rest0 := [.int (nI (t + 1)), .int (nI (t + (1 + y36)))]) ⟨hx, hb, hml, hown, hts⟩ (c_L_below l D (tyB cA ++ tr) (wB cA ad u1 ++ (wPg cA ad pd π ++ (wB cA bd ρ ++ ((tp, .inr (8, tpF ad bd)) :: rest)))) _ (x >>> (4 &&& 31)) 3 (by decide)) (va_cwS 2 hts gl_act_L_below rfl rfl rfl (by decide +kernel) ⟨Nat.le_of_ble_eq_true rfl, Nat.le_of_ble_eq_true rfl⟩) hK hP hD hS hA hl.1 rfl rfl (Nat.le_of_ble_eq_true rfl) ⟨Nat.le_of_ble_eq_true rfl, Nat.le_of_ble_eq_true rfl⟩ dL_act_236 (fun r _ H locs hw hP hD hS => ?_)
    obtain rfl : r = nI y36 := hw.trans ey36
    refine lv_iadd hx hb dL_act_239 ?_
    refine W.eq (g2 := F0 m 240 ls [.int (nI ((t + 1) + y36)), .int (nI (t + (1 + y36)))]) (by rw [show ((nI (t + 1)) : Int32) + (nI y36) = (nI ((t + 1) + y36)) from nI_add (t + 1) y36]) ?_
    refine lv_icmp_ne (tgt := 260) hx hb dL_act_240 (by decide) (fun c_240_37 => ?_) (fun c_240_37 => ?_)
    · exact absurd ((nI_eq (a := t + (1 + y36)) (b := (t + 1) + y36) (by omega) (by omega)).mpr (by omega)) c_240_37
    · skip
      refine lv_aload_n hx hb dL_act_243 rfl (lv_at hl 4 rfl) ?_
      refine lv_iconst (v := 2) hx hb dL_act_244 (by decide) ?_
      refine x_Vi (As := [.int 2]) (rest0 := []) ⟨hx, hb, hml, hown, hts⟩ (c_X8_many l D cA ad tr rest H.size u1 pd π bd tp ρ h102 2 (by decide) (by decide)) (cwV 1 hts gl_act_X8_many rfl rfl rfl (by decide +kernel) ⟨Nat.le_of_ble_eq_true rfl, Nat.le_of_ble_eq_true rfl⟩) hK hP hD hS hA 209 w_tp rfl hl.1 rfl rfl (Nat.le_of_ble_eq_true rfl) ⟨Nat.le_of_ble_eq_true rfl, Nat.le_of_ble_eq_true rfl⟩ dL_act_245 (fun r _ H locs hw hP hD hS => ?_)
      obtain rfl : r = (nI b8) := hw.trans b9
      refine lv_iload hx hb dL_act_248 (lv_at hl 1 rfl) ?_
      refine lv_iload hx hb dL_act_250 (lv_at hl 0 rfl) ?_
      refine lv_iadd hx hb dL_act_252 ?_
      refine lv_icmp_ne (tgt := 260) hx hb dL_act_253 (by decide) (fun c_253_38 => ?_) (fun c_253_38 => ?_)
      · exact absurd c9 c_253_38
      · skip
        refine lv_iconst (v := 1) hx hb dL_act_256 (by decide) ?_
        refine lv_goto (tgt := 261) hx hb dL_act_257 (by decide) ?_
        exact vx_ret (x_zret hx hb hr rfl hlocks hK u1 hP hD hS dL_act_261 ⟨rfl, ⟨T, S, t + (1 + y36), U, st, by omega, by omega, by omega, by omega, a2, a3, a4, a5, a6⟩⟩)
  · skip
    refine lv_tableOut (tgt := 262) hx hb dL_act_12 (Or.inr (by decide)) (by decide) ?_
    refine lv_aload_n hx hb dL_act_262 rfl (lv_at hl 1 rfl) ?_
    refine lv_bipush (v := 11) hx hb dL_act_263 (by decide) ?_
    refine x_Vi (As := [.int 11]) (rest0 := []) ⟨hx, hb, hml, hown, hts⟩ (c_X8_many l D cA ad tr rest H.size τ pd π bd tp ρ h102 11 (by decide) (by decide)) (cwV 1 hts gl_act_X8_many rfl rfl rfl (by decide +kernel) ⟨Nat.le_of_ble_eq_true rfl, Nat.le_of_ble_eq_true rfl⟩) hK hP hD hS hA 209 w_tp rfl hl.1 rfl rfl (Nat.le_of_ble_eq_true rfl) ⟨Nat.le_of_ble_eq_true rfl, Nat.le_of_ble_eq_true rfl⟩ dL_act_265 (fun r _ H locs hw hP hD hS => ?_)
    obtain rfl : r = (m_howMany τ π 11) := hw.trans rfl
    refine lv_topi (fun x39 ex39 => ?_)
    refine lv_istore (lv' := [(9, .int x39), (2, .int (nI T)), (0, .ref tp), (1, .int x)]) hx hb dL_act_268 hl (by decide) rfl (fun ls hl => ?_)
    refine lv_aload_n hx hb dL_act_270 rfl (lv_at hl 2 rfl) ?_
    refine lv_iconst (v := 1) hx hb dL_act_271 (by decide) ?_
    refine lv_iload_n hx hb dL_act_272 rfl (lv_at hl 3 rfl) ?_
    refine lv_iconst (v := 4) hx hb dL_act_273 (by decide) ?_
    refine lv_ishr hx hb dL_act_274 ?_
    refine lv_bipush (v := 9) hx hb dL_act_275 (by decide) ?_
    refine x_Si (As := [.int (x >>> (4 &&& 31)), .int 9]) (rest0 := [.int 1, .ref tp]) ⟨hx, hb, hml, hown, hts⟩ (c_L_below l D (tyB cA ++ tr) (wB cA ad τ ++ (wPg cA ad pd π ++ (wB cA bd ρ ++ ((tp, .inr (8, tpF ad bd)) :: rest)))) _ (x >>> (4 &&& 31)) 9 (by decide)) (va_cwS 2 hts gl_act_L_below rfl rfl rfl (by decide +kernel) ⟨Nat.le_of_ble_eq_true rfl, Nat.le_of_ble_eq_true rfl⟩) hK hP hD hS hA hl.1 rfl rfl (Nat.le_of_ble_eq_true rfl) ⟨Nat.le_of_ble_eq_true rfl, Nat.le_of_ble_eq_true rfl⟩ dL_act_277 (fun r _ H locs hw hP hD hS => ?_)
    obtain ⟨y40, hy40, ey40⟩ := below_nI (x >>> (4 &&& 31)) (k := 9) (by omega) (by omega)
    obtain rfl : r = nI y40 := hw.trans ey40
    refine lv_iadd hx hb dL_act_280 ?_
    refine W.eq (g2 := F0 m 281 ls [.int (nI (1 + y40)), .ref tp]) (by rw [show (1 : Int32) + (nI y40) = (nI (1 + y40)) from nI_add 1 y40]) ?_
    obtain ⟨T1, S1, st1, d9, a1, b1, a2, a3, a4, a5, a6, a7, a8, a9, b9⟩ := act_run (n := 1 + y40) hIP hPB (by omega) h hTB hFL
    refine x_Vi (As := [.int (nI (1 + y40))]) (rest0 := []) ⟨hx, hb, hml, hown, hts⟩ (c_X8_run l D cA ad tr rest _ τ pd π bd tp ρ h102 (1 + y40) (fun z => absurd ((nI_ltI (b := 1) (by omega) (by decide)).mp z) (by omega)) ((nI_leI (b := 50) (by omega) (by decide)).mpr (by omega)) (by omega)) (cwV 1 hts gl_act_X8_run rfl rfl rfl (by decide +kernel) ⟨Nat.le_of_ble_eq_true rfl, Nat.le_of_ble_eq_true rfl⟩) hK hP hD hS hA 209 w_tp rfl hl.1 rfl rfl (Nat.le_of_ble_eq_true rfl) ⟨Nat.le_of_ble_eq_true rfl, Nat.le_of_ble_eq_true rfl⟩ dL_act_281 (fun r u1 H locs hw hP hD hS => ?_)
    obtain ⟨er, eu⟩ := hw
    rw [a7] at er
    subst er
    rw [← eu] at a2 a3 a4 a5 a6 a9 b9
    refine lv_istore (lv' := [(10, .int (nI d9)), (9, .int x39), (2, .int (nI T)), (0, .ref tp), (1, .int x)]) hx hb dL_act_284 hl (by decide) rfl (fun ls hl => ?_)
    refine lv_aload_n hx hb dL_act_286 rfl (lv_at hl 3 rfl) ?_
    refine lv_bipush (v := 11) hx hb dL_act_287 (by decide) ?_
    refine x_Vi (As := [.int 11]) (rest0 := []) ⟨hx, hb, hml, hown, hts⟩ (c_X8_many l D cA ad tr rest H.size u1 pd π bd tp ρ h102 11 (by decide) (by decide)) (cwV 1 hts gl_act_X8_many rfl rfl rfl (by decide +kernel) ⟨Nat.le_of_ble_eq_true rfl, Nat.le_of_ble_eq_true rfl⟩) hK hP hD hS hA 209 w_tp rfl hl.1 rfl rfl (Nat.le_of_ble_eq_true rfl) ⟨Nat.le_of_ble_eq_true rfl, Nat.le_of_ble_eq_true rfl⟩ dL_act_289 (fun r _ H locs hw hP hD hS => ?_)
    obtain rfl : r = (m_howMany τ π 11 + nI d9) := hw.trans a9
    refine lv_iload hx hb dL_act_292 (lv_at hl 1 rfl) ?_
    refine lv_iload hx hb dL_act_294 (lv_at hl 0 rfl) ?_
    refine lv_iadd hx hb dL_act_296 ?_
    refine lv_icmp_ne (tgt := 342) hx hb dL_act_297 (by decide) (fun c_297_41 => ?_) (fun c_297_41 => ?_)
    · exact absurd (by rw [ex39]) c_297_41
    · skip
      refine lv_iload hx hb dL_act_300 (lv_at hl 0 rfl) ?_
      refine lv_iconst (v := 1) hx hb dL_act_302 (by decide) ?_
      refine lv_iload_n hx hb dL_act_303 rfl (lv_at hl 4 rfl) ?_
      refine lv_iconst (v := 4) hx hb dL_act_304 (by decide) ?_
      refine lv_ishr hx hb dL_act_305 ?_
      refine lv_bipush (v := 9) hx hb dL_act_306 (by decide) ?_
      refine x_Si (As := [.int (x >>> (4 &&& 31)), .int 9]) (rest0 := [.int 1, .int (nI d9)]) ⟨hx, hb, hml, hown, hts⟩ (c_L_below l D (tyB cA ++ tr) (wB cA ad u1 ++ (wPg cA ad pd π ++ (wB cA bd ρ ++ ((tp, .inr (8, tpF ad bd)) :: rest)))) _ (x >>> (4 &&& 31)) 9 (by decide)) (va_cwS 2 hts gl_act_L_below rfl rfl rfl (by decide +kernel) ⟨Nat.le_of_ble_eq_true rfl, Nat.le_of_ble_eq_true rfl⟩) hK hP hD hS hA hl.1 rfl rfl (Nat.le_of_ble_eq_true rfl) ⟨Nat.le_of_ble_eq_true rfl, Nat.le_of_ble_eq_true rfl⟩ dL_act_308 (fun r _ H locs hw hP hD hS => ?_)
      obtain rfl : r = nI y40 := hw.trans ey40
      refine lv_iadd hx hb dL_act_311 ?_
      refine W.eq (g2 := F0 m 312 ls [.int (nI (1 + y40)), .int (nI d9)]) (by rw [show (1 : Int32) + (nI y40) = (nI (1 + y40)) from nI_add 1 y40]) ?_
      refine lv_icmp_gt (tgt := 342) hx hb dL_act_312 (by decide) (fun c_312_42 => ?_) (fun c_312_42 => ?_)
      · exact absurd ((nI_ltI (a := 1 + y40) (b := d9) (by omega) (by omega)).mp c_312_42) (by omega)
      · skip
        rcases b9 with b9 | b9
        · skip
          refine lv_iload hx hb dL_act_315 (lv_at hl 0 rfl) ?_
          refine lv_iconst (v := 1) hx hb dL_act_317 (by decide) ?_
          refine lv_iload_n hx hb dL_act_318 rfl (lv_at hl 4 rfl) ?_
          refine lv_iconst (v := 4) hx hb dL_act_319 (by decide) ?_
          refine lv_ishr hx hb dL_act_320 ?_
          refine lv_bipush (v := 9) hx hb dL_act_321 (by decide) ?_
          refine x_Si (As := [.int (x >>> (4 &&& 31)), .int 9]) (rest0 := [.int 1, .int (nI d9)]) ⟨hx, hb, hml, hown, hts⟩ (c_L_below l D (tyB cA ++ tr) (wB cA ad u1 ++ (wPg cA ad pd π ++ (wB cA bd ρ ++ ((tp, .inr (8, tpF ad bd)) :: rest)))) _ (x >>> (4 &&& 31)) 9 (by decide)) (va_cwS 2 hts gl_act_L_below rfl rfl rfl (by decide +kernel) ⟨Nat.le_of_ble_eq_true rfl, Nat.le_of_ble_eq_true rfl⟩) hK hP hD hS hA hl.1 rfl rfl (Nat.le_of_ble_eq_true rfl) ⟨Nat.le_of_ble_eq_true rfl, Nat.le_of_ble_eq_true rfl⟩ dL_act_323 (fun r _ H locs hw hP hD hS => ?_)
          obtain rfl : r = nI y40 := hw.trans ey40
          refine lv_iadd hx hb dL_act_326 ?_
          refine W.eq (g2 := F0 m 327 ls [.int (nI (1 + y40)), .int (nI d9)]) (by rw [show (1 : Int32) + (nI y40) = (nI (1 + y40)) from nI_add 1 y40]) ?_
          refine lv_icmp_eq (tgt := 338) hx hb dL_act_327 (by decide) (fun c_327_43 => ?_) (fun c_327_43 => ?_)
          · skip
            refine lv_iconst (v := 1) hx hb dL_act_338 (by decide) ?_
            refine lv_goto (tgt := 343) hx hb dL_act_339 (by decide) ?_
            exact vx_ret (x_zret hx hb hr rfl hlocks hK u1 hP hD hS dL_act_343 ⟨rfl, ⟨T1, S1, t, U + 100 * (1 + y40), st1, by omega, by omega, by omega, by omega, a2, a3, a4, a5, a6⟩⟩)
          · exact absurd ((nI_eq (a := d9) (b := 1 + y40) (by omega) (by omega)).mpr (by omega)) c_327_43
        · skip
          refine lv_iload hx hb dL_act_315 (lv_at hl 0 rfl) ?_
          refine lv_iconst (v := 1) hx hb dL_act_317 (by decide) ?_
          refine lv_iload_n hx hb dL_act_318 rfl (lv_at hl 4 rfl) ?_
          refine lv_iconst (v := 4) hx hb dL_act_319 (by decide) ?_
          refine lv_ishr hx hb dL_act_320 ?_
          refine lv_bipush (v := 9) hx hb dL_act_321 (by decide) ?_
          refine x_Si (As := [.int (x >>> (4 &&& 31)), .int 9]) (rest0 := [.int 1, .int (nI d9)]) ⟨hx, hb, hml, hown, hts⟩ (c_L_below l D (tyB cA ++ tr) (wB cA ad u1 ++ (wPg cA ad pd π ++ (wB cA bd ρ ++ ((tp, .inr (8, tpF ad bd)) :: rest)))) _ (x >>> (4 &&& 31)) 9 (by decide)) (va_cwS 2 hts gl_act_L_below rfl rfl rfl (by decide +kernel) ⟨Nat.le_of_ble_eq_true rfl, Nat.le_of_ble_eq_true rfl⟩) hK hP hD hS hA hl.1 rfl rfl (Nat.le_of_ble_eq_true rfl) ⟨Nat.le_of_ble_eq_true rfl, Nat.le_of_ble_eq_true rfl⟩ dL_act_323 (fun r _ H locs hw hP hD hS => ?_)
          obtain rfl : r = nI y40 := hw.trans ey40
          refine lv_iadd hx hb dL_act_326 ?_
          refine W.eq (g2 := F0 m 327 ls [.int (nI (1 + y40)), .int (nI d9)]) (by rw [show (1 : Int32) + (nI y40) = (nI (1 + y40)) from nI_add 1 y40]) ?_
          refine lv_icmp_eq (tgt := 338) hx hb dL_act_327 (by decide) (fun c_327_44 => ?_) (fun c_327_44 => ?_)
          · skip
            refine lv_iconst (v := 1) hx hb dL_act_338 (by decide) ?_
            refine lv_goto (tgt := 343) hx hb dL_act_339 (by decide) ?_
            exact vx_ret (x_zret hx hb hr rfl hlocks hK u1 hP hD hS dL_act_343 ⟨rfl, ⟨T1, S1, t, U + 100 * (1 + y40), st1, by omega, by omega, by omega, by omega, a2, a3, a4, a5, a6⟩⟩)
          · skip
            refine lv_aload_n hx hb dL_act_330 rfl (lv_at hl 3 rfl) ?_
            refine lv_iconst (v := 2) hx hb dL_act_331 (by decide) ?_
            refine x_Vi (As := [.int 2]) (rest0 := []) ⟨hx, hb, hml, hown, hts⟩ (c_X8_many l D cA ad tr rest H.size u1 pd π bd tp ρ h102 2 (by decide) (by decide)) (cwV 1 hts gl_act_X8_many rfl rfl rfl (by decide +kernel) ⟨Nat.le_of_ble_eq_true rfl, Nat.le_of_ble_eq_true rfl⟩) hK hP hD hS hA 209 w_tp rfl hl.1 rfl rfl (Nat.le_of_ble_eq_true rfl) ⟨Nat.le_of_ble_eq_true rfl, Nat.le_of_ble_eq_true rfl⟩ dL_act_332 (fun r _ H locs hw hP hD hS => ?_)
            obtain rfl : r = 0 := hw.trans b9
            refine lv_if_ne (tgt := 342) hx hb dL_act_335 (by decide) (fun c_335_45 => ?_) (fun c_335_45 => ?_)
            · exact absurd c_335_45 (by decide)
            · skip
              refine lv_iconst (v := 1) hx hb dL_act_338 (by decide) ?_
              refine lv_goto (tgt := 343) hx hb dL_act_339 (by decide) ?_
              exact vx_ret (x_zret hx hb hr rfl hlocks hK u1 hP hD hS dL_act_343 ⟨rfl, ⟨T1, S1, t, U + 100 * (1 + y40), st1, by omega, by omega, by omega, by omega, a2, a3, a4, a5, a6⟩⟩)
  · skip
    refine lv_tableOut (tgt := 262) hx hb dL_act_12 (Or.inr (by decide)) (by decide) ?_
    refine lv_aload_n hx hb dL_act_262 rfl (lv_at hl 1 rfl) ?_
    refine lv_bipush (v := 11) hx hb dL_act_263 (by decide) ?_
    refine x_Vi (As := [.int 11]) (rest0 := []) ⟨hx, hb, hml, hown, hts⟩ (c_X8_many l D cA ad tr rest H.size τ pd π bd tp ρ h102 11 (by decide) (by decide)) (cwV 1 hts gl_act_X8_many rfl rfl rfl (by decide +kernel) ⟨Nat.le_of_ble_eq_true rfl, Nat.le_of_ble_eq_true rfl⟩) hK hP hD hS hA 209 w_tp rfl hl.1 rfl rfl (Nat.le_of_ble_eq_true rfl) ⟨Nat.le_of_ble_eq_true rfl, Nat.le_of_ble_eq_true rfl⟩ dL_act_265 (fun r _ H locs hw hP hD hS => ?_)
    obtain rfl : r = (m_howMany τ π 11) := hw.trans rfl
    refine lv_topi (fun x46 ex46 => ?_)
    refine lv_istore (lv' := [(9, .int x46), (2, .int (nI T)), (0, .ref tp), (1, .int x)]) hx hb dL_act_268 hl (by decide) rfl (fun ls hl => ?_)
    refine lv_aload_n hx hb dL_act_270 rfl (lv_at hl 2 rfl) ?_
    refine lv_iconst (v := 1) hx hb dL_act_271 (by decide) ?_
    refine lv_iload_n hx hb dL_act_272 rfl (lv_at hl 3 rfl) ?_
    refine lv_iconst (v := 4) hx hb dL_act_273 (by decide) ?_
    refine lv_ishr hx hb dL_act_274 ?_
    refine lv_bipush (v := 9) hx hb dL_act_275 (by decide) ?_
    refine x_Si (As := [.int (x >>> (4 &&& 31)), .int 9]) (rest0 := [.int 1, .ref tp]) ⟨hx, hb, hml, hown, hts⟩ (c_L_below l D (tyB cA ++ tr) (wB cA ad τ ++ (wPg cA ad pd π ++ (wB cA bd ρ ++ ((tp, .inr (8, tpF ad bd)) :: rest)))) _ (x >>> (4 &&& 31)) 9 (by decide)) (va_cwS 2 hts gl_act_L_below rfl rfl rfl (by decide +kernel) ⟨Nat.le_of_ble_eq_true rfl, Nat.le_of_ble_eq_true rfl⟩) hK hP hD hS hA hl.1 rfl rfl (Nat.le_of_ble_eq_true rfl) ⟨Nat.le_of_ble_eq_true rfl, Nat.le_of_ble_eq_true rfl⟩ dL_act_277 (fun r _ H locs hw hP hD hS => ?_)
    obtain ⟨y47, hy47, ey47⟩ := below_nI (x >>> (4 &&& 31)) (k := 9) (by omega) (by omega)
    obtain rfl : r = nI y47 := hw.trans ey47
    refine lv_iadd hx hb dL_act_280 ?_
    refine W.eq (g2 := F0 m 281 ls [.int (nI (1 + y47)), .ref tp]) (by rw [show (1 : Int32) + (nI y47) = (nI (1 + y47)) from nI_add 1 y47]) ?_
    obtain ⟨T1, S1, st1, d9, a1, b1, a2, a3, a4, a5, a6, a7, a8, a9, b9⟩ := act_run (n := 1 + y47) hIP hPB (by omega) h hTB hFL
    refine x_Vi (As := [.int (nI (1 + y47))]) (rest0 := []) ⟨hx, hb, hml, hown, hts⟩ (c_X8_run l D cA ad tr rest _ τ pd π bd tp ρ h102 (1 + y47) (fun z => absurd ((nI_ltI (b := 1) (by omega) (by decide)).mp z) (by omega)) ((nI_leI (b := 50) (by omega) (by decide)).mpr (by omega)) (by omega)) (cwV 1 hts gl_act_X8_run rfl rfl rfl (by decide +kernel) ⟨Nat.le_of_ble_eq_true rfl, Nat.le_of_ble_eq_true rfl⟩) hK hP hD hS hA 209 w_tp rfl hl.1 rfl rfl (Nat.le_of_ble_eq_true rfl) ⟨Nat.le_of_ble_eq_true rfl, Nat.le_of_ble_eq_true rfl⟩ dL_act_281 (fun r u1 H locs hw hP hD hS => ?_)
    obtain ⟨er, eu⟩ := hw
    rw [a7] at er
    subst er
    rw [← eu] at a2 a3 a4 a5 a6 a9 b9
    refine lv_istore (lv' := [(10, .int (nI d9)), (9, .int x46), (2, .int (nI T)), (0, .ref tp), (1, .int x)]) hx hb dL_act_284 hl (by decide) rfl (fun ls hl => ?_)
    refine lv_aload_n hx hb dL_act_286 rfl (lv_at hl 3 rfl) ?_
    refine lv_bipush (v := 11) hx hb dL_act_287 (by decide) ?_
    refine x_Vi (As := [.int 11]) (rest0 := []) ⟨hx, hb, hml, hown, hts⟩ (c_X8_many l D cA ad tr rest H.size u1 pd π bd tp ρ h102 11 (by decide) (by decide)) (cwV 1 hts gl_act_X8_many rfl rfl rfl (by decide +kernel) ⟨Nat.le_of_ble_eq_true rfl, Nat.le_of_ble_eq_true rfl⟩) hK hP hD hS hA 209 w_tp rfl hl.1 rfl rfl (Nat.le_of_ble_eq_true rfl) ⟨Nat.le_of_ble_eq_true rfl, Nat.le_of_ble_eq_true rfl⟩ dL_act_289 (fun r _ H locs hw hP hD hS => ?_)
    obtain rfl : r = (m_howMany τ π 11 + nI d9) := hw.trans a9
    refine lv_iload hx hb dL_act_292 (lv_at hl 1 rfl) ?_
    refine lv_iload hx hb dL_act_294 (lv_at hl 0 rfl) ?_
    refine lv_iadd hx hb dL_act_296 ?_
    refine lv_icmp_ne (tgt := 342) hx hb dL_act_297 (by decide) (fun c_297_48 => ?_) (fun c_297_48 => ?_)
    · exact absurd (by rw [ex46]) c_297_48
    · skip
      refine lv_iload hx hb dL_act_300 (lv_at hl 0 rfl) ?_
      refine lv_iconst (v := 1) hx hb dL_act_302 (by decide) ?_
      refine lv_iload_n hx hb dL_act_303 rfl (lv_at hl 4 rfl) ?_
      refine lv_iconst (v := 4) hx hb dL_act_304 (by decide) ?_
      refine lv_ishr hx hb dL_act_305 ?_
      refine lv_bipush (v := 9) hx hb dL_act_306 (by decide) ?_
      refine x_Si (As := [.int (x >>> (4 &&& 31)), .int 9]) (rest0 := [.int 1, .int (nI d9)]) ⟨hx, hb, hml, hown, hts⟩ (c_L_below l D (tyB cA ++ tr) (wB cA ad u1 ++ (wPg cA ad pd π ++ (wB cA bd ρ ++ ((tp, .inr (8, tpF ad bd)) :: rest)))) _ (x >>> (4 &&& 31)) 9 (by decide)) (va_cwS 2 hts gl_act_L_below rfl rfl rfl (by decide +kernel) ⟨Nat.le_of_ble_eq_true rfl, Nat.le_of_ble_eq_true rfl⟩) hK hP hD hS hA hl.1 rfl rfl (Nat.le_of_ble_eq_true rfl) ⟨Nat.le_of_ble_eq_true rfl, Nat.le_of_ble_eq_true rfl⟩ dL_act_308 (fun r _ H locs hw hP hD hS => ?_)
      obtain rfl : r = nI y47 := hw.trans ey47
      refine lv_iadd hx hb dL_act_311 ?_
      refine W.eq (g2 := F0 m 312 ls [.int (nI (1 + y47)), .int (nI d9)]) (by rw [show (1 : Int32) + (nI y47) = (nI (1 + y47)) from nI_add 1 y47]) ?_
      refine lv_icmp_gt (tgt := 342) hx hb dL_act_312 (by decide) (fun c_312_49 => ?_) (fun c_312_49 => ?_)
      · exact absurd ((nI_ltI (a := 1 + y47) (b := d9) (by omega) (by omega)).mp c_312_49) (by omega)
      · skip
        rcases b9 with b9 | b9
        · skip
          refine lv_iload hx hb dL_act_315 (lv_at hl 0 rfl) ?_
          refine lv_iconst (v := 1) hx hb dL_act_317 (by decide) ?_
          refine lv_iload_n hx hb dL_act_318 rfl (lv_at hl 4 rfl) ?_
          refine lv_iconst (v := 4) hx hb dL_act_319 (by decide) ?_
          refine lv_ishr hx hb dL_act_320 ?_
          refine lv_bipush (v := 9) hx hb dL_act_321 (by decide) ?_
          refine x_Si (As := [.int (x >>> (4 &&& 31)), .int 9]) (rest0 := [.int 1, .int (nI d9)]) ⟨hx, hb, hml, hown, hts⟩ (c_L_below l D (tyB cA ++ tr) (wB cA ad u1 ++ (wPg cA ad pd π ++ (wB cA bd ρ ++ ((tp, .inr (8, tpF ad bd)) :: rest)))) _ (x >>> (4 &&& 31)) 9 (by decide)) (va_cwS 2 hts gl_act_L_below rfl rfl rfl (by decide +kernel) ⟨Nat.le_of_ble_eq_true rfl, Nat.le_of_ble_eq_true rfl⟩) hK hP hD hS hA hl.1 rfl rfl (Nat.le_of_ble_eq_true rfl) ⟨Nat.le_of_ble_eq_true rfl, Nat.le_of_ble_eq_true rfl⟩ dL_act_323 (fun r _ H locs hw hP hD hS => ?_)
          obtain rfl : r = nI y47 := hw.trans ey47
          refine lv_iadd hx hb dL_act_326 ?_
          refine W.eq (g2 := F0 m 327 ls [.int (nI (1 + y47)), .int (nI d9)]) (by rw [show (1 : Int32) + (nI y47) = (nI (1 + y47)) from nI_add 1 y47]) ?_
          refine lv_icmp_eq (tgt := 338) hx hb dL_act_327 (by decide) (fun c_327_50 => ?_) (fun c_327_50 => ?_)
          · skip
            refine lv_iconst (v := 1) hx hb dL_act_338 (by decide) ?_
            refine lv_goto (tgt := 343) hx hb dL_act_339 (by decide) ?_
            exact vx_ret (x_zret hx hb hr rfl hlocks hK u1 hP hD hS dL_act_343 ⟨rfl, ⟨T1, S1, t, U + 100 * (1 + y47), st1, by omega, by omega, by omega, by omega, a2, a3, a4, a5, a6⟩⟩)
          · exact absurd ((nI_eq (a := d9) (b := 1 + y47) (by omega) (by omega)).mpr (by omega)) c_327_50
        · skip
          refine lv_iload hx hb dL_act_315 (lv_at hl 0 rfl) ?_
          refine lv_iconst (v := 1) hx hb dL_act_317 (by decide) ?_
          refine lv_iload_n hx hb dL_act_318 rfl (lv_at hl 4 rfl) ?_
          refine lv_iconst (v := 4) hx hb dL_act_319 (by decide) ?_
          refine lv_ishr hx hb dL_act_320 ?_
          refine lv_bipush (v := 9) hx hb dL_act_321 (by decide) ?_
          refine x_Si (As := [.int (x >>> (4 &&& 31)), .int 9]) (rest0 := [.int 1, .int (nI d9)]) ⟨hx, hb, hml, hown, hts⟩ (c_L_below l D (tyB cA ++ tr) (wB cA ad u1 ++ (wPg cA ad pd π ++ (wB cA bd ρ ++ ((tp, .inr (8, tpF ad bd)) :: rest)))) _ (x >>> (4 &&& 31)) 9 (by decide)) (va_cwS 2 hts gl_act_L_below rfl rfl rfl (by decide +kernel) ⟨Nat.le_of_ble_eq_true rfl, Nat.le_of_ble_eq_true rfl⟩) hK hP hD hS hA hl.1 rfl rfl (Nat.le_of_ble_eq_true rfl) ⟨Nat.le_of_ble_eq_true rfl, Nat.le_of_ble_eq_true rfl⟩ dL_act_323 (fun r _ H locs hw hP hD hS => ?_)
          obtain rfl : r = nI y47 := hw.trans ey47
          refine lv_iadd hx hb dL_act_326 ?_
          refine W.eq (g2 := F0 m 327 ls [.int (nI (1 + y47)), .int (nI d9)]) (by rw [show (1 : Int32) + (nI y47) = (nI (1 + y47)) from nI_add 1 y47]) ?_
          refine lv_icmp_eq (tgt := 338) hx hb dL_act_327 (by decide) (fun c_327_51 => ?_) (fun c_327_51 => ?_)
          · skip
            refine lv_iconst (v := 1) hx hb dL_act_338 (by decide) ?_
            refine lv_goto (tgt := 343) hx hb dL_act_339 (by decide) ?_
            exact vx_ret (x_zret hx hb hr rfl hlocks hK u1 hP hD hS dL_act_343 ⟨rfl, ⟨T1, S1, t, U + 100 * (1 + y47), st1, by omega, by omega, by omega, by omega, a2, a3, a4, a5, a6⟩⟩)
          · skip
            refine lv_aload_n hx hb dL_act_330 rfl (lv_at hl 3 rfl) ?_
            refine lv_iconst (v := 2) hx hb dL_act_331 (by decide) ?_
            refine x_Vi (As := [.int 2]) (rest0 := []) ⟨hx, hb, hml, hown, hts⟩ (c_X8_many l D cA ad tr rest H.size u1 pd π bd tp ρ h102 2 (by decide) (by decide)) (cwV 1 hts gl_act_X8_many rfl rfl rfl (by decide +kernel) ⟨Nat.le_of_ble_eq_true rfl, Nat.le_of_ble_eq_true rfl⟩) hK hP hD hS hA 209 w_tp rfl hl.1 rfl rfl (Nat.le_of_ble_eq_true rfl) ⟨Nat.le_of_ble_eq_true rfl, Nat.le_of_ble_eq_true rfl⟩ dL_act_332 (fun r _ H locs hw hP hD hS => ?_)
            obtain rfl : r = 0 := hw.trans b9
            refine lv_if_ne (tgt := 342) hx hb dL_act_335 (by decide) (fun c_335_52 => ?_) (fun c_335_52 => ?_)
            · exact absurd c_335_52 (by decide)
            · skip
              refine lv_iconst (v := 1) hx hb dL_act_338 (by decide) ?_
              refine lv_goto (tgt := 343) hx hb dL_act_339 (by decide) ?_
              exact vx_ret (x_zret hx hb hr rfl hlocks hK u1 hP hD hS dL_act_343 ⟨rfl, ⟨T1, S1, t, U + 100 * (1 + y47), st1, by omega, by omega, by omega, by omega, a2, a3, a4, a5, a6⟩⟩)
  · skip
    refine lv_tableOut (tgt := 262) hx hb dL_act_12 (Or.inr (by decide)) (by decide) ?_
    refine lv_aload_n hx hb dL_act_262 rfl (lv_at hl 1 rfl) ?_
    refine lv_bipush (v := 11) hx hb dL_act_263 (by decide) ?_
    refine x_Vi (As := [.int 11]) (rest0 := []) ⟨hx, hb, hml, hown, hts⟩ (c_X8_many l D cA ad tr rest H.size τ pd π bd tp ρ h102 11 (by decide) (by decide)) (cwV 1 hts gl_act_X8_many rfl rfl rfl (by decide +kernel) ⟨Nat.le_of_ble_eq_true rfl, Nat.le_of_ble_eq_true rfl⟩) hK hP hD hS hA 209 w_tp rfl hl.1 rfl rfl (Nat.le_of_ble_eq_true rfl) ⟨Nat.le_of_ble_eq_true rfl, Nat.le_of_ble_eq_true rfl⟩ dL_act_265 (fun r _ H locs hw hP hD hS => ?_)
    obtain rfl : r = (m_howMany τ π 11) := hw.trans rfl
    refine lv_topi (fun x53 ex53 => ?_)
    refine lv_istore (lv' := [(9, .int x53), (2, .int (nI T)), (0, .ref tp), (1, .int x)]) hx hb dL_act_268 hl (by decide) rfl (fun ls hl => ?_)
    refine lv_aload_n hx hb dL_act_270 rfl (lv_at hl 2 rfl) ?_
    refine lv_iconst (v := 1) hx hb dL_act_271 (by decide) ?_
    refine lv_iload_n hx hb dL_act_272 rfl (lv_at hl 3 rfl) ?_
    refine lv_iconst (v := 4) hx hb dL_act_273 (by decide) ?_
    refine lv_ishr hx hb dL_act_274 ?_
    refine lv_bipush (v := 9) hx hb dL_act_275 (by decide) ?_
    refine x_Si (As := [.int (x >>> (4 &&& 31)), .int 9]) (rest0 := [.int 1, .ref tp]) ⟨hx, hb, hml, hown, hts⟩ (c_L_below l D (tyB cA ++ tr) (wB cA ad τ ++ (wPg cA ad pd π ++ (wB cA bd ρ ++ ((tp, .inr (8, tpF ad bd)) :: rest)))) _ (x >>> (4 &&& 31)) 9 (by decide)) (va_cwS 2 hts gl_act_L_below rfl rfl rfl (by decide +kernel) ⟨Nat.le_of_ble_eq_true rfl, Nat.le_of_ble_eq_true rfl⟩) hK hP hD hS hA hl.1 rfl rfl (Nat.le_of_ble_eq_true rfl) ⟨Nat.le_of_ble_eq_true rfl, Nat.le_of_ble_eq_true rfl⟩ dL_act_277 (fun r _ H locs hw hP hD hS => ?_)
    obtain ⟨y54, hy54, ey54⟩ := below_nI (x >>> (4 &&& 31)) (k := 9) (by omega) (by omega)
    obtain rfl : r = nI y54 := hw.trans ey54
    refine lv_iadd hx hb dL_act_280 ?_
    refine W.eq (g2 := F0 m 281 ls [.int (nI (1 + y54)), .ref tp]) (by rw [show (1 : Int32) + (nI y54) = (nI (1 + y54)) from nI_add 1 y54]) ?_
    obtain ⟨T1, S1, st1, d9, a1, b1, a2, a3, a4, a5, a6, a7, a8, a9, b9⟩ := act_run (n := 1 + y54) hIP hPB (by omega) h hTB hFL
    refine x_Vi (As := [.int (nI (1 + y54))]) (rest0 := []) ⟨hx, hb, hml, hown, hts⟩ (c_X8_run l D cA ad tr rest _ τ pd π bd tp ρ h102 (1 + y54) (fun z => absurd ((nI_ltI (b := 1) (by omega) (by decide)).mp z) (by omega)) ((nI_leI (b := 50) (by omega) (by decide)).mpr (by omega)) (by omega)) (cwV 1 hts gl_act_X8_run rfl rfl rfl (by decide +kernel) ⟨Nat.le_of_ble_eq_true rfl, Nat.le_of_ble_eq_true rfl⟩) hK hP hD hS hA 209 w_tp rfl hl.1 rfl rfl (Nat.le_of_ble_eq_true rfl) ⟨Nat.le_of_ble_eq_true rfl, Nat.le_of_ble_eq_true rfl⟩ dL_act_281 (fun r u1 H locs hw hP hD hS => ?_)
    obtain ⟨er, eu⟩ := hw
    rw [a7] at er
    subst er
    rw [← eu] at a2 a3 a4 a5 a6 a9 b9
    refine lv_istore (lv' := [(10, .int (nI d9)), (9, .int x53), (2, .int (nI T)), (0, .ref tp), (1, .int x)]) hx hb dL_act_284 hl (by decide) rfl (fun ls hl => ?_)
    refine lv_aload_n hx hb dL_act_286 rfl (lv_at hl 3 rfl) ?_
    refine lv_bipush (v := 11) hx hb dL_act_287 (by decide) ?_
    refine x_Vi (As := [.int 11]) (rest0 := []) ⟨hx, hb, hml, hown, hts⟩ (c_X8_many l D cA ad tr rest H.size u1 pd π bd tp ρ h102 11 (by decide) (by decide)) (cwV 1 hts gl_act_X8_many rfl rfl rfl (by decide +kernel) ⟨Nat.le_of_ble_eq_true rfl, Nat.le_of_ble_eq_true rfl⟩) hK hP hD hS hA 209 w_tp rfl hl.1 rfl rfl (Nat.le_of_ble_eq_true rfl) ⟨Nat.le_of_ble_eq_true rfl, Nat.le_of_ble_eq_true rfl⟩ dL_act_289 (fun r _ H locs hw hP hD hS => ?_)
    obtain rfl : r = (m_howMany τ π 11 + nI d9) := hw.trans a9
    refine lv_iload hx hb dL_act_292 (lv_at hl 1 rfl) ?_
    refine lv_iload hx hb dL_act_294 (lv_at hl 0 rfl) ?_
    refine lv_iadd hx hb dL_act_296 ?_
    refine lv_icmp_ne (tgt := 342) hx hb dL_act_297 (by decide) (fun c_297_55 => ?_) (fun c_297_55 => ?_)
    · exact absurd (by rw [ex53]) c_297_55
    · skip
      refine lv_iload hx hb dL_act_300 (lv_at hl 0 rfl) ?_
      refine lv_iconst (v := 1) hx hb dL_act_302 (by decide) ?_
      refine lv_iload_n hx hb dL_act_303 rfl (lv_at hl 4 rfl) ?_
      refine lv_iconst (v := 4) hx hb dL_act_304 (by decide) ?_
      refine lv_ishr hx hb dL_act_305 ?_
      refine lv_bipush (v := 9) hx hb dL_act_306 (by decide) ?_
      refine x_Si (As := [.int (x >>> (4 &&& 31)), .int 9]) (rest0 := [.int 1, .int (nI d9)]) ⟨hx, hb, hml, hown, hts⟩ (c_L_below l D (tyB cA ++ tr) (wB cA ad u1 ++ (wPg cA ad pd π ++ (wB cA bd ρ ++ ((tp, .inr (8, tpF ad bd)) :: rest)))) _ (x >>> (4 &&& 31)) 9 (by decide)) (va_cwS 2 hts gl_act_L_below rfl rfl rfl (by decide +kernel) ⟨Nat.le_of_ble_eq_true rfl, Nat.le_of_ble_eq_true rfl⟩) hK hP hD hS hA hl.1 rfl rfl (Nat.le_of_ble_eq_true rfl) ⟨Nat.le_of_ble_eq_true rfl, Nat.le_of_ble_eq_true rfl⟩ dL_act_308 (fun r _ H locs hw hP hD hS => ?_)
      obtain rfl : r = nI y54 := hw.trans ey54
      refine lv_iadd hx hb dL_act_311 ?_
      refine W.eq (g2 := F0 m 312 ls [.int (nI (1 + y54)), .int (nI d9)]) (by rw [show (1 : Int32) + (nI y54) = (nI (1 + y54)) from nI_add 1 y54]) ?_
      refine lv_icmp_gt (tgt := 342) hx hb dL_act_312 (by decide) (fun c_312_56 => ?_) (fun c_312_56 => ?_)
      · exact absurd ((nI_ltI (a := 1 + y54) (b := d9) (by omega) (by omega)).mp c_312_56) (by omega)
      · skip
        rcases b9 with b9 | b9
        · skip
          refine lv_iload hx hb dL_act_315 (lv_at hl 0 rfl) ?_
          refine lv_iconst (v := 1) hx hb dL_act_317 (by decide) ?_
          refine lv_iload_n hx hb dL_act_318 rfl (lv_at hl 4 rfl) ?_
          refine lv_iconst (v := 4) hx hb dL_act_319 (by decide) ?_
          refine lv_ishr hx hb dL_act_320 ?_
          refine lv_bipush (v := 9) hx hb dL_act_321 (by decide) ?_
          refine x_Si (As := [.int (x >>> (4 &&& 31)), .int 9]) (rest0 := [.int 1, .int (nI d9)]) ⟨hx, hb, hml, hown, hts⟩ (c_L_below l D (tyB cA ++ tr) (wB cA ad u1 ++ (wPg cA ad pd π ++ (wB cA bd ρ ++ ((tp, .inr (8, tpF ad bd)) :: rest)))) _ (x >>> (4 &&& 31)) 9 (by decide)) (va_cwS 2 hts gl_act_L_below rfl rfl rfl (by decide +kernel) ⟨Nat.le_of_ble_eq_true rfl, Nat.le_of_ble_eq_true rfl⟩) hK hP hD hS hA hl.1 rfl rfl (Nat.le_of_ble_eq_true rfl) ⟨Nat.le_of_ble_eq_true rfl, Nat.le_of_ble_eq_true rfl⟩ dL_act_323 (fun r _ H locs hw hP hD hS => ?_)
          obtain rfl : r = nI y54 := hw.trans ey54
          refine lv_iadd hx hb dL_act_326 ?_
          refine W.eq (g2 := F0 m 327 ls [.int (nI (1 + y54)), .int (nI d9)]) (by rw [show (1 : Int32) + (nI y54) = (nI (1 + y54)) from nI_add 1 y54]) ?_
          refine lv_icmp_eq (tgt := 338) hx hb dL_act_327 (by decide) (fun c_327_57 => ?_) (fun c_327_57 => ?_)
          · skip
            refine lv_iconst (v := 1) hx hb dL_act_338 (by decide) ?_
            refine lv_goto (tgt := 343) hx hb dL_act_339 (by decide) ?_
            exact vx_ret (x_zret hx hb hr rfl hlocks hK u1 hP hD hS dL_act_343 ⟨rfl, ⟨T1, S1, t, U + 100 * (1 + y54), st1, by omega, by omega, by omega, by omega, a2, a3, a4, a5, a6⟩⟩)
          · exact absurd ((nI_eq (a := d9) (b := 1 + y54) (by omega) (by omega)).mpr (by omega)) c_327_57
        · skip
          refine lv_iload hx hb dL_act_315 (lv_at hl 0 rfl) ?_
          refine lv_iconst (v := 1) hx hb dL_act_317 (by decide) ?_
          refine lv_iload_n hx hb dL_act_318 rfl (lv_at hl 4 rfl) ?_
          refine lv_iconst (v := 4) hx hb dL_act_319 (by decide) ?_
          refine lv_ishr hx hb dL_act_320 ?_
          refine lv_bipush (v := 9) hx hb dL_act_321 (by decide) ?_
          refine x_Si (As := [.int (x >>> (4 &&& 31)), .int 9]) (rest0 := [.int 1, .int (nI d9)]) ⟨hx, hb, hml, hown, hts⟩ (c_L_below l D (tyB cA ++ tr) (wB cA ad u1 ++ (wPg cA ad pd π ++ (wB cA bd ρ ++ ((tp, .inr (8, tpF ad bd)) :: rest)))) _ (x >>> (4 &&& 31)) 9 (by decide)) (va_cwS 2 hts gl_act_L_below rfl rfl rfl (by decide +kernel) ⟨Nat.le_of_ble_eq_true rfl, Nat.le_of_ble_eq_true rfl⟩) hK hP hD hS hA hl.1 rfl rfl (Nat.le_of_ble_eq_true rfl) ⟨Nat.le_of_ble_eq_true rfl, Nat.le_of_ble_eq_true rfl⟩ dL_act_323 (fun r _ H locs hw hP hD hS => ?_)
          obtain rfl : r = nI y54 := hw.trans ey54
          refine lv_iadd hx hb dL_act_326 ?_
          refine W.eq (g2 := F0 m 327 ls [.int (nI (1 + y54)), .int (nI d9)]) (by rw [show (1 : Int32) + (nI y54) = (nI (1 + y54)) from nI_add 1 y54]) ?_
          refine lv_icmp_eq (tgt := 338) hx hb dL_act_327 (by decide) (fun c_327_58 => ?_) (fun c_327_58 => ?_)
          · skip
            refine lv_iconst (v := 1) hx hb dL_act_338 (by decide) ?_
            refine lv_goto (tgt := 343) hx hb dL_act_339 (by decide) ?_
            exact vx_ret (x_zret hx hb hr rfl hlocks hK u1 hP hD hS dL_act_343 ⟨rfl, ⟨T1, S1, t, U + 100 * (1 + y54), st1, by omega, by omega, by omega, by omega, a2, a3, a4, a5, a6⟩⟩)
          · skip
            refine lv_aload_n hx hb dL_act_330 rfl (lv_at hl 3 rfl) ?_
            refine lv_iconst (v := 2) hx hb dL_act_331 (by decide) ?_
            refine x_Vi (As := [.int 2]) (rest0 := []) ⟨hx, hb, hml, hown, hts⟩ (c_X8_many l D cA ad tr rest H.size u1 pd π bd tp ρ h102 2 (by decide) (by decide)) (cwV 1 hts gl_act_X8_many rfl rfl rfl (by decide +kernel) ⟨Nat.le_of_ble_eq_true rfl, Nat.le_of_ble_eq_true rfl⟩) hK hP hD hS hA 209 w_tp rfl hl.1 rfl rfl (Nat.le_of_ble_eq_true rfl) ⟨Nat.le_of_ble_eq_true rfl, Nat.le_of_ble_eq_true rfl⟩ dL_act_332 (fun r _ H locs hw hP hD hS => ?_)
            obtain rfl : r = 0 := hw.trans b9
            refine lv_if_ne (tgt := 342) hx hb dL_act_335 (by decide) (fun c_335_59 => ?_) (fun c_335_59 => ?_)
            · exact absurd c_335_59 (by decide)
            · skip
              refine lv_iconst (v := 1) hx hb dL_act_338 (by decide) ?_
              refine lv_goto (tgt := 343) hx hb dL_act_339 (by decide) ?_
              exact vx_ret (x_zret hx hb hr rfl hlocks hK u1 hP hD hS dL_act_343 ⟨rfl, ⟨T1, S1, t, U + 100 * (1 + y54), st1, by omega, by omega, by omega, by omega, a2, a3, a4, a5, a6⟩⟩)
  · skip
    refine lv_tableOut (tgt := 262) hx hb dL_act_12 (Or.inr (by decide)) (by decide) ?_
    refine lv_aload_n hx hb dL_act_262 rfl (lv_at hl 1 rfl) ?_
    refine lv_bipush (v := 11) hx hb dL_act_263 (by decide) ?_
    refine x_Vi (As := [.int 11]) (rest0 := []) ⟨hx, hb, hml, hown, hts⟩ (c_X8_many l D cA ad tr rest H.size τ pd π bd tp ρ h102 11 (by decide) (by decide)) (cwV 1 hts gl_act_X8_many rfl rfl rfl (by decide +kernel) ⟨Nat.le_of_ble_eq_true rfl, Nat.le_of_ble_eq_true rfl⟩) hK hP hD hS hA 209 w_tp rfl hl.1 rfl rfl (Nat.le_of_ble_eq_true rfl) ⟨Nat.le_of_ble_eq_true rfl, Nat.le_of_ble_eq_true rfl⟩ dL_act_265 (fun r _ H locs hw hP hD hS => ?_)
    obtain rfl : r = (m_howMany τ π 11) := hw.trans rfl
    refine lv_topi (fun x60 ex60 => ?_)
    refine lv_istore (lv' := [(9, .int x60), (2, .int (nI T)), (0, .ref tp), (1, .int x)]) hx hb dL_act_268 hl (by decide) rfl (fun ls hl => ?_)
    refine lv_aload_n hx hb dL_act_270 rfl (lv_at hl 2 rfl) ?_
    refine lv_iconst (v := 1) hx hb dL_act_271 (by decide) ?_
    refine lv_iload_n hx hb dL_act_272 rfl (lv_at hl 3 rfl) ?_
    refine lv_iconst (v := 4) hx hb dL_act_273 (by decide) ?_
    refine lv_ishr hx hb dL_act_274 ?_
    refine lv_bipush (v := 9) hx hb dL_act_275 (by decide) ?_
    refine x_Si (As := [.int (x >>> (4 &&& 31)), .int 9]) (rest0 := [.int 1, .ref tp]) ⟨hx, hb, hml, hown, hts⟩ (c_L_below l D (tyB cA ++ tr) (wB cA ad τ ++ (wPg cA ad pd π ++ (wB cA bd ρ ++ ((tp, .inr (8, tpF ad bd)) :: rest)))) _ (x >>> (4 &&& 31)) 9 (by decide)) (va_cwS 2 hts gl_act_L_below rfl rfl rfl (by decide +kernel) ⟨Nat.le_of_ble_eq_true rfl, Nat.le_of_ble_eq_true rfl⟩) hK hP hD hS hA hl.1 rfl rfl (Nat.le_of_ble_eq_true rfl) ⟨Nat.le_of_ble_eq_true rfl, Nat.le_of_ble_eq_true rfl⟩ dL_act_277 (fun r _ H locs hw hP hD hS => ?_)
    obtain ⟨y61, hy61, ey61⟩ := below_nI (x >>> (4 &&& 31)) (k := 9) (by omega) (by omega)
    obtain rfl : r = nI y61 := hw.trans ey61
    refine lv_iadd hx hb dL_act_280 ?_
    refine W.eq (g2 := F0 m 281 ls [.int (nI (1 + y61)), .ref tp]) (by rw [show (1 : Int32) + (nI y61) = (nI (1 + y61)) from nI_add 1 y61]) ?_
    obtain ⟨T1, S1, st1, d9, a1, b1, a2, a3, a4, a5, a6, a7, a8, a9, b9⟩ := act_run (n := 1 + y61) hIP hPB (by omega) h hTB hFL
    refine x_Vi (As := [.int (nI (1 + y61))]) (rest0 := []) ⟨hx, hb, hml, hown, hts⟩ (c_X8_run l D cA ad tr rest _ τ pd π bd tp ρ h102 (1 + y61) (fun z => absurd ((nI_ltI (b := 1) (by omega) (by decide)).mp z) (by omega)) ((nI_leI (b := 50) (by omega) (by decide)).mpr (by omega)) (by omega)) (cwV 1 hts gl_act_X8_run rfl rfl rfl (by decide +kernel) ⟨Nat.le_of_ble_eq_true rfl, Nat.le_of_ble_eq_true rfl⟩) hK hP hD hS hA 209 w_tp rfl hl.1 rfl rfl (Nat.le_of_ble_eq_true rfl) ⟨Nat.le_of_ble_eq_true rfl, Nat.le_of_ble_eq_true rfl⟩ dL_act_281 (fun r u1 H locs hw hP hD hS => ?_)
    obtain ⟨er, eu⟩ := hw
    rw [a7] at er
    subst er
    rw [← eu] at a2 a3 a4 a5 a6 a9 b9
    refine lv_istore (lv' := [(10, .int (nI d9)), (9, .int x60), (2, .int (nI T)), (0, .ref tp), (1, .int x)]) hx hb dL_act_284 hl (by decide) rfl (fun ls hl => ?_)
    refine lv_aload_n hx hb dL_act_286 rfl (lv_at hl 3 rfl) ?_
    refine lv_bipush (v := 11) hx hb dL_act_287 (by decide) ?_
    refine x_Vi (As := [.int 11]) (rest0 := []) ⟨hx, hb, hml, hown, hts⟩ (c_X8_many l D cA ad tr rest H.size u1 pd π bd tp ρ h102 11 (by decide) (by decide)) (cwV 1 hts gl_act_X8_many rfl rfl rfl (by decide +kernel) ⟨Nat.le_of_ble_eq_true rfl, Nat.le_of_ble_eq_true rfl⟩) hK hP hD hS hA 209 w_tp rfl hl.1 rfl rfl (Nat.le_of_ble_eq_true rfl) ⟨Nat.le_of_ble_eq_true rfl, Nat.le_of_ble_eq_true rfl⟩ dL_act_289 (fun r _ H locs hw hP hD hS => ?_)
    obtain rfl : r = (m_howMany τ π 11 + nI d9) := hw.trans a9
    refine lv_iload hx hb dL_act_292 (lv_at hl 1 rfl) ?_
    refine lv_iload hx hb dL_act_294 (lv_at hl 0 rfl) ?_
    refine lv_iadd hx hb dL_act_296 ?_
    refine lv_icmp_ne (tgt := 342) hx hb dL_act_297 (by decide) (fun c_297_62 => ?_) (fun c_297_62 => ?_)
    · exact absurd (by rw [ex60]) c_297_62
    · skip
      refine lv_iload hx hb dL_act_300 (lv_at hl 0 rfl) ?_
      refine lv_iconst (v := 1) hx hb dL_act_302 (by decide) ?_
      refine lv_iload_n hx hb dL_act_303 rfl (lv_at hl 4 rfl) ?_
      refine lv_iconst (v := 4) hx hb dL_act_304 (by decide) ?_
      refine lv_ishr hx hb dL_act_305 ?_
      refine lv_bipush (v := 9) hx hb dL_act_306 (by decide) ?_
      refine x_Si (As := [.int (x >>> (4 &&& 31)), .int 9]) (rest0 := [.int 1, .int (nI d9)]) ⟨hx, hb, hml, hown, hts⟩ (c_L_below l D (tyB cA ++ tr) (wB cA ad u1 ++ (wPg cA ad pd π ++ (wB cA bd ρ ++ ((tp, .inr (8, tpF ad bd)) :: rest)))) _ (x >>> (4 &&& 31)) 9 (by decide)) (va_cwS 2 hts gl_act_L_below rfl rfl rfl (by decide +kernel) ⟨Nat.le_of_ble_eq_true rfl, Nat.le_of_ble_eq_true rfl⟩) hK hP hD hS hA hl.1 rfl rfl (Nat.le_of_ble_eq_true rfl) ⟨Nat.le_of_ble_eq_true rfl, Nat.le_of_ble_eq_true rfl⟩ dL_act_308 (fun r _ H locs hw hP hD hS => ?_)
      obtain rfl : r = nI y61 := hw.trans ey61
      refine lv_iadd hx hb dL_act_311 ?_
      refine W.eq (g2 := F0 m 312 ls [.int (nI (1 + y61)), .int (nI d9)]) (by rw [show (1 : Int32) + (nI y61) = (nI (1 + y61)) from nI_add 1 y61]) ?_
      refine lv_icmp_gt (tgt := 342) hx hb dL_act_312 (by decide) (fun c_312_63 => ?_) (fun c_312_63 => ?_)
      · exact absurd ((nI_ltI (a := 1 + y61) (b := d9) (by omega) (by omega)).mp c_312_63) (by omega)
      · skip
        rcases b9 with b9 | b9
        · skip
          refine lv_iload hx hb dL_act_315 (lv_at hl 0 rfl) ?_
          refine lv_iconst (v := 1) hx hb dL_act_317 (by decide) ?_
          refine lv_iload_n hx hb dL_act_318 rfl (lv_at hl 4 rfl) ?_
          refine lv_iconst (v := 4) hx hb dL_act_319 (by decide) ?_
          refine lv_ishr hx hb dL_act_320 ?_
          refine lv_bipush (v := 9) hx hb dL_act_321 (by decide) ?_
          refine x_Si (As := [.int (x >>> (4 &&& 31)), .int 9]) (rest0 := [.int 1, .int (nI d9)]) ⟨hx, hb, hml, hown, hts⟩ (c_L_below l D (tyB cA ++ tr) (wB cA ad u1 ++ (wPg cA ad pd π ++ (wB cA bd ρ ++ ((tp, .inr (8, tpF ad bd)) :: rest)))) _ (x >>> (4 &&& 31)) 9 (by decide)) (va_cwS 2 hts gl_act_L_below rfl rfl rfl (by decide +kernel) ⟨Nat.le_of_ble_eq_true rfl, Nat.le_of_ble_eq_true rfl⟩) hK hP hD hS hA hl.1 rfl rfl (Nat.le_of_ble_eq_true rfl) ⟨Nat.le_of_ble_eq_true rfl, Nat.le_of_ble_eq_true rfl⟩ dL_act_323 (fun r _ H locs hw hP hD hS => ?_)
          obtain rfl : r = nI y61 := hw.trans ey61
          refine lv_iadd hx hb dL_act_326 ?_
          refine W.eq (g2 := F0 m 327 ls [.int (nI (1 + y61)), .int (nI d9)]) (by rw [show (1 : Int32) + (nI y61) = (nI (1 + y61)) from nI_add 1 y61]) ?_
          refine lv_icmp_eq (tgt := 338) hx hb dL_act_327 (by decide) (fun c_327_64 => ?_) (fun c_327_64 => ?_)
          · skip
            refine lv_iconst (v := 1) hx hb dL_act_338 (by decide) ?_
            refine lv_goto (tgt := 343) hx hb dL_act_339 (by decide) ?_
            exact vx_ret (x_zret hx hb hr rfl hlocks hK u1 hP hD hS dL_act_343 ⟨rfl, ⟨T1, S1, t, U + 100 * (1 + y61), st1, by omega, by omega, by omega, by omega, a2, a3, a4, a5, a6⟩⟩)
          · exact absurd ((nI_eq (a := d9) (b := 1 + y61) (by omega) (by omega)).mpr (by omega)) c_327_64
        · skip
          refine lv_iload hx hb dL_act_315 (lv_at hl 0 rfl) ?_
          refine lv_iconst (v := 1) hx hb dL_act_317 (by decide) ?_
          refine lv_iload_n hx hb dL_act_318 rfl (lv_at hl 4 rfl) ?_
          refine lv_iconst (v := 4) hx hb dL_act_319 (by decide) ?_
          refine lv_ishr hx hb dL_act_320 ?_
          refine lv_bipush (v := 9) hx hb dL_act_321 (by decide) ?_
          refine x_Si (As := [.int (x >>> (4 &&& 31)), .int 9]) (rest0 := [.int 1, .int (nI d9)]) ⟨hx, hb, hml, hown, hts⟩ (c_L_below l D (tyB cA ++ tr) (wB cA ad u1 ++ (wPg cA ad pd π ++ (wB cA bd ρ ++ ((tp, .inr (8, tpF ad bd)) :: rest)))) _ (x >>> (4 &&& 31)) 9 (by decide)) (va_cwS 2 hts gl_act_L_below rfl rfl rfl (by decide +kernel) ⟨Nat.le_of_ble_eq_true rfl, Nat.le_of_ble_eq_true rfl⟩) hK hP hD hS hA hl.1 rfl rfl (Nat.le_of_ble_eq_true rfl) ⟨Nat.le_of_ble_eq_true rfl, Nat.le_of_ble_eq_true rfl⟩ dL_act_323 (fun r _ H locs hw hP hD hS => ?_)
          obtain rfl : r = nI y61 := hw.trans ey61
          refine lv_iadd hx hb dL_act_326 ?_
          refine W.eq (g2 := F0 m 327 ls [.int (nI (1 + y61)), .int (nI d9)]) (by rw [show (1 : Int32) + (nI y61) = (nI (1 + y61)) from nI_add 1 y61]) ?_
          refine lv_icmp_eq (tgt := 338) hx hb dL_act_327 (by decide) (fun c_327_65 => ?_) (fun c_327_65 => ?_)
          · skip
            refine lv_iconst (v := 1) hx hb dL_act_338 (by decide) ?_
            refine lv_goto (tgt := 343) hx hb dL_act_339 (by decide) ?_
            exact vx_ret (x_zret hx hb hr rfl hlocks hK u1 hP hD hS dL_act_343 ⟨rfl, ⟨T1, S1, t, U + 100 * (1 + y61), st1, by omega, by omega, by omega, by omega, a2, a3, a4, a5, a6⟩⟩)
          · skip
            refine lv_aload_n hx hb dL_act_330 rfl (lv_at hl 3 rfl) ?_
            refine lv_iconst (v := 2) hx hb dL_act_331 (by decide) ?_
            refine x_Vi (As := [.int 2]) (rest0 := []) ⟨hx, hb, hml, hown, hts⟩ (c_X8_many l D cA ad tr rest H.size u1 pd π bd tp ρ h102 2 (by decide) (by decide)) (cwV 1 hts gl_act_X8_many rfl rfl rfl (by decide +kernel) ⟨Nat.le_of_ble_eq_true rfl, Nat.le_of_ble_eq_true rfl⟩) hK hP hD hS hA 209 w_tp rfl hl.1 rfl rfl (Nat.le_of_ble_eq_true rfl) ⟨Nat.le_of_ble_eq_true rfl, Nat.le_of_ble_eq_true rfl⟩ dL_act_332 (fun r _ H locs hw hP hD hS => ?_)
            obtain rfl : r = 0 := hw.trans b9
            refine lv_if_ne (tgt := 342) hx hb dL_act_335 (by decide) (fun c_335_66 => ?_) (fun c_335_66 => ?_)
            · exact absurd c_335_66 (by decide)
            · skip
              refine lv_iconst (v := 1) hx hb dL_act_338 (by decide) ?_
              refine lv_goto (tgt := 343) hx hb dL_act_339 (by decide) ?_
              exact vx_ret (x_zret hx hb hr rfl hlocks hK u1 hP hD hS dL_act_343 ⟨rfl, ⟨T1, S1, t, U + 100 * (1 + y61), st1, by omega, by omega, by omega, by omega, a2, a3, a4, a5, a6⟩⟩)
