/-! the law's Own: isDrawn -/
theorem fits_mk {k a w n : Int32} (k0 : ¬ k < 0) (k1 : k ≤ 18) (a0 : ¬ a < m_lowA k) (a1 : ¬ m_highA k < a) (b0 : ¬ w < m_lowB k n) (b1 : ¬ m_highB k n < w) : m_fits k a w n = true := by
  unfold m_fits
  rw [if_neg k0, if_pos k1, if_neg a0, if_neg a1, if_neg b0, if_neg b1]
theorem min_nI {a b : Nat} (ha : a < 2 ^ 31) (hb : b < 2 ^ 31) : (if nI a < nI b then nI a else nI b) = nI (min a b) := by
  by_cases c : a < b
  · rw [if_pos ((nI_ltI ha hb).mpr c), Nat.min_eq_left (by omega)]
  · rw [if_neg (fun z => c ((nI_ltI ha hb).mp z)), Nat.min_eq_right (by omega)]
theorem sub_toI {a b : Nat} (ha : a < 2 ^ 31) (hb : b < 2 ^ 31) : (nI a - nI b).toInt = (a : Int) - b := by
  rw [Int32.toInt_sub, nI_toI ha, nI_toI hb, Int.bmod_eq_of_le (by omega) (by omega)]
theorem max0_sub {n j : Nat} (hn : n < 2 ^ 31) (hj : j < 2 ^ 31) : (if (0 : Int32) < nI n - nI j then nI n - nI j else 0) = nI (n - j) := by
  have e : (0 : Int32) < nI n - nI j ↔ j < n := by
    rw [Int32.lt_iff_toInt_lt, sub_toI hn hj, show (0 : Int32).toInt = 0 from rfl]; omega
  by_cases c : j < n
  · rw [if_pos (e.mpr c)]
    apply Int32.toInt_inj.1
    rw [sub_toI hn hj, nI_toI (by omega)]; omega
  · rw [if_neg (fun z => c (e.mp z)), show n - j = 0 by omega]; rfl
theorem sub8 {j : Nat} (hj : j < 21) : ¬ nI j - 8 < -99 ∧ ¬ 99 < nI j - 8 := by
  have e : (nI j - 8).toInt = (j : Int) - 8 := sub_toI (b := 8) (by omega) (by decide)
  rw [Int32.lt_iff_toInt_lt, Int32.lt_iff_toInt_lt, e, show (-99 : Int32).toInt = -99 from rfl, show (99 : Int32).toInt = 99 from rfl]; omega
set_option maxHeartbeats 4000000 in
set_option maxRecDepth 100000 in
theorem c_X9_isDrawn (l : Launch) (D : va_G) (cA : Nat → ClassId) (ad : Nat → Nat) (tr : List (ClassId × FieldType)) (R : va_W) (sz : Nat) (τ : Sg) (pd : Nat → Nat) (π : Sg) (bd : Nat → Nat) (tp : Nat) (ρ : Sg) (h102 : bd 102 = ad 102) (c2 c3 : ClassId) (oq la sq : Nat) (lb : Nat → Nat) (kc : Nat × va_E) (B : Nat) (j2 j3 : Nat) (ht2 : tr[j2]? = some (c2, .array .int)) (ht3 : tr[j3]? = some (c3, .array (.array .int))) (hO : OI (cA 0) c2 c3 oq la sq lb kc π B R) (qk b : Nat) (x : Int32) (kf : Nat → Int32) (ekc : kc = (qk, .inl (cA 0, 26, .inl kf))) (hkf : ∀ i, i < 26 → ∃ kd, kd ≤ 18 ∧ kf i = nI kd) (hbB : b < B) (hUs : m_isUsed τ (nI b) = false) : Met l yX9_isDrawn wl_isDrawn ({ frames := 5, cells := 1, slots := 3, locals := 116 }) (va_Pc [.ref oq, .ref tp, .int (nI b), .int x, .ref qk] (fun U => inW D (tyB cA ++ tr) (wB cA ad τ ++ (wPg cA ad pd π ++ (wB cA bd ρ ++ ((tp, .inr (8, tpF ad bd)) :: R)))) sz U ∧ AE c2 (cA 0) U ∧ va_Nw (.methodLinkNest RX9 32 yL_below RL) U)) (va_Qi (fun (r : Int32) (u : va_W × Sg) => r = 1 ∧ OI (cA 0) c2 c3 oq la sq lb kc u.2 B u.1) (fun u : va_W × Sg => outW D (tyB cA ++ tr) (va_A (wB cA ad τ ++ (wPg cA ad pd π ++ (wB cA bd ρ ++ ((tp, .inr (8, tpF ad bd)) :: R)))) sz) (wB cA ad τ ++ (wPg cA ad pd u.2 ++ (wB cA bd ρ ++ ((tp, .inr (8, tpF ad bd)) :: u.1))))) (va_A (wB cA ad τ ++ (wPg cA ad pd π ++ (wB cA bd ρ ++ ((tp, .inr (8, tpF ad bd)) :: R)))) sz)) 1 3 (va_A (wB cA ad τ ++ (wPg cA ad pd π ++ (wB cA bd ρ ++ ((tp, .inr (8, tpF ad bd)) :: R)))) sz) := by
  refine Met.ofW (cc := cX9_isDrawn) (maxL := 8) (ret := (some .boolean)) (by decide) rfl ?_
  intro p e s m args below meth c s₁ B9 hml hv
  obtain ⟨rfl, ⟨hsz, hP, hK, hD0⟩, hE⟩ := hv
  have hx := B9.exec
  have hb := B9.bytes
  have hr := B9.returns
  have hts := atoms_spec (ws := wl_isDrawn) B9.pre
  have hown : s.vm.findClass RX9 = some m.cls := findClass_of_methodNamed B9.named
  have hlocks := B9.notSynchronized
  subst hsz
  have hD := hD0.self (sz := s.heap.size)
  clear hD0
  generalize hAe : va_A (wB cA ad τ ++ (wPg cA ad pd π ++ (wB cA bd ρ ++ ((tp, .inr (8, tpF ad bd)) :: R)))) s.heap.size = A at hD ⊢
  have hA : ∀ q : Nat, s.heap.size ≤ q → A q := fun q h => by rw [← hAe]; exact Or.inr h
  clear hAe
  have hS : va_S A s.heap s.heap [] := va_S.rf
  have hP : va_P D vwCl (wB cA ad τ ++ (wPg cA ad pd π ++ (wB cA bd ρ ++ ((tp, .inr (8, tpF ad bd)) :: R)))) s.heap := hP
  have hl := lv_entry ([.ref oq, .ref tp, .int (nI b), .int x, .ref qk]) (n := 8) (Nat.le_of_ble_eq_true rfl)
  rw [lg_entry_eq]
  generalize (lg_sl ([.ref oq, .ref tp, .int (nI b), .int x, .ref qk]) ++ List.replicate (8 - (lg_sl ([.ref oq, .ref tp, .int (nI b), .int x, .ref qk])).length) Slot.unset).toArray = ls at hl ⊢
  have hl : lv_has ls 8 [(0, .ref oq), (1, .ref tp), (2, .int (nI b)), (3, .int x), (4, .ref qk)] := hl
  obtain ⟨LA, z, r2, hR, hIP, hz, h0z, hLn, hPB⟩ := id hO
  have hb8 : b < 8 := by have := hIP.2.1; omega
  have hkc : R[11]? = some kc := by rw [hR]; rfl
  rw [ekc] at hkc
  obtain ⟨n, hn12, h1⟩ := hIP.2.2.1 b hb8
  have hnb : n < 2 ^ 31 := by omega
  have hNb := hE.2
  have hini := hts (.initialized RL) (by decide +kernel)
  have hstat := hts (.static yL_below) (by decide +kernel)
  have k14 := hts (.fieldLink RX9 14 "ScopeRowLaw$Own" "size" "[I") (by decide +kernel)
  refine lv_aload hx hb dX9_isDrawn_0 (lv_at hl 4 rfl) ?_
  refine lv_iload_n hx hb dX9_isDrawn_2 rfl (lv_at hl 3 rfl) ?_
  refine lv_aload hx hb dX9_isDrawn_3 (lv_at hl 4 rfl) ?_
  refine va_alen hx hb hK hP (11 + 210) 0 (by rw [wL_at]; exact hkc) rfl (v := 26) rfl dX9_isDrawn_5 ?_
  refine x_SiM (host := RL) (As := [.int x, .int 26]) (rest0 := [.ref qk]) ⟨hx, hb, hml, hown, hts⟩ (c_L_below l D (tyB cA ++ tr) (wB cA ad τ ++ (wPg cA ad pd π ++ (wB cA bd ρ ++ ((tp, .inr (8, tpF ad bd)) :: R)))) _ x 26 (by decide)) ⟨va_cnB 2 hts gl_isDrawn_L_below rfl rfl rfl hNb hini ⟨by decide, by decide, by decide +kernel⟩ ⟨Nat.le_of_ble_eq_true rfl, Nat.le_of_ble_eq_true rfl⟩, hstat, trivial⟩ hK hP hD hS hA hl.1 rfl rfl (Nat.le_of_ble_eq_true rfl) ⟨Nat.le_of_ble_eq_true rfl, Nat.le_of_ble_eq_true rfl⟩ dX9_isDrawn_6 (fun r _ H locs hw hP hD hS => ?_)
  obtain ⟨y1, hy1, ey1⟩ := below_nI x (k := 26) (by omega) (by omega)
  obtain rfl : r = nI y1 := hw.trans ey1
  refine va_iald hx hb hK hP (11 + 210) 0 (by rw [wL_at]; exact hkc) rfl (vp_in_nI hy1 (by decide)) dX9_isDrawn_9 ?_
  obtain ⟨kd, hkd, ekd⟩ := hkf y1 hy1
  refine W.eq (g2 := F0 m 10 ls [.int (nI kd)]) (by rw [nI_clamp (show y1 < 2 ^ 31 by omega), ekd]) ?_
  refine lv_istore (lv' := [(5, .int (nI kd)), (0, .ref oq), (1, .ref tp), (2, .int (nI b)), (3, .int x), (4, .ref qk)]) hx hb dX9_isDrawn_10 hl (by decide) rfl (fun ls hl => ?_)
  refine lv_aload_n hx hb dX9_isDrawn_12 rfl (lv_at hl 1 rfl) ?_
  refine va_get (D := D) (C := RX9) (T := TX9) (N := 3) (ci := 9) (v := .ref sq) hx hb hts nl_isDrawn_X9 hown hK hP (0 + 210) (by rw [wL_at]; exact own0 hR) rfl 1 (by decide) k14 (fun _ h9 => h9) rfl dX9_isDrawn_13 ?_
  refine lv_iload_n hx hb dX9_isDrawn_16 rfl (lv_at hl 3 rfl) ?_
  refine va_iald hx hb hK hP (10 + 210) 0 (by rw [wL_at]; exact ownS hR) rfl (vp_in_nI hb8 (by decide)) dX9_isDrawn_17 ?_
  refine W.eq (g2 := F0 m 18 ls [.int (nI n)]) (by rw [nI_clamp (show b < 2 ^ 31 by omega), hz b hb8, h1]) ?_
  refine lv_istore (lv' := [(6, .int (nI n)), (5, .int (nI kd)), (0, .ref oq), (1, .ref tp), (2, .int (nI b)), (3, .int x), (4, .ref qk)]) hx hb dX9_isDrawn_18 hl (by decide) rfl (fun ls hl => ?_)
  refine lv_iload hx hb dX9_isDrawn_20 (lv_at hl 0 rfl) ?_
  refine lv_bipush (v := 12) hx hb dX9_isDrawn_22 (by decide) ?_
  refine lv_icmp_ne (tgt := 29) hx hb dX9_isDrawn_24 (by decide) (fun c_24_2 => ?_) (fun c_24_2 => ?_)
  · skip
    have hn13 : n ≠ 12 := fun z => c_24_2 (by rw [z]; rfl)
    have hn12 : n < 12 := by omega
    refine lv_bipush (v := 12) hx hb dX9_isDrawn_29 (by decide) ?_
    refine lv_iload hx hb dX9_isDrawn_31 (lv_at hl 0 rfl) ?_
    refine lv_iconst (v := 1) hx hb dX9_isDrawn_33 (by decide) ?_
    refine lv_iadd hx hb dX9_isDrawn_34 ?_
    refine W.eq (g2 := F0 m 35 ls [.int (nI (n + 1)), .int 12]) (by rw [show ((nI n) : Int32) + 1 = (nI (n + 1)) from nI_add n 1]) ?_
    refine lv_iload_n hx hb dX9_isDrawn_35 rfl (lv_at hl 5 rfl) ?_
    refine lv_bipush (v := 6) hx hb dX9_isDrawn_36 (by decide) ?_
    refine lv_ishr hx hb dX9_isDrawn_38 ?_
    refine lv_iconst (v := 5) hx hb dX9_isDrawn_39 (by decide) ?_
    refine x_SiM (host := RL) (As := [.int (x >>> (6 &&& 31)), .int 5]) (rest0 := [.int (nI (n + 1)), .int 12]) ⟨hx, hb, hml, hown, hts⟩ (c_L_below l D (tyB cA ++ tr) (wB cA ad τ ++ (wPg cA ad pd π ++ (wB cA bd ρ ++ ((tp, .inr (8, tpF ad bd)) :: R)))) _ (x >>> (6 &&& 31)) 5 (by decide)) ⟨va_cnB 2 hts gl_isDrawn_L_below rfl rfl rfl hNb hini ⟨by decide, by decide, by decide +kernel⟩ ⟨Nat.le_of_ble_eq_true rfl, Nat.le_of_ble_eq_true rfl⟩, hstat, trivial⟩ hK hP hD hS hA hl.1 rfl rfl (Nat.le_of_ble_eq_true rfl) ⟨Nat.le_of_ble_eq_true rfl, Nat.le_of_ble_eq_true rfl⟩ dX9_isDrawn_40 (fun r _ H locs hw hP hD hS => ?_)
    obtain ⟨y3, hy3, ey3⟩ := below_nI (x >>> (6 &&& 31)) (k := 5) (by omega) (by omega)
    obtain rfl : r = nI y3 := hw.trans ey3
    refine lv_iadd hx hb dX9_isDrawn_43 ?_
    refine W.eq (g2 := F0 m 44 ls [.int (nI ((n + 1) + y3)), .int 12]) (by rw [show ((nI (n + 1)) : Int32) + (nI y3) = (nI ((n + 1) + y3)) from nI_add (n + 1) y3]) ?_
    obtain ⟨bh, ebh, hbh1, hbh2⟩ : ∃ z, min (n + 1 + y3) 12 = z ∧ n + 1 ≤ z ∧ z ≤ 12 := ⟨_, rfl, by omega, by omega⟩
    refine va_mmin (rest := []) hx hb (hml.trans hl.1.symm) hown (hts (.methodLink RX9 38 Lib.Math.min.name) (by decide +kernel)) (hts (.static Lib.Math.min.name) (by decide +kernel)) (hts (.initialized "java/lang/Math") (by decide +kernel)) (hts (.code Lib.Math.min.name Lib.Math.min.code 2 (some .int)) (by decide +kernel)) (Nat.le_of_ble_eq_true rfl) (Nat.le_of_ble_eq_true rfl) (Nat.le_of_ble_eq_true rfl) (Nat.le_of_ble_eq_true rfl) dX9_isDrawn_44 ?_
    refine W.eq (g2 := F0 m 47 ls [.int (nI bh)]) (by rw [show (if (nI ((n + 1) + y3)) < 12 then (nI ((n + 1) + y3)) else 12) = (nI bh) from (min_nI (a := n + 1 + y3) (b := 12) (by omega) (by decide)).trans (congrArg nI ebh)]) ?_
    refine lv_istore (lv' := [(7, .int (nI bh)), (6, .int (nI n)), (5, .int (nI kd)), (0, .ref oq), (1, .ref tp), (2, .int (nI b)), (3, .int x), (4, .ref qk)]) hx hb dX9_isDrawn_47 hl (by decide) rfl (fun ls hl => ?_)
    refine lv_iload hx hb dX9_isDrawn_49 (lv_at hl 2 rfl) ?_
    rcases (show kd = 0 ∨ kd = 1 ∨ kd = 2 ∨ kd = 3 ∨ kd = 4 ∨ kd = 5 ∨ kd = 6 ∨ kd = 7 ∨ kd = 8 ∨ kd = 9 ∨ kd = 10 ∨ kd = 11 ∨ kd = 12 ∨ kd = 13 ∨ kd = 14 ∨ kd = 15 ∨ kd = 16 ∨ kd = 17 ∨ kd = 18 by omega) with e9 | e9 | e9 | e9 | e9 | e9 | e9 | e9 | e9 | e9 | e9 | e9 | e9 | e9 | e9 | e9 | e9 | e9 | e9 <;> subst e9
    · skip
      refine lv_tableIn (off := 85) (tgt := 136) hx hb dX9_isDrawn_51 (by decide) (by decide) (by decide) (by decide) ?_
      refine lv_aload_n hx hb dX9_isDrawn_136 rfl (lv_at hl 3 rfl) ?_
      refine lv_aload_n hx hb dX9_isDrawn_137 rfl (lv_at hl 4 rfl) ?_
      refine lv_iload_n hx hb dX9_isDrawn_138 rfl (lv_at hl 5 rfl) ?_
      refine lv_iconst (v := 0) hx hb dX9_isDrawn_139 (by decide) ?_
      refine lv_iload_n hx hb dX9_isDrawn_140 rfl (lv_at hl 6 rfl) ?_
      refine lv_iconst (v := 4) hx hb dX9_isDrawn_141 (by decide) ?_
      refine lv_ishr hx hb dX9_isDrawn_142 ?_
      refine lv_bipush (v := 21) hx hb dX9_isDrawn_143 (by decide) ?_
      refine x_SiM (host := RL) (As := [.int (x >>> (4 &&& 31)), .int 21]) (rest0 := [.int 0, .int (nI b), .ref tp, .ref oq]) ⟨hx, hb, hml, hown, hts⟩ (c_L_below l D (tyB cA ++ tr) (wB cA ad τ ++ (wPg cA ad pd π ++ (wB cA bd ρ ++ ((tp, .inr (8, tpF ad bd)) :: R)))) _ (x >>> (4 &&& 31)) 21 (by decide)) ⟨va_cnB 2 hts gl_isDrawn_L_below rfl rfl rfl hNb hini ⟨by decide, by decide, by decide +kernel⟩ ⟨Nat.le_of_ble_eq_true rfl, Nat.le_of_ble_eq_true rfl⟩, hstat, trivial⟩ hK hP hD hS hA hl.1 rfl rfl (Nat.le_of_ble_eq_true rfl) ⟨Nat.le_of_ble_eq_true rfl, Nat.le_of_ble_eq_true rfl⟩ dX9_isDrawn_145 (fun r _ H locs hw hP hD hS => ?_)
      obtain ⟨y4, hy4, ey4⟩ := below_nI (x >>> (4 &&& 31)) (k := 21) (by omega) (by omega)
      obtain rfl : r = nI y4 := hw.trans ey4
      refine lv_bipush (v := 8) hx hb dX9_isDrawn_148 (by decide) ?_
      refine lv_isub hx hb dX9_isDrawn_150 ?_
      refine lv_iconst (v := 0) hx hb dX9_isDrawn_151 (by decide) ?_
      refine x_ViE (E := AE c2 (cA 0)) (As := [.ref tp, .int (nI b), .int 0, .int ((nI y4) - 8), .int 0]) (rest0 := []) (fun U g mk a h9 => AE.moved (u := U) (U := U.calling g mk a) (Vm.Alike.refl U.vm) h9) (fun U hU hW => AE.moved hW.alike hE.1) ⟨hx, hb, hml, hown, hts⟩ (c_X9_isLine l D cA ad tr R _ τ pd π bd tp ρ h102 c2 c3 oq la sq lb kc B j2 j3 ht2 ht3 hO b n 0 ((nI y4) - 8) 0 hbB hnb h1 (fun _ => fits_mk (by decide) (by decide) (sub8 hy4).1 (sub8 hy4).2 (show ¬ (0 : Int32) < 0 from by decide) (show ¬ (0 : Int32) < 0 from by decide)) hUs) (cwV 5 hts gl_isDrawn_X9_isLine rfl rfl rfl (by decide +kernel) ⟨Nat.le_of_ble_eq_true rfl, Nat.le_of_ble_eq_true rfl⟩) hK hP hD hS hA (0 + 210) (by rw [wL_at]; exact own0 hR) rfl hl.1 rfl rfl (Nat.le_of_ble_eq_true rfl) ⟨Nat.le_of_ble_eq_true rfl, Nat.le_of_ble_eq_true rfl⟩ dX9_isDrawn_152 (fun r u H locs hw hP hD hS => ?_)
      obtain ⟨er, hO2, -⟩ := hw
      subst er
      exact x_zret hx hb hr rfl hlocks hK u hP hD hS dX9_isDrawn_155 ⟨rfl, hO2⟩
    · skip
      refine lv_tableIn (off := 105) (tgt := 156) hx hb dX9_isDrawn_51 (by decide) (by decide) (by decide) (by decide) ?_
      refine lv_aload_n hx hb dX9_isDrawn_156 rfl (lv_at hl 3 rfl) ?_
      refine lv_aload_n hx hb dX9_isDrawn_157 rfl (lv_at hl 4 rfl) ?_
      refine lv_iload_n hx hb dX9_isDrawn_158 rfl (lv_at hl 5 rfl) ?_
      refine lv_iload hx hb dX9_isDrawn_159 (lv_at hl 2 rfl) ?_
      refine lv_iload_n hx hb dX9_isDrawn_161 rfl (lv_at hl 6 rfl) ?_
      refine lv_iconst (v := 4) hx hb dX9_isDrawn_162 (by decide) ?_
      refine lv_ishr hx hb dX9_isDrawn_163 ?_
      refine lv_iconst (v := 3) hx hb dX9_isDrawn_164 (by decide) ?_
      refine x_SiM (host := RL) (As := [.int (x >>> (4 &&& 31)), .int 3]) (rest0 := [.int 1, .int (nI b), .ref tp, .ref oq]) ⟨hx, hb, hml, hown, hts⟩ (c_L_below l D (tyB cA ++ tr) (wB cA ad τ ++ (wPg cA ad pd π ++ (wB cA bd ρ ++ ((tp, .inr (8, tpF ad bd)) :: R)))) _ (x >>> (4 &&& 31)) 3 (by decide)) ⟨va_cnB 2 hts gl_isDrawn_L_below rfl rfl rfl hNb hini ⟨by decide, by decide, by decide +kernel⟩ ⟨Nat.le_of_ble_eq_true rfl, Nat.le_of_ble_eq_true rfl⟩, hstat, trivial⟩ hK hP hD hS hA hl.1 rfl rfl (Nat.le_of_ble_eq_true rfl) ⟨Nat.le_of_ble_eq_true rfl, Nat.le_of_ble_eq_true rfl⟩ dX9_isDrawn_165 (fun r _ H locs hw hP hD hS => ?_)
      obtain ⟨y5, hy5, ey5⟩ := below_nI (x >>> (4 &&& 31)) (k := 3) (by omega) (by omega)
      obtain rfl : r = nI y5 := hw.trans ey5
      refine lv_iconst (v := 0) hx hb dX9_isDrawn_168 (by decide) ?_
      refine x_ViE (E := AE c2 (cA 0)) (As := [.ref tp, .int (nI b), .int 1, .int (nI y5), .int 0]) (rest0 := []) (fun U g mk a h9 => AE.moved (u := U) (U := U.calling g mk a) (Vm.Alike.refl U.vm) h9) (fun U hU hW => AE.moved hW.alike hE.1) ⟨hx, hb, hml, hown, hts⟩ (c_X9_isLine l D cA ad tr R _ τ pd π bd tp ρ h102 c2 c3 oq la sq lb kc B j2 j3 ht2 ht3 hO b n 1 (nI y5) 0 hbB hnb h1 (fun _ => fits_mk (by decide) (by decide) (fun z => absurd ((nI_ltI (a := y5) (b := 0) (by omega) (by decide)).mp z) (by omega)) (fun z => absurd ((nI_ltI (a := 3) (b := y5) (by decide) (by omega)).mp z) (by omega)) (show ¬ (0 : Int32) < 0 from by decide) (show ¬ (0 : Int32) < 0 from by decide)) hUs) (cwV 5 hts gl_isDrawn_X9_isLine rfl rfl rfl (by decide +kernel) ⟨Nat.le_of_ble_eq_true rfl, Nat.le_of_ble_eq_true rfl⟩) hK hP hD hS hA (0 + 210) (by rw [wL_at]; exact own0 hR) rfl hl.1 rfl rfl (Nat.le_of_ble_eq_true rfl) ⟨Nat.le_of_ble_eq_true rfl, Nat.le_of_ble_eq_true rfl⟩ dX9_isDrawn_169 (fun r u H locs hw hP hD hS => ?_)
      obtain ⟨er, hO2, -⟩ := hw
      subst er
      exact x_zret hx hb hr rfl hlocks hK u hP hD hS dX9_isDrawn_172 ⟨rfl, hO2⟩
    · skip
      refine lv_tableIn (off := 105) (tgt := 156) hx hb dX9_isDrawn_51 (by decide) (by decide) (by decide) (by decide) ?_
      refine lv_aload_n hx hb dX9_isDrawn_156 rfl (lv_at hl 3 rfl) ?_
      refine lv_aload_n hx hb dX9_isDrawn_157 rfl (lv_at hl 4 rfl) ?_
      refine lv_iload_n hx hb dX9_isDrawn_158 rfl (lv_at hl 5 rfl) ?_
      refine lv_iload hx hb dX9_isDrawn_159 (lv_at hl 2 rfl) ?_
      refine lv_iload_n hx hb dX9_isDrawn_161 rfl (lv_at hl 6 rfl) ?_
      refine lv_iconst (v := 4) hx hb dX9_isDrawn_162 (by decide) ?_
      refine lv_ishr hx hb dX9_isDrawn_163 ?_
      refine lv_iconst (v := 3) hx hb dX9_isDrawn_164 (by decide) ?_
      refine x_SiM (host := RL) (As := [.int (x >>> (4 &&& 31)), .int 3]) (rest0 := [.int 2, .int (nI b), .ref tp, .ref oq]) ⟨hx, hb, hml, hown, hts⟩ (c_L_below l D (tyB cA ++ tr) (wB cA ad τ ++ (wPg cA ad pd π ++ (wB cA bd ρ ++ ((tp, .inr (8, tpF ad bd)) :: R)))) _ (x >>> (4 &&& 31)) 3 (by decide)) ⟨va_cnB 2 hts gl_isDrawn_L_below rfl rfl rfl hNb hini ⟨by decide, by decide, by decide +kernel⟩ ⟨Nat.le_of_ble_eq_true rfl, Nat.le_of_ble_eq_true rfl⟩, hstat, trivial⟩ hK hP hD hS hA hl.1 rfl rfl (Nat.le_of_ble_eq_true rfl) ⟨Nat.le_of_ble_eq_true rfl, Nat.le_of_ble_eq_true rfl⟩ dX9_isDrawn_165 (fun r _ H locs hw hP hD hS => ?_)
      obtain ⟨y6, hy6, ey6⟩ := below_nI (x >>> (4 &&& 31)) (k := 3) (by omega) (by omega)
      obtain rfl : r = nI y6 := hw.trans ey6
      refine lv_iconst (v := 0) hx hb dX9_isDrawn_168 (by decide) ?_
      refine x_ViE (E := AE c2 (cA 0)) (As := [.ref tp, .int (nI b), .int 2, .int (nI y6), .int 0]) (rest0 := []) (fun U g mk a h9 => AE.moved (u := U) (U := U.calling g mk a) (Vm.Alike.refl U.vm) h9) (fun U hU hW => AE.moved hW.alike hE.1) ⟨hx, hb, hml, hown, hts⟩ (c_X9_isLine l D cA ad tr R _ τ pd π bd tp ρ h102 c2 c3 oq la sq lb kc B j2 j3 ht2 ht3 hO b n 2 (nI y6) 0 hbB hnb h1 (fun _ => fits_mk (by decide) (by decide) (fun z => absurd ((nI_ltI (a := y6) (b := 0) (by omega) (by decide)).mp z) (by omega)) (fun z => absurd ((nI_ltI (a := 3) (b := y6) (by decide) (by omega)).mp z) (by omega)) (show ¬ (0 : Int32) < 0 from by decide) (show ¬ (0 : Int32) < 0 from by decide)) hUs) (cwV 5 hts gl_isDrawn_X9_isLine rfl rfl rfl (by decide +kernel) ⟨Nat.le_of_ble_eq_true rfl, Nat.le_of_ble_eq_true rfl⟩) hK hP hD hS hA (0 + 210) (by rw [wL_at]; exact own0 hR) rfl hl.1 rfl rfl (Nat.le_of_ble_eq_true rfl) ⟨Nat.le_of_ble_eq_true rfl, Nat.le_of_ble_eq_true rfl⟩ dX9_isDrawn_169 (fun r u H locs hw hP hD hS => ?_)
      obtain ⟨er, hO2, -⟩ := hw
      subst er
      exact x_zret hx hb hr rfl hlocks hK u hP hD hS dX9_isDrawn_172 ⟨rfl, hO2⟩
    · skip
      refine lv_tableIn (off := 122) (tgt := 173) hx hb dX9_isDrawn_51 (by decide) (by decide) (by decide) (by decide) ?_
      refine lv_aload_n hx hb dX9_isDrawn_173 rfl (lv_at hl 3 rfl) ?_
      refine lv_aload_n hx hb dX9_isDrawn_174 rfl (lv_at hl 4 rfl) ?_
      refine lv_iload_n hx hb dX9_isDrawn_175 rfl (lv_at hl 5 rfl) ?_
      refine lv_iconst (v := 3) hx hb dX9_isDrawn_176 (by decide) ?_
      refine lv_iload_n hx hb dX9_isDrawn_177 rfl (lv_at hl 6 rfl) ?_
      refine lv_iconst (v := 4) hx hb dX9_isDrawn_178 (by decide) ?_
      refine lv_ishr hx hb dX9_isDrawn_179 ?_
      refine lv_iconst (v := 3) hx hb dX9_isDrawn_180 (by decide) ?_
      refine x_SiM (host := RL) (As := [.int (x >>> (4 &&& 31)), .int 3]) (rest0 := [.int 3, .int (nI b), .ref tp, .ref oq]) ⟨hx, hb, hml, hown, hts⟩ (c_L_below l D (tyB cA ++ tr) (wB cA ad τ ++ (wPg cA ad pd π ++ (wB cA bd ρ ++ ((tp, .inr (8, tpF ad bd)) :: R)))) _ (x >>> (4 &&& 31)) 3 (by decide)) ⟨va_cnB 2 hts gl_isDrawn_L_below rfl rfl rfl hNb hini ⟨by decide, by decide, by decide +kernel⟩ ⟨Nat.le_of_ble_eq_true rfl, Nat.le_of_ble_eq_true rfl⟩, hstat, trivial⟩ hK hP hD hS hA hl.1 rfl rfl (Nat.le_of_ble_eq_true rfl) ⟨Nat.le_of_ble_eq_true rfl, Nat.le_of_ble_eq_true rfl⟩ dX9_isDrawn_181 (fun r _ H locs hw hP hD hS => ?_)
      obtain ⟨y7, hy7, ey7⟩ := below_nI (x >>> (4 &&& 31)) (k := 3) (by omega) (by omega)
      obtain rfl : r = nI y7 := hw.trans ey7
      refine lv_iconst (v := 0) hx hb dX9_isDrawn_184 (by decide) ?_
      refine lv_iload hx hb dX9_isDrawn_185 (lv_at hl 1 rfl) ?_
      refine lv_iload_n hx hb dX9_isDrawn_187 rfl (lv_at hl 6 rfl) ?_
      refine lv_bipush (v := 6) hx hb dX9_isDrawn_188 (by decide) ?_
      refine lv_ishr hx hb dX9_isDrawn_190 ?_
      refine lv_iconst (v := 4) hx hb dX9_isDrawn_191 (by decide) ?_
      refine x_SiM (host := RL) (As := [.int (x >>> (6 &&& 31)), .int 4]) (rest0 := [.int (nI n), .int 0, .int (nI y7), .int 3, .int (nI b), .ref tp, .ref oq]) ⟨hx, hb, hml, hown, hts⟩ (c_L_below l D (tyB cA ++ tr) (wB cA ad τ ++ (wPg cA ad pd π ++ (wB cA bd ρ ++ ((tp, .inr (8, tpF ad bd)) :: R)))) _ (x >>> (6 &&& 31)) 4 (by decide)) ⟨va_cnB 2 hts gl_isDrawn_L_below rfl rfl rfl hNb hini ⟨by decide, by decide, by decide +kernel⟩ ⟨Nat.le_of_ble_eq_true rfl, Nat.le_of_ble_eq_true rfl⟩, hstat, trivial⟩ hK hP hD hS hA hl.1 rfl rfl (Nat.le_of_ble_eq_true rfl) ⟨Nat.le_of_ble_eq_true rfl, Nat.le_of_ble_eq_true rfl⟩ dX9_isDrawn_192 (fun r _ H locs hw hP hD hS => ?_)
      obtain ⟨y8, hy8, ey8⟩ := below_nI (x >>> (6 &&& 31)) (k := 4) (by omega) (by omega)
      obtain rfl : r = nI y8 := hw.trans ey8
      refine lv_isub hx hb dX9_isDrawn_195 ?_
      refine va_mmax (rest := [.int (nI y7), .int 3, .int (nI b), .ref tp, .ref oq]) hx hb (hml.trans hl.1.symm) hown (hts (.methodLink RX9 47 Lib.Math.max.name) (by decide +kernel)) (hts (.static Lib.Math.max.name) (by decide +kernel)) (hts (.initialized "java/lang/Math") (by decide +kernel)) (hts (.code Lib.Math.max.name Lib.Math.max.code 2 (some .int)) (by decide +kernel)) (Nat.le_of_ble_eq_true rfl) (Nat.le_of_ble_eq_true rfl) (Nat.le_of_ble_eq_true rfl) (Nat.le_of_ble_eq_true rfl) dX9_isDrawn_196 ?_
      refine W.eq (g2 := F0 m 199 ls [.int (nI (n - y8)), .int (nI y7), .int 3, .int (nI b), .ref tp, .ref oq]) (by rw [show (if 0 < ((nI n) - (nI y8)) then ((nI n) - (nI y8)) else 0) = (nI (n - y8)) from max0_sub (by omega) (by omega)]) ?_
      refine x_ViE (E := AE c2 (cA 0)) (As := [.ref tp, .int (nI b), .int 3, .int (nI y7), .int (nI (n - y8))]) (rest0 := []) (fun U g mk a h9 => AE.moved (u := U) (U := U.calling g mk a) (Vm.Alike.refl U.vm) h9) (fun U hU hW => AE.moved hW.alike hE.1) ⟨hx, hb, hml, hown, hts⟩ (c_X9_isLine l D cA ad tr R _ τ pd π bd tp ρ h102 c2 c3 oq la sq lb kc B j2 j3 ht2 ht3 hO b n 3 (nI y7) (nI (n - y8)) hbB hnb h1 (fun _ => fits_mk (by decide) (by decide) (fun z => absurd ((nI_ltI (a := y7) (b := 0) (by omega) (by decide)).mp z) (by omega)) (fun z => absurd ((nI_ltI (a := 3) (b := y7) (by decide) (by omega)).mp z) (by omega)) (nI_pos (by omega)) (fun z => absurd ((nI_ltI (a := n) (b := n - y8) (by omega) (by omega)).mp z) (by omega))) hUs) (cwV 5 hts gl_isDrawn_X9_isLine rfl rfl rfl (by decide +kernel) ⟨Nat.le_of_ble_eq_true rfl, Nat.le_of_ble_eq_true rfl⟩) hK hP hD hS hA (0 + 210) (by rw [wL_at]; exact own0 hR) rfl hl.1 rfl rfl (Nat.le_of_ble_eq_true rfl) ⟨Nat.le_of_ble_eq_true rfl, Nat.le_of_ble_eq_true rfl⟩ dX9_isDrawn_199 (fun r u H locs hw hP hD hS => ?_)
      obtain ⟨er, hO2, -⟩ := hw
      subst er
      exact x_zret hx hb hr rfl hlocks hK u hP hD hS dX9_isDrawn_202 ⟨rfl, hO2⟩
    · skip
      refine lv_tableIn (off := 152) (tgt := 203) hx hb dX9_isDrawn_51 (by decide) (by decide) (by decide) (by decide) ?_
      refine lv_aload_n hx hb dX9_isDrawn_203 rfl (lv_at hl 3 rfl) ?_
      refine lv_aload_n hx hb dX9_isDrawn_204 rfl (lv_at hl 4 rfl) ?_
      refine lv_iload_n hx hb dX9_isDrawn_205 rfl (lv_at hl 5 rfl) ?_
      refine lv_iload hx hb dX9_isDrawn_206 (lv_at hl 2 rfl) ?_
      refine lv_iconst (v := 0) hx hb dX9_isDrawn_208 (by decide) ?_
      refine lv_iload hx hb dX9_isDrawn_209 (lv_at hl 0 rfl) ?_
      refine x_ViE (E := AE c2 (cA 0)) (As := [.ref tp, .int (nI b), .int 4, .int 0, .int (nI bh)]) (rest0 := []) (fun U g mk a h9 => AE.moved (u := U) (U := U.calling g mk a) (Vm.Alike.refl U.vm) h9) (fun U hU hW => AE.moved hW.alike hE.1) ⟨hx, hb, hml, hown, hts⟩ (c_X9_isLine l D cA ad tr R _ τ pd π bd tp ρ h102 c2 c3 oq la sq lb kc B j2 j3 ht2 ht3 hO b n 4 0 (nI bh) hbB hnb h1 (fun _ => fits_mk (by decide) (by decide) (show ¬ (0 : Int32) < 0 from by decide) (show ¬ (0 : Int32) < 0 from by decide) (by rw [show m_lowB 4 (nI n) = nI (n + 1) from nI_1 n]; exact fun z => absurd ((nI_ltI (a := bh) (b := n + 1) (by omega) (by omega)).mp z) (by omega)) (fun z => absurd ((nI_ltI (a := 12) (b := bh) (by decide) (by omega)).mp z) (by omega))) hUs) (cwV 5 hts gl_isDrawn_X9_isLine rfl rfl rfl (by decide +kernel) ⟨Nat.le_of_ble_eq_true rfl, Nat.le_of_ble_eq_true rfl⟩) hK hP hD hS hA (0 + 210) (by rw [wL_at]; exact own0 hR) rfl hl.1 rfl rfl (Nat.le_of_ble_eq_true rfl) ⟨Nat.le_of_ble_eq_true rfl, Nat.le_of_ble_eq_true rfl⟩ dX9_isDrawn_211 (fun r u H locs hw hP hD hS => ?_)
      obtain ⟨er, hO2, -⟩ := hw
      subst er
      exact x_zret hx hb hr rfl hlocks hK u hP hD hS dX9_isDrawn_214 ⟨rfl, hO2⟩
    · skip
      refine lv_tableIn (off := 281) (tgt := 332) hx hb dX9_isDrawn_51 (by decide) (by decide) (by decide) (by decide) ?_
      refine lv_aload_n hx hb dX9_isDrawn_332 rfl (lv_at hl 3 rfl) ?_
      refine lv_aload_n hx hb dX9_isDrawn_333 rfl (lv_at hl 4 rfl) ?_
      refine lv_iload_n hx hb dX9_isDrawn_334 rfl (lv_at hl 5 rfl) ?_
      refine lv_iload hx hb dX9_isDrawn_335 (lv_at hl 2 rfl) ?_
      refine lv_iconst (v := 0) hx hb dX9_isDrawn_337 (by decide) ?_
      refine lv_iconst (v := 0) hx hb dX9_isDrawn_338 (by decide) ?_
      refine x_ViE (E := AE c2 (cA 0)) (As := [.ref tp, .int (nI b), .int 5, .int 0, .int 0]) (rest0 := []) (fun U g mk a h9 => AE.moved (u := U) (U := U.calling g mk a) (Vm.Alike.refl U.vm) h9) (fun U hU hW => AE.moved hW.alike hE.1) ⟨hx, hb, hml, hown, hts⟩ (c_X9_isLine l D cA ad tr R _ τ pd π bd tp ρ h102 c2 c3 oq la sq lb kc B j2 j3 ht2 ht3 hO b n 5 0 0 hbB hnb h1 (fun _ => fits_mk (by decide) (by decide) (show ¬ (0 : Int32) < 0 from by decide) (show ¬ (0 : Int32) < 0 from by decide) (show ¬ (0 : Int32) < 0 from by decide) (show ¬ (0 : Int32) < 0 from by decide)) hUs) (cwV 5 hts gl_isDrawn_X9_isLine rfl rfl rfl (by decide +kernel) ⟨Nat.le_of_ble_eq_true rfl, Nat.le_of_ble_eq_true rfl⟩) hK hP hD hS hA (0 + 210) (by rw [wL_at]; exact own0 hR) rfl hl.1 rfl rfl (Nat.le_of_ble_eq_true rfl) ⟨Nat.le_of_ble_eq_true rfl, Nat.le_of_ble_eq_true rfl⟩ dX9_isDrawn_339 (fun r u H locs hw hP hD hS => ?_)
      obtain ⟨er, hO2, -⟩ := hw
      subst er
      exact x_zret hx hb hr rfl hlocks hK u hP hD hS dX9_isDrawn_342 ⟨rfl, hO2⟩
    · skip
      refine lv_tableIn (off := 164) (tgt := 215) hx hb dX9_isDrawn_51 (by decide) (by decide) (by decide) (by decide) ?_
      refine lv_aload_n hx hb dX9_isDrawn_215 rfl (lv_at hl 3 rfl) ?_
      refine lv_aload_n hx hb dX9_isDrawn_216 rfl (lv_at hl 4 rfl) ?_
      refine lv_iload_n hx hb dX9_isDrawn_217 rfl (lv_at hl 5 rfl) ?_
      refine lv_bipush (v := 6) hx hb dX9_isDrawn_218 (by decide) ?_
      refine lv_iconst (v := 1) hx hb dX9_isDrawn_220 (by decide) ?_
      refine lv_iload_n hx hb dX9_isDrawn_221 rfl (lv_at hl 6 rfl) ?_
      refine lv_iconst (v := 4) hx hb dX9_isDrawn_222 (by decide) ?_
      refine lv_ishr hx hb dX9_isDrawn_223 ?_
      refine lv_bipush (v := 7) hx hb dX9_isDrawn_224 (by decide) ?_
      refine x_SiM (host := RL) (As := [.int (x >>> (4 &&& 31)), .int 7]) (rest0 := [.int 1, .int 6, .int (nI b), .ref tp, .ref oq]) ⟨hx, hb, hml, hown, hts⟩ (c_L_below l D (tyB cA ++ tr) (wB cA ad τ ++ (wPg cA ad pd π ++ (wB cA bd ρ ++ ((tp, .inr (8, tpF ad bd)) :: R)))) _ (x >>> (4 &&& 31)) 7 (by decide)) ⟨va_cnB 2 hts gl_isDrawn_L_below rfl rfl rfl hNb hini ⟨by decide, by decide, by decide +kernel⟩ ⟨Nat.le_of_ble_eq_true rfl, Nat.le_of_ble_eq_true rfl⟩, hstat, trivial⟩ hK hP hD hS hA hl.1 rfl rfl (Nat.le_of_ble_eq_true rfl) ⟨Nat.le_of_ble_eq_true rfl, Nat.le_of_ble_eq_true rfl⟩ dX9_isDrawn_226 (fun r _ H locs hw hP hD hS => ?_)
      obtain ⟨y9, hy9, ey9⟩ := below_nI (x >>> (4 &&& 31)) (k := 7) (by omega) (by omega)
      obtain rfl : r = nI y9 := hw.trans ey9
      refine lv_iadd hx hb dX9_isDrawn_229 ?_
      refine W.eq (g2 := F0 m 230 ls [.int (nI (1 + y9)), .int 6, .int (nI b), .ref tp, .ref oq]) (by rw [show (1 : Int32) + (nI y9) = (nI (1 + y9)) from nI_add 1 y9]) ?_
      refine lv_iconst (v := 0) hx hb dX9_isDrawn_230 (by decide) ?_
      refine x_ViE (E := AE c2 (cA 0)) (As := [.ref tp, .int (nI b), .int 6, .int (nI (1 + y9)), .int 0]) (rest0 := []) (fun U g mk a h9 => AE.moved (u := U) (U := U.calling g mk a) (Vm.Alike.refl U.vm) h9) (fun U hU hW => AE.moved hW.alike hE.1) ⟨hx, hb, hml, hown, hts⟩ (c_X9_isLine l D cA ad tr R _ τ pd π bd tp ρ h102 c2 c3 oq la sq lb kc B j2 j3 ht2 ht3 hO b n 6 (nI (1 + y9)) 0 hbB hnb h1 (fun _ => fits_mk (by decide) (by decide) (fun z => absurd ((nI_ltI (a := 1 + y9) (b := 1) (by omega) (by decide)).mp z) (by omega)) (fun z => absurd ((nI_ltI (a := 7) (b := 1 + y9) (by decide) (by omega)).mp z) (by omega)) (show ¬ (0 : Int32) < 0 from by decide) (show ¬ (0 : Int32) < 0 from by decide)) hUs) (cwV 5 hts gl_isDrawn_X9_isLine rfl rfl rfl (by decide +kernel) ⟨Nat.le_of_ble_eq_true rfl, Nat.le_of_ble_eq_true rfl⟩) hK hP hD hS hA (0 + 210) (by rw [wL_at]; exact own0 hR) rfl hl.1 rfl rfl (Nat.le_of_ble_eq_true rfl) ⟨Nat.le_of_ble_eq_true rfl, Nat.le_of_ble_eq_true rfl⟩ dX9_isDrawn_231 (fun r u H locs hw hP hD hS => ?_)
      obtain ⟨er, hO2, -⟩ := hw
      subst er
      exact x_zret hx hb hr rfl hlocks hK u hP hD hS dX9_isDrawn_234 ⟨rfl, hO2⟩
    · skip
      refine lv_tableIn (off := 184) (tgt := 235) hx hb dX9_isDrawn_51 (by decide) (by decide) (by decide) (by decide) ?_
      refine lv_aload_n hx hb dX9_isDrawn_235 rfl (lv_at hl 3 rfl) ?_
      refine lv_aload_n hx hb dX9_isDrawn_236 rfl (lv_at hl 4 rfl) ?_
      refine lv_iload_n hx hb dX9_isDrawn_237 rfl (lv_at hl 5 rfl) ?_
      refine lv_bipush (v := 7) hx hb dX9_isDrawn_238 (by decide) ?_
      refine lv_iload_n hx hb dX9_isDrawn_240 rfl (lv_at hl 6 rfl) ?_
      refine lv_iconst (v := 4) hx hb dX9_isDrawn_241 (by decide) ?_
      refine lv_ishr hx hb dX9_isDrawn_242 ?_
      refine lv_iconst (v := 3) hx hb dX9_isDrawn_243 (by decide) ?_
      refine x_SiM (host := RL) (As := [.int (x >>> (4 &&& 31)), .int 3]) (rest0 := [.int 7, .int (nI b), .ref tp, .ref oq]) ⟨hx, hb, hml, hown, hts⟩ (c_L_below l D (tyB cA ++ tr) (wB cA ad τ ++ (wPg cA ad pd π ++ (wB cA bd ρ ++ ((tp, .inr (8, tpF ad bd)) :: R)))) _ (x >>> (4 &&& 31)) 3 (by decide)) ⟨va_cnB 2 hts gl_isDrawn_L_below rfl rfl rfl hNb hini ⟨by decide, by decide, by decide +kernel⟩ ⟨Nat.le_of_ble_eq_true rfl, Nat.le_of_ble_eq_true rfl⟩, hstat, trivial⟩ hK hP hD hS hA hl.1 rfl rfl (Nat.le_of_ble_eq_true rfl) ⟨Nat.le_of_ble_eq_true rfl, Nat.le_of_ble_eq_true rfl⟩ dX9_isDrawn_244 (fun r _ H locs hw hP hD hS => ?_)
      obtain ⟨y10, hy10, ey10⟩ := below_nI (x >>> (4 &&& 31)) (k := 3) (by omega) (by omega)
      obtain rfl : r = nI y10 := hw.trans ey10
      refine lv_if_ne (tgt := 263) hx hb dX9_isDrawn_247 (by decide) (fun c_247_11 => ?_) (fun c_247_11 => ?_)
      · skip
        refine lv_iconst (v := 0) hx hb dX9_isDrawn_263 (by decide) ?_
        refine lv_iload hx hb dX9_isDrawn_264 (lv_at hl 0 rfl) ?_
        refine x_ViE (E := AE c2 (cA 0)) (As := [.ref tp, .int (nI b), .int 7, .int 0, .int (nI bh)]) (rest0 := []) (fun U g mk a h9 => AE.moved (u := U) (U := U.calling g mk a) (Vm.Alike.refl U.vm) h9) (fun U hU hW => AE.moved hW.alike hE.1) ⟨hx, hb, hml, hown, hts⟩ (c_X9_isLine l D cA ad tr R _ τ pd π bd tp ρ h102 c2 c3 oq la sq lb kc B j2 j3 ht2 ht3 hO b n 7 0 (nI bh) hbB hnb h1 (fun _ => fits_mk (by decide) (by decide) (show ¬ (0 : Int32) < 0 from by decide) (show ¬ (20 : Int32) < 0 from by decide) (by rw [show m_lowB 7 (nI n) = nI (n + 1) from nI_1 n]; exact fun z => absurd ((nI_ltI (a := bh) (b := n + 1) (by omega) (by omega)).mp z) (by omega)) (fun z => absurd ((nI_ltI (a := 12) (b := bh) (by decide) (by omega)).mp z) (by omega))) hUs) (cwV 5 hts gl_isDrawn_X9_isLine rfl rfl rfl (by decide +kernel) ⟨Nat.le_of_ble_eq_true rfl, Nat.le_of_ble_eq_true rfl⟩) hK hP hD hS hA (0 + 210) (by rw [wL_at]; exact own0 hR) rfl hl.1 rfl rfl (Nat.le_of_ble_eq_true rfl) ⟨Nat.le_of_ble_eq_true rfl, Nat.le_of_ble_eq_true rfl⟩ dX9_isDrawn_266 (fun r u H locs hw hP hD hS => ?_)
        obtain ⟨er, hO2, -⟩ := hw
        subst er
        exact x_zret hx hb hr rfl hlocks hK u hP hD hS dX9_isDrawn_269 ⟨rfl, hO2⟩
      · skip
        refine lv_iconst (v := 1) hx hb dX9_isDrawn_250 (by decide) ?_
        refine lv_iload_n hx hb dX9_isDrawn_251 rfl (lv_at hl 6 rfl) ?_
        refine lv_iconst (v := 5) hx hb dX9_isDrawn_252 (by decide) ?_
        refine lv_ishr hx hb dX9_isDrawn_253 ?_
        refine lv_bipush (v := 6) hx hb dX9_isDrawn_254 (by decide) ?_
        refine x_SiM (host := RL) (As := [.int (x >>> (5 &&& 31)), .int 6]) (rest0 := [.int 1, .int 7, .int (nI b), .ref tp, .ref oq]) ⟨hx, hb, hml, hown, hts⟩ (c_L_below l D (tyB cA ++ tr) (wB cA ad τ ++ (wPg cA ad pd π ++ (wB cA bd ρ ++ ((tp, .inr (8, tpF ad bd)) :: R)))) _ (x >>> (5 &&& 31)) 6 (by decide)) ⟨va_cnB 2 hts gl_isDrawn_L_below rfl rfl rfl hNb hini ⟨by decide, by decide, by decide +kernel⟩ ⟨Nat.le_of_ble_eq_true rfl, Nat.le_of_ble_eq_true rfl⟩, hstat, trivial⟩ hK hP hD hS hA hl.1 rfl rfl (Nat.le_of_ble_eq_true rfl) ⟨Nat.le_of_ble_eq_true rfl, Nat.le_of_ble_eq_true rfl⟩ dX9_isDrawn_256 (fun r _ H locs hw hP hD hS => ?_)
        obtain ⟨y12, hy12, ey12⟩ := below_nI (x >>> (5 &&& 31)) (k := 6) (by omega) (by omega)
        obtain rfl : r = nI y12 := hw.trans ey12
        refine lv_iadd hx hb dX9_isDrawn_259 ?_
        refine W.eq (g2 := F0 m 260 ls [.int (nI (1 + y12)), .int 7, .int (nI b), .ref tp, .ref oq]) (by rw [show (1 : Int32) + (nI y12) = (nI (1 + y12)) from nI_add 1 y12]) ?_
        refine lv_goto (tgt := 264) hx hb dX9_isDrawn_260 (by decide) ?_
        refine lv_iload hx hb dX9_isDrawn_264 (lv_at hl 0 rfl) ?_
        refine x_ViE (E := AE c2 (cA 0)) (As := [.ref tp, .int (nI b), .int 7, .int (nI (1 + y12)), .int (nI bh)]) (rest0 := []) (fun U g mk a h9 => AE.moved (u := U) (U := U.calling g mk a) (Vm.Alike.refl U.vm) h9) (fun U hU hW => AE.moved hW.alike hE.1) ⟨hx, hb, hml, hown, hts⟩ (c_X9_isLine l D cA ad tr R _ τ pd π bd tp ρ h102 c2 c3 oq la sq lb kc B j2 j3 ht2 ht3 hO b n 7 (nI (1 + y12)) (nI bh) hbB hnb h1 (fun _ => fits_mk (by decide) (by decide) (fun z => absurd ((nI_ltI (a := 1 + y12) (b := 0) (by omega) (by decide)).mp z) (by omega)) (fun z => absurd ((nI_ltI (a := 20) (b := 1 + y12) (by decide) (by omega)).mp z) (by omega)) (by rw [show m_lowB 7 (nI n) = nI (n + 1) from nI_1 n]; exact fun z => absurd ((nI_ltI (a := bh) (b := n + 1) (by omega) (by omega)).mp z) (by omega)) (fun z => absurd ((nI_ltI (a := 12) (b := bh) (by decide) (by omega)).mp z) (by omega))) hUs) (cwV 5 hts gl_isDrawn_X9_isLine rfl rfl rfl (by decide +kernel) ⟨Nat.le_of_ble_eq_true rfl, Nat.le_of_ble_eq_true rfl⟩) hK hP hD hS hA (0 + 210) (by rw [wL_at]; exact own0 hR) rfl hl.1 rfl rfl (Nat.le_of_ble_eq_true rfl) ⟨Nat.le_of_ble_eq_true rfl, Nat.le_of_ble_eq_true rfl⟩ dX9_isDrawn_266 (fun r u H locs hw hP hD hS => ?_)
        obtain ⟨er, hO2, -⟩ := hw
        subst er
        exact x_zret hx hb hr rfl hlocks hK u hP hD hS dX9_isDrawn_269 ⟨rfl, hO2⟩
    · skip
      refine lv_tableIn (off := 152) (tgt := 203) hx hb dX9_isDrawn_51 (by decide) (by decide) (by decide) (by decide) ?_
      refine lv_aload_n hx hb dX9_isDrawn_203 rfl (lv_at hl 3 rfl) ?_
      refine lv_aload_n hx hb dX9_isDrawn_204 rfl (lv_at hl 4 rfl) ?_
      refine lv_iload_n hx hb dX9_isDrawn_205 rfl (lv_at hl 5 rfl) ?_
      refine lv_iload hx hb dX9_isDrawn_206 (lv_at hl 2 rfl) ?_
      refine lv_iconst (v := 0) hx hb dX9_isDrawn_208 (by decide) ?_
      refine lv_iload hx hb dX9_isDrawn_209 (lv_at hl 0 rfl) ?_
      refine x_ViE (E := AE c2 (cA 0)) (As := [.ref tp, .int (nI b), .int 8, .int 0, .int (nI bh)]) (rest0 := []) (fun U g mk a h9 => AE.moved (u := U) (U := U.calling g mk a) (Vm.Alike.refl U.vm) h9) (fun U hU hW => AE.moved hW.alike hE.1) ⟨hx, hb, hml, hown, hts⟩ (c_X9_isLine l D cA ad tr R _ τ pd π bd tp ρ h102 c2 c3 oq la sq lb kc B j2 j3 ht2 ht3 hO b n 8 0 (nI bh) hbB hnb h1 (fun _ => fits_mk (by decide) (by decide) (show ¬ (0 : Int32) < 0 from by decide) (show ¬ (0 : Int32) < 0 from by decide) (by rw [show m_lowB 8 (nI n) = nI (n + 1) from nI_1 n]; exact fun z => absurd ((nI_ltI (a := bh) (b := n + 1) (by omega) (by omega)).mp z) (by omega)) (fun z => absurd ((nI_ltI (a := 12) (b := bh) (by decide) (by omega)).mp z) (by omega))) hUs) (cwV 5 hts gl_isDrawn_X9_isLine rfl rfl rfl (by decide +kernel) ⟨Nat.le_of_ble_eq_true rfl, Nat.le_of_ble_eq_true rfl⟩) hK hP hD hS hA (0 + 210) (by rw [wL_at]; exact own0 hR) rfl hl.1 rfl rfl (Nat.le_of_ble_eq_true rfl) ⟨Nat.le_of_ble_eq_true rfl, Nat.le_of_ble_eq_true rfl⟩ dX9_isDrawn_211 (fun r u H locs hw hP hD hS => ?_)
      obtain ⟨er, hO2, -⟩ := hw
      subst er
      exact x_zret hx hb hr rfl hlocks hK u hP hD hS dX9_isDrawn_214 ⟨rfl, hO2⟩
    · skip
      refine lv_tableIn (off := 281) (tgt := 332) hx hb dX9_isDrawn_51 (by decide) (by decide) (by decide) (by decide) ?_
      refine lv_aload_n hx hb dX9_isDrawn_332 rfl (lv_at hl 3 rfl) ?_
      refine lv_aload_n hx hb dX9_isDrawn_333 rfl (lv_at hl 4 rfl) ?_
      refine lv_iload_n hx hb dX9_isDrawn_334 rfl (lv_at hl 5 rfl) ?_
      refine lv_iload hx hb dX9_isDrawn_335 (lv_at hl 2 rfl) ?_
      refine lv_iconst (v := 0) hx hb dX9_isDrawn_337 (by decide) ?_
      refine lv_iconst (v := 0) hx hb dX9_isDrawn_338 (by decide) ?_
      refine x_ViE (E := AE c2 (cA 0)) (As := [.ref tp, .int (nI b), .int 9, .int 0, .int 0]) (rest0 := []) (fun U g mk a h9 => AE.moved (u := U) (U := U.calling g mk a) (Vm.Alike.refl U.vm) h9) (fun U hU hW => AE.moved hW.alike hE.1) ⟨hx, hb, hml, hown, hts⟩ (c_X9_isLine l D cA ad tr R _ τ pd π bd tp ρ h102 c2 c3 oq la sq lb kc B j2 j3 ht2 ht3 hO b n 9 0 0 hbB hnb h1 (fun _ => fits_mk (by decide) (by decide) (show ¬ (0 : Int32) < 0 from by decide) (show ¬ (0 : Int32) < 0 from by decide) (show ¬ (0 : Int32) < 0 from by decide) (show ¬ (0 : Int32) < 0 from by decide)) hUs) (cwV 5 hts gl_isDrawn_X9_isLine rfl rfl rfl (by decide +kernel) ⟨Nat.le_of_ble_eq_true rfl, Nat.le_of_ble_eq_true rfl⟩) hK hP hD hS hA (0 + 210) (by rw [wL_at]; exact own0 hR) rfl hl.1 rfl rfl (Nat.le_of_ble_eq_true rfl) ⟨Nat.le_of_ble_eq_true rfl, Nat.le_of_ble_eq_true rfl⟩ dX9_isDrawn_339 (fun r u H locs hw hP hD hS => ?_)
      obtain ⟨er, hO2, -⟩ := hw
      subst er
      exact x_zret hx hb hr rfl hlocks hK u hP hD hS dX9_isDrawn_342 ⟨rfl, hO2⟩
    · skip
      refine lv_tableIn (off := 219) (tgt := 270) hx hb dX9_isDrawn_51 (by decide) (by decide) (by decide) (by decide) ?_
      refine lv_aload_n hx hb dX9_isDrawn_270 rfl (lv_at hl 3 rfl) ?_
      refine lv_aload_n hx hb dX9_isDrawn_271 rfl (lv_at hl 4 rfl) ?_
      refine lv_iload_n hx hb dX9_isDrawn_272 rfl (lv_at hl 5 rfl) ?_
      refine lv_bipush (v := 10) hx hb dX9_isDrawn_273 (by decide) ?_
      refine lv_iload_n hx hb dX9_isDrawn_275 rfl (lv_at hl 5 rfl) ?_
      refine lv_if_ne (tgt := 284) hx hb dX9_isDrawn_276 (by decide) (fun c_276_13 => ?_) (fun c_276_13 => ?_)
      · skip
        have hb0 : 0 < b := Nat.pos_of_ne_zero (fun z => c_276_13 (by rw [z]; rfl))
        refine lv_iload_n hx hb dX9_isDrawn_284 rfl (lv_at hl 6 rfl) ?_
        refine lv_iconst (v := 4) hx hb dX9_isDrawn_285 (by decide) ?_
        refine lv_ishr hx hb dX9_isDrawn_286 ?_
        refine lv_iload_n hx hb dX9_isDrawn_287 rfl (lv_at hl 5 rfl) ?_
        refine x_SiM (host := RL) (As := [.int (x >>> (4 &&& 31)), .int (nI b)]) (rest0 := [.int 10, .int (nI b), .ref tp, .ref oq]) ⟨hx, hb, hml, hown, hts⟩ (c_L_below l D (tyB cA ++ tr) (wB cA ad τ ++ (wPg cA ad pd π ++ (wB cA bd ρ ++ ((tp, .inr (8, tpF ad bd)) :: R)))) _ (x >>> (4 &&& 31)) (nI b) (fun z => absurd ((nI_eq (a := b) (b := 0) (by omega) (by decide)).mp z) (by omega))) ⟨va_cnB 2 hts gl_isDrawn_L_below rfl rfl rfl hNb hini ⟨by decide, by decide, by decide +kernel⟩ ⟨Nat.le_of_ble_eq_true rfl, Nat.le_of_ble_eq_true rfl⟩, hstat, trivial⟩ hK hP hD hS hA hl.1 rfl rfl (Nat.le_of_ble_eq_true rfl) ⟨Nat.le_of_ble_eq_true rfl, Nat.le_of_ble_eq_true rfl⟩ dX9_isDrawn_288 (fun r _ H locs hw hP hD hS => ?_)
        obtain ⟨y14, hy14, ey14⟩ := below_nI (x >>> (4 &&& 31)) (k := b) (by omega) (by omega)
        obtain rfl : r = nI y14 := hw.trans ey14
        refine lv_iconst (v := 0) hx hb dX9_isDrawn_291 (by decide) ?_
        refine x_ViE (E := AE c2 (cA 0)) (As := [.ref tp, .int (nI b), .int 10, .int (nI y14), .int 0]) (rest0 := []) (fun U g mk a h9 => AE.moved (u := U) (U := U.calling g mk a) (Vm.Alike.refl U.vm) h9) (fun U hU hW => AE.moved hW.alike hE.1) ⟨hx, hb, hml, hown, hts⟩ (c_X9_isLine l D cA ad tr R _ τ pd π bd tp ρ h102 c2 c3 oq la sq lb kc B j2 j3 ht2 ht3 hO b n 10 (nI y14) 0 hbB hnb h1 (fun _ => fits_mk (by decide) (by decide) (fun z => absurd ((nI_ltI (a := y14) (b := 0) (by omega) (by decide)).mp z) (by omega)) (fun z => absurd ((nI_ltI (a := 7) (b := y14) (by decide) (by omega)).mp z) (by omega)) (show ¬ (0 : Int32) < 0 from by decide) (show ¬ (0 : Int32) < 0 from by decide)) hUs) (cwV 5 hts gl_isDrawn_X9_isLine rfl rfl rfl (by decide +kernel) ⟨Nat.le_of_ble_eq_true rfl, Nat.le_of_ble_eq_true rfl⟩) hK hP hD hS hA (0 + 210) (by rw [wL_at]; exact own0 hR) rfl hl.1 rfl rfl (Nat.le_of_ble_eq_true rfl) ⟨Nat.le_of_ble_eq_true rfl, Nat.le_of_ble_eq_true rfl⟩ dX9_isDrawn_292 (fun r u H locs hw hP hD hS => ?_)
        obtain ⟨er, hO2, -⟩ := hw
        subst er
        exact x_zret hx hb hr rfl hlocks hK u hP hD hS dX9_isDrawn_295 ⟨rfl, hO2⟩
      · skip
        refine lv_bipush (v := 7) hx hb dX9_isDrawn_279 (by decide) ?_
        refine lv_goto (tgt := 291) hx hb dX9_isDrawn_281 (by decide) ?_
        refine lv_iconst (v := 0) hx hb dX9_isDrawn_291 (by decide) ?_
        refine x_ViE (E := AE c2 (cA 0)) (As := [.ref tp, .int (nI b), .int 10, .int 7, .int 0]) (rest0 := []) (fun U g mk a h9 => AE.moved (u := U) (U := U.calling g mk a) (Vm.Alike.refl U.vm) h9) (fun U hU hW => AE.moved hW.alike hE.1) ⟨hx, hb, hml, hown, hts⟩ (c_X9_isLine l D cA ad tr R _ τ pd π bd tp ρ h102 c2 c3 oq la sq lb kc B j2 j3 ht2 ht3 hO b n 10 7 0 hbB hnb h1 (fun _ => fits_mk (by decide) (by decide) (show ¬ (7 : Int32) < 0 from by decide) (show ¬ (7 : Int32) < 7 from by decide) (show ¬ (0 : Int32) < 0 from by decide) (show ¬ (0 : Int32) < 0 from by decide)) hUs) (cwV 5 hts gl_isDrawn_X9_isLine rfl rfl rfl (by decide +kernel) ⟨Nat.le_of_ble_eq_true rfl, Nat.le_of_ble_eq_true rfl⟩) hK hP hD hS hA (0 + 210) (by rw [wL_at]; exact own0 hR) rfl hl.1 rfl rfl (Nat.le_of_ble_eq_true rfl) ⟨Nat.le_of_ble_eq_true rfl, Nat.le_of_ble_eq_true rfl⟩ dX9_isDrawn_292 (fun r u H locs hw hP hD hS => ?_)
        obtain ⟨er, hO2, -⟩ := hw
        subst er
        exact x_zret hx hb hr rfl hlocks hK u hP hD hS dX9_isDrawn_295 ⟨rfl, hO2⟩
    · skip
      refine lv_tableIn (off := 281) (tgt := 332) hx hb dX9_isDrawn_51 (by decide) (by decide) (by decide) (by decide) ?_
      refine lv_aload_n hx hb dX9_isDrawn_332 rfl (lv_at hl 3 rfl) ?_
      refine lv_aload_n hx hb dX9_isDrawn_333 rfl (lv_at hl 4 rfl) ?_
      refine lv_iload_n hx hb dX9_isDrawn_334 rfl (lv_at hl 5 rfl) ?_
      refine lv_iload hx hb dX9_isDrawn_335 (lv_at hl 2 rfl) ?_
      refine lv_iconst (v := 0) hx hb dX9_isDrawn_337 (by decide) ?_
      refine lv_iconst (v := 0) hx hb dX9_isDrawn_338 (by decide) ?_
      refine x_ViE (E := AE c2 (cA 0)) (As := [.ref tp, .int (nI b), .int 11, .int 0, .int 0]) (rest0 := []) (fun U g mk a h9 => AE.moved (u := U) (U := U.calling g mk a) (Vm.Alike.refl U.vm) h9) (fun U hU hW => AE.moved hW.alike hE.1) ⟨hx, hb, hml, hown, hts⟩ (c_X9_isLine l D cA ad tr R _ τ pd π bd tp ρ h102 c2 c3 oq la sq lb kc B j2 j3 ht2 ht3 hO b n 11 0 0 hbB hnb h1 (fun _ => fits_mk (by decide) (by decide) (show ¬ (0 : Int32) < 0 from by decide) (show ¬ (0 : Int32) < 0 from by decide) (show ¬ (0 : Int32) < 0 from by decide) (show ¬ (0 : Int32) < 0 from by decide)) hUs) (cwV 5 hts gl_isDrawn_X9_isLine rfl rfl rfl (by decide +kernel) ⟨Nat.le_of_ble_eq_true rfl, Nat.le_of_ble_eq_true rfl⟩) hK hP hD hS hA (0 + 210) (by rw [wL_at]; exact own0 hR) rfl hl.1 rfl rfl (Nat.le_of_ble_eq_true rfl) ⟨Nat.le_of_ble_eq_true rfl, Nat.le_of_ble_eq_true rfl⟩ dX9_isDrawn_339 (fun r u H locs hw hP hD hS => ?_)
      obtain ⟨er, hO2, -⟩ := hw
      subst er
      exact x_zret hx hb hr rfl hlocks hK u hP hD hS dX9_isDrawn_342 ⟨rfl, hO2⟩
    · skip
      refine lv_tableIn (off := 245) (tgt := 296) hx hb dX9_isDrawn_51 (by decide) (by decide) (by decide) (by decide) ?_
      refine lv_aload_n hx hb dX9_isDrawn_296 rfl (lv_at hl 3 rfl) ?_
      refine lv_aload_n hx hb dX9_isDrawn_297 rfl (lv_at hl 4 rfl) ?_
      refine lv_iload_n hx hb dX9_isDrawn_298 rfl (lv_at hl 5 rfl) ?_
      refine lv_bipush (v := 12) hx hb dX9_isDrawn_299 (by decide) ?_
      refine lv_iconst (v := 1) hx hb dX9_isDrawn_301 (by decide) ?_
      refine lv_iload_n hx hb dX9_isDrawn_302 rfl (lv_at hl 6 rfl) ?_
      refine lv_iconst (v := 4) hx hb dX9_isDrawn_303 (by decide) ?_
      refine lv_ishr hx hb dX9_isDrawn_304 ?_
      refine lv_iconst (v := 4) hx hb dX9_isDrawn_305 (by decide) ?_
      refine x_SiM (host := RL) (As := [.int (x >>> (4 &&& 31)), .int 4]) (rest0 := [.int 1, .int 12, .int (nI b), .ref tp, .ref oq]) ⟨hx, hb, hml, hown, hts⟩ (c_L_below l D (tyB cA ++ tr) (wB cA ad τ ++ (wPg cA ad pd π ++ (wB cA bd ρ ++ ((tp, .inr (8, tpF ad bd)) :: R)))) _ (x >>> (4 &&& 31)) 4 (by decide)) ⟨va_cnB 2 hts gl_isDrawn_L_below rfl rfl rfl hNb hini ⟨by decide, by decide, by decide +kernel⟩ ⟨Nat.le_of_ble_eq_true rfl, Nat.le_of_ble_eq_true rfl⟩, hstat, trivial⟩ hK hP hD hS hA hl.1 rfl rfl (Nat.le_of_ble_eq_true rfl) ⟨Nat.le_of_ble_eq_true rfl, Nat.le_of_ble_eq_true rfl⟩ dX9_isDrawn_306 (fun r _ H locs hw hP hD hS => ?_)
      obtain ⟨y15, hy15, ey15⟩ := below_nI (x >>> (4 &&& 31)) (k := 4) (by omega) (by omega)
      obtain rfl : r = nI y15 := hw.trans ey15
      refine lv_iadd hx hb dX9_isDrawn_309 ?_
      refine W.eq (g2 := F0 m 310 ls [.int (nI (1 + y15)), .int 12, .int (nI b), .ref tp, .ref oq]) (by rw [show (1 : Int32) + (nI y15) = (nI (1 + y15)) from nI_add 1 y15]) ?_
      refine lv_iconst (v := 0) hx hb dX9_isDrawn_310 (by decide) ?_
      refine x_ViE (E := AE c2 (cA 0)) (As := [.ref tp, .int (nI b), .int 12, .int (nI (1 + y15)), .int 0]) (rest0 := []) (fun U g mk a h9 => AE.moved (u := U) (U := U.calling g mk a) (Vm.Alike.refl U.vm) h9) (fun U hU hW => AE.moved hW.alike hE.1) ⟨hx, hb, hml, hown, hts⟩ (c_X9_isLine l D cA ad tr R _ τ pd π bd tp ρ h102 c2 c3 oq la sq lb kc B j2 j3 ht2 ht3 hO b n 12 (nI (1 + y15)) 0 hbB hnb h1 (fun _ => fits_mk (by decide) (by decide) (fun z => absurd ((nI_ltI (a := 1 + y15) (b := 1) (by omega) (by decide)).mp z) (by omega)) (fun z => absurd ((nI_ltI (a := 9) (b := 1 + y15) (by decide) (by omega)).mp z) (by omega)) (show ¬ (0 : Int32) < 0 from by decide) (show ¬ (0 : Int32) < 0 from by decide)) hUs) (cwV 5 hts gl_isDrawn_X9_isLine rfl rfl rfl (by decide +kernel) ⟨Nat.le_of_ble_eq_true rfl, Nat.le_of_ble_eq_true rfl⟩) hK hP hD hS hA (0 + 210) (by rw [wL_at]; exact own0 hR) rfl hl.1 rfl rfl (Nat.le_of_ble_eq_true rfl) ⟨Nat.le_of_ble_eq_true rfl, Nat.le_of_ble_eq_true rfl⟩ dX9_isDrawn_311 (fun r u H locs hw hP hD hS => ?_)
      obtain ⟨er, hO2, -⟩ := hw
      subst er
      exact x_zret hx hb hr rfl hlocks hK u hP hD hS dX9_isDrawn_314 ⟨rfl, hO2⟩
    · skip
      refine lv_tableIn (off := 264) (tgt := 315) hx hb dX9_isDrawn_51 (by decide) (by decide) (by decide) (by decide) ?_
      refine lv_aload_n hx hb dX9_isDrawn_315 rfl (lv_at hl 3 rfl) ?_
      refine lv_aload_n hx hb dX9_isDrawn_316 rfl (lv_at hl 4 rfl) ?_
      refine lv_iload_n hx hb dX9_isDrawn_317 rfl (lv_at hl 5 rfl) ?_
      refine lv_iload hx hb dX9_isDrawn_318 (lv_at hl 2 rfl) ?_
      refine lv_iload_n hx hb dX9_isDrawn_320 rfl (lv_at hl 6 rfl) ?_
      refine lv_iconst (v := 4) hx hb dX9_isDrawn_321 (by decide) ?_
      refine lv_ishr hx hb dX9_isDrawn_322 ?_
      refine lv_iconst (v := 2) hx hb dX9_isDrawn_323 (by decide) ?_
      refine x_SiM (host := RL) (As := [.int (x >>> (4 &&& 31)), .int 2]) (rest0 := [.int 13, .int (nI b), .ref tp, .ref oq]) ⟨hx, hb, hml, hown, hts⟩ (c_L_below l D (tyB cA ++ tr) (wB cA ad τ ++ (wPg cA ad pd π ++ (wB cA bd ρ ++ ((tp, .inr (8, tpF ad bd)) :: R)))) _ (x >>> (4 &&& 31)) 2 (by decide)) ⟨va_cnB 2 hts gl_isDrawn_L_below rfl rfl rfl hNb hini ⟨by decide, by decide, by decide +kernel⟩ ⟨Nat.le_of_ble_eq_true rfl, Nat.le_of_ble_eq_true rfl⟩, hstat, trivial⟩ hK hP hD hS hA hl.1 rfl rfl (Nat.le_of_ble_eq_true rfl) ⟨Nat.le_of_ble_eq_true rfl, Nat.le_of_ble_eq_true rfl⟩ dX9_isDrawn_324 (fun r _ H locs hw hP hD hS => ?_)
      obtain ⟨y16, hy16, ey16⟩ := below_nI (x >>> (4 &&& 31)) (k := 2) (by omega) (by omega)
      obtain rfl : r = nI y16 := hw.trans ey16
      refine lv_iconst (v := 0) hx hb dX9_isDrawn_327 (by decide) ?_
      refine x_ViE (E := AE c2 (cA 0)) (As := [.ref tp, .int (nI b), .int 13, .int (nI y16), .int 0]) (rest0 := []) (fun U g mk a h9 => AE.moved (u := U) (U := U.calling g mk a) (Vm.Alike.refl U.vm) h9) (fun U hU hW => AE.moved hW.alike hE.1) ⟨hx, hb, hml, hown, hts⟩ (c_X9_isLine l D cA ad tr R _ τ pd π bd tp ρ h102 c2 c3 oq la sq lb kc B j2 j3 ht2 ht3 hO b n 13 (nI y16) 0 hbB hnb h1 (fun _ => fits_mk (by decide) (by decide) (fun z => absurd ((nI_ltI (a := y16) (b := 0) (by omega) (by decide)).mp z) (by omega)) (fun z => absurd ((nI_ltI (a := 1) (b := y16) (by decide) (by omega)).mp z) (by omega)) (show ¬ (0 : Int32) < 0 from by decide) (show ¬ (0 : Int32) < 0 from by decide)) hUs) (cwV 5 hts gl_isDrawn_X9_isLine rfl rfl rfl (by decide +kernel) ⟨Nat.le_of_ble_eq_true rfl, Nat.le_of_ble_eq_true rfl⟩) hK hP hD hS hA (0 + 210) (by rw [wL_at]; exact own0 hR) rfl hl.1 rfl rfl (Nat.le_of_ble_eq_true rfl) ⟨Nat.le_of_ble_eq_true rfl, Nat.le_of_ble_eq_true rfl⟩ dX9_isDrawn_328 (fun r u H locs hw hP hD hS => ?_)
      obtain ⟨er, hO2, -⟩ := hw
      subst er
      exact x_zret hx hb hr rfl hlocks hK u hP hD hS dX9_isDrawn_331 ⟨rfl, hO2⟩
    · skip
      refine lv_tableIn (off := 264) (tgt := 315) hx hb dX9_isDrawn_51 (by decide) (by decide) (by decide) (by decide) ?_
      refine lv_aload_n hx hb dX9_isDrawn_315 rfl (lv_at hl 3 rfl) ?_
      refine lv_aload_n hx hb dX9_isDrawn_316 rfl (lv_at hl 4 rfl) ?_
      refine lv_iload_n hx hb dX9_isDrawn_317 rfl (lv_at hl 5 rfl) ?_
      refine lv_iload hx hb dX9_isDrawn_318 (lv_at hl 2 rfl) ?_
      refine lv_iload_n hx hb dX9_isDrawn_320 rfl (lv_at hl 6 rfl) ?_
      refine lv_iconst (v := 4) hx hb dX9_isDrawn_321 (by decide) ?_
      refine lv_ishr hx hb dX9_isDrawn_322 ?_
      refine lv_iconst (v := 2) hx hb dX9_isDrawn_323 (by decide) ?_
      refine x_SiM (host := RL) (As := [.int (x >>> (4 &&& 31)), .int 2]) (rest0 := [.int 14, .int (nI b), .ref tp, .ref oq]) ⟨hx, hb, hml, hown, hts⟩ (c_L_below l D (tyB cA ++ tr) (wB cA ad τ ++ (wPg cA ad pd π ++ (wB cA bd ρ ++ ((tp, .inr (8, tpF ad bd)) :: R)))) _ (x >>> (4 &&& 31)) 2 (by decide)) ⟨va_cnB 2 hts gl_isDrawn_L_below rfl rfl rfl hNb hini ⟨by decide, by decide, by decide +kernel⟩ ⟨Nat.le_of_ble_eq_true rfl, Nat.le_of_ble_eq_true rfl⟩, hstat, trivial⟩ hK hP hD hS hA hl.1 rfl rfl (Nat.le_of_ble_eq_true rfl) ⟨Nat.le_of_ble_eq_true rfl, Nat.le_of_ble_eq_true rfl⟩ dX9_isDrawn_324 (fun r _ H locs hw hP hD hS => ?_)
      obtain ⟨y17, hy17, ey17⟩ := below_nI (x >>> (4 &&& 31)) (k := 2) (by omega) (by omega)
      obtain rfl : r = nI y17 := hw.trans ey17
      refine lv_iconst (v := 0) hx hb dX9_isDrawn_327 (by decide) ?_
      refine x_ViE (E := AE c2 (cA 0)) (As := [.ref tp, .int (nI b), .int 14, .int (nI y17), .int 0]) (rest0 := []) (fun U g mk a h9 => AE.moved (u := U) (U := U.calling g mk a) (Vm.Alike.refl U.vm) h9) (fun U hU hW => AE.moved hW.alike hE.1) ⟨hx, hb, hml, hown, hts⟩ (c_X9_isLine l D cA ad tr R _ τ pd π bd tp ρ h102 c2 c3 oq la sq lb kc B j2 j3 ht2 ht3 hO b n 14 (nI y17) 0 hbB hnb h1 (fun _ => fits_mk (by decide) (by decide) (fun z => absurd ((nI_ltI (a := y17) (b := 0) (by omega) (by decide)).mp z) (by omega)) (fun z => absurd ((nI_ltI (a := 1) (b := y17) (by decide) (by omega)).mp z) (by omega)) (show ¬ (0 : Int32) < 0 from by decide) (show ¬ (0 : Int32) < 0 from by decide)) hUs) (cwV 5 hts gl_isDrawn_X9_isLine rfl rfl rfl (by decide +kernel) ⟨Nat.le_of_ble_eq_true rfl, Nat.le_of_ble_eq_true rfl⟩) hK hP hD hS hA (0 + 210) (by rw [wL_at]; exact own0 hR) rfl hl.1 rfl rfl (Nat.le_of_ble_eq_true rfl) ⟨Nat.le_of_ble_eq_true rfl, Nat.le_of_ble_eq_true rfl⟩ dX9_isDrawn_328 (fun r u H locs hw hP hD hS => ?_)
      obtain ⟨er, hO2, -⟩ := hw
      subst er
      exact x_zret hx hb hr rfl hlocks hK u hP hD hS dX9_isDrawn_331 ⟨rfl, hO2⟩
    · skip
      refine lv_tableIn (off := 264) (tgt := 315) hx hb dX9_isDrawn_51 (by decide) (by decide) (by decide) (by decide) ?_
      refine lv_aload_n hx hb dX9_isDrawn_315 rfl (lv_at hl 3 rfl) ?_
      refine lv_aload_n hx hb dX9_isDrawn_316 rfl (lv_at hl 4 rfl) ?_
      refine lv_iload_n hx hb dX9_isDrawn_317 rfl (lv_at hl 5 rfl) ?_
      refine lv_iload hx hb dX9_isDrawn_318 (lv_at hl 2 rfl) ?_
      refine lv_iload_n hx hb dX9_isDrawn_320 rfl (lv_at hl 6 rfl) ?_
      refine lv_iconst (v := 4) hx hb dX9_isDrawn_321 (by decide) ?_
      refine lv_ishr hx hb dX9_isDrawn_322 ?_
      refine lv_iconst (v := 2) hx hb dX9_isDrawn_323 (by decide) ?_
      refine x_SiM (host := RL) (As := [.int (x >>> (4 &&& 31)), .int 2]) (rest0 := [.int 15, .int (nI b), .ref tp, .ref oq]) ⟨hx, hb, hml, hown, hts⟩ (c_L_below l D (tyB cA ++ tr) (wB cA ad τ ++ (wPg cA ad pd π ++ (wB cA bd ρ ++ ((tp, .inr (8, tpF ad bd)) :: R)))) _ (x >>> (4 &&& 31)) 2 (by decide)) ⟨va_cnB 2 hts gl_isDrawn_L_below rfl rfl rfl hNb hini ⟨by decide, by decide, by decide +kernel⟩ ⟨Nat.le_of_ble_eq_true rfl, Nat.le_of_ble_eq_true rfl⟩, hstat, trivial⟩ hK hP hD hS hA hl.1 rfl rfl (Nat.le_of_ble_eq_true rfl) ⟨Nat.le_of_ble_eq_true rfl, Nat.le_of_ble_eq_true rfl⟩ dX9_isDrawn_324 (fun r _ H locs hw hP hD hS => ?_)
      obtain ⟨y18, hy18, ey18⟩ := below_nI (x >>> (4 &&& 31)) (k := 2) (by omega) (by omega)
      obtain rfl : r = nI y18 := hw.trans ey18
      refine lv_iconst (v := 0) hx hb dX9_isDrawn_327 (by decide) ?_
      refine x_ViE (E := AE c2 (cA 0)) (As := [.ref tp, .int (nI b), .int 15, .int (nI y18), .int 0]) (rest0 := []) (fun U g mk a h9 => AE.moved (u := U) (U := U.calling g mk a) (Vm.Alike.refl U.vm) h9) (fun U hU hW => AE.moved hW.alike hE.1) ⟨hx, hb, hml, hown, hts⟩ (c_X9_isLine l D cA ad tr R _ τ pd π bd tp ρ h102 c2 c3 oq la sq lb kc B j2 j3 ht2 ht3 hO b n 15 (nI y18) 0 hbB hnb h1 (fun _ => fits_mk (by decide) (by decide) (fun z => absurd ((nI_ltI (a := y18) (b := 0) (by omega) (by decide)).mp z) (by omega)) (fun z => absurd ((nI_ltI (a := 1) (b := y18) (by decide) (by omega)).mp z) (by omega)) (show ¬ (0 : Int32) < 0 from by decide) (show ¬ (0 : Int32) < 0 from by decide)) hUs) (cwV 5 hts gl_isDrawn_X9_isLine rfl rfl rfl (by decide +kernel) ⟨Nat.le_of_ble_eq_true rfl, Nat.le_of_ble_eq_true rfl⟩) hK hP hD hS hA (0 + 210) (by rw [wL_at]; exact own0 hR) rfl hl.1 rfl rfl (Nat.le_of_ble_eq_true rfl) ⟨Nat.le_of_ble_eq_true rfl, Nat.le_of_ble_eq_true rfl⟩ dX9_isDrawn_328 (fun r u H locs hw hP hD hS => ?_)
      obtain ⟨er, hO2, -⟩ := hw
      subst er
      exact x_zret hx hb hr rfl hlocks hK u hP hD hS dX9_isDrawn_331 ⟨rfl, hO2⟩
    · skip
      refine lv_tableIn (off := 264) (tgt := 315) hx hb dX9_isDrawn_51 (by decide) (by decide) (by decide) (by decide) ?_
      refine lv_aload_n hx hb dX9_isDrawn_315 rfl (lv_at hl 3 rfl) ?_
      refine lv_aload_n hx hb dX9_isDrawn_316 rfl (lv_at hl 4 rfl) ?_
      refine lv_iload_n hx hb dX9_isDrawn_317 rfl (lv_at hl 5 rfl) ?_
      refine lv_iload hx hb dX9_isDrawn_318 (lv_at hl 2 rfl) ?_
      refine lv_iload_n hx hb dX9_isDrawn_320 rfl (lv_at hl 6 rfl) ?_
      refine lv_iconst (v := 4) hx hb dX9_isDrawn_321 (by decide) ?_
      refine lv_ishr hx hb dX9_isDrawn_322 ?_
      refine lv_iconst (v := 2) hx hb dX9_isDrawn_323 (by decide) ?_
      refine x_SiM (host := RL) (As := [.int (x >>> (4 &&& 31)), .int 2]) (rest0 := [.int 16, .int (nI b), .ref tp, .ref oq]) ⟨hx, hb, hml, hown, hts⟩ (c_L_below l D (tyB cA ++ tr) (wB cA ad τ ++ (wPg cA ad pd π ++ (wB cA bd ρ ++ ((tp, .inr (8, tpF ad bd)) :: R)))) _ (x >>> (4 &&& 31)) 2 (by decide)) ⟨va_cnB 2 hts gl_isDrawn_L_below rfl rfl rfl hNb hini ⟨by decide, by decide, by decide +kernel⟩ ⟨Nat.le_of_ble_eq_true rfl, Nat.le_of_ble_eq_true rfl⟩, hstat, trivial⟩ hK hP hD hS hA hl.1 rfl rfl (Nat.le_of_ble_eq_true rfl) ⟨Nat.le_of_ble_eq_true rfl, Nat.le_of_ble_eq_true rfl⟩ dX9_isDrawn_324 (fun r _ H locs hw hP hD hS => ?_)
      obtain ⟨y19, hy19, ey19⟩ := below_nI (x >>> (4 &&& 31)) (k := 2) (by omega) (by omega)
      obtain rfl : r = nI y19 := hw.trans ey19
      refine lv_iconst (v := 0) hx hb dX9_isDrawn_327 (by decide) ?_
      refine x_ViE (E := AE c2 (cA 0)) (As := [.ref tp, .int (nI b), .int 16, .int (nI y19), .int 0]) (rest0 := []) (fun U g mk a h9 => AE.moved (u := U) (U := U.calling g mk a) (Vm.Alike.refl U.vm) h9) (fun U hU hW => AE.moved hW.alike hE.1) ⟨hx, hb, hml, hown, hts⟩ (c_X9_isLine l D cA ad tr R _ τ pd π bd tp ρ h102 c2 c3 oq la sq lb kc B j2 j3 ht2 ht3 hO b n 16 (nI y19) 0 hbB hnb h1 (fun _ => fits_mk (by decide) (by decide) (fun z => absurd ((nI_ltI (a := y19) (b := 0) (by omega) (by decide)).mp z) (by omega)) (fun z => absurd ((nI_ltI (a := 1) (b := y19) (by decide) (by omega)).mp z) (by omega)) (show ¬ (0 : Int32) < 0 from by decide) (show ¬ (0 : Int32) < 0 from by decide)) hUs) (cwV 5 hts gl_isDrawn_X9_isLine rfl rfl rfl (by decide +kernel) ⟨Nat.le_of_ble_eq_true rfl, Nat.le_of_ble_eq_true rfl⟩) hK hP hD hS hA (0 + 210) (by rw [wL_at]; exact own0 hR) rfl hl.1 rfl rfl (Nat.le_of_ble_eq_true rfl) ⟨Nat.le_of_ble_eq_true rfl, Nat.le_of_ble_eq_true rfl⟩ dX9_isDrawn_328 (fun r u H locs hw hP hD hS => ?_)
      obtain ⟨er, hO2, -⟩ := hw
      subst er
      exact x_zret hx hb hr rfl hlocks hK u hP hD hS dX9_isDrawn_331 ⟨rfl, hO2⟩
    · skip
      refine lv_tableIn (off := 264) (tgt := 315) hx hb dX9_isDrawn_51 (by decide) (by decide) (by decide) (by decide) ?_
      refine lv_aload_n hx hb dX9_isDrawn_315 rfl (lv_at hl 3 rfl) ?_
      refine lv_aload_n hx hb dX9_isDrawn_316 rfl (lv_at hl 4 rfl) ?_
      refine lv_iload_n hx hb dX9_isDrawn_317 rfl (lv_at hl 5 rfl) ?_
      refine lv_iload hx hb dX9_isDrawn_318 (lv_at hl 2 rfl) ?_
      refine lv_iload_n hx hb dX9_isDrawn_320 rfl (lv_at hl 6 rfl) ?_
      refine lv_iconst (v := 4) hx hb dX9_isDrawn_321 (by decide) ?_
      refine lv_ishr hx hb dX9_isDrawn_322 ?_
      refine lv_iconst (v := 2) hx hb dX9_isDrawn_323 (by decide) ?_
      refine x_SiM (host := RL) (As := [.int (x >>> (4 &&& 31)), .int 2]) (rest0 := [.int 17, .int (nI b), .ref tp, .ref oq]) ⟨hx, hb, hml, hown, hts⟩ (c_L_below l D (tyB cA ++ tr) (wB cA ad τ ++ (wPg cA ad pd π ++ (wB cA bd ρ ++ ((tp, .inr (8, tpF ad bd)) :: R)))) _ (x >>> (4 &&& 31)) 2 (by decide)) ⟨va_cnB 2 hts gl_isDrawn_L_below rfl rfl rfl hNb hini ⟨by decide, by decide, by decide +kernel⟩ ⟨Nat.le_of_ble_eq_true rfl, Nat.le_of_ble_eq_true rfl⟩, hstat, trivial⟩ hK hP hD hS hA hl.1 rfl rfl (Nat.le_of_ble_eq_true rfl) ⟨Nat.le_of_ble_eq_true rfl, Nat.le_of_ble_eq_true rfl⟩ dX9_isDrawn_324 (fun r _ H locs hw hP hD hS => ?_)
      obtain ⟨y20, hy20, ey20⟩ := below_nI (x >>> (4 &&& 31)) (k := 2) (by omega) (by omega)
      obtain rfl : r = nI y20 := hw.trans ey20
      refine lv_iconst (v := 0) hx hb dX9_isDrawn_327 (by decide) ?_
      refine x_ViE (E := AE c2 (cA 0)) (As := [.ref tp, .int (nI b), .int 17, .int (nI y20), .int 0]) (rest0 := []) (fun U g mk a h9 => AE.moved (u := U) (U := U.calling g mk a) (Vm.Alike.refl U.vm) h9) (fun U hU hW => AE.moved hW.alike hE.1) ⟨hx, hb, hml, hown, hts⟩ (c_X9_isLine l D cA ad tr R _ τ pd π bd tp ρ h102 c2 c3 oq la sq lb kc B j2 j3 ht2 ht3 hO b n 17 (nI y20) 0 hbB hnb h1 (fun _ => fits_mk (by decide) (by decide) (fun z => absurd ((nI_ltI (a := y20) (b := 0) (by omega) (by decide)).mp z) (by omega)) (fun z => absurd ((nI_ltI (a := 1) (b := y20) (by decide) (by omega)).mp z) (by omega)) (show ¬ (0 : Int32) < 0 from by decide) (show ¬ (0 : Int32) < 0 from by decide)) hUs) (cwV 5 hts gl_isDrawn_X9_isLine rfl rfl rfl (by decide +kernel) ⟨Nat.le_of_ble_eq_true rfl, Nat.le_of_ble_eq_true rfl⟩) hK hP hD hS hA (0 + 210) (by rw [wL_at]; exact own0 hR) rfl hl.1 rfl rfl (Nat.le_of_ble_eq_true rfl) ⟨Nat.le_of_ble_eq_true rfl, Nat.le_of_ble_eq_true rfl⟩ dX9_isDrawn_328 (fun r u H locs hw hP hD hS => ?_)
      obtain ⟨er, hO2, -⟩ := hw
      subst er
      exact x_zret hx hb hr rfl hlocks hK u hP hD hS dX9_isDrawn_331 ⟨rfl, hO2⟩
    · skip
      refine lv_tableOut (tgt := 332) hx hb dX9_isDrawn_51 (Or.inr (by decide)) (by decide) ?_
      refine lv_aload_n hx hb dX9_isDrawn_332 rfl (lv_at hl 3 rfl) ?_
      refine lv_aload_n hx hb dX9_isDrawn_333 rfl (lv_at hl 4 rfl) ?_
      refine lv_iload_n hx hb dX9_isDrawn_334 rfl (lv_at hl 5 rfl) ?_
      refine lv_iload hx hb dX9_isDrawn_335 (lv_at hl 2 rfl) ?_
      refine lv_iconst (v := 0) hx hb dX9_isDrawn_337 (by decide) ?_
      refine lv_iconst (v := 0) hx hb dX9_isDrawn_338 (by decide) ?_
      refine x_ViE (E := AE c2 (cA 0)) (As := [.ref tp, .int (nI b), .int 18, .int 0, .int 0]) (rest0 := []) (fun U g mk a h9 => AE.moved (u := U) (U := U.calling g mk a) (Vm.Alike.refl U.vm) h9) (fun U hU hW => AE.moved hW.alike hE.1) ⟨hx, hb, hml, hown, hts⟩ (c_X9_isLine l D cA ad tr R _ τ pd π bd tp ρ h102 c2 c3 oq la sq lb kc B j2 j3 ht2 ht3 hO b n 18 0 0 hbB hnb h1 (fun _ => fits_mk (by decide) (by decide) (show ¬ (0 : Int32) < 0 from by decide) (show ¬ (0 : Int32) < 0 from by decide) (show ¬ (0 : Int32) < 0 from by decide) (show ¬ (0 : Int32) < 0 from by decide)) hUs) (cwV 5 hts gl_isDrawn_X9_isLine rfl rfl rfl (by decide +kernel) ⟨Nat.le_of_ble_eq_true rfl, Nat.le_of_ble_eq_true rfl⟩) hK hP hD hS hA (0 + 210) (by rw [wL_at]; exact own0 hR) rfl hl.1 rfl rfl (Nat.le_of_ble_eq_true rfl) ⟨Nat.le_of_ble_eq_true rfl, Nat.le_of_ble_eq_true rfl⟩ dX9_isDrawn_339 (fun r u H locs hw hP hD hS => ?_)
      obtain ⟨er, hO2, -⟩ := hw
      subst er
      exact x_zret hx hb hr rfl hlocks hK u hP hD hS dX9_isDrawn_342 ⟨rfl, hO2⟩
  · skip
    refine lv_iconst (v := 1) hx hb dX9_isDrawn_27 (by decide) ?_
    refine W.widen (k := 1) (n := 3) (by omega) (by omega) ?_
    exact x_zret hx hb hr rfl hlocks hK (R, π) hP hD hS dX9_isDrawn_28 ⟨rfl, hO⟩
