/-! the law's Own: what it holds; isTold, isLine -/
theorem i32_nat {c : Int32} {m : Nat} (hm : m < 2 ^ 31) (h0 : ¬ c < 0) (h1 : ¬ nI m < c) : ∃ n, n ≤ m ∧ c = nI n := by
  have a : 0 ≤ c.toInt := by have := Int32.not_lt.mp h0; rw [Int32.le_iff_toInt_le] at this; simpa using this
  have b : c.toInt ≤ m := by have := Int32.not_lt.mp h1; rw [Int32.le_iff_toInt_le, nI_toI hm] at this; exact this
  refine ⟨c.toInt.toNat, by omega, ?_⟩
  apply Int32.toInt_inj.1; rw [nI_toI (by omega)]; omega
theorem ip0 : IP (fun _ _ => 0) 0 := ⟨rfl, by decide, fun b _ => ⟨0, by decide, rfl⟩, fun b l _ hl h => absurd ((nI_ltI (a := l) (b := 0) (by omega) (by decide)).mp h) (by omega)⟩
theorem ip_body {π : Sg} {B : Nat} (h : IP π B) (hB : B < 8) : IP (up2 π 0 0 (nI (B + 1))) (B + 1) := by
  obtain ⟨h1, h2, h3, h4⟩ := h
  refine ⟨by rw [up2_k]; exact if_pos rfl, hB, fun b hb => ?_, fun b l hb hl h => ?_⟩
  · rw [up2_ne (by decide)]; exact h3 b hb
  · rw [up2_ne (by decide), up2_ne (by decide), up2_ne (by decide)]
    rw [up2_ne (by decide)] at h; exact h4 b l hb hl h
theorem fits_pl {k a c : Int32} {n : Nat} (hn : n < 12) (h : m_fits k a c (nI n) = true) : PL k a c := by
  unfold m_fits at h
  by_cases k0 : k < 0
  · rw [if_pos k0] at h; cases h
  rw [if_neg k0] at h
  by_cases k1 : ¬ k ≤ 18
  · rw [if_neg k1] at h; cases h
  have k1 := Decidable.not_not.mp k1
  rw [if_pos k1] at h
  by_cases a0 : a < m_lowA k
  · rw [if_pos a0] at h; cases h
  rw [if_neg a0] at h
  by_cases a1 : m_highA k < a
  · rw [if_pos a1] at h; cases h
  rw [if_neg a1] at h
  by_cases b0 : c < m_lowB k (nI n)
  · rw [if_pos b0] at h; cases h
  rw [if_neg b0] at h
  by_cases b1 : m_highB k (nI n) < c
  · rw [if_pos b1] at h; cases h
  refine ⟨fun hk => ?_, fun hk => ?_, fun hk => ?_, fun hk => ?_⟩
  · rcases hk with e | e | e | e <;> subst e
    · obtain ⟨j, j1, j2⟩ := i32_nat (m := n) (by omega) b0 b1; exact ⟨j, by omega, j2⟩
    all_goals
      have b2 : ¬ c < nI (n + 1) := by have := b0; rw [show m_lowB _ (nI n) = nI n + 1 from rfl, nI_1] at this; exact this
      have b3 : ¬ c < 0 := fun z => b2 (Int32.lt_of_lt_of_le z (nI_pos' (by omega)))
      obtain ⟨j, j1, j2⟩ := i32_nat (m := 12) (by decide) b3 b1; exact ⟨j, j1, j2⟩
  · subst hk; intro z; subst z; exact absurd a0 (by decide)
  · subst hk
    obtain ⟨j, j1, j2⟩ := i32_nat (m := 20) (by decide) a0 a1
    by_cases j0 : j = 0
    · exact Or.inl (by rw [j2, j0]; rfl)
    · exact Or.inr ⟨j, by omega, j1, j2⟩
  · subst hk
    obtain ⟨j, j1, j2⟩ := i32_nat (m := 7) (by decide) a0 a1
    exact ⟨j, by omega, j2⟩
theorem addLine_eq {π : Sg} {b n : Nat} {k a c : Int32} (hb : b < 8) (hn : n < 12) (h1 : π 1 b = nI n) : m_addLine π (nI b) k a c = up2 (up2 (up2 (up2 π 2 (b * 12 + n) k) 3 (b * 12 + n) a) 4 (b * 12 + n) c) 1 b (nI (n + 1)) := by
  unfold m_addLine
  rw [linesOf_nI hb, h1, placeOf_nI hb, if_pos hn, if_neg (fun z => neg1_ne (k := b * 12 + n) (by omega) z.symm), nI_clamp (by omega), nI_clamp (by omega), nI_1]
theorem ip_line {π : Sg} {B b n : Nat} {k a c : Int32} (h : IP π B) (hb : b < 8) (hn : n < 12) (h1 : π 1 b = nI n) (hf : m_fits k a c (nI n) = true) : IP (m_addLine π (nI b) k a c) B := by
  rw [addLine_eq hb hn h1]
  obtain ⟨g1, g2, g3, g4⟩ := h
  have e : ∀ (F : Sg) (v : Int32) (i : Nat), up2 F 1 b v 1 i = if i = b then v else F 1 i := fun F v i => by rw [up2_k]; rfl
  have e2 : ∀ (F : Sg) (x j i : Nat) (v : Int32), up2 F x j v x i = if i = j then v else F x i := fun F x j i v => by rw [up2_k]; rfl
  refine ⟨?_, g2, fun i hi => ?_, fun i j hi hj hz => ?_⟩
  · rw [up2_ne (by decide), up2_ne (by decide), up2_ne (by decide), up2_ne (by decide)]; exact g1
  · rw [e]
    by_cases c1 : i = b
    · rw [if_pos c1]; exact ⟨n + 1, by omega, rfl⟩
    · rw [if_neg c1, up2_ne (by decide), up2_ne (by decide), up2_ne (by decide)]; exact g3 i hi
  · rw [e] at hz
    rw [up2_ne (a := 2) (by decide), up2_ne (a := 2) (k := 4) (by decide), up2_ne (a := 2) (k := 3) (by decide), e2, up2_ne (a := 3) (k := 1) (by decide), up2_ne (a := 3) (k := 4) (by decide), e2, up2_ne (a := 3) (k := 2) (by decide), up2_ne (a := 4) (k := 1) (by decide), e2, up2_ne (a := 4) (k := 3) (by decide), up2_ne (a := 4) (k := 2) (by decide)]
    by_cases c1 : i * 12 + j = b * 12 + n
    · rw [if_pos c1, if_pos c1, if_pos c1]; exact fits_pl hn hf
    · rw [if_neg c1, if_neg c1, if_neg c1]
      refine g4 i j hi hj ?_
      by_cases c2 : i = b
      · rw [if_pos c2] at hz
        subst c2
        rw [h1]
        have := (nI_ltI (by omega) (by omega)).mp hz
        exact (nI_ltI (by omega) (by omega)).mpr (by omega)
      · rw [if_neg c2, up2_ne (by decide), up2_ne (by decide), up2_ne (by decide)] at hz; exact hz
/-- the numbers that LINES hold are small -/
def PB (π : Sg) : Prop := ∀ q, bnd (π 3 q)
theorem ite_leI {c : Prop} [Decidable c] {x y z : Int32} (h1 : x ≤ z) (h2 : y ≤ z) : (if c then x else y) ≤ z := by
  by_cases h : c
  · rw [if_pos h]; exact h1
  · rw [if_neg h]; exact h2
theorem fits_bnd {k a c n : Int32} (h : m_fits k a c n = true) : ¬ a < -99 ∧ ¬ 99 < a := by
  unfold m_fits at h
  by_cases k0 : k < 0
  · rw [if_pos k0] at h; cases h
  rw [if_neg k0] at h
  by_cases k1 : ¬ k ≤ 18
  · rw [if_neg k1] at h; cases h
  have k1 := Decidable.not_not.mp k1
  rw [if_pos k1] at h
  by_cases a0 : a < m_lowA k
  · rw [if_pos a0] at h; cases h
  rw [if_neg a0] at h
  by_cases a1 : m_highA k < a
  · rw [if_pos a1] at h; cases h
  have hl : (-99 : Int32) ≤ m_lowA k := by
    unfold m_lowA
    repeat' split
    all_goals decide
  have hh : m_highA k ≤ (99 : Int32) := by
    unfold m_highA
    repeat refine ite_leI (by decide) ?_
    decide
  exact ⟨fun z => a0 (Int32.lt_of_lt_of_le z hl), fun z => a1 (Int32.lt_of_le_of_lt hh z)⟩
theorem bnd_fits {k a c n : Int32} (h : m_fits k a c n = true) : bnd a := ⟨Int32.le_trans (by decide) (Int32.not_lt.mp (fits_bnd h).1), Int32.le_trans (Int32.not_lt.mp (fits_bnd h).2) (by decide)⟩
/-- what the Own holds is what the Program holds -/
def OI (c0 c2 c3 : ClassId) (oq la sq : Nat) (lb : Nat → Nat) (kc : Nat × va_E) (π : Sg) (B : Nat) (R : va_W) : Prop := ∃ (LA : Nat → Nat → Option Nat) (z : Nat → Int32) (r2 : va_W), R = oW c0 c2 c3 oq la sq (nI B) lb LA z ++ (kc :: r2) ∧ IP π B ∧ (∀ i, i < 8 → z i = π 1 i) ∧ (∀ i, B ≤ i → i < 8 → π 1 i = 0) ∧ (∀ i, i < 8 → ∀ j, j < 12 → nI j < π 1 i → ∃ (q k : Nat) (f : Nat → Int32), LA i j = some q ∧ (kc :: r2)[k]? = some (q, .inl (c0, 3, .inl f)) ∧ f 0 = π 2 (i * 12 + j)) ∧ PB π
theorem OI.told {c0 c2 c3 : ClassId} {oq la sq : Nat} {lb : Nat → Nat} {kc : Nat × va_E} {π : Sg} {B : Nat} {R R1 : va_W} (h : OI c0 c2 c3 oq la sq lb kc π B R) (hB : B < 8) (e : R1 = R.set 0 (oq, .inr (9, (oF la sq (nI B)).set 2 (.int (nI (B + 1)))))) : OI c0 c2 c3 oq la sq lb kc (up2 π 0 0 (nI (B + 1))) (B + 1) R1 := by
  obtain ⟨LA, z, r2, h1, h2, h3, h4, h5, h6⟩ := h
  have e1 : up2 π 0 0 (nI (B + 1)) 1 = π 1 := up2_ne (by decide)
  have e2 : up2 π 0 0 (nI (B + 1)) 2 = π 2 := up2_ne (by decide)
  refine ⟨LA, z, r2, by rw [e, h1]; rfl, ip_body h2 hB, fun i hi => by rw [e1]; exact h3 i hi, fun i h hi => by rw [e1]; exact h4 i (by omega) hi, fun i hi j hj hz => ?_, fun q => by rw [up2_ne (by decide)]; exact h6 q⟩
  rw [e1] at hz; rw [e2]; exact h5 i hi j hj hz
set_option maxHeartbeats 4000000 in
set_option maxRecDepth 100000 in
theorem c_X9_isTold (l : Launch) (D : va_G) (cA : Nat → ClassId) (ad : Nat → Nat) (tr : List (ClassId × FieldType)) (R : va_W) (sz : Nat) (τ : Sg) (pd : Nat → Nat) (π : Sg) (bd : Nat → Nat) (tp : Nat) (ρ : Sg) (h102 : bd 102 = ad 102) (c2 c3 : ClassId) (oq la sq : Nat) (lb : Nat → Nat) (kc : Nat × va_E) (B : Nat) (hO : OI (cA 0) c2 c3 oq la sq lb kc π B R) (hB : B < 8) : Met l yX9_isTold wl_isTold ({ frames := 2, cells := 0, slots := 0, locals := 41 }) (va_Pc [.ref oq, .ref tp] (inW D (tyB cA ++ tr) (wB cA ad τ ++ (wPg cA ad pd π ++ (wB cA bd ρ ++ ((tp, .inr (8, tpF ad bd)) :: R)))) sz)) (va_Qi (fun (r : Int32) (u : va_W × Sg) => r = 1 ∧ OI (cA 0) c2 c3 oq la sq lb kc u.2 (B + 1) u.1 ∧ u.2 = up2 π 0 0 (nI (B + 1))) (fun u : va_W × Sg => outW D (tyB cA ++ tr) (va_A (wB cA ad τ ++ (wPg cA ad pd π ++ (wB cA bd ρ ++ ((tp, .inr (8, tpF ad bd)) :: R)))) sz) (wB cA ad τ ++ (wPg cA ad pd u.2 ++ (wB cA bd ρ ++ ((tp, .inr (8, tpF ad bd)) :: u.1))))) (va_A (wB cA ad τ ++ (wPg cA ad pd π ++ (wB cA bd ρ ++ ((tp, .inr (8, tpF ad bd)) :: R)))) sz)) 0 0 (va_A (wB cA ad τ ++ (wPg cA ad pd π ++ (wB cA bd ρ ++ ((tp, .inr (8, tpF ad bd)) :: R)))) sz) := by
  refine Met.ofW (cc := cX9_isTold) (maxL := 2) (ret := (some .boolean)) (by decide) rfl ?_
  intro p e s m args below meth c s₁ B9 hml hv
  obtain ⟨rfl, hsz, hP, hK, hD0⟩ := hv
  have hx := B9.exec
  have hb := B9.bytes
  have hr := B9.returns
  have hts := atoms_spec (ws := wl_isTold) B9.pre
  have hown : s.vm.findClass RX9 = some m.cls := findClass_of_methodNamed B9.named
  have hlocks := B9.notSynchronized
  subst hsz
  have hD := hD0.self (sz := s.heap.size)
  clear hD0
  generalize hAe : va_A (wB cA ad τ ++ (wPg cA ad pd π ++ (wB cA bd ρ ++ ((tp, .inr (8, tpF ad bd)) :: R)))) s.heap.size = A at hD ⊢
  have hA : ∀ q : Nat, s.heap.size ≤ q → A q := fun q h => by rw [← hAe]; exact Or.inr h
  clear hAe
  have hS : va_S A s.heap s.heap [] := va_S.rf
  have hP : va_P D vwCl (wB cA ad τ ++ (wPg cA ad pd π ++ (wB cA bd ρ ++ ((tp, .inr (8, tpF ad bd)) :: R)))) s.heap := hP
  have hl := lv_entry ([.ref oq, .ref tp]) (n := 2) (Nat.le_of_ble_eq_true rfl)
  rw [lg_entry_eq]
  generalize (lg_sl ([.ref oq, .ref tp]) ++ List.replicate (2 - (lg_sl ([.ref oq, .ref tp])).length) Slot.unset).toArray = ls at hl ⊢
  have hl : lv_has ls 2 [(0, .ref oq), (1, .ref tp)] := hl
  obtain ⟨LA, z, r2, hR, hIP, -⟩ := id hO
  have hB0 : π 0 0 = nI B := hIP.1
  have k18 := hts (.fieldLink RX9 18 "ScopeRowLaw$Own" "bodies" "I") (by decide +kernel)
  have own0 := own0 hR
  obtain ⟨R1, eR1⟩ : ∃ z : va_W, z = R.set 0 (oq, .inr (9, (oF la sq (nI B)).set 2 (.int (nI (B + 1))))) := ⟨_, rfl⟩
  have hO1 := hO.told hB eR1
  obtain ⟨LA1, z1, r21, hR1, -⟩ := id hO1
  have own1 : R1[0]? = some (oq, .inr (9, oF la sq (nI (B + 1)))) := by rw [hR1]; rfl
  clear hR hR1
  refine lv_aload_n hx hb dX9_isTold_0 rfl (lv_at hl 0 rfl) ?_
  refine lv_dup hx hb dX9_isTold_1 rfl ?_
  refine va_get (D := D) (C := RX9) (T := TX9) (N := 3) (ci := 9) (v := .int (nI B)) hx hb hts nl_isTold_X9 hown hK hP (0 + 210) (by rw [wL_at]; exact own0) rfl 2 (by decide) k18 (fun _ h9 => h9) rfl dX9_isTold_2 ?_
  refine lv_iconst (v := 1) hx hb dX9_isTold_5 (by decide) ?_
  refine lv_iadd hx hb dX9_isTold_6 ?_
  refine W.eq (g2 := F0 m 7 ls [.int (nI (B + 1)), .ref oq]) (by rw [show nI B + 1 = nI (B + 1) from nI_1 B]) ?_
  refine va_put (D := D) (C := RX9) (T := TX9) (N := 3) (ci := 9) (fs := oF la sq (nI B)) hx hb hts nl_isTold_X9 tyX9 tyX9_ok nmX9 hown hK hP hD hS (0 + 210) (by rw [wL_at]; exact own0) rfl 2 (by decide) k18 (fun _ h9 => h9) rfl (tyX9_ok 2 (by decide)) rfl rfl (show 2 < 3 by decide) dX9_isTold_7 (fun H locs hP hD hS => ?_)
  rw [wL_set, ← eR1] at hP hD
  refine lv_aload_n hx hb dX9_isTold_10 rfl (lv_at hl 1 rfl) ?_
  refine x_Vi (As := []) (rest0 := []) ⟨hx, hb, hml, hown, hts⟩ (c_X8_body l D cA ad tr R1 H.size τ pd π bd tp ρ h102 (by rw [hB0]; exact (nI_ltI (b := 8) (by omega) (by decide)).mpr hB)) (cwV 0 hts gl_isTold_X8_body rfl rfl rfl (by decide +kernel) ⟨Nat.le_of_ble_eq_true rfl, Nat.le_of_ble_eq_true rfl⟩) hK hP hD hS hA 209 w_tp rfl hl.1 rfl rfl (Nat.le_of_ble_eq_true rfl) ⟨Nat.le_of_ble_eq_true rfl, Nat.le_of_ble_eq_true rfl⟩ dX9_isTold_11 (fun r π1 H locs hw hP hD hS => ?_)
  obtain ⟨er, eπ1⟩ := hw
  rw [hB0] at er
  rw [hB0, nI_1] at eπ1
  subst er
  refine lv_aload_n hx hb dX9_isTold_14 rfl (lv_at hl 0 rfl) ?_
  refine va_get (D := D) (C := RX9) (T := TX9) (N := 3) (ci := 9) (v := .int (nI (B + 1))) hx hb hts nl_isTold_X9 hown hK hP (0 + 210) (by rw [wL_at]; exact own1) rfl 2 (by decide) k18 (fun _ h9 => h9) rfl dX9_isTold_15 ?_
  refine lv_iconst (v := 1) hx hb dX9_isTold_18 (by decide) ?_
  refine lv_isub hx hb dX9_isTold_19 ?_
  refine lv_icmp_ne (tgt := 27) hx hb dX9_isTold_20 (by decide) (fun c1 => ?_) (fun c1 => ?_)
  · exact absurd (by rw [← nI_1]; exact (Int32.add_sub_cancel (nI B) 1).symm) c1
  refine lv_iconst (v := 1) hx hb dX9_isTold_23 (by decide) ?_
  refine lv_goto (tgt := 28) hx hb dX9_isTold_24 (by decide) ?_
  exact x_zret hx hb hr rfl hlocks hK (R1, π1) hP hD hS dX9_isTold_28 ⟨rfl, by rw [eπ1]; exact hO1, eπ1⟩
