/-! the law: what its two rows of rows hold -/
section ROWS
variable {π τ σ : Sg} {T S t U T' S' t' U' : Nat} {st st' : Nat → List Nat}
def FT (τ : Sg) (T : Nat) (F : Nat → Nat → Int32) : Prop := ∀ i, i < 24 → (i < T → F i 0 = m_aboutTask τ (nI i) 1 ∧ F i 1 = m_aboutTask τ (nI i) 3) ∧ (T ≤ i → F i 0 = 0)
def GS (τ : Sg) (S : Nat) (G : Nat → Nat → Int32) : Prop := ∀ i, i < 40 → (i < S → G i 0 = m_aboutScope τ (nI i) 1 ∧ G i 1 = m_aboutScope τ (nI i) 2) ∧ (S ≤ i → G i 0 = 0 ∧ G i 1 = 0)
theorem AP_rf (h : Inv π T S t U st none none none τ) (h1 : TB τ) (h2 : FL τ) : AP π τ T S t U τ :=
  ⟨T, S, t, U, st, Nat.le_refl _, Nat.le_refl _, by omega, by omega, h, h1, h2, fun _ _ _ _ => rfl, Ms.cell (fun _ _ => ⟨rfl, rfl⟩)⟩
theorem tk_ok (h : Inv π T S t U st none none none τ) (hm : Mt τ σ) {F : Nat → Nat → Int32} (hF : FT τ T F) {k : Nat} (hk : k < 24) : F k 0 ≤ 1 ∨ (m_aboutTask σ (nI k) 1 = F k 0 ∧ m_aboutTask σ (nI k) 3 = F k 1) := by
  obtain ⟨f1, f2⟩ := hF k hk
  by_cases c : k < T
  · obtain ⟨e1, e3⟩ := f1 c
    rcases stay_task h hm c with z | ⟨z1, z3⟩
    · left; rw [e1]; exact Int32.not_lt.mp z
    · right; rw [e1, e3]; exact ⟨z1, z3⟩
  · left; rw [f2 (by omega)]; decide
theorem sc_ok (h : Inv π T S t U st none none none τ) (h2 : Inv π T' S' t' U' st' none none none σ) (hS : S ≤ S') (hm : Ms τ σ) {G : Nat → Nat → Int32} (hG : GS τ S G) {k : Nat} (hk : k < S') : ¬ m_aboutScope σ (nI k) 1 < G k 0 ∧ ¬ m_aboutScope σ (nI k) 2 < G k 1 ∧ (G k 0 = 2 → G k 1 = m_aboutScope σ (nI k) 2) := by
  have hk40 : k < 40 := by have := h2.1.1.2.1; omega
  obtain ⟨g1, g2⟩ := hG k hk40
  by_cases c : k < S
  · obtain ⟨e1, e2⟩ := g1 c
    rw [e1, e2]
    have z := stay_scope h h2 hS hm c
    exact ⟨z.1, z.2.1, z.2.2⟩
  · obtain ⟨e1, e2⟩ := g2 (by omega)
    rw [e1, e2, aS1 hk40, aS2 hk40]
    refine ⟨?_, ?_, fun z => absurd z (by decide)⟩
    · rcases h2.1.1.2.2.2.2.2.2.1 k hk with e | e | e <;> rw [e] <;> decide
    · by_cases d : σ (k + 54) 5 = 0
      · rw [if_pos d]; decide
      · rw [if_neg d]; decide
theorem FT_up {Fo F : Nat → Nat → Int32} (hT : T ≤ T') (h : FT τ T Fo) (h1 : ∀ i, i < T' → F i 0 = m_aboutTask σ (nI i) 1 ∧ F i 1 = m_aboutTask σ (nI i) 3) (h2 : ∀ i, T' ≤ i → F i = Fo i) : FT σ T' F := fun i hi => ⟨fun z => h1 i z, fun z => by rw [h2 i z]; exact (h i hi).2 (by omega)⟩
theorem GS_up {Go G : Nat → Nat → Int32} (hS : S ≤ S') (h : GS τ S Go) (h1 : ∀ i, i < S' → G i 0 = m_aboutScope σ (nI i) 1 ∧ G i 1 = m_aboutScope σ (nI i) 2) (h2 : ∀ i, S' ≤ i → G i = Go i) : GS σ S' G := fun i hi => ⟨fun z => h1 i z, fun z => by rw [h2 i z]; exact (h i hi).2 (by omega)⟩
theorem FT_0 : FT s0 0 (fun _ _ => 0) := fun i _ => ⟨fun z => absurd z (Nat.not_lt_zero i), fun _ => rfl⟩
theorem GS_0 : GS s0 0 (fun _ _ => 0) := fun i _ => ⟨fun z => absurd z (Nat.not_lt_zero i), fun _ => ⟨rfl, rfl⟩⟩
end ROWS
/-- a row that gets two new numbers -/
theorem row_put {F F1 F2 : Nat → Nat → Int32} {k : Nat} {v w : Int32} (e1 : F1 = fun j => if j = k then upd (F k) 0 v else F j) (e2 : F2 = fun j => if j = k then upd (F1 k) 1 w else F1 j) : (F2 k 0 = v ∧ F2 k 1 = w) ∧ ∀ i, i ≠ k → F2 i = F i := by
  refine ⟨?_, fun i hi => by rw [e2, e1]; show (if i = k then _ else (if i = k then _ else _)) = _; rw [if_neg hi, if_neg hi]⟩
  have a : F1 k = upd (F k) 0 v := by rw [e1]; exact if_pos rfl
  have b : F2 k = upd (F1 k) 1 w := by rw [e2]; exact if_pos rfl
  rw [b, a]
  exact ⟨rfl, rfl⟩
set_option maxHeartbeats 4000000 in
set_option maxRecDepth 100000 in
theorem law_E1 (l : Launch) {p : Program} {e : Env} {s : State} {m : MethodId} {below : List Frame} {meth : Method} {c : Code} {b : Nat} {Q : State → Prop} (hx : p.tables.exec = Jvm.exec) (hb : c.code = code) (hml : c.maxLocals = 9) (hown : s.vm.findClass RL = some m.cls) (hts : ∀ w ∈ lw_tbl, w.before #[Value.ref b] s = true) {D : va_G} {cA : Nat → ClassId} {tr : List (ClassId × FieldType)} (hK : va_K D vwCl (tyB cA ++ tr) s) {A : Nat → Prop} (hA : ∀ q, s.heap.size ≤ q → A q) (ad pd bd : Nat → Nat) (tp : Nat) (h102 : bd 102 = ad 102) {c2 : ClassId} {j2 : Nat} (ht2 : tr[j2]? = some (c2, .array .int)) (lq cq : Nat) (lr cr : Nat → Nat) (qk oq time : Nat) (x : Int32) (R : va_W) {τ σ π ρ : Sg} {T S t U T' S' t' U' : Nat} {st st' : Nat → List Nat} (h : Inv π T S t U st none none none τ) (h2 : Inv π T' S' t' U' st' none none none σ) (hm : Mt τ σ) {Fo G : Nat → Nat → Int32} (hFT : FT τ T Fo) (hTT : T ≤ T') {cells slots : Nat} (hc : cells ≤ 600104) (hs : slots ≤ 7301314) {H : Heap} {locs : List Loc} {ls : Array Slot} (R0 : va_W) (eR0 : R0 = R ++ XX (cA 0) c2 lq lr cq cr Fo G) (hl : lv_has ls 9 [(7, .int x), (6, .int (nI time)), (5, .ref cq), (4, .ref lq), (3, .ref qk), (2, .ref oq), (1, .ref tp), (0, .ref b)]) (hP : va_P D vwCl (wB cA ad σ ++ (wPg cA ad pd π ++ (wB cA bd ρ ++ ((tp, .inr (8, tpF ad bd)) :: R0)))) H) (hD : va_D A (wB cA ad σ ++ (wPg cA ad pd π ++ (wB cA bd ρ ++ ((tp, .inr (8, tpF ad bd)) :: R0))))) (hS : va_S A s.heap H locs) (kk : ∀ (F : Nat → Nat → Int32) (H : Heap) (locs : List Loc) (ls : Array Slot), FT σ T' F → lv_has ls 9 [(7, .int x), (6, .int (nI time)), (5, .ref cq), (4, .ref lq), (3, .ref qk), (2, .ref oq), (1, .ref tp), (0, .ref b)] → va_P D vwCl (wB cA ad σ ++ (wPg cA ad pd π ++ (wB cA bd ρ ++ ((tp, .inr (8, tpF ad bd)) :: (R ++ XX (cA 0) c2 lq lr cq cr F G))))) H → va_D A (wB cA ad σ ++ (wPg cA ad pd π ++ (wB cA bd ρ ++ ((tp, .inr (8, tpF ad bd)) :: (R ++ XX (cA 0) c2 lq lr cq cr F G))))) → va_S A s.heap H locs → W p l e room_1 s m #[Value.ref b] below meth c H locs cells slots Q (F0 m 473 ls [])) : W p l e room_1 s m #[Value.ref b] below meth c H locs cells slots Q (F0 m 379 ls []) := by
  have hTn : T' ≤ 24 := h2.1.1.1
  refine lv_iconst (v := 0) hx hb dL_law_379 (by decide) ?_
  refine lv_istore (lv' := [(8, .int 0), (7, .int x), (6, .int (nI time)), (5, .ref cq), (4, .ref lq), (3, .ref qk), (2, .ref oq), (1, .ref tp), (0, .ref b)]) hx hb dL_law_380 hl (by decide) rfl (fun ls hl => ?_)
  have hl : lv_has ls 9 [(8, .int (nI 0)), (7, .int x), (6, .int (nI time)), (5, .ref cq), (4, .ref lq), (3, .ref qk), (2, .ref oq), (1, .ref tp), (0, .ref b)] := hl
  refine W_meas (I := fun n9 H locs ls => ∃ (k : Nat) (F : Nat → Nat → Int32) (R1 : va_W), k + n9 = T' ∧ ((∀ i, i < k → F i 0 = m_aboutTask σ (nI i) 1 ∧ F i 1 = m_aboutTask σ (nI i) 3) ∧ (∀ i, k ≤ i → F i = Fo i)) ∧ R1 = R ++ XX (cA 0) c2 lq lr cq cr F G ∧ lv_has ls 9 [(8, .int (nI k)), (7, .int x), (6, .int (nI time)), (5, .ref cq), (4, .ref lq), (3, .ref qk), (2, .ref oq), (1, .ref tp), (0, .ref b)] ∧ va_P D vwCl (wB cA ad σ ++ (wPg cA ad pd π ++ (wB cA bd ρ ++ ((tp, .inr (8, tpF ad bd)) :: R1)))) H ∧ va_D A (wB cA ad σ ++ (wPg cA ad pd π ++ (wB cA bd ρ ++ ((tp, .inr (8, tpF ad bd)) :: R1)))) ∧ va_S A s.heap H locs) T' ⟨0, Fo, R0, by omega, ⟨fun i hi => absurd hi (Nat.not_lt_zero i), fun i _ => rfl⟩, eR0, hl, hP, hD, hS⟩ ?_
  clear hP hD hS hl eR0
  intro n9 ih H locs ls hI
  obtain ⟨k, F, R1, hi, ⟨hf1, hf2⟩, eR1, hl, hP, hD, hS⟩ := hI
  refine lv_iload hx hb dL_law_382 (lv_at hl 0 rfl) ?_
  refine lv_aload_n hx hb dL_law_384 rfl (lv_at hl 7 rfl) ?_
  refine lv_iconst (v := 1) hx hb dL_law_385 (by decide) ?_
  refine x_Vi (As := [.int 1]) (rest0 := [.int (nI k)]) ⟨hx, hb, hml, hown, hts⟩ (c_X8_many l D cA ad tr R1 H.size σ pd π bd tp ρ h102 1 (by decide) (by decide)) (cwV 1 hts glw_many rfl rfl rfl (by decide +kernel) ⟨Nat.le_of_ble_eq_true rfl, Nat.le_of_ble_eq_true rfl⟩) hK hP hD hS hA 209 w_tp rfl hl.1 rfl rfl (Nat.le_of_ble_eq_true rfl) ⟨hc, hs⟩ dL_law_386 (fun r _ H locs hw hP hD hS => ?_)
  obtain rfl : r = (nI T') := hw.trans (many_1 h2.1.1)
  refine lv_icmp_ge (tgt := 473) hx hb dL_law_389 (by decide) (fun c389_1 => ?_) (fun c389_1 => ?_)
  · skip
    obtain rfl : k = T' := by have := (nI_leI (by omega) (by omega)).mp c389_1; omega
    rw [eR1] at hP hD
    exact kk F H locs ls (FT_up hTT hFT hf1 hf2) (lv_sub hl [1, 2, 3, 4, 5, 6, 7, 8] rfl) hP hD hS
  · skip
    have hk : k < T' := Nat.not_le.mp (fun z => c389_1 ((nI_leI (by omega) (by omega)).mpr z))
    have hkn : k < 24 := by omega
    obtain ⟨v1, ev1⟩ : ∃ z : Int32, z = m_aboutTask σ (nI k) 1 := ⟨_, rfl⟩
    obtain ⟨v3, ev3⟩ : ∃ z : Int32, z = m_aboutTask σ (nI k) 3 := ⟨_, rfl⟩
    have hok := tk_ok h hm hFT hkn
    rw [← ev1, ← ev3, ← hf2 k (Nat.le_refl _)] at hok
    have J : ∀ (H : Heap) (locs : List Loc) (ls : Array Slot), va_P D vwCl (wB cA ad σ ++ (wPg cA ad pd π ++ (wB cA bd ρ ++ ((tp, .inr (8, tpF ad bd)) :: R1)))) H → va_D A (wB cA ad σ ++ (wPg cA ad pd π ++ (wB cA bd ρ ++ ((tp, .inr (8, tpF ad bd)) :: R1)))) → va_S A s.heap H locs → lv_has ls 9 [(8, .int (nI k)), (7, .int x), (6, .int (nI time)), (5, .ref cq), (4, .ref lq), (3, .ref qk), (2, .ref oq), (1, .ref tp), (0, .ref b)] → W p l e room_1 s m #[Value.ref b] below meth c H locs cells slots Q (F0 m 439 ls []) := by
      clear hP hD hS hl
      intro H locs ls hP hD hS hl
      refine lv_aload hx hb dL_law_439 (lv_at hl 4 rfl) ?_
      refine lv_iload hx hb dL_law_441 (lv_at hl 0 rfl) ?_
      refine va_aldr hx hb hK hP (0 + R.length + 210) (j2 + 5) (wNewR eR1 XX_0) (ty_at ht2) (vp_in_nI hkn (by decide)) dL_law_443 ?_
      refine W.eq (g2 := F0 m 444 ls [.ref (lr k)]) (by rw [nI_clamp (show k < 2 ^ 31 by omega)]; show F0 m _ ls (va_rf (if k < 24 then some (lr k) else none) :: _) = _; rw [if_pos hkn]; rfl) ?_
      refine lv_iconst (v := 0) hx hb dL_law_444 (by decide) ?_
      refine lv_aload_n hx hb dL_law_445 rfl (lv_at hl 7 rfl) ?_
      refine lv_iload hx hb dL_law_446 (lv_at hl 0 rfl) ?_
      refine lv_iconst (v := 1) hx hb dL_law_448 (by decide) ?_
      refine x_Vi (As := [.int (nI k), .int 1]) (rest0 := [.int 0, .ref (lr k)]) ⟨hx, hb, hml, hown, hts⟩ (c_X8_ofTask l D cA ad tr R1 H.size σ pd π bd tp ρ h102 (nI k) 1 (nI_pos (by omega)) (by rw [h2.1.1.2.2.1]; exact (nI_ltI (by omega) (by omega)).mpr hk) (by decide) (by decide)) (cwV 2 hts glw_ofTask rfl rfl rfl (by decide +kernel) ⟨Nat.le_of_ble_eq_true rfl, Nat.le_of_ble_eq_true rfl⟩) hK hP hD hS hA 209 w_tp rfl hl.1 rfl rfl (Nat.le_of_ble_eq_true rfl) ⟨hc, hs⟩ dL_law_449 (fun r _ H locs hw hP hD hS => ?_)
      obtain rfl : v1 = r := (hw.trans ev1.symm).symm
      refine va_iast hx hb hK hP hD hS (k + 1 + R.length + 210) 0 (wNewR eR1 (XX_F hkn)) rfl (by unfold vp_in; decide) dL_law_452 (fun H locs hP hD hS => ?_)
      rw [wNewSR eR1, XX_setF hkn] at hP hD
      obtain ⟨F1, eF1⟩ : ∃ z : Nat → Nat → Int32, z = fun j => if j = k then upd (F k) 0 v1 else F j := ⟨_, rfl⟩
      obtain ⟨R2, eR2⟩ : ∃ z : va_W, z = R ++ XX (cA 0) c2 lq lr cq cr F1 G := ⟨_, rfl⟩
      have hP : va_P D vwCl (wB cA ad σ ++ (wPg cA ad pd π ++ (wB cA bd ρ ++ ((tp, .inr (8, tpF ad bd)) :: R2)))) H := by rw [eR2, eF1]; exact hP
      have hD : va_D A (wB cA ad σ ++ (wPg cA ad pd π ++ (wB cA bd ρ ++ ((tp, .inr (8, tpF ad bd)) :: R2)))) := by rw [eR2, eF1]; exact hD
      refine lv_aload hx hb dL_law_453 (lv_at hl 4 rfl) ?_
      refine lv_iload hx hb dL_law_455 (lv_at hl 0 rfl) ?_
      refine va_aldr hx hb hK hP (0 + R.length + 210) (j2 + 5) (wNewR eR2 XX_0) (ty_at ht2) (vp_in_nI hkn (by decide)) dL_law_457 ?_
      refine W.eq (g2 := F0 m 458 ls [.ref (lr k)]) (by rw [nI_clamp (show k < 2 ^ 31 by omega)]; show F0 m _ ls (va_rf (if k < 24 then some (lr k) else none) :: _) = _; rw [if_pos hkn]; rfl) ?_
      refine lv_iconst (v := 1) hx hb dL_law_458 (by decide) ?_
      refine lv_aload_n hx hb dL_law_459 rfl (lv_at hl 7 rfl) ?_
      refine lv_iload hx hb dL_law_460 (lv_at hl 0 rfl) ?_
      refine lv_iconst (v := 3) hx hb dL_law_462 (by decide) ?_
      refine x_Vi (As := [.int (nI k), .int 3]) (rest0 := [.int 1, .ref (lr k)]) ⟨hx, hb, hml, hown, hts⟩ (c_X8_ofTask l D cA ad tr R2 H.size σ pd π bd tp ρ h102 (nI k) 3 (nI_pos (by omega)) (by rw [h2.1.1.2.2.1]; exact (nI_ltI (by omega) (by omega)).mpr hk) (by decide) (by decide)) (cwV 2 hts glw_ofTask rfl rfl rfl (by decide +kernel) ⟨Nat.le_of_ble_eq_true rfl, Nat.le_of_ble_eq_true rfl⟩) hK hP hD hS hA 209 w_tp rfl hl.1 rfl rfl (Nat.le_of_ble_eq_true rfl) ⟨hc, hs⟩ dL_law_463 (fun r _ H locs hw hP hD hS => ?_)
      obtain rfl : v3 = r := (hw.trans ev3.symm).symm
      refine va_iast hx hb hK hP hD hS (k + 1 + R.length + 210) 0 (wNewR eR2 (XX_F hkn)) rfl (by unfold vp_in; decide) dL_law_466 (fun H locs hP hD hS => ?_)
      rw [wNewSR eR2, XX_setF hkn] at hP hD
      obtain ⟨F2, eF2⟩ : ∃ z : Nat → Nat → Int32, z = fun j => if j = k then upd (F1 k) 1 v3 else F1 j := ⟨_, rfl⟩
      obtain ⟨R3, eR3⟩ : ∃ z : va_W, z = R ++ XX (cA 0) c2 lq lr cq cr F2 G := ⟨_, rfl⟩
      have hP : va_P D vwCl (wB cA ad σ ++ (wPg cA ad pd π ++ (wB cA bd ρ ++ ((tp, .inr (8, tpF ad bd)) :: R3)))) H := by rw [eR3, eF2]; exact hP
      have hD : va_D A (wB cA ad σ ++ (wPg cA ad pd π ++ (wB cA bd ρ ++ ((tp, .inr (8, tpF ad bd)) :: R3)))) := by rw [eR3, eF2]; exact hD
      refine lv_iinc (v := (nI (k + 1))) (lv' := [(8, .int (nI (k + 1))), (7, .int x), (6, .int (nI time)), (5, .ref cq), (4, .ref lq), (3, .ref qk), (2, .ref oq), (1, .ref tp), (0, .ref b)]) hx hb dL_law_467 hl (k := 0) rfl (show (nI k) + 1 = (nI (k + 1)) from nI_1 k) (by decide) rfl (fun ls hl => ?_)
      refine lv_goto (tgt := 382) hx hb dL_law_470 (by decide) ?_
      obtain ⟨⟨p1, p2⟩, p3⟩ := row_put eF1 eF2
      refine ih (n9 - 1) (by omega) _ _ _ ⟨k + 1, F2, R3, by omega, ⟨fun i hi9 => ?_, fun i hi9 => by rw [p3 i (by omega)]; exact hf2 i (by omega)⟩, eR3, hl, hP, hD, hS⟩
      by_cases c9 : i = k
      · subst c9; exact ⟨p1.trans ev1, p2.trans ev3⟩
      · rw [p3 i c9]; exact hf1 i (by omega)
    refine lv_aload hx hb dL_law_392 (lv_at hl 4 rfl) ?_
    refine lv_iload hx hb dL_law_394 (lv_at hl 0 rfl) ?_
    refine va_aldr hx hb hK hP (0 + R.length + 210) (j2 + 5) (wNewR eR1 XX_0) (ty_at ht2) (vp_in_nI hkn (by decide)) dL_law_396 ?_
    refine W.eq (g2 := F0 m 397 ls [.ref (lr k)]) (by rw [nI_clamp (show k < 2 ^ 31 by omega)]; show F0 m _ ls (va_rf (if k < 24 then some (lr k) else none) :: _) = _; rw [if_pos hkn]; rfl) ?_
    refine lv_iconst (v := 0) hx hb dL_law_397 (by decide) ?_
    refine va_iald hx hb hK hP (k + 1 + R.length + 210) 0 (wNewR eR1 (XX_F hkn)) rfl (by unfold vp_in; decide) dL_law_398 ?_
    refine W.eq (g2 := F0 m 399 ls [.int (F k 0)]) rfl ?_
    refine lv_iconst (v := 1) hx hb dL_law_399 (by decide) ?_
    refine lv_icmp_le (tgt := 439) hx hb dL_law_400 (by decide) (fun c400_2 => ?_) (fun c400_2 => ?_)
    · exact J H locs ls hP hD hS hl
    rcases hok with z | ⟨z1, z3⟩
    · exact absurd z c400_2
    refine lv_aload_n hx hb dL_law_403 rfl (lv_at hl 7 rfl) ?_
    refine lv_iload hx hb dL_law_404 (lv_at hl 0 rfl) ?_
    refine lv_iconst (v := 1) hx hb dL_law_406 (by decide) ?_
    refine x_Vi (As := [.int (nI k), .int 1]) (rest0 := []) ⟨hx, hb, hml, hown, hts⟩ (c_X8_ofTask l D cA ad tr R1 H.size σ pd π bd tp ρ h102 (nI k) 1 (nI_pos (by omega)) (by rw [h2.1.1.2.2.1]; exact (nI_ltI (by omega) (by omega)).mpr hk) (by decide) (by decide)) (cwV 2 hts glw_ofTask rfl rfl rfl (by decide +kernel) ⟨Nat.le_of_ble_eq_true rfl, Nat.le_of_ble_eq_true rfl⟩) hK hP hD hS hA 209 w_tp rfl hl.1 rfl rfl (Nat.le_of_ble_eq_true rfl) ⟨hc, hs⟩ dL_law_407 (fun r _ H locs hw hP hD hS => ?_)
    obtain rfl : v1 = r := (hw.trans ev1.symm).symm
    refine lv_aload hx hb dL_law_410 (lv_at hl 4 rfl) ?_
    refine lv_iload hx hb dL_law_412 (lv_at hl 0 rfl) ?_
    refine va_aldr hx hb hK hP (0 + R.length + 210) (j2 + 5) (wNewR eR1 XX_0) (ty_at ht2) (vp_in_nI hkn (by decide)) dL_law_414 ?_
    refine W.eq (g2 := F0 m 415 ls [.ref (lr k), .int v1]) (by rw [nI_clamp (show k < 2 ^ 31 by omega)]; show F0 m _ ls (va_rf (if k < 24 then some (lr k) else none) :: _) = _; rw [if_pos hkn]; rfl) ?_
    refine lv_iconst (v := 0) hx hb dL_law_415 (by decide) ?_
    refine va_iald hx hb hK hP (k + 1 + R.length + 210) 0 (wNewR eR1 (XX_F hkn)) rfl (by unfold vp_in; decide) dL_law_416 ?_
    refine W.eq (g2 := F0 m 417 ls [.int (F k 0), .int v1]) rfl ?_
    refine lv_icmp_ne (tgt := 437) hx hb dL_law_417 (by decide) (fun c417_3 => ?_) (fun c417_3 => ?_)
    · exact absurd z1 c417_3
    refine lv_aload_n hx hb dL_law_420 rfl (lv_at hl 7 rfl) ?_
    refine lv_iload hx hb dL_law_421 (lv_at hl 0 rfl) ?_
    refine lv_iconst (v := 3) hx hb dL_law_423 (by decide) ?_
    refine x_Vi (As := [.int (nI k), .int 3]) (rest0 := []) ⟨hx, hb, hml, hown, hts⟩ (c_X8_ofTask l D cA ad tr R1 H.size σ pd π bd tp ρ h102 (nI k) 3 (nI_pos (by omega)) (by rw [h2.1.1.2.2.1]; exact (nI_ltI (by omega) (by omega)).mpr hk) (by decide) (by decide)) (cwV 2 hts glw_ofTask rfl rfl rfl (by decide +kernel) ⟨Nat.le_of_ble_eq_true rfl, Nat.le_of_ble_eq_true rfl⟩) hK hP hD hS hA 209 w_tp rfl hl.1 rfl rfl (Nat.le_of_ble_eq_true rfl) ⟨hc, hs⟩ dL_law_424 (fun r _ H locs hw hP hD hS => ?_)
    obtain rfl : v3 = r := (hw.trans ev3.symm).symm
    refine lv_aload hx hb dL_law_427 (lv_at hl 4 rfl) ?_
    refine lv_iload hx hb dL_law_429 (lv_at hl 0 rfl) ?_
    refine va_aldr hx hb hK hP (0 + R.length + 210) (j2 + 5) (wNewR eR1 XX_0) (ty_at ht2) (vp_in_nI hkn (by decide)) dL_law_431 ?_
    refine W.eq (g2 := F0 m 432 ls [.ref (lr k), .int v3]) (by rw [nI_clamp (show k < 2 ^ 31 by omega)]; show F0 m _ ls (va_rf (if k < 24 then some (lr k) else none) :: _) = _; rw [if_pos hkn]; rfl) ?_
    refine lv_iconst (v := 1) hx hb dL_law_432 (by decide) ?_
    refine va_iald hx hb hK hP (k + 1 + R.length + 210) 0 (wNewR eR1 (XX_F hkn)) rfl (by unfold vp_in; decide) dL_law_433 ?_
    refine W.eq (g2 := F0 m 434 ls [.int (F k 1), .int v3]) rfl ?_
    refine lv_icmp_eq (tgt := 439) hx hb dL_law_434 (by decide) (fun c434_4 => ?_) (fun c434_4 => ?_)
    · exact J H locs ls hP hD hS hl
    · exact absurd z3 c434_4
set_option maxHeartbeats 4000000 in
set_option maxRecDepth 100000 in
theorem law_E2 (l : Launch) {p : Program} {e : Env} {s : State} {m : MethodId} {below : List Frame} {meth : Method} {c : Code} {b : Nat} {Q : State → Prop} (hx : p.tables.exec = Jvm.exec) (hb : c.code = code) (hml : c.maxLocals = 9) (hown : s.vm.findClass RL = some m.cls) (hts : ∀ w ∈ lw_tbl, w.before #[Value.ref b] s = true) {D : va_G} {cA : Nat → ClassId} {tr : List (ClassId × FieldType)} (hK : va_K D vwCl (tyB cA ++ tr) s) {A : Nat → Prop} (hA : ∀ q, s.heap.size ≤ q → A q) (ad pd bd : Nat → Nat) (tp : Nat) (h102 : bd 102 = ad 102) {c2 : ClassId} {j2 : Nat} (ht2 : tr[j2]? = some (c2, .array .int)) (lq cq : Nat) (lr cr : Nat → Nat) (qk oq time : Nat) (x : Int32) (R : va_W) {τ σ π ρ : Sg} {T S t U T' S' t' U' : Nat} {st st' : Nat → List Nat} (h : Inv π T S t U st none none none τ) (h2 : Inv π T' S' t' U' st' none none none σ) (hm : Ms τ σ) {F Go : Nat → Nat → Int32} (hFT : GS τ S Go) (hTT : S ≤ S') {cells slots : Nat} (hc : cells ≤ 600104) (hs : slots ≤ 7301314) {H : Heap} {locs : List Loc} {ls : Array Slot} (R0 : va_W) (eR0 : R0 = R ++ XX (cA 0) c2 lq lr cq cr F Go) (hl : lv_has ls 9 [(7, .int x), (6, .int (nI time)), (5, .ref cq), (4, .ref lq), (3, .ref qk), (2, .ref oq), (1, .ref tp), (0, .ref b)]) (hP : va_P D vwCl (wB cA ad σ ++ (wPg cA ad pd π ++ (wB cA bd ρ ++ ((tp, .inr (8, tpF ad bd)) :: R0)))) H) (hD : va_D A (wB cA ad σ ++ (wPg cA ad pd π ++ (wB cA bd ρ ++ ((tp, .inr (8, tpF ad bd)) :: R0))))) (hS : va_S A s.heap H locs) (kk : ∀ (G : Nat → Nat → Int32) (H : Heap) (locs : List Loc) (ls : Array Slot), GS σ S' G → lv_has ls 9 [(7, .int x), (6, .int (nI time)), (5, .ref cq), (4, .ref lq), (3, .ref qk), (2, .ref oq), (1, .ref tp), (0, .ref b)] → va_P D vwCl (wB cA ad σ ++ (wPg cA ad pd π ++ (wB cA bd ρ ++ ((tp, .inr (8, tpF ad bd)) :: (R ++ XX (cA 0) c2 lq lr cq cr F G))))) H → va_D A (wB cA ad σ ++ (wPg cA ad pd π ++ (wB cA bd ρ ++ ((tp, .inr (8, tpF ad bd)) :: (R ++ XX (cA 0) c2 lq lr cq cr F G))))) → va_S A s.heap H locs → W p l e room_1 s m #[Value.ref b] below meth c H locs cells slots Q (F0 m 585 ls [])) : W p l e room_1 s m #[Value.ref b] below meth c H locs cells slots Q (F0 m 473 ls []) := by
  have hTn : S' ≤ 40 := h2.1.1.2.1
  refine lv_iconst (v := 0) hx hb dL_law_473 (by decide) ?_
  refine lv_istore (lv' := [(8, .int 0), (7, .int x), (6, .int (nI time)), (5, .ref cq), (4, .ref lq), (3, .ref qk), (2, .ref oq), (1, .ref tp), (0, .ref b)]) hx hb dL_law_474 hl (by decide) rfl (fun ls hl => ?_)
  have hl : lv_has ls 9 [(8, .int (nI 0)), (7, .int x), (6, .int (nI time)), (5, .ref cq), (4, .ref lq), (3, .ref qk), (2, .ref oq), (1, .ref tp), (0, .ref b)] := hl
  refine W_meas (I := fun n9 H locs ls => ∃ (k : Nat) (G : Nat → Nat → Int32) (R1 : va_W), k + n9 = S' ∧ ((∀ i, i < k → G i 0 = m_aboutScope σ (nI i) 1 ∧ G i 1 = m_aboutScope σ (nI i) 2) ∧ (∀ i, k ≤ i → G i = Go i)) ∧ R1 = R ++ XX (cA 0) c2 lq lr cq cr F G ∧ lv_has ls 9 [(8, .int (nI k)), (7, .int x), (6, .int (nI time)), (5, .ref cq), (4, .ref lq), (3, .ref qk), (2, .ref oq), (1, .ref tp), (0, .ref b)] ∧ va_P D vwCl (wB cA ad σ ++ (wPg cA ad pd π ++ (wB cA bd ρ ++ ((tp, .inr (8, tpF ad bd)) :: R1)))) H ∧ va_D A (wB cA ad σ ++ (wPg cA ad pd π ++ (wB cA bd ρ ++ ((tp, .inr (8, tpF ad bd)) :: R1)))) ∧ va_S A s.heap H locs) S' ⟨0, Go, R0, by omega, ⟨fun i hi => absurd hi (Nat.not_lt_zero i), fun i _ => rfl⟩, eR0, hl, hP, hD, hS⟩ ?_
  clear hP hD hS hl eR0
  intro n9 ih H locs ls hI
  obtain ⟨k, G, R1, hi, ⟨hf1, hf2⟩, eR1, hl, hP, hD, hS⟩ := hI
  refine lv_iload hx hb dL_law_476 (lv_at hl 0 rfl) ?_
  refine lv_aload_n hx hb dL_law_478 rfl (lv_at hl 7 rfl) ?_
  refine lv_bipush (v := 7) hx hb dL_law_479 (by decide) ?_
  refine x_Vi (As := [.int 7]) (rest0 := [.int (nI k)]) ⟨hx, hb, hml, hown, hts⟩ (c_X8_many l D cA ad tr R1 H.size σ pd π bd tp ρ h102 7 (by decide) (by decide)) (cwV 1 hts glw_many rfl rfl rfl (by decide +kernel) ⟨Nat.le_of_ble_eq_true rfl, Nat.le_of_ble_eq_true rfl⟩) hK hP hD hS hA 209 w_tp rfl hl.1 rfl rfl (Nat.le_of_ble_eq_true rfl) ⟨hc, hs⟩ dL_law_481 (fun r _ H locs hw hP hD hS => ?_)
  obtain rfl : r = (nI S') := hw.trans (many_7 h2.1.1)
  refine lv_icmp_ge (tgt := 585) hx hb dL_law_484 (by decide) (fun c484_1 => ?_) (fun c484_1 => ?_)
  · skip
    obtain rfl : k = S' := by have := (nI_leI (by omega) (by omega)).mp c484_1; omega
    rw [eR1] at hP hD
    exact kk G H locs ls (GS_up hTT hFT hf1 hf2) (lv_sub hl [1, 2, 3, 4, 5, 6, 7, 8] rfl) hP hD hS
  · skip
    have hk : k < S' := Nat.not_le.mp (fun z => c484_1 ((nI_leI (by omega) (by omega)).mpr z))
    have hkn : k < 40 := by omega
    obtain ⟨v1, ev1⟩ : ∃ z : Int32, z = m_aboutScope σ (nI k) 1 := ⟨_, rfl⟩
    obtain ⟨v3, ev3⟩ : ∃ z : Int32, z = m_aboutScope σ (nI k) 2 := ⟨_, rfl⟩
    have hok := sc_ok h h2 hTT hm hFT hk
    rw [← ev1, ← ev3, ← hf2 k (Nat.le_refl _)] at hok
    have J : ∀ (H : Heap) (locs : List Loc) (ls : Array Slot), va_P D vwCl (wB cA ad σ ++ (wPg cA ad pd π ++ (wB cA bd ρ ++ ((tp, .inr (8, tpF ad bd)) :: R1)))) H → va_D A (wB cA ad σ ++ (wPg cA ad pd π ++ (wB cA bd ρ ++ ((tp, .inr (8, tpF ad bd)) :: R1)))) → va_S A s.heap H locs → lv_has ls 9 [(8, .int (nI k)), (7, .int x), (6, .int (nI time)), (5, .ref cq), (4, .ref lq), (3, .ref qk), (2, .ref oq), (1, .ref tp), (0, .ref b)] → W p l e room_1 s m #[Value.ref b] below meth c H locs cells slots Q (F0 m 551 ls []) := by
      clear hP hD hS hl
      intro H locs ls hP hD hS hl
      refine lv_aload hx hb dL_law_551 (lv_at hl 3 rfl) ?_
      refine lv_iload hx hb dL_law_553 (lv_at hl 0 rfl) ?_
      refine va_aldr hx hb hK hP (25 + R.length + 210) (j2 + 5) (wNewR eR1 XX_25) (ty_at ht2) (vp_in_nI hkn (by decide)) dL_law_555 ?_
      refine W.eq (g2 := F0 m 556 ls [.ref (cr k)]) (by rw [nI_clamp (show k < 2 ^ 31 by omega)]; show F0 m _ ls (va_rf (if k < 40 then some (cr k) else none) :: _) = _; rw [if_pos hkn]; rfl) ?_
      refine lv_iconst (v := 0) hx hb dL_law_556 (by decide) ?_
      refine lv_aload_n hx hb dL_law_557 rfl (lv_at hl 7 rfl) ?_
      refine lv_iload hx hb dL_law_558 (lv_at hl 0 rfl) ?_
      refine lv_iconst (v := 1) hx hb dL_law_560 (by decide) ?_
      refine x_Vi (As := [.int (nI k), .int 1]) (rest0 := [.int 0, .ref (cr k)]) ⟨hx, hb, hml, hown, hts⟩ (c_X8_ofScope l D cA ad tr R1 H.size σ pd π bd tp ρ h102 (nI k) 1 (nI_pos (by omega)) (by rw [h2.1.1.2.2.2.1]; exact (nI_ltI (by omega) (by omega)).mpr hk) (by decide) (by decide)) (cwV 2 hts glw_ofScope rfl rfl rfl (by decide +kernel) ⟨Nat.le_of_ble_eq_true rfl, Nat.le_of_ble_eq_true rfl⟩) hK hP hD hS hA 209 w_tp rfl hl.1 rfl rfl (Nat.le_of_ble_eq_true rfl) ⟨hc, hs⟩ dL_law_561 (fun r _ H locs hw hP hD hS => ?_)
      obtain rfl : v1 = r := (hw.trans ev1.symm).symm
      refine va_iast hx hb hK hP hD hS (k + 26 + R.length + 210) 0 (wNewR eR1 (XX_G hkn)) rfl (by unfold vp_in; decide) dL_law_564 (fun H locs hP hD hS => ?_)
      rw [wNewSR eR1, XX_setG hkn] at hP hD
      obtain ⟨G1, eG1⟩ : ∃ z : Nat → Nat → Int32, z = fun j => if j = k then upd (G k) 0 v1 else G j := ⟨_, rfl⟩
      obtain ⟨R2, eR2⟩ : ∃ z : va_W, z = R ++ XX (cA 0) c2 lq lr cq cr F G1 := ⟨_, rfl⟩
      have hP : va_P D vwCl (wB cA ad σ ++ (wPg cA ad pd π ++ (wB cA bd ρ ++ ((tp, .inr (8, tpF ad bd)) :: R2)))) H := by rw [eR2, eG1]; exact hP
      have hD : va_D A (wB cA ad σ ++ (wPg cA ad pd π ++ (wB cA bd ρ ++ ((tp, .inr (8, tpF ad bd)) :: R2)))) := by rw [eR2, eG1]; exact hD
      refine lv_aload hx hb dL_law_565 (lv_at hl 3 rfl) ?_
      refine lv_iload hx hb dL_law_567 (lv_at hl 0 rfl) ?_
      refine va_aldr hx hb hK hP (25 + R.length + 210) (j2 + 5) (wNewR eR2 XX_25) (ty_at ht2) (vp_in_nI hkn (by decide)) dL_law_569 ?_
      refine W.eq (g2 := F0 m 570 ls [.ref (cr k)]) (by rw [nI_clamp (show k < 2 ^ 31 by omega)]; show F0 m _ ls (va_rf (if k < 40 then some (cr k) else none) :: _) = _; rw [if_pos hkn]; rfl) ?_
      refine lv_iconst (v := 1) hx hb dL_law_570 (by decide) ?_
      refine lv_aload_n hx hb dL_law_571 rfl (lv_at hl 7 rfl) ?_
      refine lv_iload hx hb dL_law_572 (lv_at hl 0 rfl) ?_
      refine lv_iconst (v := 2) hx hb dL_law_574 (by decide) ?_
      refine x_Vi (As := [.int (nI k), .int 2]) (rest0 := [.int 1, .ref (cr k)]) ⟨hx, hb, hml, hown, hts⟩ (c_X8_ofScope l D cA ad tr R2 H.size σ pd π bd tp ρ h102 (nI k) 2 (nI_pos (by omega)) (by rw [h2.1.1.2.2.2.1]; exact (nI_ltI (by omega) (by omega)).mpr hk) (by decide) (by decide)) (cwV 2 hts glw_ofScope rfl rfl rfl (by decide +kernel) ⟨Nat.le_of_ble_eq_true rfl, Nat.le_of_ble_eq_true rfl⟩) hK hP hD hS hA 209 w_tp rfl hl.1 rfl rfl (Nat.le_of_ble_eq_true rfl) ⟨hc, hs⟩ dL_law_575 (fun r _ H locs hw hP hD hS => ?_)
      obtain rfl : v3 = r := (hw.trans ev3.symm).symm
      refine va_iast hx hb hK hP hD hS (k + 26 + R.length + 210) 0 (wNewR eR2 (XX_G hkn)) rfl (by unfold vp_in; decide) dL_law_578 (fun H locs hP hD hS => ?_)
      rw [wNewSR eR2, XX_setG hkn] at hP hD
      obtain ⟨G2, eG2⟩ : ∃ z : Nat → Nat → Int32, z = fun j => if j = k then upd (G1 k) 1 v3 else G1 j := ⟨_, rfl⟩
      obtain ⟨R3, eR3⟩ : ∃ z : va_W, z = R ++ XX (cA 0) c2 lq lr cq cr F G2 := ⟨_, rfl⟩
      have hP : va_P D vwCl (wB cA ad σ ++ (wPg cA ad pd π ++ (wB cA bd ρ ++ ((tp, .inr (8, tpF ad bd)) :: R3)))) H := by rw [eR3, eG2]; exact hP
      have hD : va_D A (wB cA ad σ ++ (wPg cA ad pd π ++ (wB cA bd ρ ++ ((tp, .inr (8, tpF ad bd)) :: R3)))) := by rw [eR3, eG2]; exact hD
      refine lv_iinc (v := (nI (k + 1))) (lv' := [(8, .int (nI (k + 1))), (7, .int x), (6, .int (nI time)), (5, .ref cq), (4, .ref lq), (3, .ref qk), (2, .ref oq), (1, .ref tp), (0, .ref b)]) hx hb dL_law_579 hl (k := 0) rfl (show (nI k) + 1 = (nI (k + 1)) from nI_1 k) (by decide) rfl (fun ls hl => ?_)
      refine lv_goto (tgt := 476) hx hb dL_law_582 (by decide) ?_
      obtain ⟨⟨p1, p2⟩, p3⟩ := row_put eG1 eG2
      refine ih (n9 - 1) (by omega) _ _ _ ⟨k + 1, G2, R3, by omega, ⟨fun i hi9 => ?_, fun i hi9 => by rw [p3 i (by omega)]; exact hf2 i (by omega)⟩, eR3, hl, hP, hD, hS⟩
      by_cases c9 : i = k
      · subst c9; exact ⟨p1.trans ev1, p2.trans ev3⟩
      · rw [p3 i c9]; exact hf1 i (by omega)
    obtain ⟨z1, z2, z3⟩ := hok
    refine lv_aload hx hb dL_law_487 (lv_at hl 3 rfl) ?_
    refine lv_iload hx hb dL_law_489 (lv_at hl 0 rfl) ?_
    refine va_aldr hx hb hK hP (25 + R.length + 210) (j2 + 5) (wNewR eR1 XX_25) (ty_at ht2) (vp_in_nI hkn (by decide)) dL_law_491 ?_
    refine W.eq (g2 := F0 m 492 ls [.ref (cr k)]) (by rw [nI_clamp (show k < 2 ^ 31 by omega)]; show F0 m _ ls (va_rf (if k < 40 then some (cr k) else none) :: _) = _; rw [if_pos hkn]; rfl) ?_
    refine lv_iconst (v := 0) hx hb dL_law_492 (by decide) ?_
    refine va_iald hx hb hK hP (k + 26 + R.length + 210) 0 (wNewR eR1 (XX_G hkn)) rfl (by unfold vp_in; decide) dL_law_493 ?_
    refine W.eq (g2 := F0 m 494 ls [.int (G k 0)]) rfl ?_
    refine lv_aload_n hx hb dL_law_494 rfl (lv_at hl 7 rfl) ?_
    refine lv_iload hx hb dL_law_495 (lv_at hl 0 rfl) ?_
    refine lv_iconst (v := 1) hx hb dL_law_497 (by decide) ?_
    refine x_Vi (As := [.int (nI k), .int 1]) (rest0 := [.int (G k 0)]) ⟨hx, hb, hml, hown, hts⟩ (c_X8_ofScope l D cA ad tr R1 H.size σ pd π bd tp ρ h102 (nI k) 1 (nI_pos (by omega)) (by rw [h2.1.1.2.2.2.1]; exact (nI_ltI (by omega) (by omega)).mpr hk) (by decide) (by decide)) (cwV 2 hts glw_ofScope rfl rfl rfl (by decide +kernel) ⟨Nat.le_of_ble_eq_true rfl, Nat.le_of_ble_eq_true rfl⟩) hK hP hD hS hA 209 w_tp rfl hl.1 rfl rfl (Nat.le_of_ble_eq_true rfl) ⟨hc, hs⟩ dL_law_498 (fun r _ H locs hw hP hD hS => ?_)
    obtain rfl : v1 = r := (hw.trans ev1.symm).symm
    refine lv_icmp_gt (tgt := 549) hx hb dL_law_501 (by decide) (fun c501_2 => ?_) (fun c501_2 => ?_)
    · exact absurd c501_2 z1
    refine lv_aload hx hb dL_law_504 (lv_at hl 3 rfl) ?_
    refine lv_iload hx hb dL_law_506 (lv_at hl 0 rfl) ?_
    refine va_aldr hx hb hK hP (25 + R.length + 210) (j2 + 5) (wNewR eR1 XX_25) (ty_at ht2) (vp_in_nI hkn (by decide)) dL_law_508 ?_
    refine W.eq (g2 := F0 m 509 ls [.ref (cr k)]) (by rw [nI_clamp (show k < 2 ^ 31 by omega)]; show F0 m _ ls (va_rf (if k < 40 then some (cr k) else none) :: _) = _; rw [if_pos hkn]; rfl) ?_
    refine lv_iconst (v := 1) hx hb dL_law_509 (by decide) ?_
    refine va_iald hx hb hK hP (k + 26 + R.length + 210) 0 (wNewR eR1 (XX_G hkn)) rfl (by unfold vp_in; decide) dL_law_510 ?_
    refine W.eq (g2 := F0 m 511 ls [.int (G k 1)]) rfl ?_
    refine lv_aload_n hx hb dL_law_511 rfl (lv_at hl 7 rfl) ?_
    refine lv_iload hx hb dL_law_512 (lv_at hl 0 rfl) ?_
    refine lv_iconst (v := 2) hx hb dL_law_514 (by decide) ?_
    refine x_Vi (As := [.int (nI k), .int 2]) (rest0 := [.int (G k 1)]) ⟨hx, hb, hml, hown, hts⟩ (c_X8_ofScope l D cA ad tr R1 H.size σ pd π bd tp ρ h102 (nI k) 2 (nI_pos (by omega)) (by rw [h2.1.1.2.2.2.1]; exact (nI_ltI (by omega) (by omega)).mpr hk) (by decide) (by decide)) (cwV 2 hts glw_ofScope rfl rfl rfl (by decide +kernel) ⟨Nat.le_of_ble_eq_true rfl, Nat.le_of_ble_eq_true rfl⟩) hK hP hD hS hA 209 w_tp rfl hl.1 rfl rfl (Nat.le_of_ble_eq_true rfl) ⟨hc, hs⟩ dL_law_515 (fun r _ H locs hw hP hD hS => ?_)
    obtain rfl : v3 = r := (hw.trans ev3.symm).symm
    refine lv_icmp_gt (tgt := 549) hx hb dL_law_518 (by decide) (fun c518_3 => ?_) (fun c518_3 => ?_)
    · exact absurd c518_3 z2
    refine lv_aload hx hb dL_law_521 (lv_at hl 3 rfl) ?_
    refine lv_iload hx hb dL_law_523 (lv_at hl 0 rfl) ?_
    refine va_aldr hx hb hK hP (25 + R.length + 210) (j2 + 5) (wNewR eR1 XX_25) (ty_at ht2) (vp_in_nI hkn (by decide)) dL_law_525 ?_
    refine W.eq (g2 := F0 m 526 ls [.ref (cr k)]) (by rw [nI_clamp (show k < 2 ^ 31 by omega)]; show F0 m _ ls (va_rf (if k < 40 then some (cr k) else none) :: _) = _; rw [if_pos hkn]; rfl) ?_
    refine lv_iconst (v := 0) hx hb dL_law_526 (by decide) ?_
    refine va_iald hx hb hK hP (k + 26 + R.length + 210) 0 (wNewR eR1 (XX_G hkn)) rfl (by unfold vp_in; decide) dL_law_527 ?_
    refine W.eq (g2 := F0 m 528 ls [.int (G k 0)]) rfl ?_
    refine lv_iconst (v := 2) hx hb dL_law_528 (by decide) ?_
    refine lv_icmp_ne (tgt := 551) hx hb dL_law_529 (by decide) (fun c529_4 => ?_) (fun c529_4 => ?_)
    · exact J H locs ls hP hD hS hl
    refine lv_aload hx hb dL_law_532 (lv_at hl 3 rfl) ?_
    refine lv_iload hx hb dL_law_534 (lv_at hl 0 rfl) ?_
    refine va_aldr hx hb hK hP (25 + R.length + 210) (j2 + 5) (wNewR eR1 XX_25) (ty_at ht2) (vp_in_nI hkn (by decide)) dL_law_536 ?_
    refine W.eq (g2 := F0 m 537 ls [.ref (cr k)]) (by rw [nI_clamp (show k < 2 ^ 31 by omega)]; show F0 m _ ls (va_rf (if k < 40 then some (cr k) else none) :: _) = _; rw [if_pos hkn]; rfl) ?_
    refine lv_iconst (v := 1) hx hb dL_law_537 (by decide) ?_
    refine va_iald hx hb hK hP (k + 26 + R.length + 210) 0 (wNewR eR1 (XX_G hkn)) rfl (by unfold vp_in; decide) dL_law_538 ?_
    refine W.eq (g2 := F0 m 539 ls [.int (G k 1)]) rfl ?_
    refine lv_aload_n hx hb dL_law_539 rfl (lv_at hl 7 rfl) ?_
    refine lv_iload hx hb dL_law_540 (lv_at hl 0 rfl) ?_
    refine lv_iconst (v := 2) hx hb dL_law_542 (by decide) ?_
    refine x_Vi (As := [.int (nI k), .int 2]) (rest0 := [.int (G k 1)]) ⟨hx, hb, hml, hown, hts⟩ (c_X8_ofScope l D cA ad tr R1 H.size σ pd π bd tp ρ h102 (nI k) 2 (nI_pos (by omega)) (by rw [h2.1.1.2.2.2.1]; exact (nI_ltI (by omega) (by omega)).mpr hk) (by decide) (by decide)) (cwV 2 hts glw_ofScope rfl rfl rfl (by decide +kernel) ⟨Nat.le_of_ble_eq_true rfl, Nat.le_of_ble_eq_true rfl⟩) hK hP hD hS hA 209 w_tp rfl hl.1 rfl rfl (Nat.le_of_ble_eq_true rfl) ⟨hc, hs⟩ dL_law_543 (fun r _ H locs hw hP hD hS => ?_)
    obtain rfl : v3 = r := (hw.trans ev3.symm).symm
    refine lv_icmp_eq (tgt := 551) hx hb dL_law_546 (by decide) (fun c546_5 => ?_) (fun c546_5 => ?_)
    · exact J H locs ls hP hD hS hl
    · exact absurd (z3 c529_4) c546_5
