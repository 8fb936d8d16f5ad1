/-! the law: areTasksRight -/
theorem st_upd {τ : Sg} {k s : Nat} {f f' : Nat → Int32} (hs : τ (k + 6) 3 = nI s) (hs5 : s < 5) (hf : ∀ v, v < 5 → f v = nI (cnt (m_isIn τ (nI v)) k)) (e : f' = upd f s (nI (cnt (m_isIn τ (nI s)) k + 1))) : ∀ v, v < 5 → f' v = nI (cnt (m_isIn τ (nI v)) (k + 1)) := fun v hv => by
  rw [e]
  by_cases ee : v = s
  · rw [ee, ← cnt_t rfl (isIn_iff.mpr hs)]; exact if_pos rfl
  · rw [← cnt_f rfl (show m_isIn τ (nI v) k = false from by
      cases z : m_isIn τ (nI v) k with
      | false => rfl
      | true => exact absurd (nI_inj (by omega) (by omega) ((isIn_iff.mp z).symm.trans hs)) ee)]
    rw [← hf v hv]; exact if_neg ee
def Seen (L : List Nat) (k : Nat) (g : Nat → Int32) : Prop := ∀ p, p < 24 → g p = 0 ∨ ∃ i, i < k ∧ L[p]? = some i
theorem Seen.z {L : List Nat} {k p : Nat} {g : Nat → Int32} (h : Seen L k g) (hp : L[p]? = some k) (hp24 : p < 24) : g p = 0 := by
  rcases h p hp24 with w | ⟨i, h1, h2⟩
  · exact w
  · rw [hp] at h2; have := Option.some.inj h2; omega
theorem Seen.up {L : List Nat} {k : Nat} {g : Nat → Int32} (h : Seen L k g) : Seen L (k + 1) g := fun p hp => (h p hp).imp id (fun ⟨i, h1, h2⟩ => ⟨i, by omega, h2⟩)
theorem Seen.put {L : List Nat} {k p : Nat} {g g' : Nat → Int32} {x : Int32} (h : Seen L k g) (hp : L[p]? = some k) (e : g' = upd g p x) : Seen L (k + 1) g' := fun q hq => by
  rw [e]
  by_cases ee : q = p
  · rw [ee]; exact Or.inr ⟨k, by omega, hp⟩
  · rw [show upd g p x q = g q from if_neg ee]; exact h.up q hq
/-- what a LINE waits for -/
def wt (i : Nat) : Int32 := if i = 12 then 1 else if i = 13 then 2 else if i = 15 then 3 else if i = 16 then 4 else if i = 18 then 4 else 0
set_option maxHeartbeats 4000000 in
set_option maxRecDepth 100000 in
theorem c_L_areTasksRight (l : Launch) (D : va_G) (cA : Nat → ClassId) (ad : Nat → Nat) (tr : List (ClassId × FieldType)) (rest : va_W) (sz : Nat) (τ : Sg) (pd : Nat → Nat) (π : Sg) (bd : Nat → Nat) (tp : Nat) (ρ : Sg) (h102 : bd 102 = ad 102) (T S t U : Nat) (st : Nat → List Nat) (h : Inv π T S t U st none none none τ) (B : Nat) (hIP : IP π B) (hB : TB τ) (L : List Nat) (hL : ReadyIs τ L none) (c2 c3 : ClassId) (j2 j3 oq la sq : Nat) (b : Int32) (lb : Nat → Nat) (LA : Nat → Nat → Option Nat) (z : Nat → Int32) (r2 : va_W) (ht2 : tr[j2]? = some (c2, .array .int)) (ht3 : tr[j3]? = some (c3, .array (.array .int))) (hR : rest = oW (cA 0) c2 c3 oq la sq b lb LA z ++ r2) (hLn : ∀ i, i < 8 → ∀ j, j < 12 → nI j < π 1 i → ∃ (q k : Nat) (f : Nat → Int32), LA i j = some q ∧ r2[k]? = some (q, .inl (cA 0, 3, .inl f)) ∧ f 0 = π 2 (i * 12 + j)) : Met l yL_areTasksRight wl_areTasksRight ({ frames := 4, cells := 3, slots := 48, locals := 87 }) (va_Pc [.ref tp, .ref oq] (fun U => inW D (tyB cA ++ tr) (wB cA ad τ ++ (wPg cA ad pd π ++ (wB cA bd ρ ++ ((tp, .inr (8, tpF ad bd)) :: rest)))) sz U ∧ va_Nw (.fieldLinkNest RL 99 RX9 "lines" "[[[I" RL) U)) (va_Qi (fun (r : Int32) (_ : Unit) => r = 1) (fun _ : Unit => outW D (tyB cA ++ tr) (va_A (wB cA ad τ ++ (wPg cA ad pd π ++ (wB cA bd ρ ++ ((tp, .inr (8, tpF ad bd)) :: rest)))) sz) (wB cA ad τ ++ (wPg cA ad pd π ++ (wB cA bd ρ ++ ((tp, .inr (8, tpF ad bd)) :: rest))))) (va_A (wB cA ad τ ++ (wPg cA ad pd π ++ (wB cA bd ρ ++ ((tp, .inr (8, tpF ad bd)) :: rest)))) sz)) 3 48 (va_A (wB cA ad τ ++ (wPg cA ad pd π ++ (wB cA bd ρ ++ ((tp, .inr (8, tpF ad bd)) :: rest)))) sz) := by
  refine Met.ofW (cc := cL_areTasksRight) (maxL := 10) (ret := (some .boolean)) (by decide) rfl ?_
  intro p e s m args below meth c s₁ B hml hv
  obtain ⟨rfl, ⟨hsz, hP, hK, hD0⟩, hN⟩ := hv
  have hx := B.exec
  have hb := B.bytes
  have hr := B.returns
  have hts := atoms_spec (ws := wl_areTasksRight) B.pre
  have hown : s.vm.findClass RL = some m.cls := findClass_of_methodNamed B.named
  have hlocks := B.notSynchronized
  subst hsz
  have hD := hD0.self (sz := s.heap.size)
  clear hD0
  generalize hAe : va_A (wB cA ad τ ++ (wPg cA ad pd π ++ (wB cA bd ρ ++ ((tp, .inr (8, tpF ad bd)) :: rest)))) s.heap.size = A at hD ⊢
  have hA : ∀ q : Nat, s.heap.size ≤ q → A q := fun q h => by rw [← hAe]; exact Or.inr h
  clear hAe
  have hS : va_S A s.heap s.heap [] := va_S.rf
  have hP : va_P D vwCl (wB cA ad τ ++ (wPg cA ad pd π ++ (wB cA bd ρ ++ ((tp, .inr (8, tpF ad bd)) :: rest)))) s.heap := hP
  have hl := lv_entry ([.ref tp, .ref oq]) (n := 10) (Nat.le_of_ble_eq_true rfl)
  rw [lg_entry_eq]
  generalize (lg_sl ([.ref tp, .ref oq]) ++ List.replicate (10 - (lg_sl ([.ref tp, .ref oq])).length) Slot.unset).toArray = ls at hl ⊢
  have hl : lv_has ls 10 [(0, .ref tp), (1, .ref oq)] := hl
  have hT := h.1.1.1
  have hS40 := h.1.1.2.1
  have hLl := hL.1.2.1
  refine lv_iconst (v := 5) hx hb dL_areTasksRight_0 (by decide) ?_
  refine va_newa (atype := .int) (ty := .int) (N' := 5) (a0 := (5, .inl (fun _ => 0))) hx hb (hts (.arrayClass .int) (by decide +kernel)) rfl hK hP hD hS hA (fun _ => rfl) (by decide) (by decide) (Nat.le_of_ble_eq_true rfl) (Nat.le_of_ble_eq_true rfl) (Nat.le_of_ble_eq_true rfl) dL_areTasksRight_1 (fun q1 cN H hKn hP hD hS => ?_)
  obtain rfl : cN = cA 0 := cA_int hKn rfl
  clear hKn
  rw [wL_app] at hP hD
  obtain ⟨R2, eR2⟩ : ∃ z : va_W, z = rest ++ [(q1, .inl (cA 0, 5, .inl (fun _ => 0)))] := ⟨_, rfl⟩
  have hP : va_P D vwCl (wB cA ad τ ++ (wPg cA ad pd π ++ (wB cA bd ρ ++ ((tp, .inr (8, tpF ad bd)) :: R2)))) H := by rw [eR2]; exact hP
  have hD : va_D A (wB cA ad τ ++ (wPg cA ad pd π ++ (wB cA bd ρ ++ ((tp, .inr (8, tpF ad bd)) :: R2)))) := by rw [eR2]; exact hD
  refine W.widen (k := 1) (n := 5) (by omega) (by omega) ?_
  refine lv_astore_n (lv' := [(2, .ref q1), (0, .ref tp), (1, .ref oq)]) hx hb dL_areTasksRight_3 rfl hl (by decide) rfl (fun ls hl => ?_)
  refine lv_bipush (v := 24) hx hb dL_areTasksRight_4 (by decide) ?_
  refine va_newa (atype := .boolean) (ty := .boolean) (N' := 24) (a0 := (24, .inl (fun _ => 0))) hx hb (hts (.arrayClass .boolean) (by decide +kernel)) rfl hK hP hD hS hA (fun _ => rfl) (by decide) (by decide) (Nat.le_of_ble_eq_true rfl) (Nat.le_of_ble_eq_true rfl) (Nat.le_of_ble_eq_true rfl) dL_areTasksRight_6 (fun q3 cN H hKn hP hD hS => ?_)
  rw [List.append_assoc] at hKn
  have hKb : va_K D vwCl (tyB cA ++ (tr ++ [(cN, .boolean)])) s := hKn
  rw [wL_app] at hP hD
  rw [eR2, List.append_assoc] at hP hD
  obtain ⟨R4, eR4⟩ : ∃ z : va_W, z = rest ++ [(q1, .inl (cA 0, 5, .inl (fun _ => 0))), (q3, .inl (cN, 24, .inl (fun _ => 0)))] := ⟨_, rfl⟩
  have hP : va_P D vwCl (wB cA ad τ ++ (wPg cA ad pd π ++ (wB cA bd ρ ++ ((tp, .inr (8, tpF ad bd)) :: R4)))) H := by rw [eR4]; exact hP
  have hD : va_D A (wB cA ad τ ++ (wPg cA ad pd π ++ (wB cA bd ρ ++ ((tp, .inr (8, tpF ad bd)) :: R4)))) := by rw [eR4]; exact hD
  refine W.widen (k := 2) (n := 29) (by omega) (by omega) ?_
  refine lv_astore_n (lv' := [(3, .ref q3), (2, .ref q1), (0, .ref tp), (1, .ref oq)]) hx hb dL_areTasksRight_8 rfl hl (by decide) rfl (fun ls hl => ?_)
  refine lv_bipush (v := 19) hx hb dL_areTasksRight_9 (by decide) ?_
  refine va_newa (atype := .int) (ty := .int) (N' := 19) (a0 := (19, .inl (fun _ => 0))) hx hb (hts (.arrayClass .int) (by decide +kernel)) rfl hKb hP hD hS hA (fun _ => rfl) (by decide) (by decide) (Nat.le_of_ble_eq_true rfl) (Nat.le_of_ble_eq_true rfl) (Nat.le_of_ble_eq_true rfl) dL_areTasksRight_11 (fun q5 cN H hKn hP hD hS => ?_)
  obtain rfl : cN = cA 0 := cA_int hKn rfl
  clear hKn
  rw [wL_app] at hP hD
  rw [eR4, List.append_assoc] at hP hD
  obtain ⟨R6, eR6⟩ : ∃ z : va_W, z = rest ++ [(q1, .inl (cA 0, 5, .inl (fun _ => 0))), (q3, .inl (cN, 24, .inl (fun _ => 0))), (q5, .inl (cA 0, 19, .inl (fun _ => 0)))] := ⟨_, rfl⟩
  have hP : va_P D vwCl (wB cA ad τ ++ (wPg cA ad pd π ++ (wB cA bd ρ ++ ((tp, .inr (8, tpF ad bd)) :: R6)))) H := by rw [eR6]; exact hP
  have hD : va_D A (wB cA ad τ ++ (wPg cA ad pd π ++ (wB cA bd ρ ++ ((tp, .inr (8, tpF ad bd)) :: R6)))) := by rw [eR6]; exact hD
  refine W.widen (k := 3) (n := 48) (by omega) (by omega) ?_
  refine lv_dup hx hb dL_areTasksRight_13 rfl ?_
  refine lv_iconst (v := 0) hx hb dL_areTasksRight_14 (by decide) ?_
  refine lv_iconst (v := 0) hx hb dL_areTasksRight_15 (by decide) ?_
  refine va_iast hx hb hKb hP hD hS (2 + rest.length + 210) (0) (wNewR eR6 rfl) rfl (by unfold vp_in; decide) dL_areTasksRight_16 (fun H locs hP hD hS => ?_)
  rw [wNewSR eR6] at hP hD
  obtain ⟨f7, ef7⟩ : ∃ z : Nat → Int32, z = upd (fun _ => 0) 0 0 := ⟨_, rfl⟩
  obtain ⟨R8, eR8⟩ : ∃ z : va_W, z = rest ++ [(q1, .inl (cA 0, 5, .inl (fun _ => 0))), (q3, .inl (cN, 24, .inl (fun _ => 0))), (q5, .inl (cA 0, 19, .inl f7))] := ⟨_, rfl⟩
  have hP : va_P D vwCl (wB cA ad τ ++ (wPg cA ad pd π ++ (wB cA bd ρ ++ ((tp, .inr (8, tpF ad bd)) :: R8)))) H := by rw [eR8, ef7]; exact hP
  have hD : va_D A (wB cA ad τ ++ (wPg cA ad pd π ++ (wB cA bd ρ ++ ((tp, .inr (8, tpF ad bd)) :: R8)))) := by rw [eR8, ef7]; exact hD
  refine lv_dup hx hb dL_areTasksRight_17 rfl ?_
  refine lv_iconst (v := 1) hx hb dL_areTasksRight_18 (by decide) ?_
  refine lv_iconst (v := 0) hx hb dL_areTasksRight_19 (by decide) ?_
  refine va_iast hx hb hKb hP hD hS (2 + rest.length + 210) (0) (wNewR eR8 rfl) rfl (by unfold vp_in; decide) dL_areTasksRight_20 (fun H locs hP hD hS => ?_)
  rw [wNewSR eR8] at hP hD
  obtain ⟨f9, ef9⟩ : ∃ z : Nat → Int32, z = upd f7 1 0 := ⟨_, rfl⟩
  obtain ⟨R10, eR10⟩ : ∃ z : va_W, z = rest ++ [(q1, .inl (cA 0, 5, .inl (fun _ => 0))), (q3, .inl (cN, 24, .inl (fun _ => 0))), (q5, .inl (cA 0, 19, .inl f9))] := ⟨_, rfl⟩
  have hP : va_P D vwCl (wB cA ad τ ++ (wPg cA ad pd π ++ (wB cA bd ρ ++ ((tp, .inr (8, tpF ad bd)) :: R10)))) H := by rw [eR10, ef9]; exact hP
  have hD : va_D A (wB cA ad τ ++ (wPg cA ad pd π ++ (wB cA bd ρ ++ ((tp, .inr (8, tpF ad bd)) :: R10)))) := by rw [eR10, ef9]; exact hD
  refine lv_dup hx hb dL_areTasksRight_21 rfl ?_
  refine lv_iconst (v := 2) hx hb dL_areTasksRight_22 (by decide) ?_
  refine lv_iconst (v := 0) hx hb dL_areTasksRight_23 (by decide) ?_
  refine va_iast hx hb hKb hP hD hS (2 + rest.length + 210) (0) (wNewR eR10 rfl) rfl (by unfold vp_in; decide) dL_areTasksRight_24 (fun H locs hP hD hS => ?_)
  rw [wNewSR eR10] at hP hD
  obtain ⟨f11, ef11⟩ : ∃ z : Nat → Int32, z = upd f9 2 0 := ⟨_, rfl⟩
  obtain ⟨R12, eR12⟩ : ∃ z : va_W, z = rest ++ [(q1, .inl (cA 0, 5, .inl (fun _ => 0))), (q3, .inl (cN, 24, .inl (fun _ => 0))), (q5, .inl (cA 0, 19, .inl f11))] := ⟨_, rfl⟩
  have hP : va_P D vwCl (wB cA ad τ ++ (wPg cA ad pd π ++ (wB cA bd ρ ++ ((tp, .inr (8, tpF ad bd)) :: R12)))) H := by rw [eR12, ef11]; exact hP
  have hD : va_D A (wB cA ad τ ++ (wPg cA ad pd π ++ (wB cA bd ρ ++ ((tp, .inr (8, tpF ad bd)) :: R12)))) := by rw [eR12, ef11]; exact hD
  refine lv_dup hx hb dL_areTasksRight_25 rfl ?_
  refine lv_iconst (v := 3) hx hb dL_areTasksRight_26 (by decide) ?_
  refine lv_iconst (v := 0) hx hb dL_areTasksRight_27 (by decide) ?_
  refine va_iast hx hb hKb hP hD hS (2 + rest.length + 210) (0) (wNewR eR12 rfl) rfl (by unfold vp_in; decide) dL_areTasksRight_28 (fun H locs hP hD hS => ?_)
  rw [wNewSR eR12] at hP hD
  obtain ⟨f13, ef13⟩ : ∃ z : Nat → Int32, z = upd f11 3 0 := ⟨_, rfl⟩
  obtain ⟨R14, eR14⟩ : ∃ z : va_W, z = rest ++ [(q1, .inl (cA 0, 5, .inl (fun _ => 0))), (q3, .inl (cN, 24, .inl (fun _ => 0))), (q5, .inl (cA 0, 19, .inl f13))] := ⟨_, rfl⟩
  have hP : va_P D vwCl (wB cA ad τ ++ (wPg cA ad pd π ++ (wB cA bd ρ ++ ((tp, .inr (8, tpF ad bd)) :: R14)))) H := by rw [eR14, ef13]; exact hP
  have hD : va_D A (wB cA ad τ ++ (wPg cA ad pd π ++ (wB cA bd ρ ++ ((tp, .inr (8, tpF ad bd)) :: R14)))) := by rw [eR14, ef13]; exact hD
  refine lv_dup hx hb dL_areTasksRight_29 rfl ?_
  refine lv_iconst (v := 4) hx hb dL_areTasksRight_30 (by decide) ?_
  refine lv_iconst (v := 0) hx hb dL_areTasksRight_31 (by decide) ?_
  refine va_iast hx hb hKb hP hD hS (2 + rest.length + 210) (0) (wNewR eR14 rfl) rfl (by unfold vp_in; decide) dL_areTasksRight_32 (fun H locs hP hD hS => ?_)
  rw [wNewSR eR14] at hP hD
  obtain ⟨f15, ef15⟩ : ∃ z : Nat → Int32, z = upd f13 4 0 := ⟨_, rfl⟩
  obtain ⟨R16, eR16⟩ : ∃ z : va_W, z = rest ++ [(q1, .inl (cA 0, 5, .inl (fun _ => 0))), (q3, .inl (cN, 24, .inl (fun _ => 0))), (q5, .inl (cA 0, 19, .inl f15))] := ⟨_, rfl⟩
  have hP : va_P D vwCl (wB cA ad τ ++ (wPg cA ad pd π ++ (wB cA bd ρ ++ ((tp, .inr (8, tpF ad bd)) :: R16)))) H := by rw [eR16, ef15]; exact hP
  have hD : va_D A (wB cA ad τ ++ (wPg cA ad pd π ++ (wB cA bd ρ ++ ((tp, .inr (8, tpF ad bd)) :: R16)))) := by rw [eR16, ef15]; exact hD
  refine lv_dup hx hb dL_areTasksRight_33 rfl ?_
  refine lv_iconst (v := 5) hx hb dL_areTasksRight_34 (by decide) ?_
  refine lv_iconst (v := 0) hx hb dL_areTasksRight_35 (by decide) ?_
  refine va_iast hx hb hKb hP hD hS (2 + rest.length + 210) (0) (wNewR eR16 rfl) rfl (by unfold vp_in; decide) dL_areTasksRight_36 (fun H locs hP hD hS => ?_)
  rw [wNewSR eR16] at hP hD
  obtain ⟨f17, ef17⟩ : ∃ z : Nat → Int32, z = upd f15 5 0 := ⟨_, rfl⟩
  obtain ⟨R18, eR18⟩ : ∃ z : va_W, z = rest ++ [(q1, .inl (cA 0, 5, .inl (fun _ => 0))), (q3, .inl (cN, 24, .inl (fun _ => 0))), (q5, .inl (cA 0, 19, .inl f17))] := ⟨_, rfl⟩
  have hP : va_P D vwCl (wB cA ad τ ++ (wPg cA ad pd π ++ (wB cA bd ρ ++ ((tp, .inr (8, tpF ad bd)) :: R18)))) H := by rw [eR18, ef17]; exact hP
  have hD : va_D A (wB cA ad τ ++ (wPg cA ad pd π ++ (wB cA bd ρ ++ ((tp, .inr (8, tpF ad bd)) :: R18)))) := by rw [eR18, ef17]; exact hD
  refine lv_dup hx hb dL_areTasksRight_37 rfl ?_
  refine lv_bipush (v := 6) hx hb dL_areTasksRight_38 (by decide) ?_
  refine lv_iconst (v := 0) hx hb dL_areTasksRight_40 (by decide) ?_
  refine va_iast hx hb hKb hP hD hS (2 + rest.length + 210) (0) (wNewR eR18 rfl) rfl (by unfold vp_in; decide) dL_areTasksRight_41 (fun H locs hP hD hS => ?_)
  rw [wNewSR eR18] at hP hD
  obtain ⟨f19, ef19⟩ : ∃ z : Nat → Int32, z = upd f17 6 0 := ⟨_, rfl⟩
  obtain ⟨R20, eR20⟩ : ∃ z : va_W, z = rest ++ [(q1, .inl (cA 0, 5, .inl (fun _ => 0))), (q3, .inl (cN, 24, .inl (fun _ => 0))), (q5, .inl (cA 0, 19, .inl f19))] := ⟨_, rfl⟩
  have hP : va_P D vwCl (wB cA ad τ ++ (wPg cA ad pd π ++ (wB cA bd ρ ++ ((tp, .inr (8, tpF ad bd)) :: R20)))) H := by rw [eR20, ef19]; exact hP
  have hD : va_D A (wB cA ad τ ++ (wPg cA ad pd π ++ (wB cA bd ρ ++ ((tp, .inr (8, tpF ad bd)) :: R20)))) := by rw [eR20, ef19]; exact hD
  refine lv_dup hx hb dL_areTasksRight_42 rfl ?_
  refine lv_bipush (v := 7) hx hb dL_areTasksRight_43 (by decide) ?_
  refine lv_iconst (v := 0) hx hb dL_areTasksRight_45 (by decide) ?_
  refine va_iast hx hb hKb hP hD hS (2 + rest.length + 210) (0) (wNewR eR20 rfl) rfl (by unfold vp_in; decide) dL_areTasksRight_46 (fun H locs hP hD hS => ?_)
  rw [wNewSR eR20] at hP hD
  obtain ⟨f21, ef21⟩ : ∃ z : Nat → Int32, z = upd f19 7 0 := ⟨_, rfl⟩
  obtain ⟨R22, eR22⟩ : ∃ z : va_W, z = rest ++ [(q1, .inl (cA 0, 5, .inl (fun _ => 0))), (q3, .inl (cN, 24, .inl (fun _ => 0))), (q5, .inl (cA 0, 19, .inl f21))] := ⟨_, rfl⟩
  have hP : va_P D vwCl (wB cA ad τ ++ (wPg cA ad pd π ++ (wB cA bd ρ ++ ((tp, .inr (8, tpF ad bd)) :: R22)))) H := by rw [eR22, ef21]; exact hP
  have hD : va_D A (wB cA ad τ ++ (wPg cA ad pd π ++ (wB cA bd ρ ++ ((tp, .inr (8, tpF ad bd)) :: R22)))) := by rw [eR22, ef21]; exact hD
  refine lv_dup hx hb dL_areTasksRight_47 rfl ?_
  refine lv_bipush (v := 8) hx hb dL_areTasksRight_48 (by decide) ?_
  refine lv_iconst (v := 0) hx hb dL_areTasksRight_50 (by decide) ?_
  refine va_iast hx hb hKb hP hD hS (2 + rest.length + 210) (0) (wNewR eR22 rfl) rfl (by unfold vp_in; decide) dL_areTasksRight_51 (fun H locs hP hD hS => ?_)
  rw [wNewSR eR22] at hP hD
  obtain ⟨f23, ef23⟩ : ∃ z : Nat → Int32, z = upd f21 8 0 := ⟨_, rfl⟩
  obtain ⟨R24, eR24⟩ : ∃ z : va_W, z = rest ++ [(q1, .inl (cA 0, 5, .inl (fun _ => 0))), (q3, .inl (cN, 24, .inl (fun _ => 0))), (q5, .inl (cA 0, 19, .inl f23))] := ⟨_, rfl⟩
  have hP : va_P D vwCl (wB cA ad τ ++ (wPg cA ad pd π ++ (wB cA bd ρ ++ ((tp, .inr (8, tpF ad bd)) :: R24)))) H := by rw [eR24, ef23]; exact hP
  have hD : va_D A (wB cA ad τ ++ (wPg cA ad pd π ++ (wB cA bd ρ ++ ((tp, .inr (8, tpF ad bd)) :: R24)))) := by rw [eR24, ef23]; exact hD
  refine lv_dup hx hb dL_areTasksRight_52 rfl ?_
  refine lv_bipush (v := 9) hx hb dL_areTasksRight_53 (by decide) ?_
  refine lv_iconst (v := 0) hx hb dL_areTasksRight_55 (by decide) ?_
  refine va_iast hx hb hKb hP hD hS (2 + rest.length + 210) (0) (wNewR eR24 rfl) rfl (by unfold vp_in; decide) dL_areTasksRight_56 (fun H locs hP hD hS => ?_)
  rw [wNewSR eR24] at hP hD
  obtain ⟨f25, ef25⟩ : ∃ z : Nat → Int32, z = upd f23 9 0 := ⟨_, rfl⟩
  obtain ⟨R26, eR26⟩ : ∃ z : va_W, z = rest ++ [(q1, .inl (cA 0, 5, .inl (fun _ => 0))), (q3, .inl (cN, 24, .inl (fun _ => 0))), (q5, .inl (cA 0, 19, .inl f25))] := ⟨_, rfl⟩
  have hP : va_P D vwCl (wB cA ad τ ++ (wPg cA ad pd π ++ (wB cA bd ρ ++ ((tp, .inr (8, tpF ad bd)) :: R26)))) H := by rw [eR26, ef25]; exact hP
  have hD : va_D A (wB cA ad τ ++ (wPg cA ad pd π ++ (wB cA bd ρ ++ ((tp, .inr (8, tpF ad bd)) :: R26)))) := by rw [eR26, ef25]; exact hD
  refine lv_dup hx hb dL_areTasksRight_57 rfl ?_
  refine lv_bipush (v := 10) hx hb dL_areTasksRight_58 (by decide) ?_
  refine lv_iconst (v := 0) hx hb dL_areTasksRight_60 (by decide) ?_
  refine va_iast hx hb hKb hP hD hS (2 + rest.length + 210) (0) (wNewR eR26 rfl) rfl (by unfold vp_in; decide) dL_areTasksRight_61 (fun H locs hP hD hS => ?_)
  rw [wNewSR eR26] at hP hD
  obtain ⟨f27, ef27⟩ : ∃ z : Nat → Int32, z = upd f25 10 0 := ⟨_, rfl⟩
  obtain ⟨R28, eR28⟩ : ∃ z : va_W, z = rest ++ [(q1, .inl (cA 0, 5, .inl (fun _ => 0))), (q3, .inl (cN, 24, .inl (fun _ => 0))), (q5, .inl (cA 0, 19, .inl f27))] := ⟨_, rfl⟩
  have hP : va_P D vwCl (wB cA ad τ ++ (wPg cA ad pd π ++ (wB cA bd ρ ++ ((tp, .inr (8, tpF ad bd)) :: R28)))) H := by rw [eR28, ef27]; exact hP
  have hD : va_D A (wB cA ad τ ++ (wPg cA ad pd π ++ (wB cA bd ρ ++ ((tp, .inr (8, tpF ad bd)) :: R28)))) := by rw [eR28, ef27]; exact hD
  refine lv_dup hx hb dL_areTasksRight_62 rfl ?_
  refine lv_bipush (v := 11) hx hb dL_areTasksRight_63 (by decide) ?_
  refine lv_iconst (v := 0) hx hb dL_areTasksRight_65 (by decide) ?_
  refine va_iast hx hb hKb hP hD hS (2 + rest.length + 210) (0) (wNewR eR28 rfl) rfl (by unfold vp_in; decide) dL_areTasksRight_66 (fun H locs hP hD hS => ?_)
  rw [wNewSR eR28] at hP hD
  obtain ⟨f29, ef29⟩ : ∃ z : Nat → Int32, z = upd f27 11 0 := ⟨_, rfl⟩
  obtain ⟨R30, eR30⟩ : ∃ z : va_W, z = rest ++ [(q1, .inl (cA 0, 5, .inl (fun _ => 0))), (q3, .inl (cN, 24, .inl (fun _ => 0))), (q5, .inl (cA 0, 19, .inl f29))] := ⟨_, rfl⟩
  have hP : va_P D vwCl (wB cA ad τ ++ (wPg cA ad pd π ++ (wB cA bd ρ ++ ((tp, .inr (8, tpF ad bd)) :: R30)))) H := by rw [eR30, ef29]; exact hP
  have hD : va_D A (wB cA ad τ ++ (wPg cA ad pd π ++ (wB cA bd ρ ++ ((tp, .inr (8, tpF ad bd)) :: R30)))) := by rw [eR30, ef29]; exact hD
  refine lv_dup hx hb dL_areTasksRight_67 rfl ?_
  refine lv_bipush (v := 12) hx hb dL_areTasksRight_68 (by decide) ?_
  refine lv_iconst (v := 1) hx hb dL_areTasksRight_70 (by decide) ?_
  refine va_iast hx hb hKb hP hD hS (2 + rest.length + 210) (0) (wNewR eR30 rfl) rfl (by unfold vp_in; decide) dL_areTasksRight_71 (fun H locs hP hD hS => ?_)
  rw [wNewSR eR30] at hP hD
  obtain ⟨f31, ef31⟩ : ∃ z : Nat → Int32, z = upd f29 12 1 := ⟨_, rfl⟩
  obtain ⟨R32, eR32⟩ : ∃ z : va_W, z = rest ++ [(q1, .inl (cA 0, 5, .inl (fun _ => 0))), (q3, .inl (cN, 24, .inl (fun _ => 0))), (q5, .inl (cA 0, 19, .inl f31))] := ⟨_, rfl⟩
  have hP : va_P D vwCl (wB cA ad τ ++ (wPg cA ad pd π ++ (wB cA bd ρ ++ ((tp, .inr (8, tpF ad bd)) :: R32)))) H := by rw [eR32, ef31]; exact hP
  have hD : va_D A (wB cA ad τ ++ (wPg cA ad pd π ++ (wB cA bd ρ ++ ((tp, .inr (8, tpF ad bd)) :: R32)))) := by rw [eR32, ef31]; exact hD
  refine lv_dup hx hb dL_areTasksRight_72 rfl ?_
  refine lv_bipush (v := 13) hx hb dL_areTasksRight_73 (by decide) ?_
  refine lv_iconst (v := 2) hx hb dL_areTasksRight_75 (by decide) ?_
  refine va_iast hx hb hKb hP hD hS (2 + rest.length + 210) (0) (wNewR eR32 rfl) rfl (by unfold vp_in; decide) dL_areTasksRight_76 (fun H locs hP hD hS => ?_)
  rw [wNewSR eR32] at hP hD
  obtain ⟨f33, ef33⟩ : ∃ z : Nat → Int32, z = upd f31 13 2 := ⟨_, rfl⟩
  obtain ⟨R34, eR34⟩ : ∃ z : va_W, z = rest ++ [(q1, .inl (cA 0, 5, .inl (fun _ => 0))), (q3, .inl (cN, 24, .inl (fun _ => 0))), (q5, .inl (cA 0, 19, .inl f33))] := ⟨_, rfl⟩
  have hP : va_P D vwCl (wB cA ad τ ++ (wPg cA ad pd π ++ (wB cA bd ρ ++ ((tp, .inr (8, tpF ad bd)) :: R34)))) H := by rw [eR34, ef33]; exact hP
  have hD : va_D A (wB cA ad τ ++ (wPg cA ad pd π ++ (wB cA bd ρ ++ ((tp, .inr (8, tpF ad bd)) :: R34)))) := by rw [eR34, ef33]; exact hD
  refine lv_dup hx hb dL_areTasksRight_77 rfl ?_
  refine lv_bipush (v := 14) hx hb dL_areTasksRight_78 (by decide) ?_
  refine lv_iconst (v := 0) hx hb dL_areTasksRight_80 (by decide) ?_
  refine va_iast hx hb hKb hP hD hS (2 + rest.length + 210) (0) (wNewR eR34 rfl) rfl (by unfold vp_in; decide) dL_areTasksRight_81 (fun H locs hP hD hS => ?_)
  rw [wNewSR eR34] at hP hD
  obtain ⟨f35, ef35⟩ : ∃ z : Nat → Int32, z = upd f33 14 0 := ⟨_, rfl⟩
  obtain ⟨R36, eR36⟩ : ∃ z : va_W, z = rest ++ [(q1, .inl (cA 0, 5, .inl (fun _ => 0))), (q3, .inl (cN, 24, .inl (fun _ => 0))), (q5, .inl (cA 0, 19, .inl f35))] := ⟨_, rfl⟩
  have hP : va_P D vwCl (wB cA ad τ ++ (wPg cA ad pd π ++ (wB cA bd ρ ++ ((tp, .inr (8, tpF ad bd)) :: R36)))) H := by rw [eR36, ef35]; exact hP
  have hD : va_D A (wB cA ad τ ++ (wPg cA ad pd π ++ (wB cA bd ρ ++ ((tp, .inr (8, tpF ad bd)) :: R36)))) := by rw [eR36, ef35]; exact hD
  refine lv_dup hx hb dL_areTasksRight_82 rfl ?_
  refine lv_bipush (v := 15) hx hb dL_areTasksRight_83 (by decide) ?_
  refine lv_iconst (v := 3) hx hb dL_areTasksRight_85 (by decide) ?_
  refine va_iast hx hb hKb hP hD hS (2 + rest.length + 210) (0) (wNewR eR36 rfl) rfl (by unfold vp_in; decide) dL_areTasksRight_86 (fun H locs hP hD hS => ?_)
  rw [wNewSR eR36] at hP hD
  obtain ⟨f37, ef37⟩ : ∃ z : Nat → Int32, z = upd f35 15 3 := ⟨_, rfl⟩
  obtain ⟨R38, eR38⟩ : ∃ z : va_W, z = rest ++ [(q1, .inl (cA 0, 5, .inl (fun _ => 0))), (q3, .inl (cN, 24, .inl (fun _ => 0))), (q5, .inl (cA 0, 19, .inl f37))] := ⟨_, rfl⟩
  have hP : va_P D vwCl (wB cA ad τ ++ (wPg cA ad pd π ++ (wB cA bd ρ ++ ((tp, .inr (8, tpF ad bd)) :: R38)))) H := by rw [eR38, ef37]; exact hP
  have hD : va_D A (wB cA ad τ ++ (wPg cA ad pd π ++ (wB cA bd ρ ++ ((tp, .inr (8, tpF ad bd)) :: R38)))) := by rw [eR38, ef37]; exact hD
  refine lv_dup hx hb dL_areTasksRight_87 rfl ?_
  refine lv_bipush (v := 16) hx hb dL_areTasksRight_88 (by decide) ?_
  refine lv_iconst (v := 4) hx hb dL_areTasksRight_90 (by decide) ?_
  refine va_iast hx hb hKb hP hD hS (2 + rest.length + 210) (0) (wNewR eR38 rfl) rfl (by unfold vp_in; decide) dL_areTasksRight_91 (fun H locs hP hD hS => ?_)
  rw [wNewSR eR38] at hP hD
  obtain ⟨f39, ef39⟩ : ∃ z : Nat → Int32, z = upd f37 16 4 := ⟨_, rfl⟩
  obtain ⟨R40, eR40⟩ : ∃ z : va_W, z = rest ++ [(q1, .inl (cA 0, 5, .inl (fun _ => 0))), (q3, .inl (cN, 24, .inl (fun _ => 0))), (q5, .inl (cA 0, 19, .inl f39))] := ⟨_, rfl⟩
  have hP : va_P D vwCl (wB cA ad τ ++ (wPg cA ad pd π ++ (wB cA bd ρ ++ ((tp, .inr (8, tpF ad bd)) :: R40)))) H := by rw [eR40, ef39]; exact hP
  have hD : va_D A (wB cA ad τ ++ (wPg cA ad pd π ++ (wB cA bd ρ ++ ((tp, .inr (8, tpF ad bd)) :: R40)))) := by rw [eR40, ef39]; exact hD
  refine lv_dup hx hb dL_areTasksRight_92 rfl ?_
  refine lv_bipush (v := 17) hx hb dL_areTasksRight_93 (by decide) ?_
  refine lv_iconst (v := 0) hx hb dL_areTasksRight_95 (by decide) ?_
  refine va_iast hx hb hKb hP hD hS (2 + rest.length + 210) (0) (wNewR eR40 rfl) rfl (by unfold vp_in; decide) dL_areTasksRight_96 (fun H locs hP hD hS => ?_)
  rw [wNewSR eR40] at hP hD
  obtain ⟨f41, ef41⟩ : ∃ z : Nat → Int32, z = upd f39 17 0 := ⟨_, rfl⟩
  obtain ⟨R42, eR42⟩ : ∃ z : va_W, z = rest ++ [(q1, .inl (cA 0, 5, .inl (fun _ => 0))), (q3, .inl (cN, 24, .inl (fun _ => 0))), (q5, .inl (cA 0, 19, .inl f41))] := ⟨_, rfl⟩
  have hP : va_P D vwCl (wB cA ad τ ++ (wPg cA ad pd π ++ (wB cA bd ρ ++ ((tp, .inr (8, tpF ad bd)) :: R42)))) H := by rw [eR42, ef41]; exact hP
  have hD : va_D A (wB cA ad τ ++ (wPg cA ad pd π ++ (wB cA bd ρ ++ ((tp, .inr (8, tpF ad bd)) :: R42)))) := by rw [eR42, ef41]; exact hD
  refine lv_dup hx hb dL_areTasksRight_97 rfl ?_
  refine lv_bipush (v := 18) hx hb dL_areTasksRight_98 (by decide) ?_
  refine lv_iconst (v := 4) hx hb dL_areTasksRight_100 (by decide) ?_
  refine va_iast hx hb hKb hP hD hS (2 + rest.length + 210) (0) (wNewR eR42 rfl) rfl (by unfold vp_in; decide) dL_areTasksRight_101 (fun H locs hP hD hS => ?_)
  rw [wNewSR eR42] at hP hD
  obtain ⟨f43, ef43⟩ : ∃ z : Nat → Int32, z = upd f41 18 4 := ⟨_, rfl⟩
  obtain ⟨R44, eR44⟩ : ∃ z : va_W, z = rest ++ [(q1, .inl (cA 0, 5, .inl (fun _ => 0))), (q3, .inl (cN, 24, .inl (fun _ => 0))), (q5, .inl (cA 0, 19, .inl f43))] := ⟨_, rfl⟩
  have hP : va_P D vwCl (wB cA ad τ ++ (wPg cA ad pd π ++ (wB cA bd ρ ++ ((tp, .inr (8, tpF ad bd)) :: R44)))) H := by rw [eR44, ef43]; exact hP
  have hD : va_D A (wB cA ad τ ++ (wPg cA ad pd π ++ (wB cA bd ρ ++ ((tp, .inr (8, tpF ad bd)) :: R44)))) := by rw [eR44, ef43]; exact hD
  refine lv_astore (lv' := [(4, .ref q5), (3, .ref q3), (2, .ref q1), (0, .ref tp), (1, .ref oq)]) hx hb dL_areTasksRight_102 hl (by decide) rfl (fun ls hl => ?_)
  have hwt : ∀ i, i < 19 → f43 i = wt i := by
      intro i hi
      rw [ef43, ef41, ef39, ef37, ef35, ef33, ef31, ef29, ef27, ef25, ef23, ef21, ef19, ef17, ef15, ef13, ef11, ef9, ef7]
      rcases (show i = 0 ∨ i = 1 ∨ i = 2 ∨ i = 3 ∨ i = 4 ∨ i = 5 ∨ i = 6 ∨ i = 7 ∨ i = 8 ∨ i = 9 ∨ i = 10 ∨ i = 11 ∨ i = 12 ∨ i = 13 ∨ i = 14 ∨ i = 15 ∨ i = 16 ∨ i = 17 ∨ i = 18 by omega) with z | z | z | z | z | z | z | z | z | z | z | z | z | z | z | z | z | z | z <;> subst z <;> rfl
  refine lv_iconst (v := 0) hx hb dL_areTasksRight_104 (by decide) ?_
  refine lv_istore (lv' := [(5, .int 0), (4, .ref q5), (3, .ref q3), (2, .ref q1), (0, .ref tp), (1, .ref oq)]) hx hb dL_areTasksRight_105 hl (by decide) rfl (fun ls hl => ?_)
  refine W_meas (I := fun (n : Nat) (H : Heap) (locs : List Loc) (ls : Array Slot) => ∃ (k : Nat) (f : Nat → Int32) (g : Nat → Int32) (R45 : va_W), ((n + k = T) ∧ (∀ v, v < 5 → f v = nI (cnt (m_isIn τ (nI v)) k)) ∧ (Seen L k g) ∧ (R45 = rest ++ [(q1, .inl (cA 0, 5, .inl f)), (q3, .inl (cN, 24, .inl g)), (q5, .inl (cA 0, 19, .inl f43))])) ∧ va_P D vwCl (wB cA ad τ ++ (wPg cA ad pd π ++ (wB cA bd ρ ++ ((tp, .inr (8, tpF ad bd)) :: R45)))) H ∧ va_D A (wB cA ad τ ++ (wPg cA ad pd π ++ (wB cA bd ρ ++ ((tp, .inr (8, tpF ad bd)) :: R45)))) ∧ va_S A s.heap H locs ∧ lv_has ls 10 [(0, .ref tp), (1, .ref oq), (2, .ref q1), (3, .ref q3), (4, .ref q5), (5, .int (nI k))]) T ⟨0, (fun _ => 0), (fun _ => 0), R44, ⟨by omega, fun v hv => rfl, fun p hp => Or.inl rfl, eR44⟩, hP, hD, hS, lv_sub hl [4, 5, 3, 2, 1, 0] rfl⟩ ?_
  clear hP hD hS hl
  intro n ih H locs ls hI
  obtain ⟨k, f, g, R45, ⟨hn, hf, hg, eR45⟩, hP, hD, hS, hl⟩ := hI
  refine lv_iload hx hb dL_areTasksRight_107 (lv_at hl 5 rfl) ?_
  refine lv_aload_n hx hb dL_areTasksRight_109 rfl (lv_at hl 0 rfl) ?_
  refine lv_iconst (v := 1) hx hb dL_areTasksRight_110 (by decide) ?_
  refine x_Vi (As := [.int 1]) (rest0 := [.int (nI k)]) ⟨hx, hb, hml, hown, hts⟩ (c_X8_many l D cA ad (tr ++ [(cN, .boolean)]) R45 H.size τ pd π bd tp ρ h102 1 (by decide) (by decide)) (cwV 1 hts gl_areTasksRight_X8_many rfl rfl rfl (by decide +kernel) ⟨Nat.le_of_ble_eq_true rfl, Nat.le_of_ble_eq_true rfl⟩) hKb hP hD hS hA 209 w_tp rfl hl.1 rfl rfl (Nat.le_of_ble_eq_true rfl) ⟨Nat.le_of_ble_eq_true rfl, Nat.le_of_ble_eq_true rfl⟩ dL_areTasksRight_111 (fun r _ H locs hw hP hD hS => ?_)
  obtain rfl : r = (nI T) := hw.trans (many_1 h.1.1)
  refine lv_icmp_ge (tgt := 452) hx hb dL_areTasksRight_114 (by decide) (fun c_114_46 => ?_) (fun c_114_46 => ?_)
  · skip
    obtain rfl : n = 0 := by have := (nI_leI (by omega) (by omega)).mp c_114_46; omega
    obtain rfl : T = k := by omega
    have z0 : cnt (m_isIn τ (nI 0)) T = L.length := ready_len hL h.1.1
    have y0 := cnt_le (m_isIn τ (nI 0)) T
    have y1 := cnt_le (m_isIn τ (nI 1)) T
    have y2 := cnt_le (m_isIn τ (nI 2)) T
    have y3 := cnt_le (m_isIn τ (nI 3)) T
    have y4 := cnt_le (m_isIn τ (nI 4)) T
    refine lv_aload_n hx hb dL_areTasksRight_452 rfl (lv_at hl 0 rfl) ?_
    refine lv_iconst (v := 2) hx hb dL_areTasksRight_453 (by decide) ?_
    refine x_Vi (As := [.int 2]) (rest0 := []) ⟨hx, hb, hml, hown, hts⟩ (c_X8_many l D cA ad (tr ++ [(cN, .boolean)]) R45 H.size τ pd π bd tp ρ h102 2 (by decide) (by decide)) (cwV 1 hts gl_areTasksRight_X8_many rfl rfl rfl (by decide +kernel) ⟨Nat.le_of_ble_eq_true rfl, Nat.le_of_ble_eq_true rfl⟩) hKb hP hD hS hA 209 w_tp rfl hl.1 rfl rfl (Nat.le_of_ble_eq_true rfl) ⟨Nat.le_of_ble_eq_true rfl, Nat.le_of_ble_eq_true rfl⟩ dL_areTasksRight_454 (fun r _ H locs hw hP hD hS => ?_)
    obtain rfl : r = (nI L.length) := hw.trans ((many_st h.1.1).1.trans (congrArg nI (ready_len hL h.1.1)))
    refine lv_aload_n hx hb dL_areTasksRight_457 rfl (lv_at hl 2 rfl) ?_
    refine lv_iconst (v := 0) hx hb dL_areTasksRight_458 (by decide) ?_
    refine va_iald hx hb hKb hP (0 + rest.length + 210) (0) (wNewR eR45 rfl) rfl (by unfold vp_in; decide) dL_areTasksRight_459 ?_
    refine W.eq (g2 := F0 m 460 ls [.int (nI (cnt (m_isIn τ (nI 0)) T)), .int (nI L.length)]) (by show F0 m _ ls (.int (f 0) :: _) = _; rw [hf 0 (by decide)]) ?_
    refine lv_icmp_ne (tgt := 535) hx hb dL_areTasksRight_460 (by decide) (fun c_460_47 => ?_) (fun c_460_47 => ?_)
    · exact absurd ((nI_eq (a := L.length) (b := cnt (m_isIn τ (nI 0)) T) (by omega) (by omega)).mpr (by omega)) c_460_47
    · skip
      refine lv_aload_n hx hb dL_areTasksRight_463 rfl (lv_at hl 0 rfl) ?_
      refine lv_iconst (v := 3) hx hb dL_areTasksRight_464 (by decide) ?_
      refine x_Vi (As := [.int 3]) (rest0 := []) ⟨hx, hb, hml, hown, hts⟩ (c_X8_many l D cA ad (tr ++ [(cN, .boolean)]) R45 H.size τ pd π bd tp ρ h102 3 (by decide) (by decide)) (cwV 1 hts gl_areTasksRight_X8_many rfl rfl rfl (by decide +kernel) ⟨Nat.le_of_ble_eq_true rfl, Nat.le_of_ble_eq_true rfl⟩) hKb hP hD hS hA 209 w_tp rfl hl.1 rfl rfl (Nat.le_of_ble_eq_true rfl) ⟨Nat.le_of_ble_eq_true rfl, Nat.le_of_ble_eq_true rfl⟩ dL_areTasksRight_465 (fun r _ H locs hw hP hD hS => ?_)
      obtain rfl : r = (nI (cnt (m_isIn τ (nI 1)) T)) := hw.trans ((many_st h.1.1).2.1)
      refine lv_aload_n hx hb dL_areTasksRight_468 rfl (lv_at hl 2 rfl) ?_
      refine lv_iconst (v := 1) hx hb dL_areTasksRight_469 (by decide) ?_
      refine va_iald hx hb hKb hP (0 + rest.length + 210) (0) (wNewR eR45 rfl) rfl (by unfold vp_in; decide) dL_areTasksRight_470 ?_
      refine W.eq (g2 := F0 m 471 ls [.int (nI (cnt (m_isIn τ (nI 1)) T)), .int (nI (cnt (m_isIn τ (nI 1)) T))]) (by show F0 m _ ls (.int (f 1) :: _) = _; rw [hf 1 (by decide)]) ?_
      refine lv_icmp_ne (tgt := 535) hx hb dL_areTasksRight_471 (by decide) (fun c_471_48 => ?_) (fun c_471_48 => ?_)
      · exact absurd ((nI_eq (a := cnt (m_isIn τ (nI 1)) T) (b := cnt (m_isIn τ (nI 1)) T) (by omega) (by omega)).mpr (by omega)) c_471_48
      · skip
        refine lv_aload_n hx hb dL_areTasksRight_474 rfl (lv_at hl 0 rfl) ?_
        refine lv_iconst (v := 4) hx hb dL_areTasksRight_475 (by decide) ?_
        refine x_Vi (As := [.int 4]) (rest0 := []) ⟨hx, hb, hml, hown, hts⟩ (c_X8_many l D cA ad (tr ++ [(cN, .boolean)]) R45 H.size τ pd π bd tp ρ h102 4 (by decide) (by decide)) (cwV 1 hts gl_areTasksRight_X8_many rfl rfl rfl (by decide +kernel) ⟨Nat.le_of_ble_eq_true rfl, Nat.le_of_ble_eq_true rfl⟩) hKb hP hD hS hA 209 w_tp rfl hl.1 rfl rfl (Nat.le_of_ble_eq_true rfl) ⟨Nat.le_of_ble_eq_true rfl, Nat.le_of_ble_eq_true rfl⟩ dL_areTasksRight_476 (fun r _ H locs hw hP hD hS => ?_)
        obtain rfl : r = (nI (cnt (m_isIn τ (nI 2)) T)) := hw.trans ((many_st h.1.1).2.2.1)
        refine lv_aload_n hx hb dL_areTasksRight_479 rfl (lv_at hl 2 rfl) ?_
        refine lv_iconst (v := 2) hx hb dL_areTasksRight_480 (by decide) ?_
        refine va_iald hx hb hKb hP (0 + rest.length + 210) (0) (wNewR eR45 rfl) rfl (by unfold vp_in; decide) dL_areTasksRight_481 ?_
        refine W.eq (g2 := F0 m 482 ls [.int (nI (cnt (m_isIn τ (nI 2)) T)), .int (nI (cnt (m_isIn τ (nI 2)) T))]) (by show F0 m _ ls (.int (f 2) :: _) = _; rw [hf 2 (by decide)]) ?_
        refine lv_icmp_ne (tgt := 535) hx hb dL_areTasksRight_482 (by decide) (fun c_482_49 => ?_) (fun c_482_49 => ?_)
        · exact absurd ((nI_eq (a := cnt (m_isIn τ (nI 2)) T) (b := cnt (m_isIn τ (nI 2)) T) (by omega) (by omega)).mpr (by omega)) c_482_49
        · skip
          refine lv_aload_n hx hb dL_areTasksRight_485 rfl (lv_at hl 0 rfl) ?_
          refine lv_iconst (v := 5) hx hb dL_areTasksRight_486 (by decide) ?_
          refine x_Vi (As := [.int 5]) (rest0 := []) ⟨hx, hb, hml, hown, hts⟩ (c_X8_many l D cA ad (tr ++ [(cN, .boolean)]) R45 H.size τ pd π bd tp ρ h102 5 (by decide) (by decide)) (cwV 1 hts gl_areTasksRight_X8_many rfl rfl rfl (by decide +kernel) ⟨Nat.le_of_ble_eq_true rfl, Nat.le_of_ble_eq_true rfl⟩) hKb hP hD hS hA 209 w_tp rfl hl.1 rfl rfl (Nat.le_of_ble_eq_true rfl) ⟨Nat.le_of_ble_eq_true rfl, Nat.le_of_ble_eq_true rfl⟩ dL_areTasksRight_487 (fun r _ H locs hw hP hD hS => ?_)
          obtain rfl : r = (nI (cnt (m_isIn τ (nI 3)) T)) := hw.trans ((many_st h.1.1).2.2.2.1)
          refine lv_aload_n hx hb dL_areTasksRight_490 rfl (lv_at hl 2 rfl) ?_
          refine lv_iconst (v := 3) hx hb dL_areTasksRight_491 (by decide) ?_
          refine va_iald hx hb hKb hP (0 + rest.length + 210) (0) (wNewR eR45 rfl) rfl (by unfold vp_in; decide) dL_areTasksRight_492 ?_
          refine W.eq (g2 := F0 m 493 ls [.int (nI (cnt (m_isIn τ (nI 3)) T)), .int (nI (cnt (m_isIn τ (nI 3)) T))]) (by show F0 m _ ls (.int (f 3) :: _) = _; rw [hf 3 (by decide)]) ?_
          refine lv_icmp_ne (tgt := 535) hx hb dL_areTasksRight_493 (by decide) (fun c_493_50 => ?_) (fun c_493_50 => ?_)
          · exact absurd ((nI_eq (a := cnt (m_isIn τ (nI 3)) T) (b := cnt (m_isIn τ (nI 3)) T) (by omega) (by omega)).mpr (by omega)) c_493_50
          · skip
            refine lv_aload_n hx hb dL_areTasksRight_496 rfl (lv_at hl 0 rfl) ?_
            refine lv_bipush (v := 6) hx hb dL_areTasksRight_497 (by decide) ?_
            refine x_Vi (As := [.int 6]) (rest0 := []) ⟨hx, hb, hml, hown, hts⟩ (c_X8_many l D cA ad (tr ++ [(cN, .boolean)]) R45 H.size τ pd π bd tp ρ h102 6 (by decide) (by decide)) (cwV 1 hts gl_areTasksRight_X8_many rfl rfl rfl (by decide +kernel) ⟨Nat.le_of_ble_eq_true rfl, Nat.le_of_ble_eq_true rfl⟩) hKb hP hD hS hA 209 w_tp rfl hl.1 rfl rfl (Nat.le_of_ble_eq_true rfl) ⟨Nat.le_of_ble_eq_true rfl, Nat.le_of_ble_eq_true rfl⟩ dL_areTasksRight_499 (fun r _ H locs hw hP hD hS => ?_)
            obtain rfl : r = (nI (cnt (m_isIn τ (nI 4)) T)) := hw.trans ((many_st h.1.1).2.2.2.2)
            refine lv_aload_n hx hb dL_areTasksRight_502 rfl (lv_at hl 2 rfl) ?_
            refine lv_iconst (v := 4) hx hb dL_areTasksRight_503 (by decide) ?_
            refine va_iald hx hb hKb hP (0 + rest.length + 210) (0) (wNewR eR45 rfl) rfl (by unfold vp_in; decide) dL_areTasksRight_504 ?_
            refine W.eq (g2 := F0 m 505 ls [.int (nI (cnt (m_isIn τ (nI 4)) T)), .int (nI (cnt (m_isIn τ (nI 4)) T))]) (by show F0 m _ ls (.int (f 4) :: _) = _; rw [hf 4 (by decide)]) ?_
            refine lv_icmp_ne (tgt := 535) hx hb dL_areTasksRight_505 (by decide) (fun c_505_51 => ?_) (fun c_505_51 => ?_)
            · exact absurd ((nI_eq (a := cnt (m_isIn τ (nI 4)) T) (b := cnt (m_isIn τ (nI 4)) T) (by omega) (by omega)).mpr (by omega)) c_505_51
            · skip
              rcases stuck_case h.1.1 with s0 | ⟨s0, s1⟩
              · skip
                refine lv_aload_n hx hb dL_areTasksRight_508 rfl (lv_at hl 0 rfl) ?_
                refine x_Vi (As := []) (rest0 := []) ⟨hx, hb, hml, hown, hts⟩ (c_X8_stuck l D cA ad (tr ++ [(cN, .boolean)]) R45 H.size τ pd π bd tp ρ h102 ) (cwV 0 hts gl_areTasksRight_X8_stuck rfl rfl rfl (by decide +kernel) ⟨Nat.le_of_ble_eq_true rfl, Nat.le_of_ble_eq_true rfl⟩) hKb hP hD hS hA 209 w_tp rfl hl.1 rfl rfl (Nat.le_of_ble_eq_true rfl) ⟨Nat.le_of_ble_eq_true rfl, Nat.le_of_ble_eq_true rfl⟩ dL_areTasksRight_509 (fun r _ H locs hw hP hD hS => ?_)
                obtain rfl : r = 0 := hw.trans s0
                refine lv_if_eq (tgt := 531) hx hb dL_areTasksRight_512 (by decide) (fun c_512_52 => ?_) (fun c_512_52 => ?_)
                · skip
                  refine lv_iconst (v := 1) hx hb dL_areTasksRight_531 (by decide) ?_
                  refine lv_goto (tgt := 536) hx hb dL_areTasksRight_532 (by decide) ?_
                  rw [eR45, ← wL_app] at hP hD
                  have hP := wP_l hP
                  have hD := wD_l hD
                  exact x_zret hx hb hr rfl hlocks hK () hP hD hS dL_areTasksRight_536 rfl
                · exact absurd c_512_52 (by decide)
              · skip
                have s2 : cnt (m_isIn τ (nI 0)) T = 0 := s1
                refine lv_aload_n hx hb dL_areTasksRight_508 rfl (lv_at hl 0 rfl) ?_
                refine x_Vi (As := []) (rest0 := []) ⟨hx, hb, hml, hown, hts⟩ (c_X8_stuck l D cA ad (tr ++ [(cN, .boolean)]) R45 H.size τ pd π bd tp ρ h102 ) (cwV 0 hts gl_areTasksRight_X8_stuck rfl rfl rfl (by decide +kernel) ⟨Nat.le_of_ble_eq_true rfl, Nat.le_of_ble_eq_true rfl⟩) hKb hP hD hS hA 209 w_tp rfl hl.1 rfl rfl (Nat.le_of_ble_eq_true rfl) ⟨Nat.le_of_ble_eq_true rfl, Nat.le_of_ble_eq_true rfl⟩ dL_areTasksRight_509 (fun r _ H locs hw hP hD hS => ?_)
                obtain rfl : r = (nI (cnt (m_isIn τ (nI 1)) T)) := hw.trans s0
                refine lv_if_eq (tgt := 531) hx hb dL_areTasksRight_512 (by decide) (fun c_512_53 => ?_) (fun c_512_53 => ?_)
                · skip
                  refine lv_iconst (v := 1) hx hb dL_areTasksRight_531 (by decide) ?_
                  refine lv_goto (tgt := 536) hx hb dL_areTasksRight_532 (by decide) ?_
                  rw [eR45, ← wL_app] at hP hD
                  have hP := wP_l hP
                  have hD := wD_l hD
                  exact x_zret hx hb hr rfl hlocks hK () hP hD hS dL_areTasksRight_536 rfl
                · skip
                  refine lv_aload_n hx hb dL_areTasksRight_515 rfl (lv_at hl 0 rfl) ?_
                  refine x_Vi (As := []) (rest0 := []) ⟨hx, hb, hml, hown, hts⟩ (c_X8_stuck l D cA ad (tr ++ [(cN, .boolean)]) R45 H.size τ pd π bd tp ρ h102 ) (cwV 0 hts gl_areTasksRight_X8_stuck rfl rfl rfl (by decide +kernel) ⟨Nat.le_of_ble_eq_true rfl, Nat.le_of_ble_eq_true rfl⟩) hKb hP hD hS hA 209 w_tp rfl hl.1 rfl rfl (Nat.le_of_ble_eq_true rfl) ⟨Nat.le_of_ble_eq_true rfl, Nat.le_of_ble_eq_true rfl⟩ dL_areTasksRight_516 (fun r _ H locs hw hP hD hS => ?_)
                  obtain rfl : r = (nI (cnt (m_isIn τ (nI 1)) T)) := hw.trans s0
                  refine lv_aload_n hx hb dL_areTasksRight_519 rfl (lv_at hl 2 rfl) ?_
                  refine lv_iconst (v := 1) hx hb dL_areTasksRight_520 (by decide) ?_
                  refine va_iald hx hb hKb hP (0 + rest.length + 210) (0) (wNewR eR45 rfl) rfl (by unfold vp_in; decide) dL_areTasksRight_521 ?_
                  refine W.eq (g2 := F0 m 522 ls [.int (nI (cnt (m_isIn τ (nI 1)) T)), .int (nI (cnt (m_isIn τ (nI 1)) T))]) (by show F0 m _ ls (.int (f 1) :: _) = _; rw [hf 1 (by decide)]) ?_
                  refine lv_icmp_ne (tgt := 535) hx hb dL_areTasksRight_522 (by decide) (fun c_522_54 => ?_) (fun c_522_54 => ?_)
                  · exact absurd ((nI_eq (a := cnt (m_isIn τ (nI 1)) T) (b := cnt (m_isIn τ (nI 1)) T) (by omega) (by omega)).mpr (by omega)) c_522_54
                  · skip
                    refine lv_aload_n hx hb dL_areTasksRight_525 rfl (lv_at hl 2 rfl) ?_
                    refine lv_iconst (v := 0) hx hb dL_areTasksRight_526 (by decide) ?_
                    refine va_iald hx hb hKb hP (0 + rest.length + 210) (0) (wNewR eR45 rfl) rfl (by unfold vp_in; decide) dL_areTasksRight_527 ?_
                    refine W.eq (g2 := F0 m 528 ls [.int (nI (cnt (m_isIn τ (nI 0)) T))]) (by show F0 m _ ls (.int (f 0) :: _) = _; rw [hf 0 (by decide)]) ?_
                    refine lv_if_ne (tgt := 535) hx hb dL_areTasksRight_528 (by decide) (fun c_528_55 => ?_) (fun c_528_55 => ?_)
                    · exact absurd ((nI_eq (a := cnt (m_isIn τ (nI 0)) T) (b := 0) (by omega) (by omega)).mpr (by omega)) c_528_55
                    · skip
                      refine lv_iconst (v := 1) hx hb dL_areTasksRight_531 (by decide) ?_
                      refine lv_goto (tgt := 536) hx hb dL_areTasksRight_532 (by decide) ?_
                      rw [eR45, ← wL_app] at hP hD
                      have hP := wP_l hP
                      have hD := wD_l hD
                      exact x_zret hx hb hr rfl hlocks hK () hP hD hS dL_areTasksRight_536 rfl
  · skip
    have hk : k < T := Nat.not_le.mp (fun z => c_114_46 ((nI_leI (by omega) (by omega)).mpr z))
    have hk24 : k < 24 := by omega
    obtain ⟨n, rfl⟩ : ∃ j, n = j + 1 := ⟨n - 1, by omega⟩
    have y0 := cnt_le (m_isIn τ (nI 0)) k
    have y1 := cnt_le (m_isIn τ (nI 1)) k
    have y2 := cnt_le (m_isIn τ (nI 2)) k
    have y3 := cnt_le (m_isIn τ (nI 3)) k
    have y4 := cnt_le (m_isIn τ (nI 4)) k
    rcases task_case hIP h hL hk with ⟨c1, pl, l9, hp, p24, c6, c8, c2, l12⟩ | ⟨c1, c6, c8, l9, d9, l12, c2, c5, d40⟩ | ⟨c1, c6, c7, w9, l9, b9, w1, w2, c8, c2, l12, b8, c0, hlt, hwk⟩ | ⟨c6, c8, c2, c5, c7, v9, v2, v4, c1⟩
    · skip
      have e0 : τ (k + 6) 3 = nI 0 := (aT1 hk24).symm.trans c1
      have hal : ali τ k := Or.inl e0
      have hg0 : g pl = 0 := hg.z hp p24
      have hpl : pl < L.length := (List.getElem?_eq_some_iff.mp hp).1
      refine lv_aload_n hx hb dL_areTasksRight_117 rfl (lv_at hl 0 rfl) ?_
      refine lv_iload hx hb dL_areTasksRight_118 (lv_at hl 5 rfl) ?_
      refine lv_iconst (v := 1) hx hb dL_areTasksRight_120 (by decide) ?_
      refine x_Vi (As := [.int (nI k), .int 1]) (rest0 := []) ⟨hx, hb, hml, hown, hts⟩ (c_X8_ofTask l D cA ad (tr ++ [(cN, .boolean)]) R45 H.size τ pd π bd tp ρ h102 (nI k) 1 (nI_pos (by omega)) (by rw [h.1.1.2.2.1]; exact (nI_ltI (by omega) (by omega)).mpr (by omega)) (by decide) (by decide)) (cwV 2 hts gl_areTasksRight_X8_ofTask rfl rfl rfl (by decide +kernel) ⟨Nat.le_of_ble_eq_true rfl, Nat.le_of_ble_eq_true rfl⟩) hKb hP hD hS hA 209 w_tp rfl hl.1 rfl rfl (Nat.le_of_ble_eq_true rfl) ⟨Nat.le_of_ble_eq_true rfl, Nat.le_of_ble_eq_true rfl⟩ dL_areTasksRight_121 (fun r _ H locs hw hP hD hS => ?_)
      obtain rfl : r = 0 := hw.trans c1
      refine lv_istore (lv' := [(6, .int 0), (0, .ref tp), (1, .ref oq), (2, .ref q1), (3, .ref q3), (4, .ref q5), (5, .int (nI k))]) hx hb dL_areTasksRight_124 hl (by decide) rfl (fun ls hl => ?_)
      refine lv_aload_n hx hb dL_areTasksRight_126 rfl (lv_at hl 1 rfl) ?_
      refine lv_iload hx hb dL_areTasksRight_127 (lv_at hl 6 rfl) ?_
      refine lv_bipush (v := 6) hx hb dL_areTasksRight_129 (by decide) ?_
      refine x_Vi (As := [.int (nI k), .int 6]) (rest0 := []) ⟨hx, hb, hml, hown, hts⟩ (c_X8_ofTask l D cA ad (tr ++ [(cN, .boolean)]) R45 H.size τ pd π bd tp ρ h102 (nI k) 6 (nI_pos (by omega)) (by rw [h.1.1.2.2.1]; exact (nI_ltI (by omega) (by omega)).mpr (by omega)) (by decide) (by decide)) (cwV 2 hts gl_areTasksRight_X8_ofTask rfl rfl rfl (by decide +kernel) ⟨Nat.le_of_ble_eq_true rfl, Nat.le_of_ble_eq_true rfl⟩) hKb hP hD hS hA 209 w_tp rfl hl.1 rfl rfl (Nat.le_of_ble_eq_true rfl) ⟨Nat.le_of_ble_eq_true rfl, Nat.le_of_ble_eq_true rfl⟩ dL_areTasksRight_131 (fun r _ H locs hw hP hD hS => ?_)
      obtain rfl : r = (nI pl) := hw.trans c6
      refine lv_istore (lv' := [(7, .int (nI pl)), (6, .int 0), (0, .ref tp), (1, .ref oq), (2, .ref q1), (3, .ref q3), (4, .ref q5), (5, .int (nI k))]) hx hb dL_areTasksRight_134 hl (by decide) rfl (fun ls hl => ?_)
      refine lv_aload_n hx hb dL_areTasksRight_136 rfl (lv_at hl 2 rfl) ?_
      refine lv_iload hx hb dL_areTasksRight_137 (lv_at hl 7 rfl) ?_
      refine lv_bipush (v := 8) hx hb dL_areTasksRight_139 (by decide) ?_
      refine x_Vi (As := [.int (nI k), .int 8]) (rest0 := []) ⟨hx, hb, hml, hown, hts⟩ (c_X8_ofTask l D cA ad (tr ++ [(cN, .boolean)]) R45 H.size τ pd π bd tp ρ h102 (nI k) 8 (nI_pos (by omega)) (by rw [h.1.1.2.2.1]; exact (nI_ltI (by omega) (by omega)).mpr (by omega)) (by decide) (by decide)) (cwV 2 hts gl_areTasksRight_X8_ofTask rfl rfl rfl (by decide +kernel) ⟨Nat.le_of_ble_eq_true rfl, Nat.le_of_ble_eq_true rfl⟩) hKb hP hD hS hA 209 w_tp rfl hl.1 rfl rfl (Nat.le_of_ble_eq_true rfl) ⟨Nat.le_of_ble_eq_true rfl, Nat.le_of_ble_eq_true rfl⟩ dL_areTasksRight_141 (fun r _ H locs hw hP hD hS => ?_)
      obtain rfl : r = 0 := hw.trans c8
      refine lv_istore (lv' := [(8, .int 0), (7, .int (nI pl)), (6, .int 0), (0, .ref tp), (1, .ref oq), (2, .ref q1), (3, .ref q3), (4, .ref q5), (5, .int (nI k))]) hx hb dL_areTasksRight_144 hl (by decide) rfl (fun ls hl => ?_)
      refine lv_aload_n hx hb dL_areTasksRight_146 rfl (lv_at hl 3 rfl) ?_
      refine lv_iload hx hb dL_areTasksRight_147 (lv_at hl 8 rfl) ?_
      refine lv_iconst (v := 2) hx hb dL_areTasksRight_149 (by decide) ?_
      refine x_Vi (As := [.int (nI k), .int 2]) (rest0 := []) ⟨hx, hb, hml, hown, hts⟩ (c_X8_ofTask l D cA ad (tr ++ [(cN, .boolean)]) R45 H.size τ pd π bd tp ρ h102 (nI k) 2 (nI_pos (by omega)) (by rw [h.1.1.2.2.1]; exact (nI_ltI (by omega) (by omega)).mpr (by omega)) (by decide) (by decide)) (cwV 2 hts gl_areTasksRight_X8_ofTask rfl rfl rfl (by decide +kernel) ⟨Nat.le_of_ble_eq_true rfl, Nat.le_of_ble_eq_true rfl⟩) hKb hP hD hS hA 209 w_tp rfl hl.1 rfl rfl (Nat.le_of_ble_eq_true rfl) ⟨Nat.le_of_ble_eq_true rfl, Nat.le_of_ble_eq_true rfl⟩ dL_areTasksRight_150 (fun r _ H locs hw hP hD hS => ?_)
      obtain rfl : r = (nI l9) := hw.trans c2
      refine lv_istore (lv' := [(9, .int (nI l9)), (8, .int 0), (7, .int (nI pl)), (6, .int 0), (0, .ref tp), (1, .ref oq), (2, .ref q1), (3, .ref q3), (4, .ref q5), (5, .int (nI k))]) hx hb dL_areTasksRight_153 hl (by decide) rfl (fun ls hl => ?_)
      refine lv_aload_n hx hb dL_areTasksRight_155 rfl (lv_at hl 6 rfl) ?_
      refine lv_iload hx hb dL_areTasksRight_156 (lv_at hl 3 rfl) ?_
      refine lv_dup2_11 hx hb dL_areTasksRight_158 rfl rfl ?_
      refine va_iald hx hb hKb hP (0 + rest.length + 210) (0) (wNewR eR45 rfl) rfl (by unfold vp_in; decide) dL_areTasksRight_159 ?_
      refine W.eq (g2 := F0 m 160 ls [.int (nI (cnt (m_isIn τ (nI 0)) k)), .int 0, .ref q1]) (by show F0 m _ ls (.int (f 0) :: _) = _; rw [hf 0 (by decide)]) ?_
      refine lv_iconst (v := 1) hx hb dL_areTasksRight_160 (by decide) ?_
      refine lv_iadd hx hb dL_areTasksRight_161 ?_
      refine W.eq (g2 := F0 m 162 ls [.int (nI ((cnt (m_isIn τ (nI 0)) k) + 1)), .int 0, .ref q1]) (by rw [show ((nI (cnt (m_isIn τ (nI 0)) k)) : Int32) + 1 = (nI ((cnt (m_isIn τ (nI 0)) k) + 1)) from nI_add (cnt (m_isIn τ (nI 0)) k) 1]) ?_
      refine va_iast hx hb hKb hP hD hS (0 + rest.length + 210) (0) (wNewR eR45 rfl) rfl (by unfold vp_in; decide) dL_areTasksRight_162 (fun H locs hP hD hS => ?_)
      rw [wNewSR eR45] at hP hD
      obtain ⟨f56, ef56⟩ : ∃ z : Nat → Int32, z = upd f 0 (nI ((cnt (m_isIn τ (nI 0)) k) + 1)) := ⟨_, rfl⟩
      obtain ⟨R57, eR57⟩ : ∃ z : va_W, z = rest ++ [(q1, .inl (cA 0, 5, .inl f56)), (q3, .inl (cN, 24, .inl g)), (q5, .inl (cA 0, 19, .inl f43))] := ⟨_, rfl⟩
      have hP : va_P D vwCl (wB cA ad τ ++ (wPg cA ad pd π ++ (wB cA bd ρ ++ ((tp, .inr (8, tpF ad bd)) :: R57)))) H := by rw [eR57, ef56]; exact hP
      have hD : va_D A (wB cA ad τ ++ (wPg cA ad pd π ++ (wB cA bd ρ ++ ((tp, .inr (8, tpF ad bd)) :: R57)))) := by rw [eR57, ef56]; exact hD
      refine lv_iload hx hb dL_areTasksRight_163 (lv_at hl 2 rfl) ?_
      refine lv_if_lt (tgt := 172) hx hb dL_areTasksRight_165 (by decide) (fun c_165_58 => ?_) (fun c_165_58 => ?_)
      · exact absurd ((nI_ltI (a := pl) (b := 0) (by omega) (by omega)).mp c_165_58) (by omega)
      · skip
        refine lv_iconst (v := 1) hx hb dL_areTasksRight_168 (by decide) ?_
        refine lv_goto (tgt := 173) hx hb dL_areTasksRight_169 (by decide) ?_
        refine lv_iload hx hb dL_areTasksRight_173 (lv_at hl 3 rfl) ?_
        refine lv_if_ne (tgt := 182) hx hb dL_areTasksRight_175 (by decide) (fun c_175_59 => ?_) (fun c_175_59 => ?_)
        · exact absurd c_175_59 (by decide)
        · skip
          refine lv_iconst (v := 1) hx hb dL_areTasksRight_178 (by decide) ?_
          refine lv_goto (tgt := 183) hx hb dL_areTasksRight_179 (by decide) ?_
          refine lv_icmp_ne (tgt := 283) hx hb dL_areTasksRight_183 (by decide) (fun c_183_60 => ?_) (fun c_183_60 => ?_)
          · exact absurd c_183_60 (by decide)
          · skip
            refine lv_iload hx hb dL_areTasksRight_186 (lv_at hl 2 rfl) ?_
            refine lv_aload_n hx hb dL_areTasksRight_188 rfl (lv_at hl 4 rfl) ?_
            refine lv_iconst (v := 2) hx hb dL_areTasksRight_189 (by decide) ?_
            refine x_Vi (As := [.int 2]) (rest0 := [.int (nI pl)]) ⟨hx, hb, hml, hown, hts⟩ (c_X8_many l D cA ad (tr ++ [(cN, .boolean)]) R57 H.size τ pd π bd tp ρ h102 2 (by decide) (by decide)) (cwV 1 hts gl_areTasksRight_X8_many rfl rfl rfl (by decide +kernel) ⟨Nat.le_of_ble_eq_true rfl, Nat.le_of_ble_eq_true rfl⟩) hKb hP hD hS hA 209 w_tp rfl hl.1 rfl rfl (Nat.le_of_ble_eq_true rfl) ⟨Nat.le_of_ble_eq_true rfl, Nat.le_of_ble_eq_true rfl⟩ dL_areTasksRight_190 (fun r _ H locs hw hP hD hS => ?_)
            obtain rfl : r = (nI L.length) := hw.trans ((many_st h.1.1).1.trans (congrArg nI (ready_len hL h.1.1)))
            refine lv_icmp_ge (tgt := 283) hx hb dL_areTasksRight_193 (by decide) (fun c_193_61 => ?_) (fun c_193_61 => ?_)
            · exact absurd ((nI_leI (a := L.length) (b := pl) (by omega) (by omega)).mp c_193_61) (by omega)
            · skip
              refine lv_iload hx hb dL_areTasksRight_196 (lv_at hl 2 rfl) ?_
              refine lv_if_lt (tgt := 208) hx hb dL_areTasksRight_198 (by decide) (fun c_198_62 => ?_) (fun c_198_62 => ?_)
              · exact absurd ((nI_ltI (a := pl) (b := 0) (by omega) (by omega)).mp c_198_62) (by omega)
              · skip
                refine lv_aload_n hx hb dL_areTasksRight_201 rfl (lv_at hl 7 rfl) ?_
                refine lv_iload hx hb dL_areTasksRight_202 (lv_at hl 2 rfl) ?_
                refine va_zald hx hb hKb hP (1 + rest.length + 210) (tr.length + 5) (wNewR eR57 rfl) ty_new (vp_in_nI (by omega) (by omega)) dL_areTasksRight_204 ?_
                refine W.eq (g2 := F0 m 205 ls [.int 0]) (by rw [nI_clamp (show pl < 2 ^ 31 by omega)]; show F0 m _ ls (.int (g pl) :: _) = _; rw [hg0]) ?_
                refine lv_if_ne (tgt := 283) hx hb dL_areTasksRight_205 (by decide) (fun c_205_63 => ?_) (fun c_205_63 => ?_)
                · exact absurd c_205_63 (by decide)
                · skip
                  refine lv_iload hx hb dL_areTasksRight_208 (lv_at hl 1 rfl) ?_
                  refine lv_if_le (tgt := 217) hx hb dL_areTasksRight_210 (by decide) (fun c_210_64 => ?_) (fun c_210_64 => ?_)
                  · skip
                    refine lv_iconst (v := 0) hx hb dL_areTasksRight_217 (by decide) ?_
                    refine lv_iload hx hb dL_areTasksRight_218 (lv_at hl 3 rfl) ?_
                    refine lv_iconst (v := 1) hx hb dL_areTasksRight_220 (by decide) ?_
                    refine lv_icmp_ne (tgt := 228) hx hb dL_areTasksRight_221 (by decide) (fun c_221_65 => ?_) (fun c_221_65 => ?_)
                    · skip
                      refine lv_iconst (v := 0) hx hb dL_areTasksRight_228 (by decide) ?_
                      refine lv_icmp_ne (tgt := 283) hx hb dL_areTasksRight_229 (by decide) (fun c_229_66 => ?_) (fun c_229_66 => ?_)
                      · exact absurd c_229_66 (by decide)
                      · skip
                        refine lv_iload hx hb dL_areTasksRight_232 (lv_at hl 0 rfl) ?_
                        refine lv_if_ge (tgt := 241) hx hb dL_areTasksRight_234 (by decide) (fun c_234_67 => ?_) (fun c_234_67 => ?_)
                        · skip
                          refine lv_iconst (v := 0) hx hb dL_areTasksRight_241 (by decide) ?_
                          refine lv_iload hx hb dL_areTasksRight_242 (lv_at hl 3 rfl) ?_
                          refine lv_iconst (v := 1) hx hb dL_areTasksRight_244 (by decide) ?_
                          refine lv_icmp_le (tgt := 252) hx hb dL_areTasksRight_245 (by decide) (fun c_245_68 => ?_) (fun c_245_68 => ?_)
                          · skip
                            refine lv_iconst (v := 0) hx hb dL_areTasksRight_252 (by decide) ?_
                            refine lv_icmp_ne (tgt := 283) hx hb dL_areTasksRight_253 (by decide) (fun c_253_69 => ?_) (fun c_253_69 => ?_)
                            · exact absurd c_253_69 (by decide)
                            · skip
                              refine lv_iload hx hb dL_areTasksRight_256 (lv_at hl 3 rfl) ?_
                              refine lv_iconst (v := 1) hx hb dL_areTasksRight_258 (by decide) ?_
                              refine lv_icmp_le (tgt := 285) hx hb dL_areTasksRight_259 (by decide) (fun c_259_70 => ?_) (fun c_259_70 => ?_)
                              · skip
                                refine lv_iload hx hb dL_areTasksRight_285 (lv_at hl 2 rfl) ?_
                                refine lv_if_lt (tgt := 295) hx hb dL_areTasksRight_287 (by decide) (fun c_287_71 => ?_) (fun c_287_71 => ?_)
                                · exact absurd ((nI_ltI (a := pl) (b := 0) (by omega) (by omega)).mp c_287_71) (by omega)
                                · skip
                                  refine lv_aload_n hx hb dL_areTasksRight_290 rfl (lv_at hl 7 rfl) ?_
                                  refine lv_iload hx hb dL_areTasksRight_291 (lv_at hl 2 rfl) ?_
                                  refine lv_iconst (v := 1) hx hb dL_areTasksRight_293 (by decide) ?_
                                  refine va_zast hx hb hKb hP hD hS (1 + rest.length + 210) (tr.length + 5) (wNewR eR57 rfl) ty_new (vp_in_nI (by omega) (by omega)) dL_areTasksRight_294 (fun H locs hP hD hS => ?_)
                                  rw [wNewSR eR57] at hP hD
                                  rw [nI_clamp (show pl < 2 ^ 31 by omega)] at hP hD
                                  obtain ⟨f72, ef72⟩ : ∃ z : Nat → Int32, z = upd g pl 1 := ⟨_, rfl⟩
                                  -- narrowed
                                  obtain ⟨R73, eR73⟩ : ∃ z : va_W, z = rest ++ [(q1, .inl (cA 0, 5, .inl f56)), (q3, .inl (cN, 24, .inl f72)), (q5, .inl (cA 0, 19, .inl f43))] := ⟨_, rfl⟩
                                  have hP : va_P D vwCl (wB cA ad τ ++ (wPg cA ad pd π ++ (wB cA bd ρ ++ ((tp, .inr (8, tpF ad bd)) :: R73)))) H := by rw [eR73, ef72]; exact hP
                                  have hD : va_D A (wB cA ad τ ++ (wPg cA ad pd π ++ (wB cA bd ρ ++ ((tp, .inr (8, tpF ad bd)) :: R73)))) := by rw [eR73, ef72]; exact hD
                                  refine lv_iload hx hb dL_areTasksRight_295 (lv_at hl 1 rfl) ?_
                                  refine lv_if_le (tgt := 345) hx hb dL_areTasksRight_297 (by decide) (fun c_297_74 => ?_) (fun c_297_74 => ?_)
                                  · skip
                                    refine lv_iload hx hb dL_areTasksRight_345 (lv_at hl 1 rfl) ?_
                                    refine lv_iconst (v := 5) hx hb dL_areTasksRight_347 (by decide) ?_
                                    refine lv_icmp_ne (tgt := 361) hx hb dL_areTasksRight_348 (by decide) (fun c_348_75 => ?_) (fun c_348_75 => ?_)
                                    · skip
                                      have hb9 : bnd (τ (k + 6) 5) := by have := task_there hB hk24; rwa [aT3 hk24] at this
                                      refine lv_aload_n hx hb dL_areTasksRight_361 rfl (lv_at hl 4 rfl) ?_
                                      refine lv_iload hx hb dL_areTasksRight_362 (lv_at hl 9 rfl) ?_
                                      refine lv_iconst (v := 3) hx hb dL_areTasksRight_364 (by decide) ?_
                                      refine x_Vi (As := [.int (nI k), .int 3]) (rest0 := []) ⟨hx, hb, hml, hown, hts⟩ (c_X8_ofTask l D cA ad (tr ++ [(cN, .boolean)]) R73 H.size τ pd π bd tp ρ h102 (nI k) 3 (nI_pos (by omega)) (by rw [h.1.1.2.2.1]; exact (nI_ltI (by omega) (by omega)).mpr (by omega)) (by decide) (by decide)) (cwV 2 hts gl_areTasksRight_X8_ofTask rfl rfl rfl (by decide +kernel) ⟨Nat.le_of_ble_eq_true rfl, Nat.le_of_ble_eq_true rfl⟩) hKb hP hD hS hA 209 w_tp rfl hl.1 rfl rfl (Nat.le_of_ble_eq_true rfl) ⟨Nat.le_of_ble_eq_true rfl, Nat.le_of_ble_eq_true rfl⟩ dL_areTasksRight_365 (fun r _ H locs hw hP hD hS => ?_)
                                      obtain rfl : r = (τ (k + 6) 5) := hw.trans (aT3 (by omega))
                                      refine va_mabs (rest := []) hx hb (hml.trans hl.1.symm) hown (hts (.methodLink RL 103 Lib.Math.abs.name) (by decide +kernel)) (hts (.static Lib.Math.abs.name) (by decide +kernel)) (hts (.initialized "java/lang/Math") (by decide +kernel)) (hts (.code Lib.Math.abs.name Lib.Math.abs.code 1 (some .int)) (by decide +kernel)) (Nat.le_of_ble_eq_true rfl) (Nat.le_of_ble_eq_true rfl) (Nat.le_of_ble_eq_true rfl) (Nat.le_of_ble_eq_true rfl) dL_areTasksRight_368 ?_
                                      refine lv_sipush (v := 9999) hx hb dL_areTasksRight_371 (by decide) ?_
                                      refine lv_icmp_gt (tgt := 393) hx hb dL_areTasksRight_374 (by decide) (fun c_374_76 => ?_) (fun c_374_76 => ?_)
                                      · exact absurd c_374_76 (abs_bnd hb9)
                                      · skip
                                        rcases task_in h hk with c4 | ⟨q4, hq4, c4, ⟨o4, ho4, s0⟩, v4, hv4, s1, hv2⟩
                                        · skip
                                          refine lv_aload_n hx hb dL_areTasksRight_377 rfl (lv_at hl 4 rfl) ?_
                                          refine lv_iload hx hb dL_areTasksRight_378 (lv_at hl 9 rfl) ?_
                                          refine lv_iconst (v := 4) hx hb dL_areTasksRight_380 (by decide) ?_
                                          refine x_Vi (As := [.int (nI k), .int 4]) (rest0 := []) ⟨hx, hb, hml, hown, hts⟩ (c_X8_ofTask l D cA ad (tr ++ [(cN, .boolean)]) R73 H.size τ pd π bd tp ρ h102 (nI k) 4 (nI_pos (by omega)) (by rw [h.1.1.2.2.1]; exact (nI_ltI (by omega) (by omega)).mpr (by omega)) (by decide) (by decide)) (cwV 2 hts gl_areTasksRight_X8_ofTask rfl rfl rfl (by decide +kernel) ⟨Nat.le_of_ble_eq_true rfl, Nat.le_of_ble_eq_true rfl⟩) hKb hP hD hS hA 209 w_tp rfl hl.1 rfl rfl (Nat.le_of_ble_eq_true rfl) ⟨Nat.le_of_ble_eq_true rfl, Nat.le_of_ble_eq_true rfl⟩ dL_areTasksRight_381 (fun r _ H locs hw hP hD hS => ?_)
                                          obtain rfl : r = (-1) := hw.trans c4
                                          refine lv_aload_n hx hb dL_areTasksRight_384 rfl (lv_at hl 4 rfl) ?_
                                          refine lv_bipush (v := 7) hx hb dL_areTasksRight_385 (by decide) ?_
                                          refine x_Vi (As := [.int 7]) (rest0 := [.int (-1)]) ⟨hx, hb, hml, hown, hts⟩ (c_X8_many l D cA ad (tr ++ [(cN, .boolean)]) R73 H.size τ pd π bd tp ρ h102 7 (by decide) (by decide)) (cwV 1 hts gl_areTasksRight_X8_many rfl rfl rfl (by decide +kernel) ⟨Nat.le_of_ble_eq_true rfl, Nat.le_of_ble_eq_true rfl⟩) hKb hP hD hS hA 209 w_tp rfl hl.1 rfl rfl (Nat.le_of_ble_eq_true rfl) ⟨Nat.le_of_ble_eq_true rfl, Nat.le_of_ble_eq_true rfl⟩ dL_areTasksRight_387 (fun r _ H locs hw hP hD hS => ?_)
                                          obtain rfl : r = (nI S) := hw.trans (many_7 h.1.1)
                                          refine lv_icmp_lt (tgt := 395) hx hb dL_areTasksRight_390 (by decide) (fun c_390_77 => ?_) (fun c_390_77 => ?_)
                                          · skip
                                            refine lv_aload_n hx hb dL_areTasksRight_395 rfl (lv_at hl 4 rfl) ?_
                                            refine lv_iload hx hb dL_areTasksRight_396 (lv_at hl 9 rfl) ?_
                                            refine lv_iconst (v := 4) hx hb dL_areTasksRight_398 (by decide) ?_
                                            refine x_Vi (As := [.int (nI k), .int 4]) (rest0 := []) ⟨hx, hb, hml, hown, hts⟩ (c_X8_ofTask l D cA ad (tr ++ [(cN, .boolean)]) R73 H.size τ pd π bd tp ρ h102 (nI k) 4 (nI_pos (by omega)) (by rw [h.1.1.2.2.1]; exact (nI_ltI (by omega) (by omega)).mpr (by omega)) (by decide) (by decide)) (cwV 2 hts gl_areTasksRight_X8_ofTask rfl rfl rfl (by decide +kernel) ⟨Nat.le_of_ble_eq_true rfl, Nat.le_of_ble_eq_true rfl⟩) hKb hP hD hS hA 209 w_tp rfl hl.1 rfl rfl (Nat.le_of_ble_eq_true rfl) ⟨Nat.le_of_ble_eq_true rfl, Nat.le_of_ble_eq_true rfl⟩ dL_areTasksRight_399 (fun r _ H locs hw hP hD hS => ?_)
                                            obtain rfl : r = (-1) := hw.trans c4
                                            refine lv_if_lt (tgt := 446) hx hb dL_areTasksRight_402 (by decide) (fun c_402_78 => ?_) (fun c_402_78 => ?_)
                                            · skip
                                              refine lv_iinc (v := (nI (k + 1))) (lv' := [(5, .int (nI (k + 1))), (9, .int (nI l9)), (8, .int 0), (7, .int (nI pl)), (6, .int 0), (0, .ref tp), (1, .ref oq), (2, .ref q1), (3, .ref q3), (4, .ref q5)]) hx hb dL_areTasksRight_446 hl (k := 9) rfl (show (nI k) + 1 = (nI (k + 1)) from nI_1 k) (by decide) rfl (fun ls hl => ?_)
                                              refine lv_goto (tgt := 107) hx hb dL_areTasksRight_449 (by decide) ?_
                                              exact ih n (Nat.lt_succ_self n) H locs ls ⟨(k + 1), f56, f72, R73, ⟨by omega, st_upd e0 (by decide) hf ef56, hg.put hp ef72, eR73⟩, hP, hD, hS, lv_sub hl [5, 6, 7, 8, 9, 0] rfl⟩
                                            · exact absurd c_402_78 (by decide)
                                          · exact absurd (n1_lt (b := S) (by omega)) c_390_77
                                        · skip
                                          rcases (show v4 = 0 ∨ v4 = 1 ∨ v4 = 2 by omega) with e4 | e4 | e4 <;> subst e4
                                          · skip
                                            refine lv_aload_n hx hb dL_areTasksRight_377 rfl (lv_at hl 4 rfl) ?_
                                            refine lv_iload hx hb dL_areTasksRight_378 (lv_at hl 9 rfl) ?_
                                            refine lv_iconst (v := 4) hx hb dL_areTasksRight_380 (by decide) ?_
                                            refine x_Vi (As := [.int (nI k), .int 4]) (rest0 := []) ⟨hx, hb, hml, hown, hts⟩ (c_X8_ofTask l D cA ad (tr ++ [(cN, .boolean)]) R73 H.size τ pd π bd tp ρ h102 (nI k) 4 (nI_pos (by omega)) (by rw [h.1.1.2.2.1]; exact (nI_ltI (by omega) (by omega)).mpr (by omega)) (by decide) (by decide)) (cwV 2 hts gl_areTasksRight_X8_ofTask rfl rfl rfl (by decide +kernel) ⟨Nat.le_of_ble_eq_true rfl, Nat.le_of_ble_eq_true rfl⟩) hKb hP hD hS hA 209 w_tp rfl hl.1 rfl rfl (Nat.le_of_ble_eq_true rfl) ⟨Nat.le_of_ble_eq_true rfl, Nat.le_of_ble_eq_true rfl⟩ dL_areTasksRight_381 (fun r _ H locs hw hP hD hS => ?_)
                                            obtain rfl : r = (nI q4) := hw.trans c4
                                            refine lv_aload_n hx hb dL_areTasksRight_384 rfl (lv_at hl 4 rfl) ?_
                                            refine lv_bipush (v := 7) hx hb dL_areTasksRight_385 (by decide) ?_
                                            refine x_Vi (As := [.int 7]) (rest0 := [.int (nI q4)]) ⟨hx, hb, hml, hown, hts⟩ (c_X8_many l D cA ad (tr ++ [(cN, .boolean)]) R73 H.size τ pd π bd tp ρ h102 7 (by decide) (by decide)) (cwV 1 hts gl_areTasksRight_X8_many rfl rfl rfl (by decide +kernel) ⟨Nat.le_of_ble_eq_true rfl, Nat.le_of_ble_eq_true rfl⟩) hKb hP hD hS hA 209 w_tp rfl hl.1 rfl rfl (Nat.le_of_ble_eq_true rfl) ⟨Nat.le_of_ble_eq_true rfl, Nat.le_of_ble_eq_true rfl⟩ dL_areTasksRight_387 (fun r _ H locs hw hP hD hS => ?_)
                                            obtain rfl : r = (nI S) := hw.trans (many_7 h.1.1)
                                            refine lv_icmp_lt (tgt := 395) hx hb dL_areTasksRight_390 (by decide) (fun c_390_79 => ?_) (fun c_390_79 => ?_)
                                            · skip
                                              refine lv_aload_n hx hb dL_areTasksRight_395 rfl (lv_at hl 4 rfl) ?_
                                              refine lv_iload hx hb dL_areTasksRight_396 (lv_at hl 9 rfl) ?_
                                              refine lv_iconst (v := 4) hx hb dL_areTasksRight_398 (by decide) ?_
                                              refine x_Vi (As := [.int (nI k), .int 4]) (rest0 := []) ⟨hx, hb, hml, hown, hts⟩ (c_X8_ofTask l D cA ad (tr ++ [(cN, .boolean)]) R73 H.size τ pd π bd tp ρ h102 (nI k) 4 (nI_pos (by omega)) (by rw [h.1.1.2.2.1]; exact (nI_ltI (by omega) (by omega)).mpr (by omega)) (by decide) (by decide)) (cwV 2 hts gl_areTasksRight_X8_ofTask rfl rfl rfl (by decide +kernel) ⟨Nat.le_of_ble_eq_true rfl, Nat.le_of_ble_eq_true rfl⟩) hKb hP hD hS hA 209 w_tp rfl hl.1 rfl rfl (Nat.le_of_ble_eq_true rfl) ⟨Nat.le_of_ble_eq_true rfl, Nat.le_of_ble_eq_true rfl⟩ dL_areTasksRight_399 (fun r _ H locs hw hP hD hS => ?_)
                                              obtain rfl : r = (nI q4) := hw.trans c4
                                              refine lv_if_lt (tgt := 446) hx hb dL_areTasksRight_402 (by decide) (fun c_402_80 => ?_) (fun c_402_80 => ?_)
                                              · exact absurd ((nI_ltI (a := q4) (b := 0) (by omega) (by omega)).mp c_402_80) (by omega)
                                              · skip
                                                refine lv_aload_n hx hb dL_areTasksRight_405 rfl (lv_at hl 4 rfl) ?_
                                                refine lv_aload_n hx hb dL_areTasksRight_406 rfl (lv_at hl 4 rfl) ?_
                                                refine lv_iload hx hb dL_areTasksRight_407 (lv_at hl 9 rfl) ?_
                                                refine lv_iconst (v := 4) hx hb dL_areTasksRight_409 (by decide) ?_
                                                refine x_Vi (As := [.int (nI k), .int 4]) (rest0 := [.ref tp]) ⟨hx, hb, hml, hown, hts⟩ (c_X8_ofTask l D cA ad (tr ++ [(cN, .boolean)]) R73 H.size τ pd π bd tp ρ h102 (nI k) 4 (nI_pos (by omega)) (by rw [h.1.1.2.2.1]; exact (nI_ltI (by omega) (by omega)).mpr (by omega)) (by decide) (by decide)) (cwV 2 hts gl_areTasksRight_X8_ofTask rfl rfl rfl (by decide +kernel) ⟨Nat.le_of_ble_eq_true rfl, Nat.le_of_ble_eq_true rfl⟩) hKb hP hD hS hA 209 w_tp rfl hl.1 rfl rfl (Nat.le_of_ble_eq_true rfl) ⟨Nat.le_of_ble_eq_true rfl, Nat.le_of_ble_eq_true rfl⟩ dL_areTasksRight_410 (fun r _ H locs hw hP hD hS => ?_)
                                                obtain rfl : r = (nI q4) := hw.trans c4
                                                refine lv_iconst (v := 0) hx hb dL_areTasksRight_413 (by decide) ?_
                                                refine x_Vi (As := [.int (nI q4), .int 0]) (rest0 := []) ⟨hx, hb, hml, hown, hts⟩ (c_X8_ofScope l D cA ad (tr ++ [(cN, .boolean)]) R73 H.size τ pd π bd tp ρ h102 (nI q4) 0 (nI_pos (by omega)) (by rw [h.1.1.2.2.2.1]; exact (nI_ltI (by omega) (by omega)).mpr (by omega)) (by decide) (by decide)) (cwV 2 hts gl_areTasksRight_X8_ofScope rfl rfl rfl (by decide +kernel) ⟨Nat.le_of_ble_eq_true rfl, Nat.le_of_ble_eq_true rfl⟩) hKb hP hD hS hA 209 w_tp rfl hl.1 rfl rfl (Nat.le_of_ble_eq_true rfl) ⟨Nat.le_of_ble_eq_true rfl, Nat.le_of_ble_eq_true rfl⟩ dL_areTasksRight_414 (fun r _ H locs hw hP hD hS => ?_)
                                                obtain rfl : r = (nI o4) := hw.trans s0
                                                refine lv_iload hx hb dL_areTasksRight_417 (lv_at hl 9 rfl) ?_
                                                refine lv_icmp_ge (tgt := 444) hx hb dL_areTasksRight_419 (by decide) (fun c_419_81 => ?_) (fun c_419_81 => ?_)
                                                · exact absurd ((nI_leI (a := k) (b := o4) (by omega) (by omega)).mp c_419_81) (by omega)
                                                · skip
                                                  refine lv_aload_n hx hb dL_areTasksRight_422 rfl (lv_at hl 4 rfl) ?_
                                                  refine lv_aload_n hx hb dL_areTasksRight_423 rfl (lv_at hl 4 rfl) ?_
                                                  refine lv_iload hx hb dL_areTasksRight_424 (lv_at hl 9 rfl) ?_
                                                  refine lv_iconst (v := 4) hx hb dL_areTasksRight_426 (by decide) ?_
                                                  refine x_Vi (As := [.int (nI k), .int 4]) (rest0 := [.ref tp]) ⟨hx, hb, hml, hown, hts⟩ (c_X8_ofTask l D cA ad (tr ++ [(cN, .boolean)]) R73 H.size τ pd π bd tp ρ h102 (nI k) 4 (nI_pos (by omega)) (by rw [h.1.1.2.2.1]; exact (nI_ltI (by omega) (by omega)).mpr (by omega)) (by decide) (by decide)) (cwV 2 hts gl_areTasksRight_X8_ofTask rfl rfl rfl (by decide +kernel) ⟨Nat.le_of_ble_eq_true rfl, Nat.le_of_ble_eq_true rfl⟩) hKb hP hD hS hA 209 w_tp rfl hl.1 rfl rfl (Nat.le_of_ble_eq_true rfl) ⟨Nat.le_of_ble_eq_true rfl, Nat.le_of_ble_eq_true rfl⟩ dL_areTasksRight_427 (fun r _ H locs hw hP hD hS => ?_)
                                                  obtain rfl : r = (nI q4) := hw.trans c4
                                                  refine lv_iconst (v := 1) hx hb dL_areTasksRight_430 (by decide) ?_
                                                  refine x_Vi (As := [.int (nI q4), .int 1]) (rest0 := []) ⟨hx, hb, hml, hown, hts⟩ (c_X8_ofScope l D cA ad (tr ++ [(cN, .boolean)]) R73 H.size τ pd π bd tp ρ h102 (nI q4) 1 (nI_pos (by omega)) (by rw [h.1.1.2.2.2.1]; exact (nI_ltI (by omega) (by omega)).mpr (by omega)) (by decide) (by decide)) (cwV 2 hts gl_areTasksRight_X8_ofScope rfl rfl rfl (by decide +kernel) ⟨Nat.le_of_ble_eq_true rfl, Nat.le_of_ble_eq_true rfl⟩) hKb hP hD hS hA 209 w_tp rfl hl.1 rfl rfl (Nat.le_of_ble_eq_true rfl) ⟨Nat.le_of_ble_eq_true rfl, Nat.le_of_ble_eq_true rfl⟩ dL_areTasksRight_431 (fun r _ H locs hw hP hD hS => ?_)
                                                  obtain rfl : r = 0 := hw.trans s1
                                                  refine lv_iconst (v := 2) hx hb dL_areTasksRight_434 (by decide) ?_
                                                  refine lv_icmp_ne (tgt := 446) hx hb dL_areTasksRight_435 (by decide) (fun c_435_82 => ?_) (fun c_435_82 => ?_)
                                                  · skip
                                                    refine lv_iinc (v := (nI (k + 1))) (lv' := [(5, .int (nI (k + 1))), (9, .int (nI l9)), (8, .int 0), (7, .int (nI pl)), (6, .int 0), (0, .ref tp), (1, .ref oq), (2, .ref q1), (3, .ref q3), (4, .ref q5)]) hx hb dL_areTasksRight_446 hl (k := 9) rfl (show (nI k) + 1 = (nI (k + 1)) from nI_1 k) (by decide) rfl (fun ls hl => ?_)
                                                    refine lv_goto (tgt := 107) hx hb dL_areTasksRight_449 (by decide) ?_
                                                    exact ih n (Nat.lt_succ_self n) H locs ls ⟨(k + 1), f56, f72, R73, ⟨by omega, st_upd e0 (by decide) hf ef56, hg.put hp ef72, eR73⟩, hP, hD, hS, lv_sub hl [5, 6, 7, 8, 9, 0] rfl⟩
                                                  · exact absurd c_435_82 (by decide)
                                            · exact absurd ((nI_ltI (a := q4) (b := S) (by omega) (by omega)).mpr (by omega)) c_390_79
                                          · skip
                                            refine lv_aload_n hx hb dL_areTasksRight_377 rfl (lv_at hl 4 rfl) ?_
                                            refine lv_iload hx hb dL_areTasksRight_378 (lv_at hl 9 rfl) ?_
                                            refine lv_iconst (v := 4) hx hb dL_areTasksRight_380 (by decide) ?_
                                            refine x_Vi (As := [.int (nI k), .int 4]) (rest0 := []) ⟨hx, hb, hml, hown, hts⟩ (c_X8_ofTask l D cA ad (tr ++ [(cN, .boolean)]) R73 H.size τ pd π bd tp ρ h102 (nI k) 4 (nI_pos (by omega)) (by rw [h.1.1.2.2.1]; exact (nI_ltI (by omega) (by omega)).mpr (by omega)) (by decide) (by decide)) (cwV 2 hts gl_areTasksRight_X8_ofTask rfl rfl rfl (by decide +kernel) ⟨Nat.le_of_ble_eq_true rfl, Nat.le_of_ble_eq_true rfl⟩) hKb hP hD hS hA 209 w_tp rfl hl.1 rfl rfl (Nat.le_of_ble_eq_true rfl) ⟨Nat.le_of_ble_eq_true rfl, Nat.le_of_ble_eq_true rfl⟩ dL_areTasksRight_381 (fun r _ H locs hw hP hD hS => ?_)
                                            obtain rfl : r = (nI q4) := hw.trans c4
                                            refine lv_aload_n hx hb dL_areTasksRight_384 rfl (lv_at hl 4 rfl) ?_
                                            refine lv_bipush (v := 7) hx hb dL_areTasksRight_385 (by decide) ?_
                                            refine x_Vi (As := [.int 7]) (rest0 := [.int (nI q4)]) ⟨hx, hb, hml, hown, hts⟩ (c_X8_many l D cA ad (tr ++ [(cN, .boolean)]) R73 H.size τ pd π bd tp ρ h102 7 (by decide) (by decide)) (cwV 1 hts gl_areTasksRight_X8_many rfl rfl rfl (by decide +kernel) ⟨Nat.le_of_ble_eq_true rfl, Nat.le_of_ble_eq_true rfl⟩) hKb hP hD hS hA 209 w_tp rfl hl.1 rfl rfl (Nat.le_of_ble_eq_true rfl) ⟨Nat.le_of_ble_eq_true rfl, Nat.le_of_ble_eq_true rfl⟩ dL_areTasksRight_387 (fun r _ H locs hw hP hD hS => ?_)
                                            obtain rfl : r = (nI S) := hw.trans (many_7 h.1.1)
                                            refine lv_icmp_lt (tgt := 395) hx hb dL_areTasksRight_390 (by decide) (fun c_390_83 => ?_) (fun c_390_83 => ?_)
                                            · skip
                                              refine lv_aload_n hx hb dL_areTasksRight_395 rfl (lv_at hl 4 rfl) ?_
                                              refine lv_iload hx hb dL_areTasksRight_396 (lv_at hl 9 rfl) ?_
                                              refine lv_iconst (v := 4) hx hb dL_areTasksRight_398 (by decide) ?_
                                              refine x_Vi (As := [.int (nI k), .int 4]) (rest0 := []) ⟨hx, hb, hml, hown, hts⟩ (c_X8_ofTask l D cA ad (tr ++ [(cN, .boolean)]) R73 H.size τ pd π bd tp ρ h102 (nI k) 4 (nI_pos (by omega)) (by rw [h.1.1.2.2.1]; exact (nI_ltI (by omega) (by omega)).mpr (by omega)) (by decide) (by decide)) (cwV 2 hts gl_areTasksRight_X8_ofTask rfl rfl rfl (by decide +kernel) ⟨Nat.le_of_ble_eq_true rfl, Nat.le_of_ble_eq_true rfl⟩) hKb hP hD hS hA 209 w_tp rfl hl.1 rfl rfl (Nat.le_of_ble_eq_true rfl) ⟨Nat.le_of_ble_eq_true rfl, Nat.le_of_ble_eq_true rfl⟩ dL_areTasksRight_399 (fun r _ H locs hw hP hD hS => ?_)
                                              obtain rfl : r = (nI q4) := hw.trans c4
                                              refine lv_if_lt (tgt := 446) hx hb dL_areTasksRight_402 (by decide) (fun c_402_84 => ?_) (fun c_402_84 => ?_)
                                              · exact absurd ((nI_ltI (a := q4) (b := 0) (by omega) (by omega)).mp c_402_84) (by omega)
                                              · skip
                                                refine lv_aload_n hx hb dL_areTasksRight_405 rfl (lv_at hl 4 rfl) ?_
                                                refine lv_aload_n hx hb dL_areTasksRight_406 rfl (lv_at hl 4 rfl) ?_
                                                refine lv_iload hx hb dL_areTasksRight_407 (lv_at hl 9 rfl) ?_
                                                refine lv_iconst (v := 4) hx hb dL_areTasksRight_409 (by decide) ?_
                                                refine x_Vi (As := [.int (nI k), .int 4]) (rest0 := [.ref tp]) ⟨hx, hb, hml, hown, hts⟩ (c_X8_ofTask l D cA ad (tr ++ [(cN, .boolean)]) R73 H.size τ pd π bd tp ρ h102 (nI k) 4 (nI_pos (by omega)) (by rw [h.1.1.2.2.1]; exact (nI_ltI (by omega) (by omega)).mpr (by omega)) (by decide) (by decide)) (cwV 2 hts gl_areTasksRight_X8_ofTask rfl rfl rfl (by decide +kernel) ⟨Nat.le_of_ble_eq_true rfl, Nat.le_of_ble_eq_true rfl⟩) hKb hP hD hS hA 209 w_tp rfl hl.1 rfl rfl (Nat.le_of_ble_eq_true rfl) ⟨Nat.le_of_ble_eq_true rfl, Nat.le_of_ble_eq_true rfl⟩ dL_areTasksRight_410 (fun r _ H locs hw hP hD hS => ?_)
                                                obtain rfl : r = (nI q4) := hw.trans c4
                                                refine lv_iconst (v := 0) hx hb dL_areTasksRight_413 (by decide) ?_
                                                refine x_Vi (As := [.int (nI q4), .int 0]) (rest0 := []) ⟨hx, hb, hml, hown, hts⟩ (c_X8_ofScope l D cA ad (tr ++ [(cN, .boolean)]) R73 H.size τ pd π bd tp ρ h102 (nI q4) 0 (nI_pos (by omega)) (by rw [h.1.1.2.2.2.1]; exact (nI_ltI (by omega) (by omega)).mpr (by omega)) (by decide) (by decide)) (cwV 2 hts gl_areTasksRight_X8_ofScope rfl rfl rfl (by decide +kernel) ⟨Nat.le_of_ble_eq_true rfl, Nat.le_of_ble_eq_true rfl⟩) hKb hP hD hS hA 209 w_tp rfl hl.1 rfl rfl (Nat.le_of_ble_eq_true rfl) ⟨Nat.le_of_ble_eq_true rfl, Nat.le_of_ble_eq_true rfl⟩ dL_areTasksRight_414 (fun r _ H locs hw hP hD hS => ?_)
                                                obtain rfl : r = (nI o4) := hw.trans s0
                                                refine lv_iload hx hb dL_areTasksRight_417 (lv_at hl 9 rfl) ?_
                                                refine lv_icmp_ge (tgt := 444) hx hb dL_areTasksRight_419 (by decide) (fun c_419_85 => ?_) (fun c_419_85 => ?_)
                                                · exact absurd ((nI_leI (a := k) (b := o4) (by omega) (by omega)).mp c_419_85) (by omega)
                                                · skip
                                                  refine lv_aload_n hx hb dL_areTasksRight_422 rfl (lv_at hl 4 rfl) ?_
                                                  refine lv_aload_n hx hb dL_areTasksRight_423 rfl (lv_at hl 4 rfl) ?_
                                                  refine lv_iload hx hb dL_areTasksRight_424 (lv_at hl 9 rfl) ?_
                                                  refine lv_iconst (v := 4) hx hb dL_areTasksRight_426 (by decide) ?_
                                                  refine x_Vi (As := [.int (nI k), .int 4]) (rest0 := [.ref tp]) ⟨hx, hb, hml, hown, hts⟩ (c_X8_ofTask l D cA ad (tr ++ [(cN, .boolean)]) R73 H.size τ pd π bd tp ρ h102 (nI k) 4 (nI_pos (by omega)) (by rw [h.1.1.2.2.1]; exact (nI_ltI (by omega) (by omega)).mpr (by omega)) (by decide) (by decide)) (cwV 2 hts gl_areTasksRight_X8_ofTask rfl rfl rfl (by decide +kernel) ⟨Nat.le_of_ble_eq_true rfl, Nat.le_of_ble_eq_true rfl⟩) hKb hP hD hS hA 209 w_tp rfl hl.1 rfl rfl (Nat.le_of_ble_eq_true rfl) ⟨Nat.le_of_ble_eq_true rfl, Nat.le_of_ble_eq_true rfl⟩ dL_areTasksRight_427 (fun r _ H locs hw hP hD hS => ?_)
                                                  obtain rfl : r = (nI q4) := hw.trans c4
                                                  refine lv_iconst (v := 1) hx hb dL_areTasksRight_430 (by decide) ?_
                                                  refine x_Vi (As := [.int (nI q4), .int 1]) (rest0 := []) ⟨hx, hb, hml, hown, hts⟩ (c_X8_ofScope l D cA ad (tr ++ [(cN, .boolean)]) R73 H.size τ pd π bd tp ρ h102 (nI q4) 1 (nI_pos (by omega)) (by rw [h.1.1.2.2.2.1]; exact (nI_ltI (by omega) (by omega)).mpr (by omega)) (by decide) (by decide)) (cwV 2 hts gl_areTasksRight_X8_ofScope rfl rfl rfl (by decide +kernel) ⟨Nat.le_of_ble_eq_true rfl, Nat.le_of_ble_eq_true rfl⟩) hKb hP hD hS hA 209 w_tp rfl hl.1 rfl rfl (Nat.le_of_ble_eq_true rfl) ⟨Nat.le_of_ble_eq_true rfl, Nat.le_of_ble_eq_true rfl⟩ dL_areTasksRight_431 (fun r _ H locs hw hP hD hS => ?_)
                                                  obtain rfl : r = 1 := hw.trans s1
                                                  refine lv_iconst (v := 2) hx hb dL_areTasksRight_434 (by decide) ?_
                                                  refine lv_icmp_ne (tgt := 446) hx hb dL_areTasksRight_435 (by decide) (fun c_435_86 => ?_) (fun c_435_86 => ?_)
                                                  · skip
                                                    refine lv_iinc (v := (nI (k + 1))) (lv' := [(5, .int (nI (k + 1))), (9, .int (nI l9)), (8, .int 0), (7, .int (nI pl)), (6, .int 0), (0, .ref tp), (1, .ref oq), (2, .ref q1), (3, .ref q3), (4, .ref q5)]) hx hb dL_areTasksRight_446 hl (k := 9) rfl (show (nI k) + 1 = (nI (k + 1)) from nI_1 k) (by decide) rfl (fun ls hl => ?_)
                                                    refine lv_goto (tgt := 107) hx hb dL_areTasksRight_449 (by decide) ?_
                                                    exact ih n (Nat.lt_succ_self n) H locs ls ⟨(k + 1), f56, f72, R73, ⟨by omega, st_upd e0 (by decide) hf ef56, hg.put hp ef72, eR73⟩, hP, hD, hS, lv_sub hl [5, 6, 7, 8, 9, 0] rfl⟩
                                                  · exact absurd c_435_86 (by decide)
                                            · exact absurd ((nI_ltI (a := q4) (b := S) (by omega) (by omega)).mpr (by omega)) c_390_83
                                          · exact absurd hal (hv2 rfl)
                                    · exact absurd c_348_75 (by decide)
                                  · exact absurd c_297_74 (by decide)
                              · exact absurd c_259_70 (by decide)
                          · exact absurd c_245_68 (by decide)
                        · exact absurd ((nI_leI (a := 0) (b := l9) (by omega) (by omega)).mpr (by omega)) c_234_67
                    · exact absurd c_221_65 (by decide)
                  · exact absurd c_210_64 (by decide)
    · skip
      have e0 : τ (k + 6) 3 = nI 1 := (aT1 hk24).symm.trans c1
      have hal : ali τ k := Or.inr e0
      refine lv_aload_n hx hb dL_areTasksRight_117 rfl (lv_at hl 0 rfl) ?_
      refine lv_iload hx hb dL_areTasksRight_118 (lv_at hl 5 rfl) ?_
      refine lv_iconst (v := 1) hx hb dL_areTasksRight_120 (by decide) ?_
      refine x_Vi (As := [.int (nI k), .int 1]) (rest0 := []) ⟨hx, hb, hml, hown, hts⟩ (c_X8_ofTask l D cA ad (tr ++ [(cN, .boolean)]) R45 H.size τ pd π bd tp ρ h102 (nI k) 1 (nI_pos (by omega)) (by rw [h.1.1.2.2.1]; exact (nI_ltI (by omega) (by omega)).mpr (by omega)) (by decide) (by decide)) (cwV 2 hts gl_areTasksRight_X8_ofTask rfl rfl rfl (by decide +kernel) ⟨Nat.le_of_ble_eq_true rfl, Nat.le_of_ble_eq_true rfl⟩) hKb hP hD hS hA 209 w_tp rfl hl.1 rfl rfl (Nat.le_of_ble_eq_true rfl) ⟨Nat.le_of_ble_eq_true rfl, Nat.le_of_ble_eq_true rfl⟩ dL_areTasksRight_121 (fun r _ H locs hw hP hD hS => ?_)
      obtain rfl : r = 1 := hw.trans c1
      refine lv_istore (lv' := [(6, .int 1), (0, .ref tp), (1, .ref oq), (2, .ref q1), (3, .ref q3), (4, .ref q5), (5, .int (nI k))]) hx hb dL_areTasksRight_124 hl (by decide) rfl (fun ls hl => ?_)
      refine lv_aload_n hx hb dL_areTasksRight_126 rfl (lv_at hl 1 rfl) ?_
      refine lv_iload hx hb dL_areTasksRight_127 (lv_at hl 6 rfl) ?_
      refine lv_bipush (v := 6) hx hb dL_areTasksRight_129 (by decide) ?_
      refine x_Vi (As := [.int (nI k), .int 6]) (rest0 := []) ⟨hx, hb, hml, hown, hts⟩ (c_X8_ofTask l D cA ad (tr ++ [(cN, .boolean)]) R45 H.size τ pd π bd tp ρ h102 (nI k) 6 (nI_pos (by omega)) (by rw [h.1.1.2.2.1]; exact (nI_ltI (by omega) (by omega)).mpr (by omega)) (by decide) (by decide)) (cwV 2 hts gl_areTasksRight_X8_ofTask rfl rfl rfl (by decide +kernel) ⟨Nat.le_of_ble_eq_true rfl, Nat.le_of_ble_eq_true rfl⟩) hKb hP hD hS hA 209 w_tp rfl hl.1 rfl rfl (Nat.le_of_ble_eq_true rfl) ⟨Nat.le_of_ble_eq_true rfl, Nat.le_of_ble_eq_true rfl⟩ dL_areTasksRight_131 (fun r _ H locs hw hP hD hS => ?_)
      obtain rfl : r = (-1) := hw.trans c6
      refine lv_istore (lv' := [(7, .int (-1)), (6, .int 1), (0, .ref tp), (1, .ref oq), (2, .ref q1), (3, .ref q3), (4, .ref q5), (5, .int (nI k))]) hx hb dL_areTasksRight_134 hl (by decide) rfl (fun ls hl => ?_)
      refine lv_aload_n hx hb dL_areTasksRight_136 rfl (lv_at hl 2 rfl) ?_
      refine lv_iload hx hb dL_areTasksRight_137 (lv_at hl 7 rfl) ?_
      refine lv_bipush (v := 8) hx hb dL_areTasksRight_139 (by decide) ?_
      refine x_Vi (As := [.int (nI k), .int 8]) (rest0 := []) ⟨hx, hb, hml, hown, hts⟩ (c_X8_ofTask l D cA ad (tr ++ [(cN, .boolean)]) R45 H.size τ pd π bd tp ρ h102 (nI k) 8 (nI_pos (by omega)) (by rw [h.1.1.2.2.1]; exact (nI_ltI (by omega) (by omega)).mpr (by omega)) (by decide) (by decide)) (cwV 2 hts gl_areTasksRight_X8_ofTask rfl rfl rfl (by decide +kernel) ⟨Nat.le_of_ble_eq_true rfl, Nat.le_of_ble_eq_true rfl⟩) hKb hP hD hS hA 209 w_tp rfl hl.1 rfl rfl (Nat.le_of_ble_eq_true rfl) ⟨Nat.le_of_ble_eq_true rfl, Nat.le_of_ble_eq_true rfl⟩ dL_areTasksRight_141 (fun r _ H locs hw hP hD hS => ?_)
      obtain rfl : r = 5 := hw.trans c8
      refine lv_istore (lv' := [(8, .int 5), (7, .int (-1)), (6, .int 1), (0, .ref tp), (1, .ref oq), (2, .ref q1), (3, .ref q3), (4, .ref q5), (5, .int (nI k))]) hx hb dL_areTasksRight_144 hl (by decide) rfl (fun ls hl => ?_)
      refine lv_aload_n hx hb dL_areTasksRight_146 rfl (lv_at hl 3 rfl) ?_
      refine lv_iload hx hb dL_areTasksRight_147 (lv_at hl 8 rfl) ?_
      refine lv_iconst (v := 2) hx hb dL_areTasksRight_149 (by decide) ?_
      refine x_Vi (As := [.int (nI k), .int 2]) (rest0 := []) ⟨hx, hb, hml, hown, hts⟩ (c_X8_ofTask l D cA ad (tr ++ [(cN, .boolean)]) R45 H.size τ pd π bd tp ρ h102 (nI k) 2 (nI_pos (by omega)) (by rw [h.1.1.2.2.1]; exact (nI_ltI (by omega) (by omega)).mpr (by omega)) (by decide) (by decide)) (cwV 2 hts gl_areTasksRight_X8_ofTask rfl rfl rfl (by decide +kernel) ⟨Nat.le_of_ble_eq_true rfl, Nat.le_of_ble_eq_true rfl⟩) hKb hP hD hS hA 209 w_tp rfl hl.1 rfl rfl (Nat.le_of_ble_eq_true rfl) ⟨Nat.le_of_ble_eq_true rfl, Nat.le_of_ble_eq_true rfl⟩ dL_areTasksRight_150 (fun r _ H locs hw hP hD hS => ?_)
      obtain rfl : r = (nI l9) := hw.trans c2
      refine lv_istore (lv' := [(9, .int (nI l9)), (8, .int 5), (7, .int (-1)), (6, .int 1), (0, .ref tp), (1, .ref oq), (2, .ref q1), (3, .ref q3), (4, .ref q5), (5, .int (nI k))]) hx hb dL_areTasksRight_153 hl (by decide) rfl (fun ls hl => ?_)
      refine lv_aload_n hx hb dL_areTasksRight_155 rfl (lv_at hl 6 rfl) ?_
      refine lv_iload hx hb dL_areTasksRight_156 (lv_at hl 3 rfl) ?_
      refine lv_dup2_11 hx hb dL_areTasksRight_158 rfl rfl ?_
      refine va_iald hx hb hKb hP (0 + rest.length + 210) (0) (wNewR eR45 rfl) rfl (by unfold vp_in; decide) dL_areTasksRight_159 ?_
      refine W.eq (g2 := F0 m 160 ls [.int (nI (cnt (m_isIn τ (nI 1)) k)), .int 1, .ref q1]) (by show F0 m _ ls (.int (f 1) :: _) = _; rw [hf 1 (by decide)]) ?_
      refine lv_iconst (v := 1) hx hb dL_areTasksRight_160 (by decide) ?_
      refine lv_iadd hx hb dL_areTasksRight_161 ?_
      refine W.eq (g2 := F0 m 162 ls [.int (nI ((cnt (m_isIn τ (nI 1)) k) + 1)), .int 1, .ref q1]) (by rw [show ((nI (cnt (m_isIn τ (nI 1)) k)) : Int32) + 1 = (nI ((cnt (m_isIn τ (nI 1)) k) + 1)) from nI_add (cnt (m_isIn τ (nI 1)) k) 1]) ?_
      refine va_iast hx hb hKb hP hD hS (0 + rest.length + 210) (0) (wNewR eR45 rfl) rfl (by unfold vp_in; decide) dL_areTasksRight_162 (fun H locs hP hD hS => ?_)
      rw [wNewSR eR45] at hP hD
      obtain ⟨f87, ef87⟩ : ∃ z : Nat → Int32, z = upd f 1 (nI ((cnt (m_isIn τ (nI 1)) k) + 1)) := ⟨_, rfl⟩
      obtain ⟨R88, eR88⟩ : ∃ z : va_W, z = rest ++ [(q1, .inl (cA 0, 5, .inl f87)), (q3, .inl (cN, 24, .inl g)), (q5, .inl (cA 0, 19, .inl f43))] := ⟨_, rfl⟩
      have hP : va_P D vwCl (wB cA ad τ ++ (wPg cA ad pd π ++ (wB cA bd ρ ++ ((tp, .inr (8, tpF ad bd)) :: R88)))) H := by rw [eR88, ef87]; exact hP
      have hD : va_D A (wB cA ad τ ++ (wPg cA ad pd π ++ (wB cA bd ρ ++ ((tp, .inr (8, tpF ad bd)) :: R88)))) := by rw [eR88, ef87]; exact hD
      refine lv_iload hx hb dL_areTasksRight_163 (lv_at hl 2 rfl) ?_
      refine lv_if_lt (tgt := 172) hx hb dL_areTasksRight_165 (by decide) (fun c_165_89 => ?_) (fun c_165_89 => ?_)
      · skip
        refine lv_iconst (v := 0) hx hb dL_areTasksRight_172 (by decide) ?_
        refine lv_iload hx hb dL_areTasksRight_173 (lv_at hl 3 rfl) ?_
        refine lv_if_ne (tgt := 182) hx hb dL_areTasksRight_175 (by decide) (fun c_175_90 => ?_) (fun c_175_90 => ?_)
        · skip
          refine lv_iconst (v := 0) hx hb dL_areTasksRight_182 (by decide) ?_
          refine lv_icmp_ne (tgt := 283) hx hb dL_areTasksRight_183 (by decide) (fun c_183_91 => ?_) (fun c_183_91 => ?_)
          · exact absurd c_183_91 (by decide)
          · skip
            refine lv_iload hx hb dL_areTasksRight_186 (lv_at hl 2 rfl) ?_
            refine lv_aload_n hx hb dL_areTasksRight_188 rfl (lv_at hl 4 rfl) ?_
            refine lv_iconst (v := 2) hx hb dL_areTasksRight_189 (by decide) ?_
            refine x_Vi (As := [.int 2]) (rest0 := [.int (-1)]) ⟨hx, hb, hml, hown, hts⟩ (c_X8_many l D cA ad (tr ++ [(cN, .boolean)]) R88 H.size τ pd π bd tp ρ h102 2 (by decide) (by decide)) (cwV 1 hts gl_areTasksRight_X8_many rfl rfl rfl (by decide +kernel) ⟨Nat.le_of_ble_eq_true rfl, Nat.le_of_ble_eq_true rfl⟩) hKb hP hD hS hA 209 w_tp rfl hl.1 rfl rfl (Nat.le_of_ble_eq_true rfl) ⟨Nat.le_of_ble_eq_true rfl, Nat.le_of_ble_eq_true rfl⟩ dL_areTasksRight_190 (fun r _ H locs hw hP hD hS => ?_)
            obtain rfl : r = (nI L.length) := hw.trans ((many_st h.1.1).1.trans (congrArg nI (ready_len hL h.1.1)))
            refine lv_icmp_ge (tgt := 283) hx hb dL_areTasksRight_193 (by decide) (fun c_193_92 => ?_) (fun c_193_92 => ?_)
            · exact absurd c_193_92 (n1_nle (b := L.length) (by omega))
            · skip
              refine lv_iload hx hb dL_areTasksRight_196 (lv_at hl 2 rfl) ?_
              refine lv_if_lt (tgt := 208) hx hb dL_areTasksRight_198 (by decide) (fun c_198_93 => ?_) (fun c_198_93 => ?_)
              · skip
                refine lv_iload hx hb dL_areTasksRight_208 (lv_at hl 1 rfl) ?_
                refine lv_if_le (tgt := 217) hx hb dL_areTasksRight_210 (by decide) (fun c_210_94 => ?_) (fun c_210_94 => ?_)
                · exact absurd c_210_94 (by decide)
                · skip
                  refine lv_iconst (v := 1) hx hb dL_areTasksRight_213 (by decide) ?_
                  refine lv_goto (tgt := 218) hx hb dL_areTasksRight_214 (by decide) ?_
                  refine lv_iload hx hb dL_areTasksRight_218 (lv_at hl 3 rfl) ?_
                  refine lv_iconst (v := 1) hx hb dL_areTasksRight_220 (by decide) ?_
                  refine lv_icmp_ne (tgt := 228) hx hb dL_areTasksRight_221 (by decide) (fun c_221_95 => ?_) (fun c_221_95 => ?_)
                  · exact absurd c_221_95 (by decide)
                  · skip
                    refine lv_iconst (v := 1) hx hb dL_areTasksRight_224 (by decide) ?_
                    refine lv_goto (tgt := 229) hx hb dL_areTasksRight_225 (by decide) ?_
                    refine lv_icmp_ne (tgt := 283) hx hb dL_areTasksRight_229 (by decide) (fun c_229_96 => ?_) (fun c_229_96 => ?_)
                    · exact absurd c_229_96 (by decide)
                    · skip
                      refine lv_iload hx hb dL_areTasksRight_232 (lv_at hl 0 rfl) ?_
                      refine lv_if_ge (tgt := 241) hx hb dL_areTasksRight_234 (by decide) (fun c_234_97 => ?_) (fun c_234_97 => ?_)
                      · skip
                        refine lv_iconst (v := 0) hx hb dL_areTasksRight_241 (by decide) ?_
                        refine lv_iload hx hb dL_areTasksRight_242 (lv_at hl 3 rfl) ?_
                        refine lv_iconst (v := 1) hx hb dL_areTasksRight_244 (by decide) ?_
                        refine lv_icmp_le (tgt := 252) hx hb dL_areTasksRight_245 (by decide) (fun c_245_98 => ?_) (fun c_245_98 => ?_)
                        · skip
                          refine lv_iconst (v := 0) hx hb dL_areTasksRight_252 (by decide) ?_
                          refine lv_icmp_ne (tgt := 283) hx hb dL_areTasksRight_253 (by decide) (fun c_253_99 => ?_) (fun c_253_99 => ?_)
                          · exact absurd c_253_99 (by decide)
                          · skip
                            refine lv_iload hx hb dL_areTasksRight_256 (lv_at hl 3 rfl) ?_
                            refine lv_iconst (v := 1) hx hb dL_areTasksRight_258 (by decide) ?_
                            refine lv_icmp_le (tgt := 285) hx hb dL_areTasksRight_259 (by decide) (fun c_259_100 => ?_) (fun c_259_100 => ?_)
                            · skip
                              refine lv_iload hx hb dL_areTasksRight_285 (lv_at hl 2 rfl) ?_
                              refine lv_if_lt (tgt := 295) hx hb dL_areTasksRight_287 (by decide) (fun c_287_101 => ?_) (fun c_287_101 => ?_)
                              · skip
                                refine lv_iload hx hb dL_areTasksRight_295 (lv_at hl 1 rfl) ?_
                                refine lv_if_le (tgt := 345) hx hb dL_areTasksRight_297 (by decide) (fun c_297_102 => ?_) (fun c_297_102 => ?_)
                                · exact absurd c_297_102 (by decide)
                                · skip
                                  refine lv_iload hx hb dL_areTasksRight_300 (lv_at hl 1 rfl) ?_
                                  refine lv_iconst (v := 5) hx hb dL_areTasksRight_302 (by decide) ?_
                                  refine lv_icmp_ge (tgt := 345) hx hb dL_areTasksRight_303 (by decide) (fun c_303_103 => ?_) (fun c_303_103 => ?_)
                                  · skip
                                    refine lv_iload hx hb dL_areTasksRight_345 (lv_at hl 1 rfl) ?_
                                    refine lv_iconst (v := 5) hx hb dL_areTasksRight_347 (by decide) ?_
                                    refine lv_icmp_ne (tgt := 361) hx hb dL_areTasksRight_348 (by decide) (fun c_348_104 => ?_) (fun c_348_104 => ?_)
                                    · exact absurd c_348_104 (by decide)
                                    · skip
                                      refine lv_aload_n hx hb dL_areTasksRight_351 rfl (lv_at hl 4 rfl) ?_
                                      refine lv_iload hx hb dL_areTasksRight_352 (lv_at hl 9 rfl) ?_
                                      refine lv_iconst (v := 5) hx hb dL_areTasksRight_354 (by decide) ?_
                                      refine x_Vi (As := [.int (nI k), .int 5]) (rest0 := []) ⟨hx, hb, hml, hown, hts⟩ (c_X8_ofTask l D cA ad (tr ++ [(cN, .boolean)]) R88 H.size τ pd π bd tp ρ h102 (nI k) 5 (nI_pos (by omega)) (by rw [h.1.1.2.2.1]; exact (nI_ltI (by omega) (by omega)).mpr (by omega)) (by decide) (by decide)) (cwV 2 hts gl_areTasksRight_X8_ofTask rfl rfl rfl (by decide +kernel) ⟨Nat.le_of_ble_eq_true rfl, Nat.le_of_ble_eq_true rfl⟩) hKb hP hD hS hA 209 w_tp rfl hl.1 rfl rfl (Nat.le_of_ble_eq_true rfl) ⟨Nat.le_of_ble_eq_true rfl, Nat.le_of_ble_eq_true rfl⟩ dL_areTasksRight_355 (fun r _ H locs hw hP hD hS => ?_)
                                      obtain rfl : r = (nI (d9 + 1)) := hw.trans c5
                                      refine lv_if_eq (tgt := 393) hx hb dL_areTasksRight_358 (by decide) (fun c_358_105 => ?_) (fun c_358_105 => ?_)
                                      · exact absurd ((nI_eq (a := d9 + 1) (b := 0) (by omega) (by omega)).mp c_358_105) (by omega)
                                      · skip
                                        have hb9 : bnd (τ (k + 6) 5) := by have := task_there hB hk24; rwa [aT3 hk24] at this
                                        refine lv_aload_n hx hb dL_areTasksRight_361 rfl (lv_at hl 4 rfl) ?_
                                        refine lv_iload hx hb dL_areTasksRight_362 (lv_at hl 9 rfl) ?_
                                        refine lv_iconst (v := 3) hx hb dL_areTasksRight_364 (by decide) ?_
                                        refine x_Vi (As := [.int (nI k), .int 3]) (rest0 := []) ⟨hx, hb, hml, hown, hts⟩ (c_X8_ofTask l D cA ad (tr ++ [(cN, .boolean)]) R88 H.size τ pd π bd tp ρ h102 (nI k) 3 (nI_pos (by omega)) (by rw [h.1.1.2.2.1]; exact (nI_ltI (by omega) (by omega)).mpr (by omega)) (by decide) (by decide)) (cwV 2 hts gl_areTasksRight_X8_ofTask rfl rfl rfl (by decide +kernel) ⟨Nat.le_of_ble_eq_true rfl, Nat.le_of_ble_eq_true rfl⟩) hKb hP hD hS hA 209 w_tp rfl hl.1 rfl rfl (Nat.le_of_ble_eq_true rfl) ⟨Nat.le_of_ble_eq_true rfl, Nat.le_of_ble_eq_true rfl⟩ dL_areTasksRight_365 (fun r _ H locs hw hP hD hS => ?_)
                                        obtain rfl : r = (τ (k + 6) 5) := hw.trans (aT3 (by omega))
                                        refine va_mabs (rest := []) hx hb (hml.trans hl.1.symm) hown (hts (.methodLink RL 103 Lib.Math.abs.name) (by decide +kernel)) (hts (.static Lib.Math.abs.name) (by decide +kernel)) (hts (.initialized "java/lang/Math") (by decide +kernel)) (hts (.code Lib.Math.abs.name Lib.Math.abs.code 1 (some .int)) (by decide +kernel)) (Nat.le_of_ble_eq_true rfl) (Nat.le_of_ble_eq_true rfl) (Nat.le_of_ble_eq_true rfl) (Nat.le_of_ble_eq_true rfl) dL_areTasksRight_368 ?_
                                        refine lv_sipush (v := 9999) hx hb dL_areTasksRight_371 (by decide) ?_
                                        refine lv_icmp_gt (tgt := 393) hx hb dL_areTasksRight_374 (by decide) (fun c_374_106 => ?_) (fun c_374_106 => ?_)
                                        · exact absurd c_374_106 (abs_bnd hb9)
                                        · skip
                                          rcases task_in h hk with c4 | ⟨q4, hq4, c4, ⟨o4, ho4, s0⟩, v4, hv4, s1, hv2⟩
                                          · skip
                                            refine lv_aload_n hx hb dL_areTasksRight_377 rfl (lv_at hl 4 rfl) ?_
                                            refine lv_iload hx hb dL_areTasksRight_378 (lv_at hl 9 rfl) ?_
                                            refine lv_iconst (v := 4) hx hb dL_areTasksRight_380 (by decide) ?_
                                            refine x_Vi (As := [.int (nI k), .int 4]) (rest0 := []) ⟨hx, hb, hml, hown, hts⟩ (c_X8_ofTask l D cA ad (tr ++ [(cN, .boolean)]) R88 H.size τ pd π bd tp ρ h102 (nI k) 4 (nI_pos (by omega)) (by rw [h.1.1.2.2.1]; exact (nI_ltI (by omega) (by omega)).mpr (by omega)) (by decide) (by decide)) (cwV 2 hts gl_areTasksRight_X8_ofTask rfl rfl rfl (by decide +kernel) ⟨Nat.le_of_ble_eq_true rfl, Nat.le_of_ble_eq_true rfl⟩) hKb hP hD hS hA 209 w_tp rfl hl.1 rfl rfl (Nat.le_of_ble_eq_true rfl) ⟨Nat.le_of_ble_eq_true rfl, Nat.le_of_ble_eq_true rfl⟩ dL_areTasksRight_381 (fun r _ H locs hw hP hD hS => ?_)
                                            obtain rfl : r = (-1) := hw.trans c4
                                            refine lv_aload_n hx hb dL_areTasksRight_384 rfl (lv_at hl 4 rfl) ?_
                                            refine lv_bipush (v := 7) hx hb dL_areTasksRight_385 (by decide) ?_
                                            refine x_Vi (As := [.int 7]) (rest0 := [.int (-1)]) ⟨hx, hb, hml, hown, hts⟩ (c_X8_many l D cA ad (tr ++ [(cN, .boolean)]) R88 H.size τ pd π bd tp ρ h102 7 (by decide) (by decide)) (cwV 1 hts gl_areTasksRight_X8_many rfl rfl rfl (by decide +kernel) ⟨Nat.le_of_ble_eq_true rfl, Nat.le_of_ble_eq_true rfl⟩) hKb hP hD hS hA 209 w_tp rfl hl.1 rfl rfl (Nat.le_of_ble_eq_true rfl) ⟨Nat.le_of_ble_eq_true rfl, Nat.le_of_ble_eq_true rfl⟩ dL_areTasksRight_387 (fun r _ H locs hw hP hD hS => ?_)
                                            obtain rfl : r = (nI S) := hw.trans (many_7 h.1.1)
                                            refine lv_icmp_lt (tgt := 395) hx hb dL_areTasksRight_390 (by decide) (fun c_390_107 => ?_) (fun c_390_107 => ?_)
                                            · skip
                                              refine lv_aload_n hx hb dL_areTasksRight_395 rfl (lv_at hl 4 rfl) ?_
                                              refine lv_iload hx hb dL_areTasksRight_396 (lv_at hl 9 rfl) ?_
                                              refine lv_iconst (v := 4) hx hb dL_areTasksRight_398 (by decide) ?_
                                              refine x_Vi (As := [.int (nI k), .int 4]) (rest0 := []) ⟨hx, hb, hml, hown, hts⟩ (c_X8_ofTask l D cA ad (tr ++ [(cN, .boolean)]) R88 H.size τ pd π bd tp ρ h102 (nI k) 4 (nI_pos (by omega)) (by rw [h.1.1.2.2.1]; exact (nI_ltI (by omega) (by omega)).mpr (by omega)) (by decide) (by decide)) (cwV 2 hts gl_areTasksRight_X8_ofTask rfl rfl rfl (by decide +kernel) ⟨Nat.le_of_ble_eq_true rfl, Nat.le_of_ble_eq_true rfl⟩) hKb hP hD hS hA 209 w_tp rfl hl.1 rfl rfl (Nat.le_of_ble_eq_true rfl) ⟨Nat.le_of_ble_eq_true rfl, Nat.le_of_ble_eq_true rfl⟩ dL_areTasksRight_399 (fun r _ H locs hw hP hD hS => ?_)
                                              obtain rfl : r = (-1) := hw.trans c4
                                              refine lv_if_lt (tgt := 446) hx hb dL_areTasksRight_402 (by decide) (fun c_402_108 => ?_) (fun c_402_108 => ?_)
                                              · skip
                                                refine lv_iinc (v := (nI (k + 1))) (lv' := [(5, .int (nI (k + 1))), (9, .int (nI l9)), (8, .int 5), (7, .int (-1)), (6, .int 1), (0, .ref tp), (1, .ref oq), (2, .ref q1), (3, .ref q3), (4, .ref q5)]) hx hb dL_areTasksRight_446 hl (k := 9) rfl (show (nI k) + 1 = (nI (k + 1)) from nI_1 k) (by decide) rfl (fun ls hl => ?_)
                                                refine lv_goto (tgt := 107) hx hb dL_areTasksRight_449 (by decide) ?_
                                                exact ih n (Nat.lt_succ_self n) H locs ls ⟨(k + 1), f87, g, R88, ⟨by omega, st_upd e0 (by decide) hf ef87, hg.up, eR88⟩, hP, hD, hS, lv_sub hl [5, 6, 7, 8, 9, 0] rfl⟩
                                              · exact absurd c_402_108 (by decide)
                                            · exact absurd (n1_lt (b := S) (by omega)) c_390_107
                                          · skip
                                            rcases (show v4 = 0 ∨ v4 = 1 ∨ v4 = 2 by omega) with e4 | e4 | e4 <;> subst e4
                                            · skip
                                              refine lv_aload_n hx hb dL_areTasksRight_377 rfl (lv_at hl 4 rfl) ?_
                                              refine lv_iload hx hb dL_areTasksRight_378 (lv_at hl 9 rfl) ?_
                                              refine lv_iconst (v := 4) hx hb dL_areTasksRight_380 (by decide) ?_
                                              refine x_Vi (As := [.int (nI k), .int 4]) (rest0 := []) ⟨hx, hb, hml, hown, hts⟩ (c_X8_ofTask l D cA ad (tr ++ [(cN, .boolean)]) R88 H.size τ pd π bd tp ρ h102 (nI k) 4 (nI_pos (by omega)) (by rw [h.1.1.2.2.1]; exact (nI_ltI (by omega) (by omega)).mpr (by omega)) (by decide) (by decide)) (cwV 2 hts gl_areTasksRight_X8_ofTask rfl rfl rfl (by decide +kernel) ⟨Nat.le_of_ble_eq_true rfl, Nat.le_of_ble_eq_true rfl⟩) hKb hP hD hS hA 209 w_tp rfl hl.1 rfl rfl (Nat.le_of_ble_eq_true rfl) ⟨Nat.le_of_ble_eq_true rfl, Nat.le_of_ble_eq_true rfl⟩ dL_areTasksRight_381 (fun r _ H locs hw hP hD hS => ?_)
                                              obtain rfl : r = (nI q4) := hw.trans c4
                                              refine lv_aload_n hx hb dL_areTasksRight_384 rfl (lv_at hl 4 rfl) ?_
                                              refine lv_bipush (v := 7) hx hb dL_areTasksRight_385 (by decide) ?_
                                              refine x_Vi (As := [.int 7]) (rest0 := [.int (nI q4)]) ⟨hx, hb, hml, hown, hts⟩ (c_X8_many l D cA ad (tr ++ [(cN, .boolean)]) R88 H.size τ pd π bd tp ρ h102 7 (by decide) (by decide)) (cwV 1 hts gl_areTasksRight_X8_many rfl rfl rfl (by decide +kernel) ⟨Nat.le_of_ble_eq_true rfl, Nat.le_of_ble_eq_true rfl⟩) hKb hP hD hS hA 209 w_tp rfl hl.1 rfl rfl (Nat.le_of_ble_eq_true rfl) ⟨Nat.le_of_ble_eq_true rfl, Nat.le_of_ble_eq_true rfl⟩ dL_areTasksRight_387 (fun r _ H locs hw hP hD hS => ?_)
                                              obtain rfl : r = (nI S) := hw.trans (many_7 h.1.1)
                                              refine lv_icmp_lt (tgt := 395) hx hb dL_areTasksRight_390 (by decide) (fun c_390_109 => ?_) (fun c_390_109 => ?_)
                                              · skip
                                                refine lv_aload_n hx hb dL_areTasksRight_395 rfl (lv_at hl 4 rfl) ?_
                                                refine lv_iload hx hb dL_areTasksRight_396 (lv_at hl 9 rfl) ?_
                                                refine lv_iconst (v := 4) hx hb dL_areTasksRight_398 (by decide) ?_
                                                refine x_Vi (As := [.int (nI k), .int 4]) (rest0 := []) ⟨hx, hb, hml, hown, hts⟩ (c_X8_ofTask l D cA ad (tr ++ [(cN, .boolean)]) R88 H.size τ pd π bd tp ρ h102 (nI k) 4 (nI_pos (by omega)) (by rw [h.1.1.2.2.1]; exact (nI_ltI (by omega) (by omega)).mpr (by omega)) (by decide) (by decide)) (cwV 2 hts gl_areTasksRight_X8_ofTask rfl rfl rfl (by decide +kernel) ⟨Nat.le_of_ble_eq_true rfl, Nat.le_of_ble_eq_true rfl⟩) hKb hP hD hS hA 209 w_tp rfl hl.1 rfl rfl (Nat.le_of_ble_eq_true rfl) ⟨Nat.le_of_ble_eq_true rfl, Nat.le_of_ble_eq_true rfl⟩ dL_areTasksRight_399 (fun r _ H locs hw hP hD hS => ?_)
                                                obtain rfl : r = (nI q4) := hw.trans c4
                                                refine lv_if_lt (tgt := 446) hx hb dL_areTasksRight_402 (by decide) (fun c_402_110 => ?_) (fun c_402_110 => ?_)
                                                · exact absurd ((nI_ltI (a := q4) (b := 0) (by omega) (by omega)).mp c_402_110) (by omega)
                                                · skip
                                                  refine lv_aload_n hx hb dL_areTasksRight_405 rfl (lv_at hl 4 rfl) ?_
                                                  refine lv_aload_n hx hb dL_areTasksRight_406 rfl (lv_at hl 4 rfl) ?_
                                                  refine lv_iload hx hb dL_areTasksRight_407 (lv_at hl 9 rfl) ?_
                                                  refine lv_iconst (v := 4) hx hb dL_areTasksRight_409 (by decide) ?_
                                                  refine x_Vi (As := [.int (nI k), .int 4]) (rest0 := [.ref tp]) ⟨hx, hb, hml, hown, hts⟩ (c_X8_ofTask l D cA ad (tr ++ [(cN, .boolean)]) R88 H.size τ pd π bd tp ρ h102 (nI k) 4 (nI_pos (by omega)) (by rw [h.1.1.2.2.1]; exact (nI_ltI (by omega) (by omega)).mpr (by omega)) (by decide) (by decide)) (cwV 2 hts gl_areTasksRight_X8_ofTask rfl rfl rfl (by decide +kernel) ⟨Nat.le_of_ble_eq_true rfl, Nat.le_of_ble_eq_true rfl⟩) hKb hP hD hS hA 209 w_tp rfl hl.1 rfl rfl (Nat.le_of_ble_eq_true rfl) ⟨Nat.le_of_ble_eq_true rfl, Nat.le_of_ble_eq_true rfl⟩ dL_areTasksRight_410 (fun r _ H locs hw hP hD hS => ?_)
                                                  obtain rfl : r = (nI q4) := hw.trans c4
                                                  refine lv_iconst (v := 0) hx hb dL_areTasksRight_413 (by decide) ?_
                                                  refine x_Vi (As := [.int (nI q4), .int 0]) (rest0 := []) ⟨hx, hb, hml, hown, hts⟩ (c_X8_ofScope l D cA ad (tr ++ [(cN, .boolean)]) R88 H.size τ pd π bd tp ρ h102 (nI q4) 0 (nI_pos (by omega)) (by rw [h.1.1.2.2.2.1]; exact (nI_ltI (by omega) (by omega)).mpr (by omega)) (by decide) (by decide)) (cwV 2 hts gl_areTasksRight_X8_ofScope rfl rfl rfl (by decide +kernel) ⟨Nat.le_of_ble_eq_true rfl, Nat.le_of_ble_eq_true rfl⟩) hKb hP hD hS hA 209 w_tp rfl hl.1 rfl rfl (Nat.le_of_ble_eq_true rfl) ⟨Nat.le_of_ble_eq_true rfl, Nat.le_of_ble_eq_true rfl⟩ dL_areTasksRight_414 (fun r _ H locs hw hP hD hS => ?_)
                                                  obtain rfl : r = (nI o4) := hw.trans s0
                                                  refine lv_iload hx hb dL_areTasksRight_417 (lv_at hl 9 rfl) ?_
                                                  refine lv_icmp_ge (tgt := 444) hx hb dL_areTasksRight_419 (by decide) (fun c_419_111 => ?_) (fun c_419_111 => ?_)
                                                  · exact absurd ((nI_leI (a := k) (b := o4) (by omega) (by omega)).mp c_419_111) (by omega)
                                                  · skip
                                                    refine lv_aload_n hx hb dL_areTasksRight_422 rfl (lv_at hl 4 rfl) ?_
                                                    refine lv_aload_n hx hb dL_areTasksRight_423 rfl (lv_at hl 4 rfl) ?_
                                                    refine lv_iload hx hb dL_areTasksRight_424 (lv_at hl 9 rfl) ?_
                                                    refine lv_iconst (v := 4) hx hb dL_areTasksRight_426 (by decide) ?_
                                                    refine x_Vi (As := [.int (nI k), .int 4]) (rest0 := [.ref tp]) ⟨hx, hb, hml, hown, hts⟩ (c_X8_ofTask l D cA ad (tr ++ [(cN, .boolean)]) R88 H.size τ pd π bd tp ρ h102 (nI k) 4 (nI_pos (by omega)) (by rw [h.1.1.2.2.1]; exact (nI_ltI (by omega) (by omega)).mpr (by omega)) (by decide) (by decide)) (cwV 2 hts gl_areTasksRight_X8_ofTask rfl rfl rfl (by decide +kernel) ⟨Nat.le_of_ble_eq_true rfl, Nat.le_of_ble_eq_true rfl⟩) hKb hP hD hS hA 209 w_tp rfl hl.1 rfl rfl (Nat.le_of_ble_eq_true rfl) ⟨Nat.le_of_ble_eq_true rfl, Nat.le_of_ble_eq_true rfl⟩ dL_areTasksRight_427 (fun r _ H locs hw hP hD hS => ?_)
                                                    obtain rfl : r = (nI q4) := hw.trans c4
                                                    refine lv_iconst (v := 1) hx hb dL_areTasksRight_430 (by decide) ?_
                                                    refine x_Vi (As := [.int (nI q4), .int 1]) (rest0 := []) ⟨hx, hb, hml, hown, hts⟩ (c_X8_ofScope l D cA ad (tr ++ [(cN, .boolean)]) R88 H.size τ pd π bd tp ρ h102 (nI q4) 1 (nI_pos (by omega)) (by rw [h.1.1.2.2.2.1]; exact (nI_ltI (by omega) (by omega)).mpr (by omega)) (by decide) (by decide)) (cwV 2 hts gl_areTasksRight_X8_ofScope rfl rfl rfl (by decide +kernel) ⟨Nat.le_of_ble_eq_true rfl, Nat.le_of_ble_eq_true rfl⟩) hKb hP hD hS hA 209 w_tp rfl hl.1 rfl rfl (Nat.le_of_ble_eq_true rfl) ⟨Nat.le_of_ble_eq_true rfl, Nat.le_of_ble_eq_true rfl⟩ dL_areTasksRight_431 (fun r _ H locs hw hP hD hS => ?_)
                                                    obtain rfl : r = 0 := hw.trans s1
                                                    refine lv_iconst (v := 2) hx hb dL_areTasksRight_434 (by decide) ?_
                                                    refine lv_icmp_ne (tgt := 446) hx hb dL_areTasksRight_435 (by decide) (fun c_435_112 => ?_) (fun c_435_112 => ?_)
                                                    · skip
                                                      refine lv_iinc (v := (nI (k + 1))) (lv' := [(5, .int (nI (k + 1))), (9, .int (nI l9)), (8, .int 5), (7, .int (-1)), (6, .int 1), (0, .ref tp), (1, .ref oq), (2, .ref q1), (3, .ref q3), (4, .ref q5)]) hx hb dL_areTasksRight_446 hl (k := 9) rfl (show (nI k) + 1 = (nI (k + 1)) from nI_1 k) (by decide) rfl (fun ls hl => ?_)
                                                      refine lv_goto (tgt := 107) hx hb dL_areTasksRight_449 (by decide) ?_
                                                      exact ih n (Nat.lt_succ_self n) H locs ls ⟨(k + 1), f87, g, R88, ⟨by omega, st_upd e0 (by decide) hf ef87, hg.up, eR88⟩, hP, hD, hS, lv_sub hl [5, 6, 7, 8, 9, 0] rfl⟩
                                                    · exact absurd c_435_112 (by decide)
                                              · exact absurd ((nI_ltI (a := q4) (b := S) (by omega) (by omega)).mpr (by omega)) c_390_109
                                            · skip
                                              refine lv_aload_n hx hb dL_areTasksRight_377 rfl (lv_at hl 4 rfl) ?_
                                              refine lv_iload hx hb dL_areTasksRight_378 (lv_at hl 9 rfl) ?_
                                              refine lv_iconst (v := 4) hx hb dL_areTasksRight_380 (by decide) ?_
                                              refine x_Vi (As := [.int (nI k), .int 4]) (rest0 := []) ⟨hx, hb, hml, hown, hts⟩ (c_X8_ofTask l D cA ad (tr ++ [(cN, .boolean)]) R88 H.size τ pd π bd tp ρ h102 (nI k) 4 (nI_pos (by omega)) (by rw [h.1.1.2.2.1]; exact (nI_ltI (by omega) (by omega)).mpr (by omega)) (by decide) (by decide)) (cwV 2 hts gl_areTasksRight_X8_ofTask rfl rfl rfl (by decide +kernel) ⟨Nat.le_of_ble_eq_true rfl, Nat.le_of_ble_eq_true rfl⟩) hKb hP hD hS hA 209 w_tp rfl hl.1 rfl rfl (Nat.le_of_ble_eq_true rfl) ⟨Nat.le_of_ble_eq_true rfl, Nat.le_of_ble_eq_true rfl⟩ dL_areTasksRight_381 (fun r _ H locs hw hP hD hS => ?_)
                                              obtain rfl : r = (nI q4) := hw.trans c4
                                              refine lv_aload_n hx hb dL_areTasksRight_384 rfl (lv_at hl 4 rfl) ?_
                                              refine lv_bipush (v := 7) hx hb dL_areTasksRight_385 (by decide) ?_
                                              refine x_Vi (As := [.int 7]) (rest0 := [.int (nI q4)]) ⟨hx, hb, hml, hown, hts⟩ (c_X8_many l D cA ad (tr ++ [(cN, .boolean)]) R88 H.size τ pd π bd tp ρ h102 7 (by decide) (by decide)) (cwV 1 hts gl_areTasksRight_X8_many rfl rfl rfl (by decide +kernel) ⟨Nat.le_of_ble_eq_true rfl, Nat.le_of_ble_eq_true rfl⟩) hKb hP hD hS hA 209 w_tp rfl hl.1 rfl rfl (Nat.le_of_ble_eq_true rfl) ⟨Nat.le_of_ble_eq_true rfl, Nat.le_of_ble_eq_true rfl⟩ dL_areTasksRight_387 (fun r _ H locs hw hP hD hS => ?_)
                                              obtain rfl : r = (nI S) := hw.trans (many_7 h.1.1)
                                              refine lv_icmp_lt (tgt := 395) hx hb dL_areTasksRight_390 (by decide) (fun c_390_113 => ?_) (fun c_390_113 => ?_)
                                              · skip
                                                refine lv_aload_n hx hb dL_areTasksRight_395 rfl (lv_at hl 4 rfl) ?_
                                                refine lv_iload hx hb dL_areTasksRight_396 (lv_at hl 9 rfl) ?_
                                                refine lv_iconst (v := 4) hx hb dL_areTasksRight_398 (by decide) ?_
                                                refine x_Vi (As := [.int (nI k), .int 4]) (rest0 := []) ⟨hx, hb, hml, hown, hts⟩ (c_X8_ofTask l D cA ad (tr ++ [(cN, .boolean)]) R88 H.size τ pd π bd tp ρ h102 (nI k) 4 (nI_pos (by omega)) (by rw [h.1.1.2.2.1]; exact (nI_ltI (by omega) (by omega)).mpr (by omega)) (by decide) (by decide)) (cwV 2 hts gl_areTasksRight_X8_ofTask rfl rfl rfl (by decide +kernel) ⟨Nat.le_of_ble_eq_true rfl, Nat.le_of_ble_eq_true rfl⟩) hKb hP hD hS hA 209 w_tp rfl hl.1 rfl rfl (Nat.le_of_ble_eq_true rfl) ⟨Nat.le_of_ble_eq_true rfl, Nat.le_of_ble_eq_true rfl⟩ dL_areTasksRight_399 (fun r _ H locs hw hP hD hS => ?_)
                                                obtain rfl : r = (nI q4) := hw.trans c4
                                                refine lv_if_lt (tgt := 446) hx hb dL_areTasksRight_402 (by decide) (fun c_402_114 => ?_) (fun c_402_114 => ?_)
                                                · exact absurd ((nI_ltI (a := q4) (b := 0) (by omega) (by omega)).mp c_402_114) (by omega)
                                                · skip
                                                  refine lv_aload_n hx hb dL_areTasksRight_405 rfl (lv_at hl 4 rfl) ?_
                                                  refine lv_aload_n hx hb dL_areTasksRight_406 rfl (lv_at hl 4 rfl) ?_
                                                  refine lv_iload hx hb dL_areTasksRight_407 (lv_at hl 9 rfl) ?_
                                                  refine lv_iconst (v := 4) hx hb dL_areTasksRight_409 (by decide) ?_
                                                  refine x_Vi (As := [.int (nI k), .int 4]) (rest0 := [.ref tp]) ⟨hx, hb, hml, hown, hts⟩ (c_X8_ofTask l D cA ad (tr ++ [(cN, .boolean)]) R88 H.size τ pd π bd tp ρ h102 (nI k) 4 (nI_pos (by omega)) (by rw [h.1.1.2.2.1]; exact (nI_ltI (by omega) (by omega)).mpr (by omega)) (by decide) (by decide)) (cwV 2 hts gl_areTasksRight_X8_ofTask rfl rfl rfl (by decide +kernel) ⟨Nat.le_of_ble_eq_true rfl, Nat.le_of_ble_eq_true rfl⟩) hKb hP hD hS hA 209 w_tp rfl hl.1 rfl rfl (Nat.le_of_ble_eq_true rfl) ⟨Nat.le_of_ble_eq_true rfl, Nat.le_of_ble_eq_true rfl⟩ dL_areTasksRight_410 (fun r _ H locs hw hP hD hS => ?_)
                                                  obtain rfl : r = (nI q4) := hw.trans c4
                                                  refine lv_iconst (v := 0) hx hb dL_areTasksRight_413 (by decide) ?_
                                                  refine x_Vi (As := [.int (nI q4), .int 0]) (rest0 := []) ⟨hx, hb, hml, hown, hts⟩ (c_X8_ofScope l D cA ad (tr ++ [(cN, .boolean)]) R88 H.size τ pd π bd tp ρ h102 (nI q4) 0 (nI_pos (by omega)) (by rw [h.1.1.2.2.2.1]; exact (nI_ltI (by omega) (by omega)).mpr (by omega)) (by decide) (by decide)) (cwV 2 hts gl_areTasksRight_X8_ofScope rfl rfl rfl (by decide +kernel) ⟨Nat.le_of_ble_eq_true rfl, Nat.le_of_ble_eq_true rfl⟩) hKb hP hD hS hA 209 w_tp rfl hl.1 rfl rfl (Nat.le_of_ble_eq_true rfl) ⟨Nat.le_of_ble_eq_true rfl, Nat.le_of_ble_eq_true rfl⟩ dL_areTasksRight_414 (fun r _ H locs hw hP hD hS => ?_)
                                                  obtain rfl : r = (nI o4) := hw.trans s0
                                                  refine lv_iload hx hb dL_areTasksRight_417 (lv_at hl 9 rfl) ?_
                                                  refine lv_icmp_ge (tgt := 444) hx hb dL_areTasksRight_419 (by decide) (fun c_419_115 => ?_) (fun c_419_115 => ?_)
                                                  · exact absurd ((nI_leI (a := k) (b := o4) (by omega) (by omega)).mp c_419_115) (by omega)
                                                  · skip
                                                    refine lv_aload_n hx hb dL_areTasksRight_422 rfl (lv_at hl 4 rfl) ?_
                                                    refine lv_aload_n hx hb dL_areTasksRight_423 rfl (lv_at hl 4 rfl) ?_
                                                    refine lv_iload hx hb dL_areTasksRight_424 (lv_at hl 9 rfl) ?_
                                                    refine lv_iconst (v := 4) hx hb dL_areTasksRight_426 (by decide) ?_
                                                    refine x_Vi (As := [.int (nI k), .int 4]) (rest0 := [.ref tp]) ⟨hx, hb, hml, hown, hts⟩ (c_X8_ofTask l D cA ad (tr ++ [(cN, .boolean)]) R88 H.size τ pd π bd tp ρ h102 (nI k) 4 (nI_pos (by omega)) (by rw [h.1.1.2.2.1]; exact (nI_ltI (by omega) (by omega)).mpr (by omega)) (by decide) (by decide)) (cwV 2 hts gl_areTasksRight_X8_ofTask rfl rfl rfl (by decide +kernel) ⟨Nat.le_of_ble_eq_true rfl, Nat.le_of_ble_eq_true rfl⟩) hKb hP hD hS hA 209 w_tp rfl hl.1 rfl rfl (Nat.le_of_ble_eq_true rfl) ⟨Nat.le_of_ble_eq_true rfl, Nat.le_of_ble_eq_true rfl⟩ dL_areTasksRight_427 (fun r _ H locs hw hP hD hS => ?_)
                                                    obtain rfl : r = (nI q4) := hw.trans c4
                                                    refine lv_iconst (v := 1) hx hb dL_areTasksRight_430 (by decide) ?_
                                                    refine x_Vi (As := [.int (nI q4), .int 1]) (rest0 := []) ⟨hx, hb, hml, hown, hts⟩ (c_X8_ofScope l D cA ad (tr ++ [(cN, .boolean)]) R88 H.size τ pd π bd tp ρ h102 (nI q4) 1 (nI_pos (by omega)) (by rw [h.1.1.2.2.2.1]; exact (nI_ltI (by omega) (by omega)).mpr (by omega)) (by decide) (by decide)) (cwV 2 hts gl_areTasksRight_X8_ofScope rfl rfl rfl (by decide +kernel) ⟨Nat.le_of_ble_eq_true rfl, Nat.le_of_ble_eq_true rfl⟩) hKb hP hD hS hA 209 w_tp rfl hl.1 rfl rfl (Nat.le_of_ble_eq_true rfl) ⟨Nat.le_of_ble_eq_true rfl, Nat.le_of_ble_eq_true rfl⟩ dL_areTasksRight_431 (fun r _ H locs hw hP hD hS => ?_)
                                                    obtain rfl : r = 1 := hw.trans s1
                                                    refine lv_iconst (v := 2) hx hb dL_areTasksRight_434 (by decide) ?_
                                                    refine lv_icmp_ne (tgt := 446) hx hb dL_areTasksRight_435 (by decide) (fun c_435_116 => ?_) (fun c_435_116 => ?_)
                                                    · skip
                                                      refine lv_iinc (v := (nI (k + 1))) (lv' := [(5, .int (nI (k + 1))), (9, .int (nI l9)), (8, .int 5), (7, .int (-1)), (6, .int 1), (0, .ref tp), (1, .ref oq), (2, .ref q1), (3, .ref q3), (4, .ref q5)]) hx hb dL_areTasksRight_446 hl (k := 9) rfl (show (nI k) + 1 = (nI (k + 1)) from nI_1 k) (by decide) rfl (fun ls hl => ?_)
                                                      refine lv_goto (tgt := 107) hx hb dL_areTasksRight_449 (by decide) ?_
                                                      exact ih n (Nat.lt_succ_self n) H locs ls ⟨(k + 1), f87, g, R88, ⟨by omega, st_upd e0 (by decide) hf ef87, hg.up, eR88⟩, hP, hD, hS, lv_sub hl [5, 6, 7, 8, 9, 0] rfl⟩
                                                    · exact absurd c_435_116 (by decide)
                                              · exact absurd ((nI_ltI (a := q4) (b := S) (by omega) (by omega)).mpr (by omega)) c_390_113
                                            · exact absurd hal (hv2 rfl)
                                  · exact absurd c_303_103 (by decide)
                              · exact absurd c_287_101 (by decide)
                            · exact absurd c_259_100 (by decide)
                        · exact absurd c_245_98 (by decide)
                      · exact absurd ((nI_leI (a := 0) (b := l9) (by omega) (by omega)).mpr (by omega)) c_234_97
              · exact absurd c_198_93 (by decide)
        · exact absurd c_175_90 (by decide)
      · exact absurd c_165_89 (by decide)
    · skip
      have e0 : τ (k + 6) 3 = nI 1 := (aT1 hk24).symm.trans c1
      have hal : ali τ k := Or.inr e0
      obtain ⟨q9, kq, fq, hLA, hkq, hf0⟩ := hLn b9 b8 l9 l12 hlt
      rcases hwk with ⟨kk, ww⟩ | ⟨kk, ww⟩ | ⟨kk, ww⟩ | ⟨kk | kk, ww⟩
      · skip
        rw [ww] at c8
        have hw12 : f43 12 = 1 := hwt 12 (by decide)
        rw [kk] at hf0
        refine lv_aload_n hx hb dL_areTasksRight_117 rfl (lv_at hl 0 rfl) ?_
        refine lv_iload hx hb dL_areTasksRight_118 (lv_at hl 5 rfl) ?_
        refine lv_iconst (v := 1) hx hb dL_areTasksRight_120 (by decide) ?_
        refine x_Vi (As := [.int (nI k), .int 1]) (rest0 := []) ⟨hx, hb, hml, hown, hts⟩ (c_X8_ofTask l D cA ad (tr ++ [(cN, .boolean)]) R45 H.size τ pd π bd tp ρ h102 (nI k) 1 (nI_pos (by omega)) (by rw [h.1.1.2.2.1]; exact (nI_ltI (by omega) (by omega)).mpr (by omega)) (by decide) (by decide)) (cwV 2 hts gl_areTasksRight_X8_ofTask rfl rfl rfl (by decide +kernel) ⟨Nat.le_of_ble_eq_true rfl, Nat.le_of_ble_eq_true rfl⟩) hKb hP hD hS hA 209 w_tp rfl hl.1 rfl rfl (Nat.le_of_ble_eq_true rfl) ⟨Nat.le_of_ble_eq_true rfl, Nat.le_of_ble_eq_true rfl⟩ dL_areTasksRight_121 (fun r _ H locs hw hP hD hS => ?_)
        obtain rfl : r = 1 := hw.trans c1
        refine lv_istore (lv' := [(6, .int 1), (0, .ref tp), (1, .ref oq), (2, .ref q1), (3, .ref q3), (4, .ref q5), (5, .int (nI k))]) hx hb dL_areTasksRight_124 hl (by decide) rfl (fun ls hl => ?_)
        refine lv_aload_n hx hb dL_areTasksRight_126 rfl (lv_at hl 1 rfl) ?_
        refine lv_iload hx hb dL_areTasksRight_127 (lv_at hl 6 rfl) ?_
        refine lv_bipush (v := 6) hx hb dL_areTasksRight_129 (by decide) ?_
        refine x_Vi (As := [.int (nI k), .int 6]) (rest0 := []) ⟨hx, hb, hml, hown, hts⟩ (c_X8_ofTask l D cA ad (tr ++ [(cN, .boolean)]) R45 H.size τ pd π bd tp ρ h102 (nI k) 6 (nI_pos (by omega)) (by rw [h.1.1.2.2.1]; exact (nI_ltI (by omega) (by omega)).mpr (by omega)) (by decide) (by decide)) (cwV 2 hts gl_areTasksRight_X8_ofTask rfl rfl rfl (by decide +kernel) ⟨Nat.le_of_ble_eq_true rfl, Nat.le_of_ble_eq_true rfl⟩) hKb hP hD hS hA 209 w_tp rfl hl.1 rfl rfl (Nat.le_of_ble_eq_true rfl) ⟨Nat.le_of_ble_eq_true rfl, Nat.le_of_ble_eq_true rfl⟩ dL_areTasksRight_131 (fun r _ H locs hw hP hD hS => ?_)
        obtain rfl : r = (-1) := hw.trans c6
        refine lv_istore (lv' := [(7, .int (-1)), (6, .int 1), (0, .ref tp), (1, .ref oq), (2, .ref q1), (3, .ref q3), (4, .ref q5), (5, .int (nI k))]) hx hb dL_areTasksRight_134 hl (by decide) rfl (fun ls hl => ?_)
        refine lv_aload_n hx hb dL_areTasksRight_136 rfl (lv_at hl 2 rfl) ?_
        refine lv_iload hx hb dL_areTasksRight_137 (lv_at hl 7 rfl) ?_
        refine lv_bipush (v := 8) hx hb dL_areTasksRight_139 (by decide) ?_
        refine x_Vi (As := [.int (nI k), .int 8]) (rest0 := []) ⟨hx, hb, hml, hown, hts⟩ (c_X8_ofTask l D cA ad (tr ++ [(cN, .boolean)]) R45 H.size τ pd π bd tp ρ h102 (nI k) 8 (nI_pos (by omega)) (by rw [h.1.1.2.2.1]; exact (nI_ltI (by omega) (by omega)).mpr (by omega)) (by decide) (by decide)) (cwV 2 hts gl_areTasksRight_X8_ofTask rfl rfl rfl (by decide +kernel) ⟨Nat.le_of_ble_eq_true rfl, Nat.le_of_ble_eq_true rfl⟩) hKb hP hD hS hA 209 w_tp rfl hl.1 rfl rfl (Nat.le_of_ble_eq_true rfl) ⟨Nat.le_of_ble_eq_true rfl, Nat.le_of_ble_eq_true rfl⟩ dL_areTasksRight_141 (fun r _ H locs hw hP hD hS => ?_)
        obtain rfl : r = 1 := hw.trans c8
        refine lv_istore (lv' := [(8, .int 1), (7, .int (-1)), (6, .int 1), (0, .ref tp), (1, .ref oq), (2, .ref q1), (3, .ref q3), (4, .ref q5), (5, .int (nI k))]) hx hb dL_areTasksRight_144 hl (by decide) rfl (fun ls hl => ?_)
        refine lv_aload_n hx hb dL_areTasksRight_146 rfl (lv_at hl 3 rfl) ?_
        refine lv_iload hx hb dL_areTasksRight_147 (lv_at hl 8 rfl) ?_
        refine lv_iconst (v := 2) hx hb dL_areTasksRight_149 (by decide) ?_
        refine x_Vi (As := [.int (nI k), .int 2]) (rest0 := []) ⟨hx, hb, hml, hown, hts⟩ (c_X8_ofTask l D cA ad (tr ++ [(cN, .boolean)]) R45 H.size τ pd π bd tp ρ h102 (nI k) 2 (nI_pos (by omega)) (by rw [h.1.1.2.2.1]; exact (nI_ltI (by omega) (by omega)).mpr (by omega)) (by decide) (by decide)) (cwV 2 hts gl_areTasksRight_X8_ofTask rfl rfl rfl (by decide +kernel) ⟨Nat.le_of_ble_eq_true rfl, Nat.le_of_ble_eq_true rfl⟩) hKb hP hD hS hA 209 w_tp rfl hl.1 rfl rfl (Nat.le_of_ble_eq_true rfl) ⟨Nat.le_of_ble_eq_true rfl, Nat.le_of_ble_eq_true rfl⟩ dL_areTasksRight_150 (fun r _ H locs hw hP hD hS => ?_)
        obtain rfl : r = (nI l9) := hw.trans c2
        refine lv_istore (lv' := [(9, .int (nI l9)), (8, .int 1), (7, .int (-1)), (6, .int 1), (0, .ref tp), (1, .ref oq), (2, .ref q1), (3, .ref q3), (4, .ref q5), (5, .int (nI k))]) hx hb dL_areTasksRight_153 hl (by decide) rfl (fun ls hl => ?_)
        refine lv_aload_n hx hb dL_areTasksRight_155 rfl (lv_at hl 6 rfl) ?_
        refine lv_iload hx hb dL_areTasksRight_156 (lv_at hl 3 rfl) ?_
        refine lv_dup2_11 hx hb dL_areTasksRight_158 rfl rfl ?_
        refine va_iald hx hb hKb hP (0 + rest.length + 210) (0) (wNewR eR45 rfl) rfl (by unfold vp_in; decide) dL_areTasksRight_159 ?_
        refine W.eq (g2 := F0 m 160 ls [.int (nI (cnt (m_isIn τ (nI 1)) k)), .int 1, .ref q1]) (by show F0 m _ ls (.int (f 1) :: _) = _; rw [hf 1 (by decide)]) ?_
        refine lv_iconst (v := 1) hx hb dL_areTasksRight_160 (by decide) ?_
        refine lv_iadd hx hb dL_areTasksRight_161 ?_
        refine W.eq (g2 := F0 m 162 ls [.int (nI ((cnt (m_isIn τ (nI 1)) k) + 1)), .int 1, .ref q1]) (by rw [show ((nI (cnt (m_isIn τ (nI 1)) k)) : Int32) + 1 = (nI ((cnt (m_isIn τ (nI 1)) k) + 1)) from nI_add (cnt (m_isIn τ (nI 1)) k) 1]) ?_
        refine va_iast hx hb hKb hP hD hS (0 + rest.length + 210) (0) (wNewR eR45 rfl) rfl (by unfold vp_in; decide) dL_areTasksRight_162 (fun H locs hP hD hS => ?_)
        rw [wNewSR eR45] at hP hD
        obtain ⟨f117, ef117⟩ : ∃ z : Nat → Int32, z = upd f 1 (nI ((cnt (m_isIn τ (nI 1)) k) + 1)) := ⟨_, rfl⟩
        obtain ⟨R118, eR118⟩ : ∃ z : va_W, z = rest ++ [(q1, .inl (cA 0, 5, .inl f117)), (q3, .inl (cN, 24, .inl g)), (q5, .inl (cA 0, 19, .inl f43))] := ⟨_, rfl⟩
        have hP : va_P D vwCl (wB cA ad τ ++ (wPg cA ad pd π ++ (wB cA bd ρ ++ ((tp, .inr (8, tpF ad bd)) :: R118)))) H := by rw [eR118, ef117]; exact hP
        have hD : va_D A (wB cA ad τ ++ (wPg cA ad pd π ++ (wB cA bd ρ ++ ((tp, .inr (8, tpF ad bd)) :: R118)))) := by rw [eR118, ef117]; exact hD
        refine lv_iload hx hb dL_areTasksRight_163 (lv_at hl 2 rfl) ?_
        refine lv_if_lt (tgt := 172) hx hb dL_areTasksRight_165 (by decide) (fun c_165_119 => ?_) (fun c_165_119 => ?_)
        · skip
          refine lv_iconst (v := 0) hx hb dL_areTasksRight_172 (by decide) ?_
          refine lv_iload hx hb dL_areTasksRight_173 (lv_at hl 3 rfl) ?_
          refine lv_if_ne (tgt := 182) hx hb dL_areTasksRight_175 (by decide) (fun c_175_120 => ?_) (fun c_175_120 => ?_)
          · skip
            refine lv_iconst (v := 0) hx hb dL_areTasksRight_182 (by decide) ?_
            refine lv_icmp_ne (tgt := 283) hx hb dL_areTasksRight_183 (by decide) (fun c_183_121 => ?_) (fun c_183_121 => ?_)
            · exact absurd c_183_121 (by decide)
            · skip
              refine lv_iload hx hb dL_areTasksRight_186 (lv_at hl 2 rfl) ?_
              refine lv_aload_n hx hb dL_areTasksRight_188 rfl (lv_at hl 4 rfl) ?_
              refine lv_iconst (v := 2) hx hb dL_areTasksRight_189 (by decide) ?_
              refine x_Vi (As := [.int 2]) (rest0 := [.int (-1)]) ⟨hx, hb, hml, hown, hts⟩ (c_X8_many l D cA ad (tr ++ [(cN, .boolean)]) R118 H.size τ pd π bd tp ρ h102 2 (by decide) (by decide)) (cwV 1 hts gl_areTasksRight_X8_many rfl rfl rfl (by decide +kernel) ⟨Nat.le_of_ble_eq_true rfl, Nat.le_of_ble_eq_true rfl⟩) hKb hP hD hS hA 209 w_tp rfl hl.1 rfl rfl (Nat.le_of_ble_eq_true rfl) ⟨Nat.le_of_ble_eq_true rfl, Nat.le_of_ble_eq_true rfl⟩ dL_areTasksRight_190 (fun r _ H locs hw hP hD hS => ?_)
              obtain rfl : r = (nI L.length) := hw.trans ((many_st h.1.1).1.trans (congrArg nI (ready_len hL h.1.1)))
              refine lv_icmp_ge (tgt := 283) hx hb dL_areTasksRight_193 (by decide) (fun c_193_122 => ?_) (fun c_193_122 => ?_)
              · exact absurd c_193_122 (n1_nle (b := L.length) (by omega))
              · skip
                refine lv_iload hx hb dL_areTasksRight_196 (lv_at hl 2 rfl) ?_
                refine lv_if_lt (tgt := 208) hx hb dL_areTasksRight_198 (by decide) (fun c_198_123 => ?_) (fun c_198_123 => ?_)
                · skip
                  refine lv_iload hx hb dL_areTasksRight_208 (lv_at hl 1 rfl) ?_
                  refine lv_if_le (tgt := 217) hx hb dL_areTasksRight_210 (by decide) (fun c_210_124 => ?_) (fun c_210_124 => ?_)
                  · exact absurd c_210_124 (by decide)
                  · skip
                    refine lv_iconst (v := 1) hx hb dL_areTasksRight_213 (by decide) ?_
                    refine lv_goto (tgt := 218) hx hb dL_areTasksRight_214 (by decide) ?_
                    refine lv_iload hx hb dL_areTasksRight_218 (lv_at hl 3 rfl) ?_
                    refine lv_iconst (v := 1) hx hb dL_areTasksRight_220 (by decide) ?_
                    refine lv_icmp_ne (tgt := 228) hx hb dL_areTasksRight_221 (by decide) (fun c_221_125 => ?_) (fun c_221_125 => ?_)
                    · exact absurd c_221_125 (by decide)
                    · skip
                      refine lv_iconst (v := 1) hx hb dL_areTasksRight_224 (by decide) ?_
                      refine lv_goto (tgt := 229) hx hb dL_areTasksRight_225 (by decide) ?_
                      refine lv_icmp_ne (tgt := 283) hx hb dL_areTasksRight_229 (by decide) (fun c_229_126 => ?_) (fun c_229_126 => ?_)
                      · exact absurd c_229_126 (by decide)
                      · skip
                        refine lv_iload hx hb dL_areTasksRight_232 (lv_at hl 0 rfl) ?_
                        refine lv_if_ge (tgt := 241) hx hb dL_areTasksRight_234 (by decide) (fun c_234_127 => ?_) (fun c_234_127 => ?_)
                        · skip
                          refine lv_iconst (v := 0) hx hb dL_areTasksRight_241 (by decide) ?_
                          refine lv_iload hx hb dL_areTasksRight_242 (lv_at hl 3 rfl) ?_
                          refine lv_iconst (v := 1) hx hb dL_areTasksRight_244 (by decide) ?_
                          refine lv_icmp_le (tgt := 252) hx hb dL_areTasksRight_245 (by decide) (fun c_245_128 => ?_) (fun c_245_128 => ?_)
                          · skip
                            refine lv_iconst (v := 0) hx hb dL_areTasksRight_252 (by decide) ?_
                            refine lv_icmp_ne (tgt := 283) hx hb dL_areTasksRight_253 (by decide) (fun c_253_129 => ?_) (fun c_253_129 => ?_)
                            · exact absurd c_253_129 (by decide)
                            · skip
                              refine lv_iload hx hb dL_areTasksRight_256 (lv_at hl 3 rfl) ?_
                              refine lv_iconst (v := 1) hx hb dL_areTasksRight_258 (by decide) ?_
                              refine lv_icmp_le (tgt := 285) hx hb dL_areTasksRight_259 (by decide) (fun c_259_130 => ?_) (fun c_259_130 => ?_)
                              · skip
                                refine lv_iload hx hb dL_areTasksRight_285 (lv_at hl 2 rfl) ?_
                                refine lv_if_lt (tgt := 295) hx hb dL_areTasksRight_287 (by decide) (fun c_287_131 => ?_) (fun c_287_131 => ?_)
                                · skip
                                  refine lv_iload hx hb dL_areTasksRight_295 (lv_at hl 1 rfl) ?_
                                  refine lv_if_le (tgt := 345) hx hb dL_areTasksRight_297 (by decide) (fun c_297_132 => ?_) (fun c_297_132 => ?_)
                                  · exact absurd c_297_132 (by decide)
                                  · skip
                                    refine lv_iload hx hb dL_areTasksRight_300 (lv_at hl 1 rfl) ?_
                                    refine lv_iconst (v := 5) hx hb dL_areTasksRight_302 (by decide) ?_
                                    refine lv_icmp_ge (tgt := 345) hx hb dL_areTasksRight_303 (by decide) (fun c_303_133 => ?_) (fun c_303_133 => ?_)
                                    · exact absurd c_303_133 (by decide)
                                    · skip
                                      refine lv_aload_n hx hb dL_areTasksRight_306 rfl (lv_at hl 4 rfl) ?_
                                      refine lv_iload hx hb dL_areTasksRight_307 (lv_at hl 9 rfl) ?_
                                      refine lv_bipush (v := 7) hx hb dL_areTasksRight_309 (by decide) ?_
                                      refine x_Vi (As := [.int (nI k), .int 7]) (rest0 := []) ⟨hx, hb, hml, hown, hts⟩ (c_X8_ofTask l D cA ad (tr ++ [(cN, .boolean)]) R118 H.size τ pd π bd tp ρ h102 (nI k) 7 (nI_pos (by omega)) (by rw [h.1.1.2.2.1]; exact (nI_ltI (by omega) (by omega)).mpr (by omega)) (by decide) (by decide)) (cwV 2 hts gl_areTasksRight_X8_ofTask rfl rfl rfl (by decide +kernel) ⟨Nat.le_of_ble_eq_true rfl, Nat.le_of_ble_eq_true rfl⟩) hKb hP hD hS hA 209 w_tp rfl hl.1 rfl rfl (Nat.le_of_ble_eq_true rfl) ⟨Nat.le_of_ble_eq_true rfl, Nat.le_of_ble_eq_true rfl⟩ dL_areTasksRight_311 (fun r _ H locs hw hP hD hS => ?_)
                                      obtain rfl : r = 0 := hw.trans c7
                                      refine lv_iconst (v := 1) hx hb dL_areTasksRight_314 (by decide) ?_
                                      refine lv_icmp_eq (tgt := 343) hx hb dL_areTasksRight_315 (by decide) (fun c_315_134 => ?_) (fun c_315_134 => ?_)
                                      · exact absurd c_315_134 (by decide)
                                      · skip
                                        refine lv_aload hx hb dL_areTasksRight_318 (lv_at hl 8 rfl) ?_
                                        refine lv_aload_n hx hb dL_areTasksRight_320 rfl (lv_at hl 5 rfl) ?_
                                        refine va_getN (D := D) (C := RX9) (T := TX9) (N := 3) (ci := 9) (host := RL) hx hb hts nl_areTasksRight_X9 hown hKb hP (0 + 210) (wOldR eR118 (own0 hR)) rfl 0 (by decide) (va_Nw.use rfl hN) (fun _ h => h) rfl dL_areTasksRight_321 ?_
                                        refine lv_aload_n hx hb dL_areTasksRight_324 rfl (lv_at hl 4 rfl) ?_
                                        refine lv_iload hx hb dL_areTasksRight_325 (lv_at hl 9 rfl) ?_
                                        refine lv_iconst (v := 0) hx hb dL_areTasksRight_327 (by decide) ?_
                                        refine x_Vi (As := [.int (nI k), .int 0]) (rest0 := [.ref la, .ref q5]) ⟨hx, hb, hml, hown, hts⟩ (c_X8_ofTask l D cA ad (tr ++ [(cN, .boolean)]) R118 H.size τ pd π bd tp ρ h102 (nI k) 0 (nI_pos (by omega)) (by rw [h.1.1.2.2.1]; exact (nI_ltI (by omega) (by omega)).mpr (by omega)) (by decide) (by decide)) (cwV 2 hts gl_areTasksRight_X8_ofTask rfl rfl rfl (by decide +kernel) ⟨Nat.le_of_ble_eq_true rfl, Nat.le_of_ble_eq_true rfl⟩) hKb hP hD hS hA 209 w_tp rfl hl.1 rfl rfl (Nat.le_of_ble_eq_true rfl) ⟨Nat.le_of_ble_eq_true rfl, Nat.le_of_ble_eq_true rfl⟩ dL_areTasksRight_328 (fun r _ H locs hw hP hD hS => ?_)
                                        obtain rfl : r = (nI b9) := hw.trans c0
                                        refine va_aldr hx hb hKb hP (1 + 210) (j3 + 5) (wOldR eR118 (own1 hR)) (ty_old ht3) (vp_in_nI (by omega) (by omega)) dL_areTasksRight_331 ?_
                                        refine W.eq (g2 := F0 m 332 ls [.ref (lb b9), .ref q5]) (by rw [nI_clamp (show b9 < 2 ^ 31 by omega)]; show F0 m _ ls (va_rf (rf8 lb b9) :: _) = _; rw [rf8_at b8]; rfl) ?_
                                        refine lv_iload hx hb dL_areTasksRight_332 (lv_at hl 0 rfl) ?_
                                        refine va_aldr hx hb hKb hP (b9 + 2 + 210) (j2 + 5) (wOldR eR118 (ownI hR b8)) (ty_old ht2) (vp_in_nI (by omega) (by omega)) dL_areTasksRight_334 ?_
                                        refine W.eq (g2 := F0 m 335 ls [.ref q9, .ref q5]) (by rw [nI_clamp (show l9 < 2 ^ 31 by omega), hLA]; rfl) ?_
                                        refine lv_iconst (v := 0) hx hb dL_areTasksRight_335 (by decide) ?_
                                        refine va_iald hx hb hKb hP (kq + 11 + 210) 0 (wOldR eR118 (ownR hR hkq)) rfl (by unfold vp_in; decide) dL_areTasksRight_336 ?_
                                        refine W.eq (g2 := F0 m 337 ls [.int 12, .ref q5]) (by show F0 m _ ls (.int (fq 0) :: _) = _; rw [hf0]) ?_
                                        refine va_iald hx hb hKb hP (2 + rest.length + 210) (0) (wNewR eR118 rfl) rfl (by unfold vp_in; decide) dL_areTasksRight_337 ?_
                                        refine W.eq (g2 := F0 m 338 ls [.int 1]) (by show F0 m _ ls (.int (f43 12) :: _) = _; rw [hw12]) ?_
                                        refine lv_iload hx hb dL_areTasksRight_338 (lv_at hl 1 rfl) ?_
                                        refine lv_icmp_eq (tgt := 345) hx hb dL_areTasksRight_340 (by decide) (fun c_340_135 => ?_) (fun c_340_135 => ?_)
                                        · skip
                                          refine lv_iload hx hb dL_areTasksRight_345 (lv_at hl 1 rfl) ?_
                                          refine lv_iconst (v := 5) hx hb dL_areTasksRight_347 (by decide) ?_
                                          refine lv_icmp_ne (tgt := 361) hx hb dL_areTasksRight_348 (by decide) (fun c_348_136 => ?_) (fun c_348_136 => ?_)
                                          · skip
                                            have hb9 : bnd (τ (k + 6) 5) := by have := task_there hB hk24; rwa [aT3 hk24] at this
                                            refine lv_aload_n hx hb dL_areTasksRight_361 rfl (lv_at hl 4 rfl) ?_
                                            refine lv_iload hx hb dL_areTasksRight_362 (lv_at hl 9 rfl) ?_
                                            refine lv_iconst (v := 3) hx hb dL_areTasksRight_364 (by decide) ?_
                                            refine x_Vi (As := [.int (nI k), .int 3]) (rest0 := []) ⟨hx, hb, hml, hown, hts⟩ (c_X8_ofTask l D cA ad (tr ++ [(cN, .boolean)]) R118 H.size τ pd π bd tp ρ h102 (nI k) 3 (nI_pos (by omega)) (by rw [h.1.1.2.2.1]; exact (nI_ltI (by omega) (by omega)).mpr (by omega)) (by decide) (by decide)) (cwV 2 hts gl_areTasksRight_X8_ofTask rfl rfl rfl (by decide +kernel) ⟨Nat.le_of_ble_eq_true rfl, Nat.le_of_ble_eq_true rfl⟩) hKb hP hD hS hA 209 w_tp rfl hl.1 rfl rfl (Nat.le_of_ble_eq_true rfl) ⟨Nat.le_of_ble_eq_true rfl, Nat.le_of_ble_eq_true rfl⟩ dL_areTasksRight_365 (fun r _ H locs hw hP hD hS => ?_)
                                            obtain rfl : r = (τ (k + 6) 5) := hw.trans (aT3 (by omega))
                                            refine va_mabs (rest := []) hx hb (hml.trans hl.1.symm) hown (hts (.methodLink RL 103 Lib.Math.abs.name) (by decide +kernel)) (hts (.static Lib.Math.abs.name) (by decide +kernel)) (hts (.initialized "java/lang/Math") (by decide +kernel)) (hts (.code Lib.Math.abs.name Lib.Math.abs.code 1 (some .int)) (by decide +kernel)) (Nat.le_of_ble_eq_true rfl) (Nat.le_of_ble_eq_true rfl) (Nat.le_of_ble_eq_true rfl) (Nat.le_of_ble_eq_true rfl) dL_areTasksRight_368 ?_
                                            refine lv_sipush (v := 9999) hx hb dL_areTasksRight_371 (by decide) ?_
                                            refine lv_icmp_gt (tgt := 393) hx hb dL_areTasksRight_374 (by decide) (fun c_374_137 => ?_) (fun c_374_137 => ?_)
                                            · exact absurd c_374_137 (abs_bnd hb9)
                                            · skip
                                              rcases task_in h hk with c4 | ⟨q4, hq4, c4, ⟨o4, ho4, s0⟩, v4, hv4, s1, hv2⟩
                                              · skip
                                                refine lv_aload_n hx hb dL_areTasksRight_377 rfl (lv_at hl 4 rfl) ?_
                                                refine lv_iload hx hb dL_areTasksRight_378 (lv_at hl 9 rfl) ?_
                                                refine lv_iconst (v := 4) hx hb dL_areTasksRight_380 (by decide) ?_
                                                refine x_Vi (As := [.int (nI k), .int 4]) (rest0 := []) ⟨hx, hb, hml, hown, hts⟩ (c_X8_ofTask l D cA ad (tr ++ [(cN, .boolean)]) R118 H.size τ pd π bd tp ρ h102 (nI k) 4 (nI_pos (by omega)) (by rw [h.1.1.2.2.1]; exact (nI_ltI (by omega) (by omega)).mpr (by omega)) (by decide) (by decide)) (cwV 2 hts gl_areTasksRight_X8_ofTask rfl rfl rfl (by decide +kernel) ⟨Nat.le_of_ble_eq_true rfl, Nat.le_of_ble_eq_true rfl⟩) hKb hP hD hS hA 209 w_tp rfl hl.1 rfl rfl (Nat.le_of_ble_eq_true rfl) ⟨Nat.le_of_ble_eq_true rfl, Nat.le_of_ble_eq_true rfl⟩ dL_areTasksRight_381 (fun r _ H locs hw hP hD hS => ?_)
                                                obtain rfl : r = (-1) := hw.trans c4
                                                refine lv_aload_n hx hb dL_areTasksRight_384 rfl (lv_at hl 4 rfl) ?_
                                                refine lv_bipush (v := 7) hx hb dL_areTasksRight_385 (by decide) ?_
                                                refine x_Vi (As := [.int 7]) (rest0 := [.int (-1)]) ⟨hx, hb, hml, hown, hts⟩ (c_X8_many l D cA ad (tr ++ [(cN, .boolean)]) R118 H.size τ pd π bd tp ρ h102 7 (by decide) (by decide)) (cwV 1 hts gl_areTasksRight_X8_many rfl rfl rfl (by decide +kernel) ⟨Nat.le_of_ble_eq_true rfl, Nat.le_of_ble_eq_true rfl⟩) hKb hP hD hS hA 209 w_tp rfl hl.1 rfl rfl (Nat.le_of_ble_eq_true rfl) ⟨Nat.le_of_ble_eq_true rfl, Nat.le_of_ble_eq_true rfl⟩ dL_areTasksRight_387 (fun r _ H locs hw hP hD hS => ?_)
                                                obtain rfl : r = (nI S) := hw.trans (many_7 h.1.1)
                                                refine lv_icmp_lt (tgt := 395) hx hb dL_areTasksRight_390 (by decide) (fun c_390_138 => ?_) (fun c_390_138 => ?_)
                                                · skip
                                                  refine lv_aload_n hx hb dL_areTasksRight_395 rfl (lv_at hl 4 rfl) ?_
                                                  refine lv_iload hx hb dL_areTasksRight_396 (lv_at hl 9 rfl) ?_
                                                  refine lv_iconst (v := 4) hx hb dL_areTasksRight_398 (by decide) ?_
                                                  refine x_Vi (As := [.int (nI k), .int 4]) (rest0 := []) ⟨hx, hb, hml, hown, hts⟩ (c_X8_ofTask l D cA ad (tr ++ [(cN, .boolean)]) R118 H.size τ pd π bd tp ρ h102 (nI k) 4 (nI_pos (by omega)) (by rw [h.1.1.2.2.1]; exact (nI_ltI (by omega) (by omega)).mpr (by omega)) (by decide) (by decide)) (cwV 2 hts gl_areTasksRight_X8_ofTask rfl rfl rfl (by decide +kernel) ⟨Nat.le_of_ble_eq_true rfl, Nat.le_of_ble_eq_true rfl⟩) hKb hP hD hS hA 209 w_tp rfl hl.1 rfl rfl (Nat.le_of_ble_eq_true rfl) ⟨Nat.le_of_ble_eq_true rfl, Nat.le_of_ble_eq_true rfl⟩ dL_areTasksRight_399 (fun r _ H locs hw hP hD hS => ?_)
                                                  obtain rfl : r = (-1) := hw.trans c4
                                                  refine lv_if_lt (tgt := 446) hx hb dL_areTasksRight_402 (by decide) (fun c_402_139 => ?_) (fun c_402_139 => ?_)
                                                  · skip
                                                    refine lv_iinc (v := (nI (k + 1))) (lv' := [(5, .int (nI (k + 1))), (9, .int (nI l9)), (8, .int 1), (7, .int (-1)), (6, .int 1), (0, .ref tp), (1, .ref oq), (2, .ref q1), (3, .ref q3), (4, .ref q5)]) hx hb dL_areTasksRight_446 hl (k := 9) rfl (show (nI k) + 1 = (nI (k + 1)) from nI_1 k) (by decide) rfl (fun ls hl => ?_)
                                                    refine lv_goto (tgt := 107) hx hb dL_areTasksRight_449 (by decide) ?_
                                                    exact ih n (Nat.lt_succ_self n) H locs ls ⟨(k + 1), f117, g, R118, ⟨by omega, st_upd e0 (by decide) hf ef117, hg.up, eR118⟩, hP, hD, hS, lv_sub hl [5, 6, 7, 8, 9, 0] rfl⟩
                                                  · exact absurd c_402_139 (by decide)
                                                · exact absurd (n1_lt (b := S) (by omega)) c_390_138
                                              · skip
                                                rcases (show v4 = 0 ∨ v4 = 1 ∨ v4 = 2 by omega) with e4 | e4 | e4 <;> subst e4
                                                · skip
                                                  refine lv_aload_n hx hb dL_areTasksRight_377 rfl (lv_at hl 4 rfl) ?_
                                                  refine lv_iload hx hb dL_areTasksRight_378 (lv_at hl 9 rfl) ?_
                                                  refine lv_iconst (v := 4) hx hb dL_areTasksRight_380 (by decide) ?_
                                                  refine x_Vi (As := [.int (nI k), .int 4]) (rest0 := []) ⟨hx, hb, hml, hown, hts⟩ (c_X8_ofTask l D cA ad (tr ++ [(cN, .boolean)]) R118 H.size τ pd π bd tp ρ h102 (nI k) 4 (nI_pos (by omega)) (by rw [h.1.1.2.2.1]; exact (nI_ltI (by omega) (by omega)).mpr (by omega)) (by decide) (by decide)) (cwV 2 hts gl_areTasksRight_X8_ofTask rfl rfl rfl (by decide +kernel) ⟨Nat.le_of_ble_eq_true rfl, Nat.le_of_ble_eq_true rfl⟩) hKb hP hD hS hA 209 w_tp rfl hl.1 rfl rfl (Nat.le_of_ble_eq_true rfl) ⟨Nat.le_of_ble_eq_true rfl, Nat.le_of_ble_eq_true rfl⟩ dL_areTasksRight_381 (fun r _ H locs hw hP hD hS => ?_)
                                                  obtain rfl : r = (nI q4) := hw.trans c4
                                                  refine lv_aload_n hx hb dL_areTasksRight_384 rfl (lv_at hl 4 rfl) ?_
                                                  refine lv_bipush (v := 7) hx hb dL_areTasksRight_385 (by decide) ?_
                                                  refine x_Vi (As := [.int 7]) (rest0 := [.int (nI q4)]) ⟨hx, hb, hml, hown, hts⟩ (c_X8_many l D cA ad (tr ++ [(cN, .boolean)]) R118 H.size τ pd π bd tp ρ h102 7 (by decide) (by decide)) (cwV 1 hts gl_areTasksRight_X8_many rfl rfl rfl (by decide +kernel) ⟨Nat.le_of_ble_eq_true rfl, Nat.le_of_ble_eq_true rfl⟩) hKb hP hD hS hA 209 w_tp rfl hl.1 rfl rfl (Nat.le_of_ble_eq_true rfl) ⟨Nat.le_of_ble_eq_true rfl, Nat.le_of_ble_eq_true rfl⟩ dL_areTasksRight_387 (fun r _ H locs hw hP hD hS => ?_)
                                                  obtain rfl : r = (nI S) := hw.trans (many_7 h.1.1)
                                                  refine lv_icmp_lt (tgt := 395) hx hb dL_areTasksRight_390 (by decide) (fun c_390_140 => ?_) (fun c_390_140 => ?_)
                                                  · skip
                                                    refine lv_aload_n hx hb dL_areTasksRight_395 rfl (lv_at hl 4 rfl) ?_
                                                    refine lv_iload hx hb dL_areTasksRight_396 (lv_at hl 9 rfl) ?_
                                                    refine lv_iconst (v := 4) hx hb dL_areTasksRight_398 (by decide) ?_
                                                    refine x_Vi (As := [.int (nI k), .int 4]) (rest0 := []) ⟨hx, hb, hml, hown, hts⟩ (c_X8_ofTask l D cA ad (tr ++ [(cN, .boolean)]) R118 H.size τ pd π bd tp ρ h102 (nI k) 4 (nI_pos (by omega)) (by rw [h.1.1.2.2.1]; exact (nI_ltI (by omega) (by omega)).mpr (by omega)) (by decide) (by decide)) (cwV 2 hts gl_areTasksRight_X8_ofTask rfl rfl rfl (by decide +kernel) ⟨Nat.le_of_ble_eq_true rfl, Nat.le_of_ble_eq_true rfl⟩) hKb hP hD hS hA 209 w_tp rfl hl.1 rfl rfl (Nat.le_of_ble_eq_true rfl) ⟨Nat.le_of_ble_eq_true rfl, Nat.le_of_ble_eq_true rfl⟩ dL_areTasksRight_399 (fun r _ H locs hw hP hD hS => ?_)
                                                    obtain rfl : r = (nI q4) := hw.trans c4
                                                    refine lv_if_lt (tgt := 446) hx hb dL_areTasksRight_402 (by decide) (fun c_402_141 => ?_) (fun c_402_141 => ?_)
                                                    · exact absurd ((nI_ltI (a := q4) (b := 0) (by omega) (by omega)).mp c_402_141) (by omega)
                                                    · skip
                                                      refine lv_aload_n hx hb dL_areTasksRight_405 rfl (lv_at hl 4 rfl) ?_
                                                      refine lv_aload_n hx hb dL_areTasksRight_406 rfl (lv_at hl 4 rfl) ?_
                                                      refine lv_iload hx hb dL_areTasksRight_407 (lv_at hl 9 rfl) ?_
                                                      refine lv_iconst (v := 4) hx hb dL_areTasksRight_409 (by decide) ?_
                                                      refine x_Vi (As := [.int (nI k), .int 4]) (rest0 := [.ref tp]) ⟨hx, hb, hml, hown, hts⟩ (c_X8_ofTask l D cA ad (tr ++ [(cN, .boolean)]) R118 H.size τ pd π bd tp ρ h102 (nI k) 4 (nI_pos (by omega)) (by rw [h.1.1.2.2.1]; exact (nI_ltI (by omega) (by omega)).mpr (by omega)) (by decide) (by decide)) (cwV 2 hts gl_areTasksRight_X8_ofTask rfl rfl rfl (by decide +kernel) ⟨Nat.le_of_ble_eq_true rfl, Nat.le_of_ble_eq_true rfl⟩) hKb hP hD hS hA 209 w_tp rfl hl.1 rfl rfl (Nat.le_of_ble_eq_true rfl) ⟨Nat.le_of_ble_eq_true rfl, Nat.le_of_ble_eq_true rfl⟩ dL_areTasksRight_410 (fun r _ H locs hw hP hD hS => ?_)
                                                      obtain rfl : r = (nI q4) := hw.trans c4
                                                      refine lv_iconst (v := 0) hx hb dL_areTasksRight_413 (by decide) ?_
                                                      refine x_Vi (As := [.int (nI q4), .int 0]) (rest0 := []) ⟨hx, hb, hml, hown, hts⟩ (c_X8_ofScope l D cA ad (tr ++ [(cN, .boolean)]) R118 H.size τ pd π bd tp ρ h102 (nI q4) 0 (nI_pos (by omega)) (by rw [h.1.1.2.2.2.1]; exact (nI_ltI (by omega) (by omega)).mpr (by omega)) (by decide) (by decide)) (cwV 2 hts gl_areTasksRight_X8_ofScope rfl rfl rfl (by decide +kernel) ⟨Nat.le_of_ble_eq_true rfl, Nat.le_of_ble_eq_true rfl⟩) hKb hP hD hS hA 209 w_tp rfl hl.1 rfl rfl (Nat.le_of_ble_eq_true rfl) ⟨Nat.le_of_ble_eq_true rfl, Nat.le_of_ble_eq_true rfl⟩ dL_areTasksRight_414 (fun r _ H locs hw hP hD hS => ?_)
                                                      obtain rfl : r = (nI o4) := hw.trans s0
                                                      refine lv_iload hx hb dL_areTasksRight_417 (lv_at hl 9 rfl) ?_
                                                      refine lv_icmp_ge (tgt := 444) hx hb dL_areTasksRight_419 (by decide) (fun c_419_142 => ?_) (fun c_419_142 => ?_)
                                                      · exact absurd ((nI_leI (a := k) (b := o4) (by omega) (by omega)).mp c_419_142) (by omega)
                                                      · skip
                                                        refine lv_aload_n hx hb dL_areTasksRight_422 rfl (lv_at hl 4 rfl) ?_
                                                        refine lv_aload_n hx hb dL_areTasksRight_423 rfl (lv_at hl 4 rfl) ?_
                                                        refine lv_iload hx hb dL_areTasksRight_424 (lv_at hl 9 rfl) ?_
                                                        refine lv_iconst (v := 4) hx hb dL_areTasksRight_426 (by decide) ?_
                                                        refine x_Vi (As := [.int (nI k), .int 4]) (rest0 := [.ref tp]) ⟨hx, hb, hml, hown, hts⟩ (c_X8_ofTask l D cA ad (tr ++ [(cN, .boolean)]) R118 H.size τ pd π bd tp ρ h102 (nI k) 4 (nI_pos (by omega)) (by rw [h.1.1.2.2.1]; exact (nI_ltI (by omega) (by omega)).mpr (by omega)) (by decide) (by decide)) (cwV 2 hts gl_areTasksRight_X8_ofTask rfl rfl rfl (by decide +kernel) ⟨Nat.le_of_ble_eq_true rfl, Nat.le_of_ble_eq_true rfl⟩) hKb hP hD hS hA 209 w_tp rfl hl.1 rfl rfl (Nat.le_of_ble_eq_true rfl) ⟨Nat.le_of_ble_eq_true rfl, Nat.le_of_ble_eq_true rfl⟩ dL_areTasksRight_427 (fun r _ H locs hw hP hD hS => ?_)
                                                        obtain rfl : r = (nI q4) := hw.trans c4
                                                        refine lv_iconst (v := 1) hx hb dL_areTasksRight_430 (by decide) ?_
                                                        refine x_Vi (As := [.int (nI q4), .int 1]) (rest0 := []) ⟨hx, hb, hml, hown, hts⟩ (c_X8_ofScope l D cA ad (tr ++ [(cN, .boolean)]) R118 H.size τ pd π bd tp ρ h102 (nI q4) 1 (nI_pos (by omega)) (by rw [h.1.1.2.2.2.1]; exact (nI_ltI (by omega) (by omega)).mpr (by omega)) (by decide) (by decide)) (cwV 2 hts gl_areTasksRight_X8_ofScope rfl rfl rfl (by decide +kernel) ⟨Nat.le_of_ble_eq_true rfl, Nat.le_of_ble_eq_true rfl⟩) hKb hP hD hS hA 209 w_tp rfl hl.1 rfl rfl (Nat.le_of_ble_eq_true rfl) ⟨Nat.le_of_ble_eq_true rfl, Nat.le_of_ble_eq_true rfl⟩ dL_areTasksRight_431 (fun r _ H locs hw hP hD hS => ?_)
                                                        obtain rfl : r = 0 := hw.trans s1
                                                        refine lv_iconst (v := 2) hx hb dL_areTasksRight_434 (by decide) ?_
                                                        refine lv_icmp_ne (tgt := 446) hx hb dL_areTasksRight_435 (by decide) (fun c_435_143 => ?_) (fun c_435_143 => ?_)
                                                        · skip
                                                          refine lv_iinc (v := (nI (k + 1))) (lv' := [(5, .int (nI (k + 1))), (9, .int (nI l9)), (8, .int 1), (7, .int (-1)), (6, .int 1), (0, .ref tp), (1, .ref oq), (2, .ref q1), (3, .ref q3), (4, .ref q5)]) hx hb dL_areTasksRight_446 hl (k := 9) rfl (show (nI k) + 1 = (nI (k + 1)) from nI_1 k) (by decide) rfl (fun ls hl => ?_)
                                                          refine lv_goto (tgt := 107) hx hb dL_areTasksRight_449 (by decide) ?_
                                                          exact ih n (Nat.lt_succ_self n) H locs ls ⟨(k + 1), f117, g, R118, ⟨by omega, st_upd e0 (by decide) hf ef117, hg.up, eR118⟩, hP, hD, hS, lv_sub hl [5, 6, 7, 8, 9, 0] rfl⟩
                                                        · exact absurd c_435_143 (by decide)
                                                  · exact absurd ((nI_ltI (a := q4) (b := S) (by omega) (by omega)).mpr (by omega)) c_390_140
                                                · skip
                                                  refine lv_aload_n hx hb dL_areTasksRight_377 rfl (lv_at hl 4 rfl) ?_
                                                  refine lv_iload hx hb dL_areTasksRight_378 (lv_at hl 9 rfl) ?_
                                                  refine lv_iconst (v := 4) hx hb dL_areTasksRight_380 (by decide) ?_
                                                  refine x_Vi (As := [.int (nI k), .int 4]) (rest0 := []) ⟨hx, hb, hml, hown, hts⟩ (c_X8_ofTask l D cA ad (tr ++ [(cN, .boolean)]) R118 H.size τ pd π bd tp ρ h102 (nI k) 4 (nI_pos (by omega)) (by rw [h.1.1.2.2.1]; exact (nI_ltI (by omega) (by omega)).mpr (by omega)) (by decide) (by decide)) (cwV 2 hts gl_areTasksRight_X8_ofTask rfl rfl rfl (by decide +kernel) ⟨Nat.le_of_ble_eq_true rfl, Nat.le_of_ble_eq_true rfl⟩) hKb hP hD hS hA 209 w_tp rfl hl.1 rfl rfl (Nat.le_of_ble_eq_true rfl) ⟨Nat.le_of_ble_eq_true rfl, Nat.le_of_ble_eq_true rfl⟩ dL_areTasksRight_381 (fun r _ H locs hw hP hD hS => ?_)
                                                  obtain rfl : r = (nI q4) := hw.trans c4
                                                  refine lv_aload_n hx hb dL_areTasksRight_384 rfl (lv_at hl 4 rfl) ?_
                                                  refine lv_bipush (v := 7) hx hb dL_areTasksRight_385 (by decide) ?_
                                                  refine x_Vi (As := [.int 7]) (rest0 := [.int (nI q4)]) ⟨hx, hb, hml, hown, hts⟩ (c_X8_many l D cA ad (tr ++ [(cN, .boolean)]) R118 H.size τ pd π bd tp ρ h102 7 (by decide) (by decide)) (cwV 1 hts gl_areTasksRight_X8_many rfl rfl rfl (by decide +kernel) ⟨Nat.le_of_ble_eq_true rfl, Nat.le_of_ble_eq_true rfl⟩) hKb hP hD hS hA 209 w_tp rfl hl.1 rfl rfl (Nat.le_of_ble_eq_true rfl) ⟨Nat.le_of_ble_eq_true rfl, Nat.le_of_ble_eq_true rfl⟩ dL_areTasksRight_387 (fun r _ H locs hw hP hD hS => ?_)
                                                  obtain rfl : r = (nI S) := hw.trans (many_7 h.1.1)
                                                  refine lv_icmp_lt (tgt := 395) hx hb dL_areTasksRight_390 (by decide) (fun c_390_144 => ?_) (fun c_390_144 => ?_)
                                                  · skip
                                                    refine lv_aload_n hx hb dL_areTasksRight_395 rfl (lv_at hl 4 rfl) ?_
                                                    refine lv_iload hx hb dL_areTasksRight_396 (lv_at hl 9 rfl) ?_
                                                    refine lv_iconst (v := 4) hx hb dL_areTasksRight_398 (by decide) ?_
                                                    refine x_Vi (As := [.int (nI k), .int 4]) (rest0 := []) ⟨hx, hb, hml, hown, hts⟩ (c_X8_ofTask l D cA ad (tr ++ [(cN, .boolean)]) R118 H.size τ pd π bd tp ρ h102 (nI k) 4 (nI_pos (by omega)) (by rw [h.1.1.2.2.1]; exact (nI_ltI (by omega) (by omega)).mpr (by omega)) (by decide) (by decide)) (cwV 2 hts gl_areTasksRight_X8_ofTask rfl rfl rfl (by decide +kernel) ⟨Nat.le_of_ble_eq_true rfl, Nat.le_of_ble_eq_true rfl⟩) hKb hP hD hS hA 209 w_tp rfl hl.1 rfl rfl (Nat.le_of_ble_eq_true rfl) ⟨Nat.le_of_ble_eq_true rfl, Nat.le_of_ble_eq_true rfl⟩ dL_areTasksRight_399 (fun r _ H locs hw hP hD hS => ?_)
                                                    obtain rfl : r = (nI q4) := hw.trans c4
                                                    refine lv_if_lt (tgt := 446) hx hb dL_areTasksRight_402 (by decide) (fun c_402_145 => ?_) (fun c_402_145 => ?_)
                                                    · exact absurd ((nI_ltI (a := q4) (b := 0) (by omega) (by omega)).mp c_402_145) (by omega)
                                                    · skip
                                                      refine lv_aload_n hx hb dL_areTasksRight_405 rfl (lv_at hl 4 rfl) ?_
                                                      refine lv_aload_n hx hb dL_areTasksRight_406 rfl (lv_at hl 4 rfl) ?_
                                                      refine lv_iload hx hb dL_areTasksRight_407 (lv_at hl 9 rfl) ?_
                                                      refine lv_iconst (v := 4) hx hb dL_areTasksRight_409 (by decide) ?_
                                                      refine x_Vi (As := [.int (nI k), .int 4]) (rest0 := [.ref tp]) ⟨hx, hb, hml, hown, hts⟩ (c_X8_ofTask l D cA ad (tr ++ [(cN, .boolean)]) R118 H.size τ pd π bd tp ρ h102 (nI k) 4 (nI_pos (by omega)) (by rw [h.1.1.2.2.1]; exact (nI_ltI (by omega) (by omega)).mpr (by omega)) (by decide) (by decide)) (cwV 2 hts gl_areTasksRight_X8_ofTask rfl rfl rfl (by decide +kernel) ⟨Nat.le_of_ble_eq_true rfl, Nat.le_of_ble_eq_true rfl⟩) hKb hP hD hS hA 209 w_tp rfl hl.1 rfl rfl (Nat.le_of_ble_eq_true rfl) ⟨Nat.le_of_ble_eq_true rfl, Nat.le_of_ble_eq_true rfl⟩ dL_areTasksRight_410 (fun r _ H locs hw hP hD hS => ?_)
                                                      obtain rfl : r = (nI q4) := hw.trans c4
                                                      refine lv_iconst (v := 0) hx hb dL_areTasksRight_413 (by decide) ?_
                                                      refine x_Vi (As := [.int (nI q4), .int 0]) (rest0 := []) ⟨hx, hb, hml, hown, hts⟩ (c_X8_ofScope l D cA ad (tr ++ [(cN, .boolean)]) R118 H.size τ pd π bd tp ρ h102 (nI q4) 0 (nI_pos (by omega)) (by rw [h.1.1.2.2.2.1]; exact (nI_ltI (by omega) (by omega)).mpr (by omega)) (by decide) (by decide)) (cwV 2 hts gl_areTasksRight_X8_ofScope rfl rfl rfl (by decide +kernel) ⟨Nat.le_of_ble_eq_true rfl, Nat.le_of_ble_eq_true rfl⟩) hKb hP hD hS hA 209 w_tp rfl hl.1 rfl rfl (Nat.le_of_ble_eq_true rfl) ⟨Nat.le_of_ble_eq_true rfl, Nat.le_of_ble_eq_true rfl⟩ dL_areTasksRight_414 (fun r _ H locs hw hP hD hS => ?_)
                                                      obtain rfl : r = (nI o4) := hw.trans s0
                                                      refine lv_iload hx hb dL_areTasksRight_417 (lv_at hl 9 rfl) ?_
                                                      refine lv_icmp_ge (tgt := 444) hx hb dL_areTasksRight_419 (by decide) (fun c_419_146 => ?_) (fun c_419_146 => ?_)
                                                      · exact absurd ((nI_leI (a := k) (b := o4) (by omega) (by omega)).mp c_419_146) (by omega)
                                                      · skip
                                                        refine lv_aload_n hx hb dL_areTasksRight_422 rfl (lv_at hl 4 rfl) ?_
                                                        refine lv_aload_n hx hb dL_areTasksRight_423 rfl (lv_at hl 4 rfl) ?_
                                                        refine lv_iload hx hb dL_areTasksRight_424 (lv_at hl 9 rfl) ?_
                                                        refine lv_iconst (v := 4) hx hb dL_areTasksRight_426 (by decide) ?_
                                                        refine x_Vi (As := [.int (nI k), .int 4]) (rest0 := [.ref tp]) ⟨hx, hb, hml, hown, hts⟩ (c_X8_ofTask l D cA ad (tr ++ [(cN, .boolean)]) R118 H.size τ pd π bd tp ρ h102 (nI k) 4 (nI_pos (by omega)) (by rw [h.1.1.2.2.1]; exact (nI_ltI (by omega) (by omega)).mpr (by omega)) (by decide) (by decide)) (cwV 2 hts gl_areTasksRight_X8_ofTask rfl rfl rfl (by decide +kernel) ⟨Nat.le_of_ble_eq_true rfl, Nat.le_of_ble_eq_true rfl⟩) hKb hP hD hS hA 209 w_tp rfl hl.1 rfl rfl (Nat.le_of_ble_eq_true rfl) ⟨Nat.le_of_ble_eq_true rfl, Nat.le_of_ble_eq_true rfl⟩ dL_areTasksRight_427 (fun r _ H locs hw hP hD hS => ?_)
                                                        obtain rfl : r = (nI q4) := hw.trans c4
                                                        refine lv_iconst (v := 1) hx hb dL_areTasksRight_430 (by decide) ?_
                                                        refine x_Vi (As := [.int (nI q4), .int 1]) (rest0 := []) ⟨hx, hb, hml, hown, hts⟩ (c_X8_ofScope l D cA ad (tr ++ [(cN, .boolean)]) R118 H.size τ pd π bd tp ρ h102 (nI q4) 1 (nI_pos (by omega)) (by rw [h.1.1.2.2.2.1]; exact (nI_ltI (by omega) (by omega)).mpr (by omega)) (by decide) (by decide)) (cwV 2 hts gl_areTasksRight_X8_ofScope rfl rfl rfl (by decide +kernel) ⟨Nat.le_of_ble_eq_true rfl, Nat.le_of_ble_eq_true rfl⟩) hKb hP hD hS hA 209 w_tp rfl hl.1 rfl rfl (Nat.le_of_ble_eq_true rfl) ⟨Nat.le_of_ble_eq_true rfl, Nat.le_of_ble_eq_true rfl⟩ dL_areTasksRight_431 (fun r _ H locs hw hP hD hS => ?_)
                                                        obtain rfl : r = 1 := hw.trans s1
                                                        refine lv_iconst (v := 2) hx hb dL_areTasksRight_434 (by decide) ?_
                                                        refine lv_icmp_ne (tgt := 446) hx hb dL_areTasksRight_435 (by decide) (fun c_435_147 => ?_) (fun c_435_147 => ?_)
                                                        · skip
                                                          refine lv_iinc (v := (nI (k + 1))) (lv' := [(5, .int (nI (k + 1))), (9, .int (nI l9)), (8, .int 1), (7, .int (-1)), (6, .int 1), (0, .ref tp), (1, .ref oq), (2, .ref q1), (3, .ref q3), (4, .ref q5)]) hx hb dL_areTasksRight_446 hl (k := 9) rfl (show (nI k) + 1 = (nI (k + 1)) from nI_1 k) (by decide) rfl (fun ls hl => ?_)
                                                          refine lv_goto (tgt := 107) hx hb dL_areTasksRight_449 (by decide) ?_
                                                          exact ih n (Nat.lt_succ_self n) H locs ls ⟨(k + 1), f117, g, R118, ⟨by omega, st_upd e0 (by decide) hf ef117, hg.up, eR118⟩, hP, hD, hS, lv_sub hl [5, 6, 7, 8, 9, 0] rfl⟩
                                                        · exact absurd c_435_147 (by decide)
                                                  · exact absurd ((nI_ltI (a := q4) (b := S) (by omega) (by omega)).mpr (by omega)) c_390_144
                                                · exact absurd hal (hv2 rfl)
                                          · exact absurd c_348_136 (by decide)
                                        · exact absurd c_340_135 (by decide)
                                · exact absurd c_287_131 (by decide)
                              · exact absurd c_259_130 (by decide)
                          · exact absurd c_245_128 (by decide)
                        · exact absurd ((nI_leI (a := 0) (b := l9) (by omega) (by omega)).mpr (by omega)) c_234_127
                · exact absurd c_198_123 (by decide)
          · exact absurd c_175_120 (by decide)
        · exact absurd c_165_119 (by decide)
      · skip
        rw [ww] at c8
        have hw13 : f43 13 = 2 := hwt 13 (by decide)
        rw [kk] at hf0
        refine lv_aload_n hx hb dL_areTasksRight_117 rfl (lv_at hl 0 rfl) ?_
        refine lv_iload hx hb dL_areTasksRight_118 (lv_at hl 5 rfl) ?_
        refine lv_iconst (v := 1) hx hb dL_areTasksRight_120 (by decide) ?_
        refine x_Vi (As := [.int (nI k), .int 1]) (rest0 := []) ⟨hx, hb, hml, hown, hts⟩ (c_X8_ofTask l D cA ad (tr ++ [(cN, .boolean)]) R45 H.size τ pd π bd tp ρ h102 (nI k) 1 (nI_pos (by omega)) (by rw [h.1.1.2.2.1]; exact (nI_ltI (by omega) (by omega)).mpr (by omega)) (by decide) (by decide)) (cwV 2 hts gl_areTasksRight_X8_ofTask rfl rfl rfl (by decide +kernel) ⟨Nat.le_of_ble_eq_true rfl, Nat.le_of_ble_eq_true rfl⟩) hKb hP hD hS hA 209 w_tp rfl hl.1 rfl rfl (Nat.le_of_ble_eq_true rfl) ⟨Nat.le_of_ble_eq_true rfl, Nat.le_of_ble_eq_true rfl⟩ dL_areTasksRight_121 (fun r _ H locs hw hP hD hS => ?_)
        obtain rfl : r = 1 := hw.trans c1
        refine lv_istore (lv' := [(6, .int 1), (0, .ref tp), (1, .ref oq), (2, .ref q1), (3, .ref q3), (4, .ref q5), (5, .int (nI k))]) hx hb dL_areTasksRight_124 hl (by decide) rfl (fun ls hl => ?_)
        refine lv_aload_n hx hb dL_areTasksRight_126 rfl (lv_at hl 1 rfl) ?_
        refine lv_iload hx hb dL_areTasksRight_127 (lv_at hl 6 rfl) ?_
        refine lv_bipush (v := 6) hx hb dL_areTasksRight_129 (by decide) ?_
        refine x_Vi (As := [.int (nI k), .int 6]) (rest0 := []) ⟨hx, hb, hml, hown, hts⟩ (c_X8_ofTask l D cA ad (tr ++ [(cN, .boolean)]) R45 H.size τ pd π bd tp ρ h102 (nI k) 6 (nI_pos (by omega)) (by rw [h.1.1.2.2.1]; exact (nI_ltI (by omega) (by omega)).mpr (by omega)) (by decide) (by decide)) (cwV 2 hts gl_areTasksRight_X8_ofTask rfl rfl rfl (by decide +kernel) ⟨Nat.le_of_ble_eq_true rfl, Nat.le_of_ble_eq_true rfl⟩) hKb hP hD hS hA 209 w_tp rfl hl.1 rfl rfl (Nat.le_of_ble_eq_true rfl) ⟨Nat.le_of_ble_eq_true rfl, Nat.le_of_ble_eq_true rfl⟩ dL_areTasksRight_131 (fun r _ H locs hw hP hD hS => ?_)
        obtain rfl : r = (-1) := hw.trans c6
        refine lv_istore (lv' := [(7, .int (-1)), (6, .int 1), (0, .ref tp), (1, .ref oq), (2, .ref q1), (3, .ref q3), (4, .ref q5), (5, .int (nI k))]) hx hb dL_areTasksRight_134 hl (by decide) rfl (fun ls hl => ?_)
        refine lv_aload_n hx hb dL_areTasksRight_136 rfl (lv_at hl 2 rfl) ?_
        refine lv_iload hx hb dL_areTasksRight_137 (lv_at hl 7 rfl) ?_
        refine lv_bipush (v := 8) hx hb dL_areTasksRight_139 (by decide) ?_
        refine x_Vi (As := [.int (nI k), .int 8]) (rest0 := []) ⟨hx, hb, hml, hown, hts⟩ (c_X8_ofTask l D cA ad (tr ++ [(cN, .boolean)]) R45 H.size τ pd π bd tp ρ h102 (nI k) 8 (nI_pos (by omega)) (by rw [h.1.1.2.2.1]; exact (nI_ltI (by omega) (by omega)).mpr (by omega)) (by decide) (by decide)) (cwV 2 hts gl_areTasksRight_X8_ofTask rfl rfl rfl (by decide +kernel) ⟨Nat.le_of_ble_eq_true rfl, Nat.le_of_ble_eq_true rfl⟩) hKb hP hD hS hA 209 w_tp rfl hl.1 rfl rfl (Nat.le_of_ble_eq_true rfl) ⟨Nat.le_of_ble_eq_true rfl, Nat.le_of_ble_eq_true rfl⟩ dL_areTasksRight_141 (fun r _ H locs hw hP hD hS => ?_)
        obtain rfl : r = 2 := hw.trans c8
        refine lv_istore (lv' := [(8, .int 2), (7, .int (-1)), (6, .int 1), (0, .ref tp), (1, .ref oq), (2, .ref q1), (3, .ref q3), (4, .ref q5), (5, .int (nI k))]) hx hb dL_areTasksRight_144 hl (by decide) rfl (fun ls hl => ?_)
        refine lv_aload_n hx hb dL_areTasksRight_146 rfl (lv_at hl 3 rfl) ?_
        refine lv_iload hx hb dL_areTasksRight_147 (lv_at hl 8 rfl) ?_
        refine lv_iconst (v := 2) hx hb dL_areTasksRight_149 (by decide) ?_
        refine x_Vi (As := [.int (nI k), .int 2]) (rest0 := []) ⟨hx, hb, hml, hown, hts⟩ (c_X8_ofTask l D cA ad (tr ++ [(cN, .boolean)]) R45 H.size τ pd π bd tp ρ h102 (nI k) 2 (nI_pos (by omega)) (by rw [h.1.1.2.2.1]; exact (nI_ltI (by omega) (by omega)).mpr (by omega)) (by decide) (by decide)) (cwV 2 hts gl_areTasksRight_X8_ofTask rfl rfl rfl (by decide +kernel) ⟨Nat.le_of_ble_eq_true rfl, Nat.le_of_ble_eq_true rfl⟩) hKb hP hD hS hA 209 w_tp rfl hl.1 rfl rfl (Nat.le_of_ble_eq_true rfl) ⟨Nat.le_of_ble_eq_true rfl, Nat.le_of_ble_eq_true rfl⟩ dL_areTasksRight_150 (fun r _ H locs hw hP hD hS => ?_)
        obtain rfl : r = (nI l9) := hw.trans c2
        refine lv_istore (lv' := [(9, .int (nI l9)), (8, .int 2), (7, .int (-1)), (6, .int 1), (0, .ref tp), (1, .ref oq), (2, .ref q1), (3, .ref q3), (4, .ref q5), (5, .int (nI k))]) hx hb dL_areTasksRight_153 hl (by decide) rfl (fun ls hl => ?_)
        refine lv_aload_n hx hb dL_areTasksRight_155 rfl (lv_at hl 6 rfl) ?_
        refine lv_iload hx hb dL_areTasksRight_156 (lv_at hl 3 rfl) ?_
        refine lv_dup2_11 hx hb dL_areTasksRight_158 rfl rfl ?_
        refine va_iald hx hb hKb hP (0 + rest.length + 210) (0) (wNewR eR45 rfl) rfl (by unfold vp_in; decide) dL_areTasksRight_159 ?_
        refine W.eq (g2 := F0 m 160 ls [.int (nI (cnt (m_isIn τ (nI 1)) k)), .int 1, .ref q1]) (by show F0 m _ ls (.int (f 1) :: _) = _; rw [hf 1 (by decide)]) ?_
        refine lv_iconst (v := 1) hx hb dL_areTasksRight_160 (by decide) ?_
        refine lv_iadd hx hb dL_areTasksRight_161 ?_
        refine W.eq (g2 := F0 m 162 ls [.int (nI ((cnt (m_isIn τ (nI 1)) k) + 1)), .int 1, .ref q1]) (by rw [show ((nI (cnt (m_isIn τ (nI 1)) k)) : Int32) + 1 = (nI ((cnt (m_isIn τ (nI 1)) k) + 1)) from nI_add (cnt (m_isIn τ (nI 1)) k) 1]) ?_
        refine va_iast hx hb hKb hP hD hS (0 + rest.length + 210) (0) (wNewR eR45 rfl) rfl (by unfold vp_in; decide) dL_areTasksRight_162 (fun H locs hP hD hS => ?_)
        rw [wNewSR eR45] at hP hD
        obtain ⟨f148, ef148⟩ : ∃ z : Nat → Int32, z = upd f 1 (nI ((cnt (m_isIn τ (nI 1)) k) + 1)) := ⟨_, rfl⟩
        obtain ⟨R149, eR149⟩ : ∃ z : va_W, z = rest ++ [(q1, .inl (cA 0, 5, .inl f148)), (q3, .inl (cN, 24, .inl g)), (q5, .inl (cA 0, 19, .inl f43))] := ⟨_, rfl⟩
        have hP : va_P D vwCl (wB cA ad τ ++ (wPg cA ad pd π ++ (wB cA bd ρ ++ ((tp, .inr (8, tpF ad bd)) :: R149)))) H := by rw [eR149, ef148]; exact hP
        have hD : va_D A (wB cA ad τ ++ (wPg cA ad pd π ++ (wB cA bd ρ ++ ((tp, .inr (8, tpF ad bd)) :: R149)))) := by rw [eR149, ef148]; exact hD
        refine lv_iload hx hb dL_areTasksRight_163 (lv_at hl 2 rfl) ?_
        refine lv_if_lt (tgt := 172) hx hb dL_areTasksRight_165 (by decide) (fun c_165_150 => ?_) (fun c_165_150 => ?_)
        · skip
          refine lv_iconst (v := 0) hx hb dL_areTasksRight_172 (by decide) ?_
          refine lv_iload hx hb dL_areTasksRight_173 (lv_at hl 3 rfl) ?_
          refine lv_if_ne (tgt := 182) hx hb dL_areTasksRight_175 (by decide) (fun c_175_151 => ?_) (fun c_175_151 => ?_)
          · skip
            refine lv_iconst (v := 0) hx hb dL_areTasksRight_182 (by decide) ?_
            refine lv_icmp_ne (tgt := 283) hx hb dL_areTasksRight_183 (by decide) (fun c_183_152 => ?_) (fun c_183_152 => ?_)
            · exact absurd c_183_152 (by decide)
            · skip
              refine lv_iload hx hb dL_areTasksRight_186 (lv_at hl 2 rfl) ?_
              refine lv_aload_n hx hb dL_areTasksRight_188 rfl (lv_at hl 4 rfl) ?_
              refine lv_iconst (v := 2) hx hb dL_areTasksRight_189 (by decide) ?_
              refine x_Vi (As := [.int 2]) (rest0 := [.int (-1)]) ⟨hx, hb, hml, hown, hts⟩ (c_X8_many l D cA ad (tr ++ [(cN, .boolean)]) R149 H.size τ pd π bd tp ρ h102 2 (by decide) (by decide)) (cwV 1 hts gl_areTasksRight_X8_many rfl rfl rfl (by decide +kernel) ⟨Nat.le_of_ble_eq_true rfl, Nat.le_of_ble_eq_true rfl⟩) hKb hP hD hS hA 209 w_tp rfl hl.1 rfl rfl (Nat.le_of_ble_eq_true rfl) ⟨Nat.le_of_ble_eq_true rfl, Nat.le_of_ble_eq_true rfl⟩ dL_areTasksRight_190 (fun r _ H locs hw hP hD hS => ?_)
              obtain rfl : r = (nI L.length) := hw.trans ((many_st h.1.1).1.trans (congrArg nI (ready_len hL h.1.1)))
              refine lv_icmp_ge (tgt := 283) hx hb dL_areTasksRight_193 (by decide) (fun c_193_153 => ?_) (fun c_193_153 => ?_)
              · exact absurd c_193_153 (n1_nle (b := L.length) (by omega))
              · skip
                refine lv_iload hx hb dL_areTasksRight_196 (lv_at hl 2 rfl) ?_
                refine lv_if_lt (tgt := 208) hx hb dL_areTasksRight_198 (by decide) (fun c_198_154 => ?_) (fun c_198_154 => ?_)
                · skip
                  refine lv_iload hx hb dL_areTasksRight_208 (lv_at hl 1 rfl) ?_
                  refine lv_if_le (tgt := 217) hx hb dL_areTasksRight_210 (by decide) (fun c_210_155 => ?_) (fun c_210_155 => ?_)
                  · exact absurd c_210_155 (by decide)
                  · skip
                    refine lv_iconst (v := 1) hx hb dL_areTasksRight_213 (by decide) ?_
                    refine lv_goto (tgt := 218) hx hb dL_areTasksRight_214 (by decide) ?_
                    refine lv_iload hx hb dL_areTasksRight_218 (lv_at hl 3 rfl) ?_
                    refine lv_iconst (v := 1) hx hb dL_areTasksRight_220 (by decide) ?_
                    refine lv_icmp_ne (tgt := 228) hx hb dL_areTasksRight_221 (by decide) (fun c_221_156 => ?_) (fun c_221_156 => ?_)
                    · exact absurd c_221_156 (by decide)
                    · skip
                      refine lv_iconst (v := 1) hx hb dL_areTasksRight_224 (by decide) ?_
                      refine lv_goto (tgt := 229) hx hb dL_areTasksRight_225 (by decide) ?_
                      refine lv_icmp_ne (tgt := 283) hx hb dL_areTasksRight_229 (by decide) (fun c_229_157 => ?_) (fun c_229_157 => ?_)
                      · exact absurd c_229_157 (by decide)
                      · skip
                        refine lv_iload hx hb dL_areTasksRight_232 (lv_at hl 0 rfl) ?_
                        refine lv_if_ge (tgt := 241) hx hb dL_areTasksRight_234 (by decide) (fun c_234_158 => ?_) (fun c_234_158 => ?_)
                        · skip
                          refine lv_iconst (v := 0) hx hb dL_areTasksRight_241 (by decide) ?_
                          refine lv_iload hx hb dL_areTasksRight_242 (lv_at hl 3 rfl) ?_
                          refine lv_iconst (v := 1) hx hb dL_areTasksRight_244 (by decide) ?_
                          refine lv_icmp_le (tgt := 252) hx hb dL_areTasksRight_245 (by decide) (fun c_245_159 => ?_) (fun c_245_159 => ?_)
                          · skip
                            refine lv_iconst (v := 0) hx hb dL_areTasksRight_252 (by decide) ?_
                            refine lv_icmp_ne (tgt := 283) hx hb dL_areTasksRight_253 (by decide) (fun c_253_160 => ?_) (fun c_253_160 => ?_)
                            · exact absurd c_253_160 (by decide)
                            · skip
                              refine lv_iload hx hb dL_areTasksRight_256 (lv_at hl 3 rfl) ?_
                              refine lv_iconst (v := 1) hx hb dL_areTasksRight_258 (by decide) ?_
                              refine lv_icmp_le (tgt := 285) hx hb dL_areTasksRight_259 (by decide) (fun c_259_161 => ?_) (fun c_259_161 => ?_)
                              · skip
                                refine lv_iload hx hb dL_areTasksRight_285 (lv_at hl 2 rfl) ?_
                                refine lv_if_lt (tgt := 295) hx hb dL_areTasksRight_287 (by decide) (fun c_287_162 => ?_) (fun c_287_162 => ?_)
                                · skip
                                  refine lv_iload hx hb dL_areTasksRight_295 (lv_at hl 1 rfl) ?_
                                  refine lv_if_le (tgt := 345) hx hb dL_areTasksRight_297 (by decide) (fun c_297_163 => ?_) (fun c_297_163 => ?_)
                                  · exact absurd c_297_163 (by decide)
                                  · skip
                                    refine lv_iload hx hb dL_areTasksRight_300 (lv_at hl 1 rfl) ?_
                                    refine lv_iconst (v := 5) hx hb dL_areTasksRight_302 (by decide) ?_
                                    refine lv_icmp_ge (tgt := 345) hx hb dL_areTasksRight_303 (by decide) (fun c_303_164 => ?_) (fun c_303_164 => ?_)
                                    · exact absurd c_303_164 (by decide)
                                    · skip
                                      refine lv_aload_n hx hb dL_areTasksRight_306 rfl (lv_at hl 4 rfl) ?_
                                      refine lv_iload hx hb dL_areTasksRight_307 (lv_at hl 9 rfl) ?_
                                      refine lv_bipush (v := 7) hx hb dL_areTasksRight_309 (by decide) ?_
                                      refine x_Vi (As := [.int (nI k), .int 7]) (rest0 := []) ⟨hx, hb, hml, hown, hts⟩ (c_X8_ofTask l D cA ad (tr ++ [(cN, .boolean)]) R149 H.size τ pd π bd tp ρ h102 (nI k) 7 (nI_pos (by omega)) (by rw [h.1.1.2.2.1]; exact (nI_ltI (by omega) (by omega)).mpr (by omega)) (by decide) (by decide)) (cwV 2 hts gl_areTasksRight_X8_ofTask rfl rfl rfl (by decide +kernel) ⟨Nat.le_of_ble_eq_true rfl, Nat.le_of_ble_eq_true rfl⟩) hKb hP hD hS hA 209 w_tp rfl hl.1 rfl rfl (Nat.le_of_ble_eq_true rfl) ⟨Nat.le_of_ble_eq_true rfl, Nat.le_of_ble_eq_true rfl⟩ dL_areTasksRight_311 (fun r _ H locs hw hP hD hS => ?_)
                                      obtain rfl : r = 0 := hw.trans c7
                                      refine lv_iconst (v := 1) hx hb dL_areTasksRight_314 (by decide) ?_
                                      refine lv_icmp_eq (tgt := 343) hx hb dL_areTasksRight_315 (by decide) (fun c_315_165 => ?_) (fun c_315_165 => ?_)
                                      · exact absurd c_315_165 (by decide)
                                      · skip
                                        refine lv_aload hx hb dL_areTasksRight_318 (lv_at hl 8 rfl) ?_
                                        refine lv_aload_n hx hb dL_areTasksRight_320 rfl (lv_at hl 5 rfl) ?_
                                        refine va_getN (D := D) (C := RX9) (T := TX9) (N := 3) (ci := 9) (host := RL) hx hb hts nl_areTasksRight_X9 hown hKb hP (0 + 210) (wOldR eR149 (own0 hR)) rfl 0 (by decide) (va_Nw.use rfl hN) (fun _ h => h) rfl dL_areTasksRight_321 ?_
                                        refine lv_aload_n hx hb dL_areTasksRight_324 rfl (lv_at hl 4 rfl) ?_
                                        refine lv_iload hx hb dL_areTasksRight_325 (lv_at hl 9 rfl) ?_
                                        refine lv_iconst (v := 0) hx hb dL_areTasksRight_327 (by decide) ?_
                                        refine x_Vi (As := [.int (nI k), .int 0]) (rest0 := [.ref la, .ref q5]) ⟨hx, hb, hml, hown, hts⟩ (c_X8_ofTask l D cA ad (tr ++ [(cN, .boolean)]) R149 H.size τ pd π bd tp ρ h102 (nI k) 0 (nI_pos (by omega)) (by rw [h.1.1.2.2.1]; exact (nI_ltI (by omega) (by omega)).mpr (by omega)) (by decide) (by decide)) (cwV 2 hts gl_areTasksRight_X8_ofTask rfl rfl rfl (by decide +kernel) ⟨Nat.le_of_ble_eq_true rfl, Nat.le_of_ble_eq_true rfl⟩) hKb hP hD hS hA 209 w_tp rfl hl.1 rfl rfl (Nat.le_of_ble_eq_true rfl) ⟨Nat.le_of_ble_eq_true rfl, Nat.le_of_ble_eq_true rfl⟩ dL_areTasksRight_328 (fun r _ H locs hw hP hD hS => ?_)
                                        obtain rfl : r = (nI b9) := hw.trans c0
                                        refine va_aldr hx hb hKb hP (1 + 210) (j3 + 5) (wOldR eR149 (own1 hR)) (ty_old ht3) (vp_in_nI (by omega) (by omega)) dL_areTasksRight_331 ?_
                                        refine W.eq (g2 := F0 m 332 ls [.ref (lb b9), .ref q5]) (by rw [nI_clamp (show b9 < 2 ^ 31 by omega)]; show F0 m _ ls (va_rf (rf8 lb b9) :: _) = _; rw [rf8_at b8]; rfl) ?_
                                        refine lv_iload hx hb dL_areTasksRight_332 (lv_at hl 0 rfl) ?_
                                        refine va_aldr hx hb hKb hP (b9 + 2 + 210) (j2 + 5) (wOldR eR149 (ownI hR b8)) (ty_old ht2) (vp_in_nI (by omega) (by omega)) dL_areTasksRight_334 ?_
                                        refine W.eq (g2 := F0 m 335 ls [.ref q9, .ref q5]) (by rw [nI_clamp (show l9 < 2 ^ 31 by omega), hLA]; rfl) ?_
                                        refine lv_iconst (v := 0) hx hb dL_areTasksRight_335 (by decide) ?_
                                        refine va_iald hx hb hKb hP (kq + 11 + 210) 0 (wOldR eR149 (ownR hR hkq)) rfl (by unfold vp_in; decide) dL_areTasksRight_336 ?_
                                        refine W.eq (g2 := F0 m 337 ls [.int 13, .ref q5]) (by show F0 m _ ls (.int (fq 0) :: _) = _; rw [hf0]) ?_
                                        refine va_iald hx hb hKb hP (2 + rest.length + 210) (0) (wNewR eR149 rfl) rfl (by unfold vp_in; decide) dL_areTasksRight_337 ?_
                                        refine W.eq (g2 := F0 m 338 ls [.int 2]) (by show F0 m _ ls (.int (f43 13) :: _) = _; rw [hw13]) ?_
                                        refine lv_iload hx hb dL_areTasksRight_338 (lv_at hl 1 rfl) ?_
                                        refine lv_icmp_eq (tgt := 345) hx hb dL_areTasksRight_340 (by decide) (fun c_340_166 => ?_) (fun c_340_166 => ?_)
                                        · skip
                                          refine lv_iload hx hb dL_areTasksRight_345 (lv_at hl 1 rfl) ?_
                                          refine lv_iconst (v := 5) hx hb dL_areTasksRight_347 (by decide) ?_
                                          refine lv_icmp_ne (tgt := 361) hx hb dL_areTasksRight_348 (by decide) (fun c_348_167 => ?_) (fun c_348_167 => ?_)
                                          · skip
                                            have hb9 : bnd (τ (k + 6) 5) := by have := task_there hB hk24; rwa [aT3 hk24] at this
                                            refine lv_aload_n hx hb dL_areTasksRight_361 rfl (lv_at hl 4 rfl) ?_
                                            refine lv_iload hx hb dL_areTasksRight_362 (lv_at hl 9 rfl) ?_
                                            refine lv_iconst (v := 3) hx hb dL_areTasksRight_364 (by decide) ?_
                                            refine x_Vi (As := [.int (nI k), .int 3]) (rest0 := []) ⟨hx, hb, hml, hown, hts⟩ (c_X8_ofTask l D cA ad (tr ++ [(cN, .boolean)]) R149 H.size τ pd π bd tp ρ h102 (nI k) 3 (nI_pos (by omega)) (by rw [h.1.1.2.2.1]; exact (nI_ltI (by omega) (by omega)).mpr (by omega)) (by decide) (by decide)) (cwV 2 hts gl_areTasksRight_X8_ofTask rfl rfl rfl (by decide +kernel) ⟨Nat.le_of_ble_eq_true rfl, Nat.le_of_ble_eq_true rfl⟩) hKb hP hD hS hA 209 w_tp rfl hl.1 rfl rfl (Nat.le_of_ble_eq_true rfl) ⟨Nat.le_of_ble_eq_true rfl, Nat.le_of_ble_eq_true rfl⟩ dL_areTasksRight_365 (fun r _ H locs hw hP hD hS => ?_)
                                            obtain rfl : r = (τ (k + 6) 5) := hw.trans (aT3 (by omega))
                                            refine va_mabs (rest := []) hx hb (hml.trans hl.1.symm) hown (hts (.methodLink RL 103 Lib.Math.abs.name) (by decide +kernel)) (hts (.static Lib.Math.abs.name) (by decide +kernel)) (hts (.initialized "java/lang/Math") (by decide +kernel)) (hts (.code Lib.Math.abs.name Lib.Math.abs.code 1 (some .int)) (by decide +kernel)) (Nat.le_of_ble_eq_true rfl) (Nat.le_of_ble_eq_true rfl) (Nat.le_of_ble_eq_true rfl) (Nat.le_of_ble_eq_true rfl) dL_areTasksRight_368 ?_
                                            refine lv_sipush (v := 9999) hx hb dL_areTasksRight_371 (by decide) ?_
                                            refine lv_icmp_gt (tgt := 393) hx hb dL_areTasksRight_374 (by decide) (fun c_374_168 => ?_) (fun c_374_168 => ?_)
                                            · exact absurd c_374_168 (abs_bnd hb9)
                                            · skip
                                              rcases task_in h hk with c4 | ⟨q4, hq4, c4, ⟨o4, ho4, s0⟩, v4, hv4, s1, hv2⟩
                                              · skip
                                                refine lv_aload_n hx hb dL_areTasksRight_377 rfl (lv_at hl 4 rfl) ?_
                                                refine lv_iload hx hb dL_areTasksRight_378 (lv_at hl 9 rfl) ?_
                                                refine lv_iconst (v := 4) hx hb dL_areTasksRight_380 (by decide) ?_
                                                refine x_Vi (As := [.int (nI k), .int 4]) (rest0 := []) ⟨hx, hb, hml, hown, hts⟩ (c_X8_ofTask l D cA ad (tr ++ [(cN, .boolean)]) R149 H.size τ pd π bd tp ρ h102 (nI k) 4 (nI_pos (by omega)) (by rw [h.1.1.2.2.1]; exact (nI_ltI (by omega) (by omega)).mpr (by omega)) (by decide) (by decide)) (cwV 2 hts gl_areTasksRight_X8_ofTask rfl rfl rfl (by decide +kernel) ⟨Nat.le_of_ble_eq_true rfl, Nat.le_of_ble_eq_true rfl⟩) hKb hP hD hS hA 209 w_tp rfl hl.1 rfl rfl (Nat.le_of_ble_eq_true rfl) ⟨Nat.le_of_ble_eq_true rfl, Nat.le_of_ble_eq_true rfl⟩ dL_areTasksRight_381 (fun r _ H locs hw hP hD hS => ?_)
                                                obtain rfl : r = (-1) := hw.trans c4
                                                refine lv_aload_n hx hb dL_areTasksRight_384 rfl (lv_at hl 4 rfl) ?_
                                                refine lv_bipush (v := 7) hx hb dL_areTasksRight_385 (by decide) ?_
                                                refine x_Vi (As := [.int 7]) (rest0 := [.int (-1)]) ⟨hx, hb, hml, hown, hts⟩ (c_X8_many l D cA ad (tr ++ [(cN, .boolean)]) R149 H.size τ pd π bd tp ρ h102 7 (by decide) (by decide)) (cwV 1 hts gl_areTasksRight_X8_many rfl rfl rfl (by decide +kernel) ⟨Nat.le_of_ble_eq_true rfl, Nat.le_of_ble_eq_true rfl⟩) hKb hP hD hS hA 209 w_tp rfl hl.1 rfl rfl (Nat.le_of_ble_eq_true rfl) ⟨Nat.le_of_ble_eq_true rfl, Nat.le_of_ble_eq_true rfl⟩ dL_areTasksRight_387 (fun r _ H locs hw hP hD hS => ?_)
                                                obtain rfl : r = (nI S) := hw.trans (many_7 h.1.1)
                                                refine lv_icmp_lt (tgt := 395) hx hb dL_areTasksRight_390 (by decide) (fun c_390_169 => ?_) (fun c_390_169 => ?_)
                                                · skip
                                                  refine lv_aload_n hx hb dL_areTasksRight_395 rfl (lv_at hl 4 rfl) ?_
                                                  refine lv_iload hx hb dL_areTasksRight_396 (lv_at hl 9 rfl) ?_
                                                  refine lv_iconst (v := 4) hx hb dL_areTasksRight_398 (by decide) ?_
                                                  refine x_Vi (As := [.int (nI k), .int 4]) (rest0 := []) ⟨hx, hb, hml, hown, hts⟩ (c_X8_ofTask l D cA ad (tr ++ [(cN, .boolean)]) R149 H.size τ pd π bd tp ρ h102 (nI k) 4 (nI_pos (by omega)) (by rw [h.1.1.2.2.1]; exact (nI_ltI (by omega) (by omega)).mpr (by omega)) (by decide) (by decide)) (cwV 2 hts gl_areTasksRight_X8_ofTask rfl rfl rfl (by decide +kernel) ⟨Nat.le_of_ble_eq_true rfl, Nat.le_of_ble_eq_true rfl⟩) hKb hP hD hS hA 209 w_tp rfl hl.1 rfl rfl (Nat.le_of_ble_eq_true rfl) ⟨Nat.le_of_ble_eq_true rfl, Nat.le_of_ble_eq_true rfl⟩ dL_areTasksRight_399 (fun r _ H locs hw hP hD hS => ?_)
                                                  obtain rfl : r = (-1) := hw.trans c4
                                                  refine lv_if_lt (tgt := 446) hx hb dL_areTasksRight_402 (by decide) (fun c_402_170 => ?_) (fun c_402_170 => ?_)
                                                  · skip
                                                    refine lv_iinc (v := (nI (k + 1))) (lv' := [(5, .int (nI (k + 1))), (9, .int (nI l9)), (8, .int 2), (7, .int (-1)), (6, .int 1), (0, .ref tp), (1, .ref oq), (2, .ref q1), (3, .ref q3), (4, .ref q5)]) hx hb dL_areTasksRight_446 hl (k := 9) rfl (show (nI k) + 1 = (nI (k + 1)) from nI_1 k) (by decide) rfl (fun ls hl => ?_)
                                                    refine lv_goto (tgt := 107) hx hb dL_areTasksRight_449 (by decide) ?_
                                                    exact ih n (Nat.lt_succ_self n) H locs ls ⟨(k + 1), f148, g, R149, ⟨by omega, st_upd e0 (by decide) hf ef148, hg.up, eR149⟩, hP, hD, hS, lv_sub hl [5, 6, 7, 8, 9, 0] rfl⟩
                                                  · exact absurd c_402_170 (by decide)
                                                · exact absurd (n1_lt (b := S) (by omega)) c_390_169
                                              · skip
                                                rcases (show v4 = 0 ∨ v4 = 1 ∨ v4 = 2 by omega) with e4 | e4 | e4 <;> subst e4
                                                · skip
                                                  refine lv_aload_n hx hb dL_areTasksRight_377 rfl (lv_at hl 4 rfl) ?_
                                                  refine lv_iload hx hb dL_areTasksRight_378 (lv_at hl 9 rfl) ?_
                                                  refine lv_iconst (v := 4) hx hb dL_areTasksRight_380 (by decide) ?_
                                                  refine x_Vi (As := [.int (nI k), .int 4]) (rest0 := []) ⟨hx, hb, hml, hown, hts⟩ (c_X8_ofTask l D cA ad (tr ++ [(cN, .boolean)]) R149 H.size τ pd π bd tp ρ h102 (nI k) 4 (nI_pos (by omega)) (by rw [h.1.1.2.2.1]; exact (nI_ltI (by omega) (by omega)).mpr (by omega)) (by decide) (by decide)) (cwV 2 hts gl_areTasksRight_X8_ofTask rfl rfl rfl (by decide +kernel) ⟨Nat.le_of_ble_eq_true rfl, Nat.le_of_ble_eq_true rfl⟩) hKb hP hD hS hA 209 w_tp rfl hl.1 rfl rfl (Nat.le_of_ble_eq_true rfl) ⟨Nat.le_of_ble_eq_true rfl, Nat.le_of_ble_eq_true rfl⟩ dL_areTasksRight_381 (fun r _ H locs hw hP hD hS => ?_)
                                                  obtain rfl : r = (nI q4) := hw.trans c4
                                                  refine lv_aload_n hx hb dL_areTasksRight_384 rfl (lv_at hl 4 rfl) ?_
                                                  refine lv_bipush (v := 7) hx hb dL_areTasksRight_385 (by decide) ?_
                                                  refine x_Vi (As := [.int 7]) (rest0 := [.int (nI q4)]) ⟨hx, hb, hml, hown, hts⟩ (c_X8_many l D cA ad (tr ++ [(cN, .boolean)]) R149 H.size τ pd π bd tp ρ h102 7 (by decide) (by decide)) (cwV 1 hts gl_areTasksRight_X8_many rfl rfl rfl (by decide +kernel) ⟨Nat.le_of_ble_eq_true rfl, Nat.le_of_ble_eq_true rfl⟩) hKb hP hD hS hA 209 w_tp rfl hl.1 rfl rfl (Nat.le_of_ble_eq_true rfl) ⟨Nat.le_of_ble_eq_true rfl, Nat.le_of_ble_eq_true rfl⟩ dL_areTasksRight_387 (fun r _ H locs hw hP hD hS => ?_)
                                                  obtain rfl : r = (nI S) := hw.trans (many_7 h.1.1)
                                                  refine lv_icmp_lt (tgt := 395) hx hb dL_areTasksRight_390 (by decide) (fun c_390_171 => ?_) (fun c_390_171 => ?_)
                                                  · skip
                                                    refine lv_aload_n hx hb dL_areTasksRight_395 rfl (lv_at hl 4 rfl) ?_
                                                    refine lv_iload hx hb dL_areTasksRight_396 (lv_at hl 9 rfl) ?_
                                                    refine lv_iconst (v := 4) hx hb dL_areTasksRight_398 (by decide) ?_
                                                    refine x_Vi (As := [.int (nI k), .int 4]) (rest0 := []) ⟨hx, hb, hml, hown, hts⟩ (c_X8_ofTask l D cA ad (tr ++ [(cN, .boolean)]) R149 H.size τ pd π bd tp ρ h102 (nI k) 4 (nI_pos (by omega)) (by rw [h.1.1.2.2.1]; exact (nI_ltI (by omega) (by omega)).mpr (by omega)) (by decide) (by decide)) (cwV 2 hts gl_areTasksRight_X8_ofTask rfl rfl rfl (by decide +kernel) ⟨Nat.le_of_ble_eq_true rfl, Nat.le_of_ble_eq_true rfl⟩) hKb hP hD hS hA 209 w_tp rfl hl.1 rfl rfl (Nat.le_of_ble_eq_true rfl) ⟨Nat.le_of_ble_eq_true rfl, Nat.le_of_ble_eq_true rfl⟩ dL_areTasksRight_399 (fun r _ H locs hw hP hD hS => ?_)
                                                    obtain rfl : r = (nI q4) := hw.trans c4
                                                    refine lv_if_lt (tgt := 446) hx hb dL_areTasksRight_402 (by decide) (fun c_402_172 => ?_) (fun c_402_172 => ?_)
                                                    · exact absurd ((nI_ltI (a := q4) (b := 0) (by omega) (by omega)).mp c_402_172) (by omega)
                                                    · skip
                                                      refine lv_aload_n hx hb dL_areTasksRight_405 rfl (lv_at hl 4 rfl) ?_
                                                      refine lv_aload_n hx hb dL_areTasksRight_406 rfl (lv_at hl 4 rfl) ?_
                                                      refine lv_iload hx hb dL_areTasksRight_407 (lv_at hl 9 rfl) ?_
                                                      refine lv_iconst (v := 4) hx hb dL_areTasksRight_409 (by decide) ?_
                                                      refine x_Vi (As := [.int (nI k), .int 4]) (rest0 := [.ref tp]) ⟨hx, hb, hml, hown, hts⟩ (c_X8_ofTask l D cA ad (tr ++ [(cN, .boolean)]) R149 H.size τ pd π bd tp ρ h102 (nI k) 4 (nI_pos (by omega)) (by rw [h.1.1.2.2.1]; exact (nI_ltI (by omega) (by omega)).mpr (by omega)) (by decide) (by decide)) (cwV 2 hts gl_areTasksRight_X8_ofTask rfl rfl rfl (by decide +kernel) ⟨Nat.le_of_ble_eq_true rfl, Nat.le_of_ble_eq_true rfl⟩) hKb hP hD hS hA 209 w_tp rfl hl.1 rfl rfl (Nat.le_of_ble_eq_true rfl) ⟨Nat.le_of_ble_eq_true rfl, Nat.le_of_ble_eq_true rfl⟩ dL_areTasksRight_410 (fun r _ H locs hw hP hD hS => ?_)
                                                      obtain rfl : r = (nI q4) := hw.trans c4
                                                      refine lv_iconst (v := 0) hx hb dL_areTasksRight_413 (by decide) ?_
                                                      refine x_Vi (As := [.int (nI q4), .int 0]) (rest0 := []) ⟨hx, hb, hml, hown, hts⟩ (c_X8_ofScope l D cA ad (tr ++ [(cN, .boolean)]) R149 H.size τ pd π bd tp ρ h102 (nI q4) 0 (nI_pos (by omega)) (by rw [h.1.1.2.2.2.1]; exact (nI_ltI (by omega) (by omega)).mpr (by omega)) (by decide) (by decide)) (cwV 2 hts gl_areTasksRight_X8_ofScope rfl rfl rfl (by decide +kernel) ⟨Nat.le_of_ble_eq_true rfl, Nat.le_of_ble_eq_true rfl⟩) hKb hP hD hS hA 209 w_tp rfl hl.1 rfl rfl (Nat.le_of_ble_eq_true rfl) ⟨Nat.le_of_ble_eq_true rfl, Nat.le_of_ble_eq_true rfl⟩ dL_areTasksRight_414 (fun r _ H locs hw hP hD hS => ?_)
                                                      obtain rfl : r = (nI o4) := hw.trans s0
                                                      refine lv_iload hx hb dL_areTasksRight_417 (lv_at hl 9 rfl) ?_
                                                      refine lv_icmp_ge (tgt := 444) hx hb dL_areTasksRight_419 (by decide) (fun c_419_173 => ?_) (fun c_419_173 => ?_)
                                                      · exact absurd ((nI_leI (a := k) (b := o4) (by omega) (by omega)).mp c_419_173) (by omega)
                                                      · skip
                                                        refine lv_aload_n hx hb dL_areTasksRight_422 rfl (lv_at hl 4 rfl) ?_
                                                        refine lv_aload_n hx hb dL_areTasksRight_423 rfl (lv_at hl 4 rfl) ?_
                                                        refine lv_iload hx hb dL_areTasksRight_424 (lv_at hl 9 rfl) ?_
                                                        refine lv_iconst (v := 4) hx hb dL_areTasksRight_426 (by decide) ?_
                                                        refine x_Vi (As := [.int (nI k), .int 4]) (rest0 := [.ref tp]) ⟨hx, hb, hml, hown, hts⟩ (c_X8_ofTask l D cA ad (tr ++ [(cN, .boolean)]) R149 H.size τ pd π bd tp ρ h102 (nI k) 4 (nI_pos (by omega)) (by rw [h.1.1.2.2.1]; exact (nI_ltI (by omega) (by omega)).mpr (by omega)) (by decide) (by decide)) (cwV 2 hts gl_areTasksRight_X8_ofTask rfl rfl rfl (by decide +kernel) ⟨Nat.le_of_ble_eq_true rfl, Nat.le_of_ble_eq_true rfl⟩) hKb hP hD hS hA 209 w_tp rfl hl.1 rfl rfl (Nat.le_of_ble_eq_true rfl) ⟨Nat.le_of_ble_eq_true rfl, Nat.le_of_ble_eq_true rfl⟩ dL_areTasksRight_427 (fun r _ H locs hw hP hD hS => ?_)
                                                        obtain rfl : r = (nI q4) := hw.trans c4
                                                        refine lv_iconst (v := 1) hx hb dL_areTasksRight_430 (by decide) ?_
                                                        refine x_Vi (As := [.int (nI q4), .int 1]) (rest0 := []) ⟨hx, hb, hml, hown, hts⟩ (c_X8_ofScope l D cA ad (tr ++ [(cN, .boolean)]) R149 H.size τ pd π bd tp ρ h102 (nI q4) 1 (nI_pos (by omega)) (by rw [h.1.1.2.2.2.1]; exact (nI_ltI (by omega) (by omega)).mpr (by omega)) (by decide) (by decide)) (cwV 2 hts gl_areTasksRight_X8_ofScope rfl rfl rfl (by decide +kernel) ⟨Nat.le_of_ble_eq_true rfl, Nat.le_of_ble_eq_true rfl⟩) hKb hP hD hS hA 209 w_tp rfl hl.1 rfl rfl (Nat.le_of_ble_eq_true rfl) ⟨Nat.le_of_ble_eq_true rfl, Nat.le_of_ble_eq_true rfl⟩ dL_areTasksRight_431 (fun r _ H locs hw hP hD hS => ?_)
                                                        obtain rfl : r = 0 := hw.trans s1
                                                        refine lv_iconst (v := 2) hx hb dL_areTasksRight_434 (by decide) ?_
                                                        refine lv_icmp_ne (tgt := 446) hx hb dL_areTasksRight_435 (by decide) (fun c_435_174 => ?_) (fun c_435_174 => ?_)
                                                        · skip
                                                          refine lv_iinc (v := (nI (k + 1))) (lv' := [(5, .int (nI (k + 1))), (9, .int (nI l9)), (8, .int 2), (7, .int (-1)), (6, .int 1), (0, .ref tp), (1, .ref oq), (2, .ref q1), (3, .ref q3), (4, .ref q5)]) hx hb dL_areTasksRight_446 hl (k := 9) rfl (show (nI k) + 1 = (nI (k + 1)) from nI_1 k) (by decide) rfl (fun ls hl => ?_)
                                                          refine lv_goto (tgt := 107) hx hb dL_areTasksRight_449 (by decide) ?_
                                                          exact ih n (Nat.lt_succ_self n) H locs ls ⟨(k + 1), f148, g, R149, ⟨by omega, st_upd e0 (by decide) hf ef148, hg.up, eR149⟩, hP, hD, hS, lv_sub hl [5, 6, 7, 8, 9, 0] rfl⟩
                                                        · exact absurd c_435_174 (by decide)
                                                  · exact absurd ((nI_ltI (a := q4) (b := S) (by omega) (by omega)).mpr (by omega)) c_390_171
                                                · skip
                                                  refine lv_aload_n hx hb dL_areTasksRight_377 rfl (lv_at hl 4 rfl) ?_
                                                  refine lv_iload hx hb dL_areTasksRight_378 (lv_at hl 9 rfl) ?_
                                                  refine lv_iconst (v := 4) hx hb dL_areTasksRight_380 (by decide) ?_
                                                  refine x_Vi (As := [.int (nI k), .int 4]) (rest0 := []) ⟨hx, hb, hml, hown, hts⟩ (c_X8_ofTask l D cA ad (tr ++ [(cN, .boolean)]) R149 H.size τ pd π bd tp ρ h102 (nI k) 4 (nI_pos (by omega)) (by rw [h.1.1.2.2.1]; exact (nI_ltI (by omega) (by omega)).mpr (by omega)) (by decide) (by decide)) (cwV 2 hts gl_areTasksRight_X8_ofTask rfl rfl rfl (by decide +kernel) ⟨Nat.le_of_ble_eq_true rfl, Nat.le_of_ble_eq_true rfl⟩) hKb hP hD hS hA 209 w_tp rfl hl.1 rfl rfl (Nat.le_of_ble_eq_true rfl) ⟨Nat.le_of_ble_eq_true rfl, Nat.le_of_ble_eq_true rfl⟩ dL_areTasksRight_381 (fun r _ H locs hw hP hD hS => ?_)
                                                  obtain rfl : r = (nI q4) := hw.trans c4
                                                  refine lv_aload_n hx hb dL_areTasksRight_384 rfl (lv_at hl 4 rfl) ?_
                                                  refine lv_bipush (v := 7) hx hb dL_areTasksRight_385 (by decide) ?_
                                                  refine x_Vi (As := [.int 7]) (rest0 := [.int (nI q4)]) ⟨hx, hb, hml, hown, hts⟩ (c_X8_many l D cA ad (tr ++ [(cN, .boolean)]) R149 H.size τ pd π bd tp ρ h102 7 (by decide) (by decide)) (cwV 1 hts gl_areTasksRight_X8_many rfl rfl rfl (by decide +kernel) ⟨Nat.le_of_ble_eq_true rfl, Nat.le_of_ble_eq_true rfl⟩) hKb hP hD hS hA 209 w_tp rfl hl.1 rfl rfl (Nat.le_of_ble_eq_true rfl) ⟨Nat.le_of_ble_eq_true rfl, Nat.le_of_ble_eq_true rfl⟩ dL_areTasksRight_387 (fun r _ H locs hw hP hD hS => ?_)
                                                  obtain rfl : r = (nI S) := hw.trans (many_7 h.1.1)
                                                  refine lv_icmp_lt (tgt := 395) hx hb dL_areTasksRight_390 (by decide) (fun c_390_175 => ?_) (fun c_390_175 => ?_)
                                                  · skip
                                                    refine lv_aload_n hx hb dL_areTasksRight_395 rfl (lv_at hl 4 rfl) ?_
                                                    refine lv_iload hx hb dL_areTasksRight_396 (lv_at hl 9 rfl) ?_
                                                    refine lv_iconst (v := 4) hx hb dL_areTasksRight_398 (by decide) ?_
                                                    refine x_Vi (As := [.int (nI k), .int 4]) (rest0 := []) ⟨hx, hb, hml, hown, hts⟩ (c_X8_ofTask l D cA ad (tr ++ [(cN, .boolean)]) R149 H.size τ pd π bd tp ρ h102 (nI k) 4 (nI_pos (by omega)) (by rw [h.1.1.2.2.1]; exact (nI_ltI (by omega) (by omega)).mpr (by omega)) (by decide) (by decide)) (cwV 2 hts gl_areTasksRight_X8_ofTask rfl rfl rfl (by decide +kernel) ⟨Nat.le_of_ble_eq_true rfl, Nat.le_of_ble_eq_true rfl⟩) hKb hP hD hS hA 209 w_tp rfl hl.1 rfl rfl (Nat.le_of_ble_eq_true rfl) ⟨Nat.le_of_ble_eq_true rfl, Nat.le_of_ble_eq_true rfl⟩ dL_areTasksRight_399 (fun r _ H locs hw hP hD hS => ?_)
                                                    obtain rfl : r = (nI q4) := hw.trans c4
                                                    refine lv_if_lt (tgt := 446) hx hb dL_areTasksRight_402 (by decide) (fun c_402_176 => ?_) (fun c_402_176 => ?_)
                                                    · exact absurd ((nI_ltI (a := q4) (b := 0) (by omega) (by omega)).mp c_402_176) (by omega)
                                                    · skip
                                                      refine lv_aload_n hx hb dL_areTasksRight_405 rfl (lv_at hl 4 rfl) ?_
                                                      refine lv_aload_n hx hb dL_areTasksRight_406 rfl (lv_at hl 4 rfl) ?_
                                                      refine lv_iload hx hb dL_areTasksRight_407 (lv_at hl 9 rfl) ?_
                                                      refine lv_iconst (v := 4) hx hb dL_areTasksRight_409 (by decide) ?_
                                                      refine x_Vi (As := [.int (nI k), .int 4]) (rest0 := [.ref tp]) ⟨hx, hb, hml, hown, hts⟩ (c_X8_ofTask l D cA ad (tr ++ [(cN, .boolean)]) R149 H.size τ pd π bd tp ρ h102 (nI k) 4 (nI_pos (by omega)) (by rw [h.1.1.2.2.1]; exact (nI_ltI (by omega) (by omega)).mpr (by omega)) (by decide) (by decide)) (cwV 2 hts gl_areTasksRight_X8_ofTask rfl rfl rfl (by decide +kernel) ⟨Nat.le_of_ble_eq_true rfl, Nat.le_of_ble_eq_true rfl⟩) hKb hP hD hS hA 209 w_tp rfl hl.1 rfl rfl (Nat.le_of_ble_eq_true rfl) ⟨Nat.le_of_ble_eq_true rfl, Nat.le_of_ble_eq_true rfl⟩ dL_areTasksRight_410 (fun r _ H locs hw hP hD hS => ?_)
                                                      obtain rfl : r = (nI q4) := hw.trans c4
                                                      refine lv_iconst (v := 0) hx hb dL_areTasksRight_413 (by decide) ?_
                                                      refine x_Vi (As := [.int (nI q4), .int 0]) (rest0 := []) ⟨hx, hb, hml, hown, hts⟩ (c_X8_ofScope l D cA ad (tr ++ [(cN, .boolean)]) R149 H.size τ pd π bd tp ρ h102 (nI q4) 0 (nI_pos (by omega)) (by rw [h.1.1.2.2.2.1]; exact (nI_ltI (by omega) (by omega)).mpr (by omega)) (by decide) (by decide)) (cwV 2 hts gl_areTasksRight_X8_ofScope rfl rfl rfl (by decide +kernel) ⟨Nat.le_of_ble_eq_true rfl, Nat.le_of_ble_eq_true rfl⟩) hKb hP hD hS hA 209 w_tp rfl hl.1 rfl rfl (Nat.le_of_ble_eq_true rfl) ⟨Nat.le_of_ble_eq_true rfl, Nat.le_of_ble_eq_true rfl⟩ dL_areTasksRight_414 (fun r _ H locs hw hP hD hS => ?_)
                                                      obtain rfl : r = (nI o4) := hw.trans s0
                                                      refine lv_iload hx hb dL_areTasksRight_417 (lv_at hl 9 rfl) ?_
                                                      refine lv_icmp_ge (tgt := 444) hx hb dL_areTasksRight_419 (by decide) (fun c_419_177 => ?_) (fun c_419_177 => ?_)
                                                      · exact absurd ((nI_leI (a := k) (b := o4) (by omega) (by omega)).mp c_419_177) (by omega)
                                                      · skip
                                                        refine lv_aload_n hx hb dL_areTasksRight_422 rfl (lv_at hl 4 rfl) ?_
                                                        refine lv_aload_n hx hb dL_areTasksRight_423 rfl (lv_at hl 4 rfl) ?_
                                                        refine lv_iload hx hb dL_areTasksRight_424 (lv_at hl 9 rfl) ?_
                                                        refine lv_iconst (v := 4) hx hb dL_areTasksRight_426 (by decide) ?_
                                                        refine x_Vi (As := [.int (nI k), .int 4]) (rest0 := [.ref tp]) ⟨hx, hb, hml, hown, hts⟩ (c_X8_ofTask l D cA ad (tr ++ [(cN, .boolean)]) R149 H.size τ pd π bd tp ρ h102 (nI k) 4 (nI_pos (by omega)) (by rw [h.1.1.2.2.1]; exact (nI_ltI (by omega) (by omega)).mpr (by omega)) (by decide) (by decide)) (cwV 2 hts gl_areTasksRight_X8_ofTask rfl rfl rfl (by decide +kernel) ⟨Nat.le_of_ble_eq_true rfl, Nat.le_of_ble_eq_true rfl⟩) hKb hP hD hS hA 209 w_tp rfl hl.1 rfl rfl (Nat.le_of_ble_eq_true rfl) ⟨Nat.le_of_ble_eq_true rfl, Nat.le_of_ble_eq_true rfl⟩ dL_areTasksRight_427 (fun r _ H locs hw hP hD hS => ?_)
                                                        obtain rfl : r = (nI q4) := hw.trans c4
                                                        refine lv_iconst (v := 1) hx hb dL_areTasksRight_430 (by decide) ?_
                                                        refine x_Vi (As := [.int (nI q4), .int 1]) (rest0 := []) ⟨hx, hb, hml, hown, hts⟩ (c_X8_ofScope l D cA ad (tr ++ [(cN, .boolean)]) R149 H.size τ pd π bd tp ρ h102 (nI q4) 1 (nI_pos (by omega)) (by rw [h.1.1.2.2.2.1]; exact (nI_ltI (by omega) (by omega)).mpr (by omega)) (by decide) (by decide)) (cwV 2 hts gl_areTasksRight_X8_ofScope rfl rfl rfl (by decide +kernel) ⟨Nat.le_of_ble_eq_true rfl, Nat.le_of_ble_eq_true rfl⟩) hKb hP hD hS hA 209 w_tp rfl hl.1 rfl rfl (Nat.le_of_ble_eq_true rfl) ⟨Nat.le_of_ble_eq_true rfl, Nat.le_of_ble_eq_true rfl⟩ dL_areTasksRight_431 (fun r _ H locs hw hP hD hS => ?_)
                                                        obtain rfl : r = 1 := hw.trans s1
                                                        refine lv_iconst (v := 2) hx hb dL_areTasksRight_434 (by decide) ?_
                                                        refine lv_icmp_ne (tgt := 446) hx hb dL_areTasksRight_435 (by decide) (fun c_435_178 => ?_) (fun c_435_178 => ?_)
                                                        · skip
                                                          refine lv_iinc (v := (nI (k + 1))) (lv' := [(5, .int (nI (k + 1))), (9, .int (nI l9)), (8, .int 2), (7, .int (-1)), (6, .int 1), (0, .ref tp), (1, .ref oq), (2, .ref q1), (3, .ref q3), (4, .ref q5)]) hx hb dL_areTasksRight_446 hl (k := 9) rfl (show (nI k) + 1 = (nI (k + 1)) from nI_1 k) (by decide) rfl (fun ls hl => ?_)
                                                          refine lv_goto (tgt := 107) hx hb dL_areTasksRight_449 (by decide) ?_
                                                          exact ih n (Nat.lt_succ_self n) H locs ls ⟨(k + 1), f148, g, R149, ⟨by omega, st_upd e0 (by decide) hf ef148, hg.up, eR149⟩, hP, hD, hS, lv_sub hl [5, 6, 7, 8, 9, 0] rfl⟩
                                                        · exact absurd c_435_178 (by decide)
                                                  · exact absurd ((nI_ltI (a := q4) (b := S) (by omega) (by omega)).mpr (by omega)) c_390_175
                                                · exact absurd hal (hv2 rfl)
                                          · exact absurd c_348_167 (by decide)
                                        · exact absurd c_340_166 (by decide)
                                · exact absurd c_287_162 (by decide)
                              · exact absurd c_259_161 (by decide)
                          · exact absurd c_245_159 (by decide)
                        · exact absurd ((nI_leI (a := 0) (b := l9) (by omega) (by omega)).mpr (by omega)) c_234_158
                · exact absurd c_198_154 (by decide)
          · exact absurd c_175_151 (by decide)
        · exact absurd c_165_150 (by decide)
      · skip
        rw [ww] at c8
        have hw15 : f43 15 = 3 := hwt 15 (by decide)
        rw [kk] at hf0
        refine lv_aload_n hx hb dL_areTasksRight_117 rfl (lv_at hl 0 rfl) ?_
        refine lv_iload hx hb dL_areTasksRight_118 (lv_at hl 5 rfl) ?_
        refine lv_iconst (v := 1) hx hb dL_areTasksRight_120 (by decide) ?_
        refine x_Vi (As := [.int (nI k), .int 1]) (rest0 := []) ⟨hx, hb, hml, hown, hts⟩ (c_X8_ofTask l D cA ad (tr ++ [(cN, .boolean)]) R45 H.size τ pd π bd tp ρ h102 (nI k) 1 (nI_pos (by omega)) (by rw [h.1.1.2.2.1]; exact (nI_ltI (by omega) (by omega)).mpr (by omega)) (by decide) (by decide)) (cwV 2 hts gl_areTasksRight_X8_ofTask rfl rfl rfl (by decide +kernel) ⟨Nat.le_of_ble_eq_true rfl, Nat.le_of_ble_eq_true rfl⟩) hKb hP hD hS hA 209 w_tp rfl hl.1 rfl rfl (Nat.le_of_ble_eq_true rfl) ⟨Nat.le_of_ble_eq_true rfl, Nat.le_of_ble_eq_true rfl⟩ dL_areTasksRight_121 (fun r _ H locs hw hP hD hS => ?_)
        obtain rfl : r = 1 := hw.trans c1
        refine lv_istore (lv' := [(6, .int 1), (0, .ref tp), (1, .ref oq), (2, .ref q1), (3, .ref q3), (4, .ref q5), (5, .int (nI k))]) hx hb dL_areTasksRight_124 hl (by decide) rfl (fun ls hl => ?_)
        refine lv_aload_n hx hb dL_areTasksRight_126 rfl (lv_at hl 1 rfl) ?_
        refine lv_iload hx hb dL_areTasksRight_127 (lv_at hl 6 rfl) ?_
        refine lv_bipush (v := 6) hx hb dL_areTasksRight_129 (by decide) ?_
        refine x_Vi (As := [.int (nI k), .int 6]) (rest0 := []) ⟨hx, hb, hml, hown, hts⟩ (c_X8_ofTask l D cA ad (tr ++ [(cN, .boolean)]) R45 H.size τ pd π bd tp ρ h102 (nI k) 6 (nI_pos (by omega)) (by rw [h.1.1.2.2.1]; exact (nI_ltI (by omega) (by omega)).mpr (by omega)) (by decide) (by decide)) (cwV 2 hts gl_areTasksRight_X8_ofTask rfl rfl rfl (by decide +kernel) ⟨Nat.le_of_ble_eq_true rfl, Nat.le_of_ble_eq_true rfl⟩) hKb hP hD hS hA 209 w_tp rfl hl.1 rfl rfl (Nat.le_of_ble_eq_true rfl) ⟨Nat.le_of_ble_eq_true rfl, Nat.le_of_ble_eq_true rfl⟩ dL_areTasksRight_131 (fun r _ H locs hw hP hD hS => ?_)
        obtain rfl : r = (-1) := hw.trans c6
        refine lv_istore (lv' := [(7, .int (-1)), (6, .int 1), (0, .ref tp), (1, .ref oq), (2, .ref q1), (3, .ref q3), (4, .ref q5), (5, .int (nI k))]) hx hb dL_areTasksRight_134 hl (by decide) rfl (fun ls hl => ?_)
        refine lv_aload_n hx hb dL_areTasksRight_136 rfl (lv_at hl 2 rfl) ?_
        refine lv_iload hx hb dL_areTasksRight_137 (lv_at hl 7 rfl) ?_
        refine lv_bipush (v := 8) hx hb dL_areTasksRight_139 (by decide) ?_
        refine x_Vi (As := [.int (nI k), .int 8]) (rest0 := []) ⟨hx, hb, hml, hown, hts⟩ (c_X8_ofTask l D cA ad (tr ++ [(cN, .boolean)]) R45 H.size τ pd π bd tp ρ h102 (nI k) 8 (nI_pos (by omega)) (by rw [h.1.1.2.2.1]; exact (nI_ltI (by omega) (by omega)).mpr (by omega)) (by decide) (by decide)) (cwV 2 hts gl_areTasksRight_X8_ofTask rfl rfl rfl (by decide +kernel) ⟨Nat.le_of_ble_eq_true rfl, Nat.le_of_ble_eq_true rfl⟩) hKb hP hD hS hA 209 w_tp rfl hl.1 rfl rfl (Nat.le_of_ble_eq_true rfl) ⟨Nat.le_of_ble_eq_true rfl, Nat.le_of_ble_eq_true rfl⟩ dL_areTasksRight_141 (fun r _ H locs hw hP hD hS => ?_)
        obtain rfl : r = 3 := hw.trans c8
        refine lv_istore (lv' := [(8, .int 3), (7, .int (-1)), (6, .int 1), (0, .ref tp), (1, .ref oq), (2, .ref q1), (3, .ref q3), (4, .ref q5), (5, .int (nI k))]) hx hb dL_areTasksRight_144 hl (by decide) rfl (fun ls hl => ?_)
        refine lv_aload_n hx hb dL_areTasksRight_146 rfl (lv_at hl 3 rfl) ?_
        refine lv_iload hx hb dL_areTasksRight_147 (lv_at hl 8 rfl) ?_
        refine lv_iconst (v := 2) hx hb dL_areTasksRight_149 (by decide) ?_
        refine x_Vi (As := [.int (nI k), .int 2]) (rest0 := []) ⟨hx, hb, hml, hown, hts⟩ (c_X8_ofTask l D cA ad (tr ++ [(cN, .boolean)]) R45 H.size τ pd π bd tp ρ h102 (nI k) 2 (nI_pos (by omega)) (by rw [h.1.1.2.2.1]; exact (nI_ltI (by omega) (by omega)).mpr (by omega)) (by decide) (by decide)) (cwV 2 hts gl_areTasksRight_X8_ofTask rfl rfl rfl (by decide +kernel) ⟨Nat.le_of_ble_eq_true rfl, Nat.le_of_ble_eq_true rfl⟩) hKb hP hD hS hA 209 w_tp rfl hl.1 rfl rfl (Nat.le_of_ble_eq_true rfl) ⟨Nat.le_of_ble_eq_true rfl, Nat.le_of_ble_eq_true rfl⟩ dL_areTasksRight_150 (fun r _ H locs hw hP hD hS => ?_)
        obtain rfl : r = (nI l9) := hw.trans c2
        refine lv_istore (lv' := [(9, .int (nI l9)), (8, .int 3), (7, .int (-1)), (6, .int 1), (0, .ref tp), (1, .ref oq), (2, .ref q1), (3, .ref q3), (4, .ref q5), (5, .int (nI k))]) hx hb dL_areTasksRight_153 hl (by decide) rfl (fun ls hl => ?_)
        refine lv_aload_n hx hb dL_areTasksRight_155 rfl (lv_at hl 6 rfl) ?_
        refine lv_iload hx hb dL_areTasksRight_156 (lv_at hl 3 rfl) ?_
        refine lv_dup2_11 hx hb dL_areTasksRight_158 rfl rfl ?_
        refine va_iald hx hb hKb hP (0 + rest.length + 210) (0) (wNewR eR45 rfl) rfl (by unfold vp_in; decide) dL_areTasksRight_159 ?_
        refine W.eq (g2 := F0 m 160 ls [.int (nI (cnt (m_isIn τ (nI 1)) k)), .int 1, .ref q1]) (by show F0 m _ ls (.int (f 1) :: _) = _; rw [hf 1 (by decide)]) ?_
        refine lv_iconst (v := 1) hx hb dL_areTasksRight_160 (by decide) ?_
        refine lv_iadd hx hb dL_areTasksRight_161 ?_
        refine W.eq (g2 := F0 m 162 ls [.int (nI ((cnt (m_isIn τ (nI 1)) k) + 1)), .int 1, .ref q1]) (by rw [show ((nI (cnt (m_isIn τ (nI 1)) k)) : Int32) + 1 = (nI ((cnt (m_isIn τ (nI 1)) k) + 1)) from nI_add (cnt (m_isIn τ (nI 1)) k) 1]) ?_
        refine va_iast hx hb hKb hP hD hS (0 + rest.length + 210) (0) (wNewR eR45 rfl) rfl (by unfold vp_in; decide) dL_areTasksRight_162 (fun H locs hP hD hS => ?_)
        rw [wNewSR eR45] at hP hD
        obtain ⟨f179, ef179⟩ : ∃ z : Nat → Int32, z = upd f 1 (nI ((cnt (m_isIn τ (nI 1)) k) + 1)) := ⟨_, rfl⟩
        obtain ⟨R180, eR180⟩ : ∃ z : va_W, z = rest ++ [(q1, .inl (cA 0, 5, .inl f179)), (q3, .inl (cN, 24, .inl g)), (q5, .inl (cA 0, 19, .inl f43))] := ⟨_, rfl⟩
        have hP : va_P D vwCl (wB cA ad τ ++ (wPg cA ad pd π ++ (wB cA bd ρ ++ ((tp, .inr (8, tpF ad bd)) :: R180)))) H := by rw [eR180, ef179]; exact hP
        have hD : va_D A (wB cA ad τ ++ (wPg cA ad pd π ++ (wB cA bd ρ ++ ((tp, .inr (8, tpF ad bd)) :: R180)))) := by rw [eR180, ef179]; exact hD
        refine lv_iload hx hb dL_areTasksRight_163 (lv_at hl 2 rfl) ?_
        refine lv_if_lt (tgt := 172) hx hb dL_areTasksRight_165 (by decide) (fun c_165_181 => ?_) (fun c_165_181 => ?_)
        · skip
          refine lv_iconst (v := 0) hx hb dL_areTasksRight_172 (by decide) ?_
          refine lv_iload hx hb dL_areTasksRight_173 (lv_at hl 3 rfl) ?_
          refine lv_if_ne (tgt := 182) hx hb dL_areTasksRight_175 (by decide) (fun c_175_182 => ?_) (fun c_175_182 => ?_)
          · skip
            refine lv_iconst (v := 0) hx hb dL_areTasksRight_182 (by decide) ?_
            refine lv_icmp_ne (tgt := 283) hx hb dL_areTasksRight_183 (by decide) (fun c_183_183 => ?_) (fun c_183_183 => ?_)
            · exact absurd c_183_183 (by decide)
            · skip
              refine lv_iload hx hb dL_areTasksRight_186 (lv_at hl 2 rfl) ?_
              refine lv_aload_n hx hb dL_areTasksRight_188 rfl (lv_at hl 4 rfl) ?_
              refine lv_iconst (v := 2) hx hb dL_areTasksRight_189 (by decide) ?_
              refine x_Vi (As := [.int 2]) (rest0 := [.int (-1)]) ⟨hx, hb, hml, hown, hts⟩ (c_X8_many l D cA ad (tr ++ [(cN, .boolean)]) R180 H.size τ pd π bd tp ρ h102 2 (by decide) (by decide)) (cwV 1 hts gl_areTasksRight_X8_many rfl rfl rfl (by decide +kernel) ⟨Nat.le_of_ble_eq_true rfl, Nat.le_of_ble_eq_true rfl⟩) hKb hP hD hS hA 209 w_tp rfl hl.1 rfl rfl (Nat.le_of_ble_eq_true rfl) ⟨Nat.le_of_ble_eq_true rfl, Nat.le_of_ble_eq_true rfl⟩ dL_areTasksRight_190 (fun r _ H locs hw hP hD hS => ?_)
              obtain rfl : r = (nI L.length) := hw.trans ((many_st h.1.1).1.trans (congrArg nI (ready_len hL h.1.1)))
              refine lv_icmp_ge (tgt := 283) hx hb dL_areTasksRight_193 (by decide) (fun c_193_184 => ?_) (fun c_193_184 => ?_)
              · exact absurd c_193_184 (n1_nle (b := L.length) (by omega))
              · skip
                refine lv_iload hx hb dL_areTasksRight_196 (lv_at hl 2 rfl) ?_
                refine lv_if_lt (tgt := 208) hx hb dL_areTasksRight_198 (by decide) (fun c_198_185 => ?_) (fun c_198_185 => ?_)
                · skip
                  refine lv_iload hx hb dL_areTasksRight_208 (lv_at hl 1 rfl) ?_
                  refine lv_if_le (tgt := 217) hx hb dL_areTasksRight_210 (by decide) (fun c_210_186 => ?_) (fun c_210_186 => ?_)
                  · exact absurd c_210_186 (by decide)
                  · skip
                    refine lv_iconst (v := 1) hx hb dL_areTasksRight_213 (by decide) ?_
                    refine lv_goto (tgt := 218) hx hb dL_areTasksRight_214 (by decide) ?_
                    refine lv_iload hx hb dL_areTasksRight_218 (lv_at hl 3 rfl) ?_
                    refine lv_iconst (v := 1) hx hb dL_areTasksRight_220 (by decide) ?_
                    refine lv_icmp_ne (tgt := 228) hx hb dL_areTasksRight_221 (by decide) (fun c_221_187 => ?_) (fun c_221_187 => ?_)
                    · exact absurd c_221_187 (by decide)
                    · skip
                      refine lv_iconst (v := 1) hx hb dL_areTasksRight_224 (by decide) ?_
                      refine lv_goto (tgt := 229) hx hb dL_areTasksRight_225 (by decide) ?_
                      refine lv_icmp_ne (tgt := 283) hx hb dL_areTasksRight_229 (by decide) (fun c_229_188 => ?_) (fun c_229_188 => ?_)
                      · exact absurd c_229_188 (by decide)
                      · skip
                        refine lv_iload hx hb dL_areTasksRight_232 (lv_at hl 0 rfl) ?_
                        refine lv_if_ge (tgt := 241) hx hb dL_areTasksRight_234 (by decide) (fun c_234_189 => ?_) (fun c_234_189 => ?_)
                        · skip
                          refine lv_iconst (v := 0) hx hb dL_areTasksRight_241 (by decide) ?_
                          refine lv_iload hx hb dL_areTasksRight_242 (lv_at hl 3 rfl) ?_
                          refine lv_iconst (v := 1) hx hb dL_areTasksRight_244 (by decide) ?_
                          refine lv_icmp_le (tgt := 252) hx hb dL_areTasksRight_245 (by decide) (fun c_245_190 => ?_) (fun c_245_190 => ?_)
                          · skip
                            refine lv_iconst (v := 0) hx hb dL_areTasksRight_252 (by decide) ?_
                            refine lv_icmp_ne (tgt := 283) hx hb dL_areTasksRight_253 (by decide) (fun c_253_191 => ?_) (fun c_253_191 => ?_)
                            · exact absurd c_253_191 (by decide)
                            · skip
                              refine lv_iload hx hb dL_areTasksRight_256 (lv_at hl 3 rfl) ?_
                              refine lv_iconst (v := 1) hx hb dL_areTasksRight_258 (by decide) ?_
                              refine lv_icmp_le (tgt := 285) hx hb dL_areTasksRight_259 (by decide) (fun c_259_192 => ?_) (fun c_259_192 => ?_)
                              · skip
                                refine lv_iload hx hb dL_areTasksRight_285 (lv_at hl 2 rfl) ?_
                                refine lv_if_lt (tgt := 295) hx hb dL_areTasksRight_287 (by decide) (fun c_287_193 => ?_) (fun c_287_193 => ?_)
                                · skip
                                  refine lv_iload hx hb dL_areTasksRight_295 (lv_at hl 1 rfl) ?_
                                  refine lv_if_le (tgt := 345) hx hb dL_areTasksRight_297 (by decide) (fun c_297_194 => ?_) (fun c_297_194 => ?_)
                                  · exact absurd c_297_194 (by decide)
                                  · skip
                                    refine lv_iload hx hb dL_areTasksRight_300 (lv_at hl 1 rfl) ?_
                                    refine lv_iconst (v := 5) hx hb dL_areTasksRight_302 (by decide) ?_
                                    refine lv_icmp_ge (tgt := 345) hx hb dL_areTasksRight_303 (by decide) (fun c_303_195 => ?_) (fun c_303_195 => ?_)
                                    · exact absurd c_303_195 (by decide)
                                    · skip
                                      refine lv_aload_n hx hb dL_areTasksRight_306 rfl (lv_at hl 4 rfl) ?_
                                      refine lv_iload hx hb dL_areTasksRight_307 (lv_at hl 9 rfl) ?_
                                      refine lv_bipush (v := 7) hx hb dL_areTasksRight_309 (by decide) ?_
                                      refine x_Vi (As := [.int (nI k), .int 7]) (rest0 := []) ⟨hx, hb, hml, hown, hts⟩ (c_X8_ofTask l D cA ad (tr ++ [(cN, .boolean)]) R180 H.size τ pd π bd tp ρ h102 (nI k) 7 (nI_pos (by omega)) (by rw [h.1.1.2.2.1]; exact (nI_ltI (by omega) (by omega)).mpr (by omega)) (by decide) (by decide)) (cwV 2 hts gl_areTasksRight_X8_ofTask rfl rfl rfl (by decide +kernel) ⟨Nat.le_of_ble_eq_true rfl, Nat.le_of_ble_eq_true rfl⟩) hKb hP hD hS hA 209 w_tp rfl hl.1 rfl rfl (Nat.le_of_ble_eq_true rfl) ⟨Nat.le_of_ble_eq_true rfl, Nat.le_of_ble_eq_true rfl⟩ dL_areTasksRight_311 (fun r _ H locs hw hP hD hS => ?_)
                                      obtain rfl : r = 0 := hw.trans c7
                                      refine lv_iconst (v := 1) hx hb dL_areTasksRight_314 (by decide) ?_
                                      refine lv_icmp_eq (tgt := 343) hx hb dL_areTasksRight_315 (by decide) (fun c_315_196 => ?_) (fun c_315_196 => ?_)
                                      · exact absurd c_315_196 (by decide)
                                      · skip
                                        refine lv_aload hx hb dL_areTasksRight_318 (lv_at hl 8 rfl) ?_
                                        refine lv_aload_n hx hb dL_areTasksRight_320 rfl (lv_at hl 5 rfl) ?_
                                        refine va_getN (D := D) (C := RX9) (T := TX9) (N := 3) (ci := 9) (host := RL) hx hb hts nl_areTasksRight_X9 hown hKb hP (0 + 210) (wOldR eR180 (own0 hR)) rfl 0 (by decide) (va_Nw.use rfl hN) (fun _ h => h) rfl dL_areTasksRight_321 ?_
                                        refine lv_aload_n hx hb dL_areTasksRight_324 rfl (lv_at hl 4 rfl) ?_
                                        refine lv_iload hx hb dL_areTasksRight_325 (lv_at hl 9 rfl) ?_
                                        refine lv_iconst (v := 0) hx hb dL_areTasksRight_327 (by decide) ?_
                                        refine x_Vi (As := [.int (nI k), .int 0]) (rest0 := [.ref la, .ref q5]) ⟨hx, hb, hml, hown, hts⟩ (c_X8_ofTask l D cA ad (tr ++ [(cN, .boolean)]) R180 H.size τ pd π bd tp ρ h102 (nI k) 0 (nI_pos (by omega)) (by rw [h.1.1.2.2.1]; exact (nI_ltI (by omega) (by omega)).mpr (by omega)) (by decide) (by decide)) (cwV 2 hts gl_areTasksRight_X8_ofTask rfl rfl rfl (by decide +kernel) ⟨Nat.le_of_ble_eq_true rfl, Nat.le_of_ble_eq_true rfl⟩) hKb hP hD hS hA 209 w_tp rfl hl.1 rfl rfl (Nat.le_of_ble_eq_true rfl) ⟨Nat.le_of_ble_eq_true rfl, Nat.le_of_ble_eq_true rfl⟩ dL_areTasksRight_328 (fun r _ H locs hw hP hD hS => ?_)
                                        obtain rfl : r = (nI b9) := hw.trans c0
                                        refine va_aldr hx hb hKb hP (1 + 210) (j3 + 5) (wOldR eR180 (own1 hR)) (ty_old ht3) (vp_in_nI (by omega) (by omega)) dL_areTasksRight_331 ?_
                                        refine W.eq (g2 := F0 m 332 ls [.ref (lb b9), .ref q5]) (by rw [nI_clamp (show b9 < 2 ^ 31 by omega)]; show F0 m _ ls (va_rf (rf8 lb b9) :: _) = _; rw [rf8_at b8]; rfl) ?_
                                        refine lv_iload hx hb dL_areTasksRight_332 (lv_at hl 0 rfl) ?_
                                        refine va_aldr hx hb hKb hP (b9 + 2 + 210) (j2 + 5) (wOldR eR180 (ownI hR b8)) (ty_old ht2) (vp_in_nI (by omega) (by omega)) dL_areTasksRight_334 ?_
                                        refine W.eq (g2 := F0 m 335 ls [.ref q9, .ref q5]) (by rw [nI_clamp (show l9 < 2 ^ 31 by omega), hLA]; rfl) ?_
                                        refine lv_iconst (v := 0) hx hb dL_areTasksRight_335 (by decide) ?_
                                        refine va_iald hx hb hKb hP (kq + 11 + 210) 0 (wOldR eR180 (ownR hR hkq)) rfl (by unfold vp_in; decide) dL_areTasksRight_336 ?_
                                        refine W.eq (g2 := F0 m 337 ls [.int 15, .ref q5]) (by show F0 m _ ls (.int (fq 0) :: _) = _; rw [hf0]) ?_
                                        refine va_iald hx hb hKb hP (2 + rest.length + 210) (0) (wNewR eR180 rfl) rfl (by unfold vp_in; decide) dL_areTasksRight_337 ?_
                                        refine W.eq (g2 := F0 m 338 ls [.int 3]) (by show F0 m _ ls (.int (f43 15) :: _) = _; rw [hw15]) ?_
                                        refine lv_iload hx hb dL_areTasksRight_338 (lv_at hl 1 rfl) ?_
                                        refine lv_icmp_eq (tgt := 345) hx hb dL_areTasksRight_340 (by decide) (fun c_340_197 => ?_) (fun c_340_197 => ?_)
                                        · skip
                                          refine lv_iload hx hb dL_areTasksRight_345 (lv_at hl 1 rfl) ?_
                                          refine lv_iconst (v := 5) hx hb dL_areTasksRight_347 (by decide) ?_
                                          refine lv_icmp_ne (tgt := 361) hx hb dL_areTasksRight_348 (by decide) (fun c_348_198 => ?_) (fun c_348_198 => ?_)
                                          · skip
                                            have hb9 : bnd (τ (k + 6) 5) := by have := task_there hB hk24; rwa [aT3 hk24] at this
                                            refine lv_aload_n hx hb dL_areTasksRight_361 rfl (lv_at hl 4 rfl) ?_
                                            refine lv_iload hx hb dL_areTasksRight_362 (lv_at hl 9 rfl) ?_
                                            refine lv_iconst (v := 3) hx hb dL_areTasksRight_364 (by decide) ?_
                                            refine x_Vi (As := [.int (nI k), .int 3]) (rest0 := []) ⟨hx, hb, hml, hown, hts⟩ (c_X8_ofTask l D cA ad (tr ++ [(cN, .boolean)]) R180 H.size τ pd π bd tp ρ h102 (nI k) 3 (nI_pos (by omega)) (by rw [h.1.1.2.2.1]; exact (nI_ltI (by omega) (by omega)).mpr (by omega)) (by decide) (by decide)) (cwV 2 hts gl_areTasksRight_X8_ofTask rfl rfl rfl (by decide +kernel) ⟨Nat.le_of_ble_eq_true rfl, Nat.le_of_ble_eq_true rfl⟩) hKb hP hD hS hA 209 w_tp rfl hl.1 rfl rfl (Nat.le_of_ble_eq_true rfl) ⟨Nat.le_of_ble_eq_true rfl, Nat.le_of_ble_eq_true rfl⟩ dL_areTasksRight_365 (fun r _ H locs hw hP hD hS => ?_)
                                            obtain rfl : r = (τ (k + 6) 5) := hw.trans (aT3 (by omega))
                                            refine va_mabs (rest := []) hx hb (hml.trans hl.1.symm) hown (hts (.methodLink RL 103 Lib.Math.abs.name) (by decide +kernel)) (hts (.static Lib.Math.abs.name) (by decide +kernel)) (hts (.initialized "java/lang/Math") (by decide +kernel)) (hts (.code Lib.Math.abs.name Lib.Math.abs.code 1 (some .int)) (by decide +kernel)) (Nat.le_of_ble_eq_true rfl) (Nat.le_of_ble_eq_true rfl) (Nat.le_of_ble_eq_true rfl) (Nat.le_of_ble_eq_true rfl) dL_areTasksRight_368 ?_
                                            refine lv_sipush (v := 9999) hx hb dL_areTasksRight_371 (by decide) ?_
                                            refine lv_icmp_gt (tgt := 393) hx hb dL_areTasksRight_374 (by decide) (fun c_374_199 => ?_) (fun c_374_199 => ?_)
                                            · exact absurd c_374_199 (abs_bnd hb9)
                                            · skip
                                              rcases task_in h hk with c4 | ⟨q4, hq4, c4, ⟨o4, ho4, s0⟩, v4, hv4, s1, hv2⟩
                                              · skip
                                                refine lv_aload_n hx hb dL_areTasksRight_377 rfl (lv_at hl 4 rfl) ?_
                                                refine lv_iload hx hb dL_areTasksRight_378 (lv_at hl 9 rfl) ?_
                                                refine lv_iconst (v := 4) hx hb dL_areTasksRight_380 (by decide) ?_
                                                refine x_Vi (As := [.int (nI k), .int 4]) (rest0 := []) ⟨hx, hb, hml, hown, hts⟩ (c_X8_ofTask l D cA ad (tr ++ [(cN, .boolean)]) R180 H.size τ pd π bd tp ρ h102 (nI k) 4 (nI_pos (by omega)) (by rw [h.1.1.2.2.1]; exact (nI_ltI (by omega) (by omega)).mpr (by omega)) (by decide) (by decide)) (cwV 2 hts gl_areTasksRight_X8_ofTask rfl rfl rfl (by decide +kernel) ⟨Nat.le_of_ble_eq_true rfl, Nat.le_of_ble_eq_true rfl⟩) hKb hP hD hS hA 209 w_tp rfl hl.1 rfl rfl (Nat.le_of_ble_eq_true rfl) ⟨Nat.le_of_ble_eq_true rfl, Nat.le_of_ble_eq_true rfl⟩ dL_areTasksRight_381 (fun r _ H locs hw hP hD hS => ?_)
                                                obtain rfl : r = (-1) := hw.trans c4
                                                refine lv_aload_n hx hb dL_areTasksRight_384 rfl (lv_at hl 4 rfl) ?_
                                                refine lv_bipush (v := 7) hx hb dL_areTasksRight_385 (by decide) ?_
                                                refine x_Vi (As := [.int 7]) (rest0 := [.int (-1)]) ⟨hx, hb, hml, hown, hts⟩ (c_X8_many l D cA ad (tr ++ [(cN, .boolean)]) R180 H.size τ pd π bd tp ρ h102 7 (by decide) (by decide)) (cwV 1 hts gl_areTasksRight_X8_many rfl rfl rfl (by decide +kernel) ⟨Nat.le_of_ble_eq_true rfl, Nat.le_of_ble_eq_true rfl⟩) hKb hP hD hS hA 209 w_tp rfl hl.1 rfl rfl (Nat.le_of_ble_eq_true rfl) ⟨Nat.le_of_ble_eq_true rfl, Nat.le_of_ble_eq_true rfl⟩ dL_areTasksRight_387 (fun r _ H locs hw hP hD hS => ?_)
                                                obtain rfl : r = (nI S) := hw.trans (many_7 h.1.1)
                                                refine lv_icmp_lt (tgt := 395) hx hb dL_areTasksRight_390 (by decide) (fun c_390_200 => ?_) (fun c_390_200 => ?_)
                                                · skip
                                                  refine lv_aload_n hx hb dL_areTasksRight_395 rfl (lv_at hl 4 rfl) ?_
                                                  refine lv_iload hx hb dL_areTasksRight_396 (lv_at hl 9 rfl) ?_
                                                  refine lv_iconst (v := 4) hx hb dL_areTasksRight_398 (by decide) ?_
                                                  refine x_Vi (As := [.int (nI k), .int 4]) (rest0 := []) ⟨hx, hb, hml, hown, hts⟩ (c_X8_ofTask l D cA ad (tr ++ [(cN, .boolean)]) R180 H.size τ pd π bd tp ρ h102 (nI k) 4 (nI_pos (by omega)) (by rw [h.1.1.2.2.1]; exact (nI_ltI (by omega) (by omega)).mpr (by omega)) (by decide) (by decide)) (cwV 2 hts gl_areTasksRight_X8_ofTask rfl rfl rfl (by decide +kernel) ⟨Nat.le_of_ble_eq_true rfl, Nat.le_of_ble_eq_true rfl⟩) hKb hP hD hS hA 209 w_tp rfl hl.1 rfl rfl (Nat.le_of_ble_eq_true rfl) ⟨Nat.le_of_ble_eq_true rfl, Nat.le_of_ble_eq_true rfl⟩ dL_areTasksRight_399 (fun r _ H locs hw hP hD hS => ?_)
                                                  obtain rfl : r = (-1) := hw.trans c4
                                                  refine lv_if_lt (tgt := 446) hx hb dL_areTasksRight_402 (by decide) (fun c_402_201 => ?_) (fun c_402_201 => ?_)
                                                  · skip
                                                    refine lv_iinc (v := (nI (k + 1))) (lv' := [(5, .int (nI (k + 1))), (9, .int (nI l9)), (8, .int 3), (7, .int (-1)), (6, .int 1), (0, .ref tp), (1, .ref oq), (2, .ref q1), (3, .ref q3), (4, .ref q5)]) hx hb dL_areTasksRight_446 hl (k := 9) rfl (show (nI k) + 1 = (nI (k + 1)) from nI_1 k) (by decide) rfl (fun ls hl => ?_)
                                                    refine lv_goto (tgt := 107) hx hb dL_areTasksRight_449 (by decide) ?_
                                                    exact ih n (Nat.lt_succ_self n) H locs ls ⟨(k + 1), f179, g, R180, ⟨by omega, st_upd e0 (by decide) hf ef179, hg.up, eR180⟩, hP, hD, hS, lv_sub hl [5, 6, 7, 8, 9, 0] rfl⟩
                                                  · exact absurd c_402_201 (by decide)
                                                · exact absurd (n1_lt (b := S) (by omega)) c_390_200
                                              · skip
                                                rcases (show v4 = 0 ∨ v4 = 1 ∨ v4 = 2 by omega) with e4 | e4 | e4 <;> subst e4
                                                · skip
                                                  refine lv_aload_n hx hb dL_areTasksRight_377 rfl (lv_at hl 4 rfl) ?_
                                                  refine lv_iload hx hb dL_areTasksRight_378 (lv_at hl 9 rfl) ?_
                                                  refine lv_iconst (v := 4) hx hb dL_areTasksRight_380 (by decide) ?_
                                                  refine x_Vi (As := [.int (nI k), .int 4]) (rest0 := []) ⟨hx, hb, hml, hown, hts⟩ (c_X8_ofTask l D cA ad (tr ++ [(cN, .boolean)]) R180 H.size τ pd π bd tp ρ h102 (nI k) 4 (nI_pos (by omega)) (by rw [h.1.1.2.2.1]; exact (nI_ltI (by omega) (by omega)).mpr (by omega)) (by decide) (by decide)) (cwV 2 hts gl_areTasksRight_X8_ofTask rfl rfl rfl (by decide +kernel) ⟨Nat.le_of_ble_eq_true rfl, Nat.le_of_ble_eq_true rfl⟩) hKb hP hD hS hA 209 w_tp rfl hl.1 rfl rfl (Nat.le_of_ble_eq_true rfl) ⟨Nat.le_of_ble_eq_true rfl, Nat.le_of_ble_eq_true rfl⟩ dL_areTasksRight_381 (fun r _ H locs hw hP hD hS => ?_)
                                                  obtain rfl : r = (nI q4) := hw.trans c4
                                                  refine lv_aload_n hx hb dL_areTasksRight_384 rfl (lv_at hl 4 rfl) ?_
                                                  refine lv_bipush (v := 7) hx hb dL_areTasksRight_385 (by decide) ?_
                                                  refine x_Vi (As := [.int 7]) (rest0 := [.int (nI q4)]) ⟨hx, hb, hml, hown, hts⟩ (c_X8_many l D cA ad (tr ++ [(cN, .boolean)]) R180 H.size τ pd π bd tp ρ h102 7 (by decide) (by decide)) (cwV 1 hts gl_areTasksRight_X8_many rfl rfl rfl (by decide +kernel) ⟨Nat.le_of_ble_eq_true rfl, Nat.le_of_ble_eq_true rfl⟩) hKb hP hD hS hA 209 w_tp rfl hl.1 rfl rfl (Nat.le_of_ble_eq_true rfl) ⟨Nat.le_of_ble_eq_true rfl, Nat.le_of_ble_eq_true rfl⟩ dL_areTasksRight_387 (fun r _ H locs hw hP hD hS => ?_)
                                                  obtain rfl : r = (nI S) := hw.trans (many_7 h.1.1)
                                                  refine lv_icmp_lt (tgt := 395) hx hb dL_areTasksRight_390 (by decide) (fun c_390_202 => ?_) (fun c_390_202 => ?_)
                                                  · skip
                                                    refine lv_aload_n hx hb dL_areTasksRight_395 rfl (lv_at hl 4 rfl) ?_
                                                    refine lv_iload hx hb dL_areTasksRight_396 (lv_at hl 9 rfl) ?_
                                                    refine lv_iconst (v := 4) hx hb dL_areTasksRight_398 (by decide) ?_
                                                    refine x_Vi (As := [.int (nI k), .int 4]) (rest0 := []) ⟨hx, hb, hml, hown, hts⟩ (c_X8_ofTask l D cA ad (tr ++ [(cN, .boolean)]) R180 H.size τ pd π bd tp ρ h102 (nI k) 4 (nI_pos (by omega)) (by rw [h.1.1.2.2.1]; exact (nI_ltI (by omega) (by omega)).mpr (by omega)) (by decide) (by decide)) (cwV 2 hts gl_areTasksRight_X8_ofTask rfl rfl rfl (by decide +kernel) ⟨Nat.le_of_ble_eq_true rfl, Nat.le_of_ble_eq_true rfl⟩) hKb hP hD hS hA 209 w_tp rfl hl.1 rfl rfl (Nat.le_of_ble_eq_true rfl) ⟨Nat.le_of_ble_eq_true rfl, Nat.le_of_ble_eq_true rfl⟩ dL_areTasksRight_399 (fun r _ H locs hw hP hD hS => ?_)
                                                    obtain rfl : r = (nI q4) := hw.trans c4
                                                    refine lv_if_lt (tgt := 446) hx hb dL_areTasksRight_402 (by decide) (fun c_402_203 => ?_) (fun c_402_203 => ?_)
                                                    · exact absurd ((nI_ltI (a := q4) (b := 0) (by omega) (by omega)).mp c_402_203) (by omega)
                                                    · skip
                                                      refine lv_aload_n hx hb dL_areTasksRight_405 rfl (lv_at hl 4 rfl) ?_
                                                      refine lv_aload_n hx hb dL_areTasksRight_406 rfl (lv_at hl 4 rfl) ?_
                                                      refine lv_iload hx hb dL_areTasksRight_407 (lv_at hl 9 rfl) ?_
                                                      refine lv_iconst (v := 4) hx hb dL_areTasksRight_409 (by decide) ?_
                                                      refine x_Vi (As := [.int (nI k), .int 4]) (rest0 := [.ref tp]) ⟨hx, hb, hml, hown, hts⟩ (c_X8_ofTask l D cA ad (tr ++ [(cN, .boolean)]) R180 H.size τ pd π bd tp ρ h102 (nI k) 4 (nI_pos (by omega)) (by rw [h.1.1.2.2.1]; exact (nI_ltI (by omega) (by omega)).mpr (by omega)) (by decide) (by decide)) (cwV 2 hts gl_areTasksRight_X8_ofTask rfl rfl rfl (by decide +kernel) ⟨Nat.le_of_ble_eq_true rfl, Nat.le_of_ble_eq_true rfl⟩) hKb hP hD hS hA 209 w_tp rfl hl.1 rfl rfl (Nat.le_of_ble_eq_true rfl) ⟨Nat.le_of_ble_eq_true rfl, Nat.le_of_ble_eq_true rfl⟩ dL_areTasksRight_410 (fun r _ H locs hw hP hD hS => ?_)
                                                      obtain rfl : r = (nI q4) := hw.trans c4
                                                      refine lv_iconst (v := 0) hx hb dL_areTasksRight_413 (by decide) ?_
                                                      refine x_Vi (As := [.int (nI q4), .int 0]) (rest0 := []) ⟨hx, hb, hml, hown, hts⟩ (c_X8_ofScope l D cA ad (tr ++ [(cN, .boolean)]) R180 H.size τ pd π bd tp ρ h102 (nI q4) 0 (nI_pos (by omega)) (by rw [h.1.1.2.2.2.1]; exact (nI_ltI (by omega) (by omega)).mpr (by omega)) (by decide) (by decide)) (cwV 2 hts gl_areTasksRight_X8_ofScope rfl rfl rfl (by decide +kernel) ⟨Nat.le_of_ble_eq_true rfl, Nat.le_of_ble_eq_true rfl⟩) hKb hP hD hS hA 209 w_tp rfl hl.1 rfl rfl (Nat.le_of_ble_eq_true rfl) ⟨Nat.le_of_ble_eq_true rfl, Nat.le_of_ble_eq_true rfl⟩ dL_areTasksRight_414 (fun r _ H locs hw hP hD hS => ?_)
                                                      obtain rfl : r = (nI o4) := hw.trans s0
                                                      refine lv_iload hx hb dL_areTasksRight_417 (lv_at hl 9 rfl) ?_
                                                      refine lv_icmp_ge (tgt := 444) hx hb dL_areTasksRight_419 (by decide) (fun c_419_204 => ?_) (fun c_419_204 => ?_)
                                                      · exact absurd ((nI_leI (a := k) (b := o4) (by omega) (by omega)).mp c_419_204) (by omega)
                                                      · skip
                                                        refine lv_aload_n hx hb dL_areTasksRight_422 rfl (lv_at hl 4 rfl) ?_
                                                        refine lv_aload_n hx hb dL_areTasksRight_423 rfl (lv_at hl 4 rfl) ?_
                                                        refine lv_iload hx hb dL_areTasksRight_424 (lv_at hl 9 rfl) ?_
                                                        refine lv_iconst (v := 4) hx hb dL_areTasksRight_426 (by decide) ?_
                                                        refine x_Vi (As := [.int (nI k), .int 4]) (rest0 := [.ref tp]) ⟨hx, hb, hml, hown, hts⟩ (c_X8_ofTask l D cA ad (tr ++ [(cN, .boolean)]) R180 H.size τ pd π bd tp ρ h102 (nI k) 4 (nI_pos (by omega)) (by rw [h.1.1.2.2.1]; exact (nI_ltI (by omega) (by omega)).mpr (by omega)) (by decide) (by decide)) (cwV 2 hts gl_areTasksRight_X8_ofTask rfl rfl rfl (by decide +kernel) ⟨Nat.le_of_ble_eq_true rfl, Nat.le_of_ble_eq_true rfl⟩) hKb hP hD hS hA 209 w_tp rfl hl.1 rfl rfl (Nat.le_of_ble_eq_true rfl) ⟨Nat.le_of_ble_eq_true rfl, Nat.le_of_ble_eq_true rfl⟩ dL_areTasksRight_427 (fun r _ H locs hw hP hD hS => ?_)
                                                        obtain rfl : r = (nI q4) := hw.trans c4
                                                        refine lv_iconst (v := 1) hx hb dL_areTasksRight_430 (by decide) ?_
                                                        refine x_Vi (As := [.int (nI q4), .int 1]) (rest0 := []) ⟨hx, hb, hml, hown, hts⟩ (c_X8_ofScope l D cA ad (tr ++ [(cN, .boolean)]) R180 H.size τ pd π bd tp ρ h102 (nI q4) 1 (nI_pos (by omega)) (by rw [h.1.1.2.2.2.1]; exact (nI_ltI (by omega) (by omega)).mpr (by omega)) (by decide) (by decide)) (cwV 2 hts gl_areTasksRight_X8_ofScope rfl rfl rfl (by decide +kernel) ⟨Nat.le_of_ble_eq_true rfl, Nat.le_of_ble_eq_true rfl⟩) hKb hP hD hS hA 209 w_tp rfl hl.1 rfl rfl (Nat.le_of_ble_eq_true rfl) ⟨Nat.le_of_ble_eq_true rfl, Nat.le_of_ble_eq_true rfl⟩ dL_areTasksRight_431 (fun r _ H locs hw hP hD hS => ?_)
                                                        obtain rfl : r = 0 := hw.trans s1
                                                        refine lv_iconst (v := 2) hx hb dL_areTasksRight_434 (by decide) ?_
                                                        refine lv_icmp_ne (tgt := 446) hx hb dL_areTasksRight_435 (by decide) (fun c_435_205 => ?_) (fun c_435_205 => ?_)
                                                        · skip
                                                          refine lv_iinc (v := (nI (k + 1))) (lv' := [(5, .int (nI (k + 1))), (9, .int (nI l9)), (8, .int 3), (7, .int (-1)), (6, .int 1), (0, .ref tp), (1, .ref oq), (2, .ref q1), (3, .ref q3), (4, .ref q5)]) hx hb dL_areTasksRight_446 hl (k := 9) rfl (show (nI k) + 1 = (nI (k + 1)) from nI_1 k) (by decide) rfl (fun ls hl => ?_)
                                                          refine lv_goto (tgt := 107) hx hb dL_areTasksRight_449 (by decide) ?_
                                                          exact ih n (Nat.lt_succ_self n) H locs ls ⟨(k + 1), f179, g, R180, ⟨by omega, st_upd e0 (by decide) hf ef179, hg.up, eR180⟩, hP, hD, hS, lv_sub hl [5, 6, 7, 8, 9, 0] rfl⟩
                                                        · exact absurd c_435_205 (by decide)
                                                  · exact absurd ((nI_ltI (a := q4) (b := S) (by omega) (by omega)).mpr (by omega)) c_390_202
                                                · skip
                                                  refine lv_aload_n hx hb dL_areTasksRight_377 rfl (lv_at hl 4 rfl) ?_
                                                  refine lv_iload hx hb dL_areTasksRight_378 (lv_at hl 9 rfl) ?_
                                                  refine lv_iconst (v := 4) hx hb dL_areTasksRight_380 (by decide) ?_
                                                  refine x_Vi (As := [.int (nI k), .int 4]) (rest0 := []) ⟨hx, hb, hml, hown, hts⟩ (c_X8_ofTask l D cA ad (tr ++ [(cN, .boolean)]) R180 H.size τ pd π bd tp ρ h102 (nI k) 4 (nI_pos (by omega)) (by rw [h.1.1.2.2.1]; exact (nI_ltI (by omega) (by omega)).mpr (by omega)) (by decide) (by decide)) (cwV 2 hts gl_areTasksRight_X8_ofTask rfl rfl rfl (by decide +kernel) ⟨Nat.le_of_ble_eq_true rfl, Nat.le_of_ble_eq_true rfl⟩) hKb hP hD hS hA 209 w_tp rfl hl.1 rfl rfl (Nat.le_of_ble_eq_true rfl) ⟨Nat.le_of_ble_eq_true rfl, Nat.le_of_ble_eq_true rfl⟩ dL_areTasksRight_381 (fun r _ H locs hw hP hD hS => ?_)
                                                  obtain rfl : r = (nI q4) := hw.trans c4
                                                  refine lv_aload_n hx hb dL_areTasksRight_384 rfl (lv_at hl 4 rfl) ?_
                                                  refine lv_bipush (v := 7) hx hb dL_areTasksRight_385 (by decide) ?_
                                                  refine x_Vi (As := [.int 7]) (rest0 := [.int (nI q4)]) ⟨hx, hb, hml, hown, hts⟩ (c_X8_many l D cA ad (tr ++ [(cN, .boolean)]) R180 H.size τ pd π bd tp ρ h102 7 (by decide) (by decide)) (cwV 1 hts gl_areTasksRight_X8_many rfl rfl rfl (by decide +kernel) ⟨Nat.le_of_ble_eq_true rfl, Nat.le_of_ble_eq_true rfl⟩) hKb hP hD hS hA 209 w_tp rfl hl.1 rfl rfl (Nat.le_of_ble_eq_true rfl) ⟨Nat.le_of_ble_eq_true rfl, Nat.le_of_ble_eq_true rfl⟩ dL_areTasksRight_387 (fun r _ H locs hw hP hD hS => ?_)
                                                  obtain rfl : r = (nI S) := hw.trans (many_7 h.1.1)
                                                  refine lv_icmp_lt (tgt := 395) hx hb dL_areTasksRight_390 (by decide) (fun c_390_206 => ?_) (fun c_390_206 => ?_)
                                                  · skip
                                                    refine lv_aload_n hx hb dL_areTasksRight_395 rfl (lv_at hl 4 rfl) ?_
                                                    refine lv_iload hx hb dL_areTasksRight_396 (lv_at hl 9 rfl) ?_
                                                    refine lv_iconst (v := 4) hx hb dL_areTasksRight_398 (by decide) ?_
                                                    refine x_Vi (As := [.int (nI k), .int 4]) (rest0 := []) ⟨hx, hb, hml, hown, hts⟩ (c_X8_ofTask l D cA ad (tr ++ [(cN, .boolean)]) R180 H.size τ pd π bd tp ρ h102 (nI k) 4 (nI_pos (by omega)) (by rw [h.1.1.2.2.1]; exact (nI_ltI (by omega) (by omega)).mpr (by omega)) (by decide) (by decide)) (cwV 2 hts gl_areTasksRight_X8_ofTask rfl rfl rfl (by decide +kernel) ⟨Nat.le_of_ble_eq_true rfl, Nat.le_of_ble_eq_true rfl⟩) hKb hP hD hS hA 209 w_tp rfl hl.1 rfl rfl (Nat.le_of_ble_eq_true rfl) ⟨Nat.le_of_ble_eq_true rfl, Nat.le_of_ble_eq_true rfl⟩ dL_areTasksRight_399 (fun r _ H locs hw hP hD hS => ?_)
                                                    obtain rfl : r = (nI q4) := hw.trans c4
                                                    refine lv_if_lt (tgt := 446) hx hb dL_areTasksRight_402 (by decide) (fun c_402_207 => ?_) (fun c_402_207 => ?_)
                                                    · exact absurd ((nI_ltI (a := q4) (b := 0) (by omega) (by omega)).mp c_402_207) (by omega)
                                                    · skip
                                                      refine lv_aload_n hx hb dL_areTasksRight_405 rfl (lv_at hl 4 rfl) ?_
                                                      refine lv_aload_n hx hb dL_areTasksRight_406 rfl (lv_at hl 4 rfl) ?_
                                                      refine lv_iload hx hb dL_areTasksRight_407 (lv_at hl 9 rfl) ?_
                                                      refine lv_iconst (v := 4) hx hb dL_areTasksRight_409 (by decide) ?_
                                                      refine x_Vi (As := [.int (nI k), .int 4]) (rest0 := [.ref tp]) ⟨hx, hb, hml, hown, hts⟩ (c_X8_ofTask l D cA ad (tr ++ [(cN, .boolean)]) R180 H.size τ pd π bd tp ρ h102 (nI k) 4 (nI_pos (by omega)) (by rw [h.1.1.2.2.1]; exact (nI_ltI (by omega) (by omega)).mpr (by omega)) (by decide) (by decide)) (cwV 2 hts gl_areTasksRight_X8_ofTask rfl rfl rfl (by decide +kernel) ⟨Nat.le_of_ble_eq_true rfl, Nat.le_of_ble_eq_true rfl⟩) hKb hP hD hS hA 209 w_tp rfl hl.1 rfl rfl (Nat.le_of_ble_eq_true rfl) ⟨Nat.le_of_ble_eq_true rfl, Nat.le_of_ble_eq_true rfl⟩ dL_areTasksRight_410 (fun r _ H locs hw hP hD hS => ?_)
                                                      obtain rfl : r = (nI q4) := hw.trans c4
                                                      refine lv_iconst (v := 0) hx hb dL_areTasksRight_413 (by decide) ?_
                                                      refine x_Vi (As := [.int (nI q4), .int 0]) (rest0 := []) ⟨hx, hb, hml, hown, hts⟩ (c_X8_ofScope l D cA ad (tr ++ [(cN, .boolean)]) R180 H.size τ pd π bd tp ρ h102 (nI q4) 0 (nI_pos (by omega)) (by rw [h.1.1.2.2.2.1]; exact (nI_ltI (by omega) (by omega)).mpr (by omega)) (by decide) (by decide)) (cwV 2 hts gl_areTasksRight_X8_ofScope rfl rfl rfl (by decide +kernel) ⟨Nat.le_of_ble_eq_true rfl, Nat.le_of_ble_eq_true rfl⟩) hKb hP hD hS hA 209 w_tp rfl hl.1 rfl rfl (Nat.le_of_ble_eq_true rfl) ⟨Nat.le_of_ble_eq_true rfl, Nat.le_of_ble_eq_true rfl⟩ dL_areTasksRight_414 (fun r _ H locs hw hP hD hS => ?_)
                                                      obtain rfl : r = (nI o4) := hw.trans s0
                                                      refine lv_iload hx hb dL_areTasksRight_417 (lv_at hl 9 rfl) ?_
                                                      refine lv_icmp_ge (tgt := 444) hx hb dL_areTasksRight_419 (by decide) (fun c_419_208 => ?_) (fun c_419_208 => ?_)
                                                      · exact absurd ((nI_leI (a := k) (b := o4) (by omega) (by omega)).mp c_419_208) (by omega)
                                                      · skip
                                                        refine lv_aload_n hx hb dL_areTasksRight_422 rfl (lv_at hl 4 rfl) ?_
                                                        refine lv_aload_n hx hb dL_areTasksRight_423 rfl (lv_at hl 4 rfl) ?_
                                                        refine lv_iload hx hb dL_areTasksRight_424 (lv_at hl 9 rfl) ?_
                                                        refine lv_iconst (v := 4) hx hb dL_areTasksRight_426 (by decide) ?_
                                                        refine x_Vi (As := [.int (nI k), .int 4]) (rest0 := [.ref tp]) ⟨hx, hb, hml, hown, hts⟩ (c_X8_ofTask l D cA ad (tr ++ [(cN, .boolean)]) R180 H.size τ pd π bd tp ρ h102 (nI k) 4 (nI_pos (by omega)) (by rw [h.1.1.2.2.1]; exact (nI_ltI (by omega) (by omega)).mpr (by omega)) (by decide) (by decide)) (cwV 2 hts gl_areTasksRight_X8_ofTask rfl rfl rfl (by decide +kernel) ⟨Nat.le_of_ble_eq_true rfl, Nat.le_of_ble_eq_true rfl⟩) hKb hP hD hS hA 209 w_tp rfl hl.1 rfl rfl (Nat.le_of_ble_eq_true rfl) ⟨Nat.le_of_ble_eq_true rfl, Nat.le_of_ble_eq_true rfl⟩ dL_areTasksRight_427 (fun r _ H locs hw hP hD hS => ?_)
                                                        obtain rfl : r = (nI q4) := hw.trans c4
                                                        refine lv_iconst (v := 1) hx hb dL_areTasksRight_430 (by decide) ?_
                                                        refine x_Vi (As := [.int (nI q4), .int 1]) (rest0 := []) ⟨hx, hb, hml, hown, hts⟩ (c_X8_ofScope l D cA ad (tr ++ [(cN, .boolean)]) R180 H.size τ pd π bd tp ρ h102 (nI q4) 1 (nI_pos (by omega)) (by rw [h.1.1.2.2.2.1]; exact (nI_ltI (by omega) (by omega)).mpr (by omega)) (by decide) (by decide)) (cwV 2 hts gl_areTasksRight_X8_ofScope rfl rfl rfl (by decide +kernel) ⟨Nat.le_of_ble_eq_true rfl, Nat.le_of_ble_eq_true rfl⟩) hKb hP hD hS hA 209 w_tp rfl hl.1 rfl rfl (Nat.le_of_ble_eq_true rfl) ⟨Nat.le_of_ble_eq_true rfl, Nat.le_of_ble_eq_true rfl⟩ dL_areTasksRight_431 (fun r _ H locs hw hP hD hS => ?_)
                                                        obtain rfl : r = 1 := hw.trans s1
                                                        refine lv_iconst (v := 2) hx hb dL_areTasksRight_434 (by decide) ?_
                                                        refine lv_icmp_ne (tgt := 446) hx hb dL_areTasksRight_435 (by decide) (fun c_435_209 => ?_) (fun c_435_209 => ?_)
                                                        · skip
                                                          refine lv_iinc (v := (nI (k + 1))) (lv' := [(5, .int (nI (k + 1))), (9, .int (nI l9)), (8, .int 3), (7, .int (-1)), (6, .int 1), (0, .ref tp), (1, .ref oq), (2, .ref q1), (3, .ref q3), (4, .ref q5)]) hx hb dL_areTasksRight_446 hl (k := 9) rfl (show (nI k) + 1 = (nI (k + 1)) from nI_1 k) (by decide) rfl (fun ls hl => ?_)
                                                          refine lv_goto (tgt := 107) hx hb dL_areTasksRight_449 (by decide) ?_
                                                          exact ih n (Nat.lt_succ_self n) H locs ls ⟨(k + 1), f179, g, R180, ⟨by omega, st_upd e0 (by decide) hf ef179, hg.up, eR180⟩, hP, hD, hS, lv_sub hl [5, 6, 7, 8, 9, 0] rfl⟩
                                                        · exact absurd c_435_209 (by decide)
                                                  · exact absurd ((nI_ltI (a := q4) (b := S) (by omega) (by omega)).mpr (by omega)) c_390_206
                                                · exact absurd hal (hv2 rfl)
                                          · exact absurd c_348_198 (by decide)
                                        · exact absurd c_340_197 (by decide)
                                · exact absurd c_287_193 (by decide)
                              · exact absurd c_259_192 (by decide)
                          · exact absurd c_245_190 (by decide)
                        · exact absurd ((nI_leI (a := 0) (b := l9) (by omega) (by omega)).mpr (by omega)) c_234_189
                · exact absurd c_198_185 (by decide)
          · exact absurd c_175_182 (by decide)
        · exact absurd c_165_181 (by decide)
      · skip
        rw [ww] at c8
        have hw16 : f43 16 = 4 := hwt 16 (by decide)
        rw [kk] at hf0
        refine lv_aload_n hx hb dL_areTasksRight_117 rfl (lv_at hl 0 rfl) ?_
        refine lv_iload hx hb dL_areTasksRight_118 (lv_at hl 5 rfl) ?_
        refine lv_iconst (v := 1) hx hb dL_areTasksRight_120 (by decide) ?_
        refine x_Vi (As := [.int (nI k), .int 1]) (rest0 := []) ⟨hx, hb, hml, hown, hts⟩ (c_X8_ofTask l D cA ad (tr ++ [(cN, .boolean)]) R45 H.size τ pd π bd tp ρ h102 (nI k) 1 (nI_pos (by omega)) (by rw [h.1.1.2.2.1]; exact (nI_ltI (by omega) (by omega)).mpr (by omega)) (by decide) (by decide)) (cwV 2 hts gl_areTasksRight_X8_ofTask rfl rfl rfl (by decide +kernel) ⟨Nat.le_of_ble_eq_true rfl, Nat.le_of_ble_eq_true rfl⟩) hKb hP hD hS hA 209 w_tp rfl hl.1 rfl rfl (Nat.le_of_ble_eq_true rfl) ⟨Nat.le_of_ble_eq_true rfl, Nat.le_of_ble_eq_true rfl⟩ dL_areTasksRight_121 (fun r _ H locs hw hP hD hS => ?_)
        obtain rfl : r = 1 := hw.trans c1
        refine lv_istore (lv' := [(6, .int 1), (0, .ref tp), (1, .ref oq), (2, .ref q1), (3, .ref q3), (4, .ref q5), (5, .int (nI k))]) hx hb dL_areTasksRight_124 hl (by decide) rfl (fun ls hl => ?_)
        refine lv_aload_n hx hb dL_areTasksRight_126 rfl (lv_at hl 1 rfl) ?_
        refine lv_iload hx hb dL_areTasksRight_127 (lv_at hl 6 rfl) ?_
        refine lv_bipush (v := 6) hx hb dL_areTasksRight_129 (by decide) ?_
        refine x_Vi (As := [.int (nI k), .int 6]) (rest0 := []) ⟨hx, hb, hml, hown, hts⟩ (c_X8_ofTask l D cA ad (tr ++ [(cN, .boolean)]) R45 H.size τ pd π bd tp ρ h102 (nI k) 6 (nI_pos (by omega)) (by rw [h.1.1.2.2.1]; exact (nI_ltI (by omega) (by omega)).mpr (by omega)) (by decide) (by decide)) (cwV 2 hts gl_areTasksRight_X8_ofTask rfl rfl rfl (by decide +kernel) ⟨Nat.le_of_ble_eq_true rfl, Nat.le_of_ble_eq_true rfl⟩) hKb hP hD hS hA 209 w_tp rfl hl.1 rfl rfl (Nat.le_of_ble_eq_true rfl) ⟨Nat.le_of_ble_eq_true rfl, Nat.le_of_ble_eq_true rfl⟩ dL_areTasksRight_131 (fun r _ H locs hw hP hD hS => ?_)
        obtain rfl : r = (-1) := hw.trans c6
        refine lv_istore (lv' := [(7, .int (-1)), (6, .int 1), (0, .ref tp), (1, .ref oq), (2, .ref q1), (3, .ref q3), (4, .ref q5), (5, .int (nI k))]) hx hb dL_areTasksRight_134 hl (by decide) rfl (fun ls hl => ?_)
        refine lv_aload_n hx hb dL_areTasksRight_136 rfl (lv_at hl 2 rfl) ?_
        refine lv_iload hx hb dL_areTasksRight_137 (lv_at hl 7 rfl) ?_
        refine lv_bipush (v := 8) hx hb dL_areTasksRight_139 (by decide) ?_
        refine x_Vi (As := [.int (nI k), .int 8]) (rest0 := []) ⟨hx, hb, hml, hown, hts⟩ (c_X8_ofTask l D cA ad (tr ++ [(cN, .boolean)]) R45 H.size τ pd π bd tp ρ h102 (nI k) 8 (nI_pos (by omega)) (by rw [h.1.1.2.2.1]; exact (nI_ltI (by omega) (by omega)).mpr (by omega)) (by decide) (by decide)) (cwV 2 hts gl_areTasksRight_X8_ofTask rfl rfl rfl (by decide +kernel) ⟨Nat.le_of_ble_eq_true rfl, Nat.le_of_ble_eq_true rfl⟩) hKb hP hD hS hA 209 w_tp rfl hl.1 rfl rfl (Nat.le_of_ble_eq_true rfl) ⟨Nat.le_of_ble_eq_true rfl, Nat.le_of_ble_eq_true rfl⟩ dL_areTasksRight_141 (fun r _ H locs hw hP hD hS => ?_)
        obtain rfl : r = 4 := hw.trans c8
        refine lv_istore (lv' := [(8, .int 4), (7, .int (-1)), (6, .int 1), (0, .ref tp), (1, .ref oq), (2, .ref q1), (3, .ref q3), (4, .ref q5), (5, .int (nI k))]) hx hb dL_areTasksRight_144 hl (by decide) rfl (fun ls hl => ?_)
        refine lv_aload_n hx hb dL_areTasksRight_146 rfl (lv_at hl 3 rfl) ?_
        refine lv_iload hx hb dL_areTasksRight_147 (lv_at hl 8 rfl) ?_
        refine lv_iconst (v := 2) hx hb dL_areTasksRight_149 (by decide) ?_
        refine x_Vi (As := [.int (nI k), .int 2]) (rest0 := []) ⟨hx, hb, hml, hown, hts⟩ (c_X8_ofTask l D cA ad (tr ++ [(cN, .boolean)]) R45 H.size τ pd π bd tp ρ h102 (nI k) 2 (nI_pos (by omega)) (by rw [h.1.1.2.2.1]; exact (nI_ltI (by omega) (by omega)).mpr (by omega)) (by decide) (by decide)) (cwV 2 hts gl_areTasksRight_X8_ofTask rfl rfl rfl (by decide +kernel) ⟨Nat.le_of_ble_eq_true rfl, Nat.le_of_ble_eq_true rfl⟩) hKb hP hD hS hA 209 w_tp rfl hl.1 rfl rfl (Nat.le_of_ble_eq_true rfl) ⟨Nat.le_of_ble_eq_true rfl, Nat.le_of_ble_eq_true rfl⟩ dL_areTasksRight_150 (fun r _ H locs hw hP hD hS => ?_)
        obtain rfl : r = (nI l9) := hw.trans c2
        refine lv_istore (lv' := [(9, .int (nI l9)), (8, .int 4), (7, .int (-1)), (6, .int 1), (0, .ref tp), (1, .ref oq), (2, .ref q1), (3, .ref q3), (4, .ref q5), (5, .int (nI k))]) hx hb dL_areTasksRight_153 hl (by decide) rfl (fun ls hl => ?_)
        refine lv_aload_n hx hb dL_areTasksRight_155 rfl (lv_at hl 6 rfl) ?_
        refine lv_iload hx hb dL_areTasksRight_156 (lv_at hl 3 rfl) ?_
        refine lv_dup2_11 hx hb dL_areTasksRight_158 rfl rfl ?_
        refine va_iald hx hb hKb hP (0 + rest.length + 210) (0) (wNewR eR45 rfl) rfl (by unfold vp_in; decide) dL_areTasksRight_159 ?_
        refine W.eq (g2 := F0 m 160 ls [.int (nI (cnt (m_isIn τ (nI 1)) k)), .int 1, .ref q1]) (by show F0 m _ ls (.int (f 1) :: _) = _; rw [hf 1 (by decide)]) ?_
        refine lv_iconst (v := 1) hx hb dL_areTasksRight_160 (by decide) ?_
        refine lv_iadd hx hb dL_areTasksRight_161 ?_
        refine W.eq (g2 := F0 m 162 ls [.int (nI ((cnt (m_isIn τ (nI 1)) k) + 1)), .int 1, .ref q1]) (by rw [show ((nI (cnt (m_isIn τ (nI 1)) k)) : Int32) + 1 = (nI ((cnt (m_isIn τ (nI 1)) k) + 1)) from nI_add (cnt (m_isIn τ (nI 1)) k) 1]) ?_
        refine va_iast hx hb hKb hP hD hS (0 + rest.length + 210) (0) (wNewR eR45 rfl) rfl (by unfold vp_in; decide) dL_areTasksRight_162 (fun H locs hP hD hS => ?_)
        rw [wNewSR eR45] at hP hD
        obtain ⟨f210, ef210⟩ : ∃ z : Nat → Int32, z = upd f 1 (nI ((cnt (m_isIn τ (nI 1)) k) + 1)) := ⟨_, rfl⟩
        obtain ⟨R211, eR211⟩ : ∃ z : va_W, z = rest ++ [(q1, .inl (cA 0, 5, .inl f210)), (q3, .inl (cN, 24, .inl g)), (q5, .inl (cA 0, 19, .inl f43))] := ⟨_, rfl⟩
        have hP : va_P D vwCl (wB cA ad τ ++ (wPg cA ad pd π ++ (wB cA bd ρ ++ ((tp, .inr (8, tpF ad bd)) :: R211)))) H := by rw [eR211, ef210]; exact hP
        have hD : va_D A (wB cA ad τ ++ (wPg cA ad pd π ++ (wB cA bd ρ ++ ((tp, .inr (8, tpF ad bd)) :: R211)))) := by rw [eR211, ef210]; exact hD
        refine lv_iload hx hb dL_areTasksRight_163 (lv_at hl 2 rfl) ?_
        refine lv_if_lt (tgt := 172) hx hb dL_areTasksRight_165 (by decide) (fun c_165_212 => ?_) (fun c_165_212 => ?_)
        · skip
          refine lv_iconst (v := 0) hx hb dL_areTasksRight_172 (by decide) ?_
          refine lv_iload hx hb dL_areTasksRight_173 (lv_at hl 3 rfl) ?_
          refine lv_if_ne (tgt := 182) hx hb dL_areTasksRight_175 (by decide) (fun c_175_213 => ?_) (fun c_175_213 => ?_)
          · skip
            refine lv_iconst (v := 0) hx hb dL_areTasksRight_182 (by decide) ?_
            refine lv_icmp_ne (tgt := 283) hx hb dL_areTasksRight_183 (by decide) (fun c_183_214 => ?_) (fun c_183_214 => ?_)
            · exact absurd c_183_214 (by decide)
            · skip
              refine lv_iload hx hb dL_areTasksRight_186 (lv_at hl 2 rfl) ?_
              refine lv_aload_n hx hb dL_areTasksRight_188 rfl (lv_at hl 4 rfl) ?_
              refine lv_iconst (v := 2) hx hb dL_areTasksRight_189 (by decide) ?_
              refine x_Vi (As := [.int 2]) (rest0 := [.int (-1)]) ⟨hx, hb, hml, hown, hts⟩ (c_X8_many l D cA ad (tr ++ [(cN, .boolean)]) R211 H.size τ pd π bd tp ρ h102 2 (by decide) (by decide)) (cwV 1 hts gl_areTasksRight_X8_many rfl rfl rfl (by decide +kernel) ⟨Nat.le_of_ble_eq_true rfl, Nat.le_of_ble_eq_true rfl⟩) hKb hP hD hS hA 209 w_tp rfl hl.1 rfl rfl (Nat.le_of_ble_eq_true rfl) ⟨Nat.le_of_ble_eq_true rfl, Nat.le_of_ble_eq_true rfl⟩ dL_areTasksRight_190 (fun r _ H locs hw hP hD hS => ?_)
              obtain rfl : r = (nI L.length) := hw.trans ((many_st h.1.1).1.trans (congrArg nI (ready_len hL h.1.1)))
              refine lv_icmp_ge (tgt := 283) hx hb dL_areTasksRight_193 (by decide) (fun c_193_215 => ?_) (fun c_193_215 => ?_)
              · exact absurd c_193_215 (n1_nle (b := L.length) (by omega))
              · skip
                refine lv_iload hx hb dL_areTasksRight_196 (lv_at hl 2 rfl) ?_
                refine lv_if_lt (tgt := 208) hx hb dL_areTasksRight_198 (by decide) (fun c_198_216 => ?_) (fun c_198_216 => ?_)
                · skip
                  refine lv_iload hx hb dL_areTasksRight_208 (lv_at hl 1 rfl) ?_
                  refine lv_if_le (tgt := 217) hx hb dL_areTasksRight_210 (by decide) (fun c_210_217 => ?_) (fun c_210_217 => ?_)
                  · exact absurd c_210_217 (by decide)
                  · skip
                    refine lv_iconst (v := 1) hx hb dL_areTasksRight_213 (by decide) ?_
                    refine lv_goto (tgt := 218) hx hb dL_areTasksRight_214 (by decide) ?_
                    refine lv_iload hx hb dL_areTasksRight_218 (lv_at hl 3 rfl) ?_
                    refine lv_iconst (v := 1) hx hb dL_areTasksRight_220 (by decide) ?_
                    refine lv_icmp_ne (tgt := 228) hx hb dL_areTasksRight_221 (by decide) (fun c_221_218 => ?_) (fun c_221_218 => ?_)
                    · exact absurd c_221_218 (by decide)
                    · skip
                      refine lv_iconst (v := 1) hx hb dL_areTasksRight_224 (by decide) ?_
                      refine lv_goto (tgt := 229) hx hb dL_areTasksRight_225 (by decide) ?_
                      refine lv_icmp_ne (tgt := 283) hx hb dL_areTasksRight_229 (by decide) (fun c_229_219 => ?_) (fun c_229_219 => ?_)
                      · exact absurd c_229_219 (by decide)
                      · skip
                        refine lv_iload hx hb dL_areTasksRight_232 (lv_at hl 0 rfl) ?_
                        refine lv_if_ge (tgt := 241) hx hb dL_areTasksRight_234 (by decide) (fun c_234_220 => ?_) (fun c_234_220 => ?_)
                        · skip
                          refine lv_iconst (v := 0) hx hb dL_areTasksRight_241 (by decide) ?_
                          refine lv_iload hx hb dL_areTasksRight_242 (lv_at hl 3 rfl) ?_
                          refine lv_iconst (v := 1) hx hb dL_areTasksRight_244 (by decide) ?_
                          refine lv_icmp_le (tgt := 252) hx hb dL_areTasksRight_245 (by decide) (fun c_245_221 => ?_) (fun c_245_221 => ?_)
                          · skip
                            refine lv_iconst (v := 0) hx hb dL_areTasksRight_252 (by decide) ?_
                            refine lv_icmp_ne (tgt := 283) hx hb dL_areTasksRight_253 (by decide) (fun c_253_222 => ?_) (fun c_253_222 => ?_)
                            · exact absurd c_253_222 (by decide)
                            · skip
                              refine lv_iload hx hb dL_areTasksRight_256 (lv_at hl 3 rfl) ?_
                              refine lv_iconst (v := 1) hx hb dL_areTasksRight_258 (by decide) ?_
                              refine lv_icmp_le (tgt := 285) hx hb dL_areTasksRight_259 (by decide) (fun c_259_223 => ?_) (fun c_259_223 => ?_)
                              · skip
                                refine lv_iload hx hb dL_areTasksRight_285 (lv_at hl 2 rfl) ?_
                                refine lv_if_lt (tgt := 295) hx hb dL_areTasksRight_287 (by decide) (fun c_287_224 => ?_) (fun c_287_224 => ?_)
                                · skip
                                  refine lv_iload hx hb dL_areTasksRight_295 (lv_at hl 1 rfl) ?_
                                  refine lv_if_le (tgt := 345) hx hb dL_areTasksRight_297 (by decide) (fun c_297_225 => ?_) (fun c_297_225 => ?_)
                                  · exact absurd c_297_225 (by decide)
                                  · skip
                                    refine lv_iload hx hb dL_areTasksRight_300 (lv_at hl 1 rfl) ?_
                                    refine lv_iconst (v := 5) hx hb dL_areTasksRight_302 (by decide) ?_
                                    refine lv_icmp_ge (tgt := 345) hx hb dL_areTasksRight_303 (by decide) (fun c_303_226 => ?_) (fun c_303_226 => ?_)
                                    · exact absurd c_303_226 (by decide)
                                    · skip
                                      refine lv_aload_n hx hb dL_areTasksRight_306 rfl (lv_at hl 4 rfl) ?_
                                      refine lv_iload hx hb dL_areTasksRight_307 (lv_at hl 9 rfl) ?_
                                      refine lv_bipush (v := 7) hx hb dL_areTasksRight_309 (by decide) ?_
                                      refine x_Vi (As := [.int (nI k), .int 7]) (rest0 := []) ⟨hx, hb, hml, hown, hts⟩ (c_X8_ofTask l D cA ad (tr ++ [(cN, .boolean)]) R211 H.size τ pd π bd tp ρ h102 (nI k) 7 (nI_pos (by omega)) (by rw [h.1.1.2.2.1]; exact (nI_ltI (by omega) (by omega)).mpr (by omega)) (by decide) (by decide)) (cwV 2 hts gl_areTasksRight_X8_ofTask rfl rfl rfl (by decide +kernel) ⟨Nat.le_of_ble_eq_true rfl, Nat.le_of_ble_eq_true rfl⟩) hKb hP hD hS hA 209 w_tp rfl hl.1 rfl rfl (Nat.le_of_ble_eq_true rfl) ⟨Nat.le_of_ble_eq_true rfl, Nat.le_of_ble_eq_true rfl⟩ dL_areTasksRight_311 (fun r _ H locs hw hP hD hS => ?_)
                                      obtain rfl : r = 0 := hw.trans c7
                                      refine lv_iconst (v := 1) hx hb dL_areTasksRight_314 (by decide) ?_
                                      refine lv_icmp_eq (tgt := 343) hx hb dL_areTasksRight_315 (by decide) (fun c_315_227 => ?_) (fun c_315_227 => ?_)
                                      · exact absurd c_315_227 (by decide)
                                      · skip
                                        refine lv_aload hx hb dL_areTasksRight_318 (lv_at hl 8 rfl) ?_
                                        refine lv_aload_n hx hb dL_areTasksRight_320 rfl (lv_at hl 5 rfl) ?_
                                        refine va_getN (D := D) (C := RX9) (T := TX9) (N := 3) (ci := 9) (host := RL) hx hb hts nl_areTasksRight_X9 hown hKb hP (0 + 210) (wOldR eR211 (own0 hR)) rfl 0 (by decide) (va_Nw.use rfl hN) (fun _ h => h) rfl dL_areTasksRight_321 ?_
                                        refine lv_aload_n hx hb dL_areTasksRight_324 rfl (lv_at hl 4 rfl) ?_
                                        refine lv_iload hx hb dL_areTasksRight_325 (lv_at hl 9 rfl) ?_
                                        refine lv_iconst (v := 0) hx hb dL_areTasksRight_327 (by decide) ?_
                                        refine x_Vi (As := [.int (nI k), .int 0]) (rest0 := [.ref la, .ref q5]) ⟨hx, hb, hml, hown, hts⟩ (c_X8_ofTask l D cA ad (tr ++ [(cN, .boolean)]) R211 H.size τ pd π bd tp ρ h102 (nI k) 0 (nI_pos (by omega)) (by rw [h.1.1.2.2.1]; exact (nI_ltI (by omega) (by omega)).mpr (by omega)) (by decide) (by decide)) (cwV 2 hts gl_areTasksRight_X8_ofTask rfl rfl rfl (by decide +kernel) ⟨Nat.le_of_ble_eq_true rfl, Nat.le_of_ble_eq_true rfl⟩) hKb hP hD hS hA 209 w_tp rfl hl.1 rfl rfl (Nat.le_of_ble_eq_true rfl) ⟨Nat.le_of_ble_eq_true rfl, Nat.le_of_ble_eq_true rfl⟩ dL_areTasksRight_328 (fun r _ H locs hw hP hD hS => ?_)
                                        obtain rfl : r = (nI b9) := hw.trans c0
                                        refine va_aldr hx hb hKb hP (1 + 210) (j3 + 5) (wOldR eR211 (own1 hR)) (ty_old ht3) (vp_in_nI (by omega) (by omega)) dL_areTasksRight_331 ?_
                                        refine W.eq (g2 := F0 m 332 ls [.ref (lb b9), .ref q5]) (by rw [nI_clamp (show b9 < 2 ^ 31 by omega)]; show F0 m _ ls (va_rf (rf8 lb b9) :: _) = _; rw [rf8_at b8]; rfl) ?_
                                        refine lv_iload hx hb dL_areTasksRight_332 (lv_at hl 0 rfl) ?_
                                        refine va_aldr hx hb hKb hP (b9 + 2 + 210) (j2 + 5) (wOldR eR211 (ownI hR b8)) (ty_old ht2) (vp_in_nI (by omega) (by omega)) dL_areTasksRight_334 ?_
                                        refine W.eq (g2 := F0 m 335 ls [.ref q9, .ref q5]) (by rw [nI_clamp (show l9 < 2 ^ 31 by omega), hLA]; rfl) ?_
                                        refine lv_iconst (v := 0) hx hb dL_areTasksRight_335 (by decide) ?_
                                        refine va_iald hx hb hKb hP (kq + 11 + 210) 0 (wOldR eR211 (ownR hR hkq)) rfl (by unfold vp_in; decide) dL_areTasksRight_336 ?_
                                        refine W.eq (g2 := F0 m 337 ls [.int 16, .ref q5]) (by show F0 m _ ls (.int (fq 0) :: _) = _; rw [hf0]) ?_
                                        refine va_iald hx hb hKb hP (2 + rest.length + 210) (0) (wNewR eR211 rfl) rfl (by unfold vp_in; decide) dL_areTasksRight_337 ?_
                                        refine W.eq (g2 := F0 m 338 ls [.int 4]) (by show F0 m _ ls (.int (f43 16) :: _) = _; rw [hw16]) ?_
                                        refine lv_iload hx hb dL_areTasksRight_338 (lv_at hl 1 rfl) ?_
                                        refine lv_icmp_eq (tgt := 345) hx hb dL_areTasksRight_340 (by decide) (fun c_340_228 => ?_) (fun c_340_228 => ?_)
                                        · skip
                                          refine lv_iload hx hb dL_areTasksRight_345 (lv_at hl 1 rfl) ?_
                                          refine lv_iconst (v := 5) hx hb dL_areTasksRight_347 (by decide) ?_
                                          refine lv_icmp_ne (tgt := 361) hx hb dL_areTasksRight_348 (by decide) (fun c_348_229 => ?_) (fun c_348_229 => ?_)
                                          · skip
                                            have hb9 : bnd (τ (k + 6) 5) := by have := task_there hB hk24; rwa [aT3 hk24] at this
                                            refine lv_aload_n hx hb dL_areTasksRight_361 rfl (lv_at hl 4 rfl) ?_
                                            refine lv_iload hx hb dL_areTasksRight_362 (lv_at hl 9 rfl) ?_
                                            refine lv_iconst (v := 3) hx hb dL_areTasksRight_364 (by decide) ?_
                                            refine x_Vi (As := [.int (nI k), .int 3]) (rest0 := []) ⟨hx, hb, hml, hown, hts⟩ (c_X8_ofTask l D cA ad (tr ++ [(cN, .boolean)]) R211 H.size τ pd π bd tp ρ h102 (nI k) 3 (nI_pos (by omega)) (by rw [h.1.1.2.2.1]; exact (nI_ltI (by omega) (by omega)).mpr (by omega)) (by decide) (by decide)) (cwV 2 hts gl_areTasksRight_X8_ofTask rfl rfl rfl (by decide +kernel) ⟨Nat.le_of_ble_eq_true rfl, Nat.le_of_ble_eq_true rfl⟩) hKb hP hD hS hA 209 w_tp rfl hl.1 rfl rfl (Nat.le_of_ble_eq_true rfl) ⟨Nat.le_of_ble_eq_true rfl, Nat.le_of_ble_eq_true rfl⟩ dL_areTasksRight_365 (fun r _ H locs hw hP hD hS => ?_)
                                            obtain rfl : r = (τ (k + 6) 5) := hw.trans (aT3 (by omega))
                                            refine va_mabs (rest := []) hx hb (hml.trans hl.1.symm) hown (hts (.methodLink RL 103 Lib.Math.abs.name) (by decide +kernel)) (hts (.static Lib.Math.abs.name) (by decide +kernel)) (hts (.initialized "java/lang/Math") (by decide +kernel)) (hts (.code Lib.Math.abs.name Lib.Math.abs.code 1 (some .int)) (by decide +kernel)) (Nat.le_of_ble_eq_true rfl) (Nat.le_of_ble_eq_true rfl) (Nat.le_of_ble_eq_true rfl) (Nat.le_of_ble_eq_true rfl) dL_areTasksRight_368 ?_
                                            refine lv_sipush (v := 9999) hx hb dL_areTasksRight_371 (by decide) ?_
                                            refine lv_icmp_gt (tgt := 393) hx hb dL_areTasksRight_374 (by decide) (fun c_374_230 => ?_) (fun c_374_230 => ?_)
                                            · exact absurd c_374_230 (abs_bnd hb9)
                                            · skip
                                              rcases task_in h hk with c4 | ⟨q4, hq4, c4, ⟨o4, ho4, s0⟩, v4, hv4, s1, hv2⟩
                                              · skip
                                                refine lv_aload_n hx hb dL_areTasksRight_377 rfl (lv_at hl 4 rfl) ?_
                                                refine lv_iload hx hb dL_areTasksRight_378 (lv_at hl 9 rfl) ?_
                                                refine lv_iconst (v := 4) hx hb dL_areTasksRight_380 (by decide) ?_
                                                refine x_Vi (As := [.int (nI k), .int 4]) (rest0 := []) ⟨hx, hb, hml, hown, hts⟩ (c_X8_ofTask l D cA ad (tr ++ [(cN, .boolean)]) R211 H.size τ pd π bd tp ρ h102 (nI k) 4 (nI_pos (by omega)) (by rw [h.1.1.2.2.1]; exact (nI_ltI (by omega) (by omega)).mpr (by omega)) (by decide) (by decide)) (cwV 2 hts gl_areTasksRight_X8_ofTask rfl rfl rfl (by decide +kernel) ⟨Nat.le_of_ble_eq_true rfl, Nat.le_of_ble_eq_true rfl⟩) hKb hP hD hS hA 209 w_tp rfl hl.1 rfl rfl (Nat.le_of_ble_eq_true rfl) ⟨Nat.le_of_ble_eq_true rfl, Nat.le_of_ble_eq_true rfl⟩ dL_areTasksRight_381 (fun r _ H locs hw hP hD hS => ?_)
                                                obtain rfl : r = (-1) := hw.trans c4
                                                refine lv_aload_n hx hb dL_areTasksRight_384 rfl (lv_at hl 4 rfl) ?_
                                                refine lv_bipush (v := 7) hx hb dL_areTasksRight_385 (by decide) ?_
                                                refine x_Vi (As := [.int 7]) (rest0 := [.int (-1)]) ⟨hx, hb, hml, hown, hts⟩ (c_X8_many l D cA ad (tr ++ [(cN, .boolean)]) R211 H.size τ pd π bd tp ρ h102 7 (by decide) (by decide)) (cwV 1 hts gl_areTasksRight_X8_many rfl rfl rfl (by decide +kernel) ⟨Nat.le_of_ble_eq_true rfl, Nat.le_of_ble_eq_true rfl⟩) hKb hP hD hS hA 209 w_tp rfl hl.1 rfl rfl (Nat.le_of_ble_eq_true rfl) ⟨Nat.le_of_ble_eq_true rfl, Nat.le_of_ble_eq_true rfl⟩ dL_areTasksRight_387 (fun r _ H locs hw hP hD hS => ?_)
                                                obtain rfl : r = (nI S) := hw.trans (many_7 h.1.1)
                                                refine lv_icmp_lt (tgt := 395) hx hb dL_areTasksRight_390 (by decide) (fun c_390_231 => ?_) (fun c_390_231 => ?_)
                                                · skip
                                                  refine lv_aload_n hx hb dL_areTasksRight_395 rfl (lv_at hl 4 rfl) ?_
                                                  refine lv_iload hx hb dL_areTasksRight_396 (lv_at hl 9 rfl) ?_
                                                  refine lv_iconst (v := 4) hx hb dL_areTasksRight_398 (by decide) ?_
                                                  refine x_Vi (As := [.int (nI k), .int 4]) (rest0 := []) ⟨hx, hb, hml, hown, hts⟩ (c_X8_ofTask l D cA ad (tr ++ [(cN, .boolean)]) R211 H.size τ pd π bd tp ρ h102 (nI k) 4 (nI_pos (by omega)) (by rw [h.1.1.2.2.1]; exact (nI_ltI (by omega) (by omega)).mpr (by omega)) (by decide) (by decide)) (cwV 2 hts gl_areTasksRight_X8_ofTask rfl rfl rfl (by decide +kernel) ⟨Nat.le_of_ble_eq_true rfl, Nat.le_of_ble_eq_true rfl⟩) hKb hP hD hS hA 209 w_tp rfl hl.1 rfl rfl (Nat.le_of_ble_eq_true rfl) ⟨Nat.le_of_ble_eq_true rfl, Nat.le_of_ble_eq_true rfl⟩ dL_areTasksRight_399 (fun r _ H locs hw hP hD hS => ?_)
                                                  obtain rfl : r = (-1) := hw.trans c4
                                                  refine lv_if_lt (tgt := 446) hx hb dL_areTasksRight_402 (by decide) (fun c_402_232 => ?_) (fun c_402_232 => ?_)
                                                  · skip
                                                    refine lv_iinc (v := (nI (k + 1))) (lv' := [(5, .int (nI (k + 1))), (9, .int (nI l9)), (8, .int 4), (7, .int (-1)), (6, .int 1), (0, .ref tp), (1, .ref oq), (2, .ref q1), (3, .ref q3), (4, .ref q5)]) hx hb dL_areTasksRight_446 hl (k := 9) rfl (show (nI k) + 1 = (nI (k + 1)) from nI_1 k) (by decide) rfl (fun ls hl => ?_)
                                                    refine lv_goto (tgt := 107) hx hb dL_areTasksRight_449 (by decide) ?_
                                                    exact ih n (Nat.lt_succ_self n) H locs ls ⟨(k + 1), f210, g, R211, ⟨by omega, st_upd e0 (by decide) hf ef210, hg.up, eR211⟩, hP, hD, hS, lv_sub hl [5, 6, 7, 8, 9, 0] rfl⟩
                                                  · exact absurd c_402_232 (by decide)
                                                · exact absurd (n1_lt (b := S) (by omega)) c_390_231
                                              · skip
                                                rcases (show v4 = 0 ∨ v4 = 1 ∨ v4 = 2 by omega) with e4 | e4 | e4 <;> subst e4
                                                · skip
                                                  refine lv_aload_n hx hb dL_areTasksRight_377 rfl (lv_at hl 4 rfl) ?_
                                                  refine lv_iload hx hb dL_areTasksRight_378 (lv_at hl 9 rfl) ?_
                                                  refine lv_iconst (v := 4) hx hb dL_areTasksRight_380 (by decide) ?_
                                                  refine x_Vi (As := [.int (nI k), .int 4]) (rest0 := []) ⟨hx, hb, hml, hown, hts⟩ (c_X8_ofTask l D cA ad (tr ++ [(cN, .boolean)]) R211 H.size τ pd π bd tp ρ h102 (nI k) 4 (nI_pos (by omega)) (by rw [h.1.1.2.2.1]; exact (nI_ltI (by omega) (by omega)).mpr (by omega)) (by decide) (by decide)) (cwV 2 hts gl_areTasksRight_X8_ofTask rfl rfl rfl (by decide +kernel) ⟨Nat.le_of_ble_eq_true rfl, Nat.le_of_ble_eq_true rfl⟩) hKb hP hD hS hA 209 w_tp rfl hl.1 rfl rfl (Nat.le_of_ble_eq_true rfl) ⟨Nat.le_of_ble_eq_true rfl, Nat.le_of_ble_eq_true rfl⟩ dL_areTasksRight_381 (fun r _ H locs hw hP hD hS => ?_)
                                                  obtain rfl : r = (nI q4) := hw.trans c4
                                                  refine lv_aload_n hx hb dL_areTasksRight_384 rfl (lv_at hl 4 rfl) ?_
                                                  refine lv_bipush (v := 7) hx hb dL_areTasksRight_385 (by decide) ?_
                                                  refine x_Vi (As := [.int 7]) (rest0 := [.int (nI q4)]) ⟨hx, hb, hml, hown, hts⟩ (c_X8_many l D cA ad (tr ++ [(cN, .boolean)]) R211 H.size τ pd π bd tp ρ h102 7 (by decide) (by decide)) (cwV 1 hts gl_areTasksRight_X8_many rfl rfl rfl (by decide +kernel) ⟨Nat.le_of_ble_eq_true rfl, Nat.le_of_ble_eq_true rfl⟩) hKb hP hD hS hA 209 w_tp rfl hl.1 rfl rfl (Nat.le_of_ble_eq_true rfl) ⟨Nat.le_of_ble_eq_true rfl, Nat.le_of_ble_eq_true rfl⟩ dL_areTasksRight_387 (fun r _ H locs hw hP hD hS => ?_)
                                                  obtain rfl : r = (nI S) := hw.trans (many_7 h.1.1)
                                                  refine lv_icmp_lt (tgt := 395) hx hb dL_areTasksRight_390 (by decide) (fun c_390_233 => ?_) (fun c_390_233 => ?_)
                                                  · skip
                                                    refine lv_aload_n hx hb dL_areTasksRight_395 rfl (lv_at hl 4 rfl) ?_
                                                    refine lv_iload hx hb dL_areTasksRight_396 (lv_at hl 9 rfl) ?_
                                                    refine lv_iconst (v := 4) hx hb dL_areTasksRight_398 (by decide) ?_
                                                    refine x_Vi (As := [.int (nI k), .int 4]) (rest0 := []) ⟨hx, hb, hml, hown, hts⟩ (c_X8_ofTask l D cA ad (tr ++ [(cN, .boolean)]) R211 H.size τ pd π bd tp ρ h102 (nI k) 4 (nI_pos (by omega)) (by rw [h.1.1.2.2.1]; exact (nI_ltI (by omega) (by omega)).mpr (by omega)) (by decide) (by decide)) (cwV 2 hts gl_areTasksRight_X8_ofTask rfl rfl rfl (by decide +kernel) ⟨Nat.le_of_ble_eq_true rfl, Nat.le_of_ble_eq_true rfl⟩) hKb hP hD hS hA 209 w_tp rfl hl.1 rfl rfl (Nat.le_of_ble_eq_true rfl) ⟨Nat.le_of_ble_eq_true rfl, Nat.le_of_ble_eq_true rfl⟩ dL_areTasksRight_399 (fun r _ H locs hw hP hD hS => ?_)
                                                    obtain rfl : r = (nI q4) := hw.trans c4
                                                    refine lv_if_lt (tgt := 446) hx hb dL_areTasksRight_402 (by decide) (fun c_402_234 => ?_) (fun c_402_234 => ?_)
                                                    · exact absurd ((nI_ltI (a := q4) (b := 0) (by omega) (by omega)).mp c_402_234) (by omega)
                                                    · skip
                                                      refine lv_aload_n hx hb dL_areTasksRight_405 rfl (lv_at hl 4 rfl) ?_
                                                      refine lv_aload_n hx hb dL_areTasksRight_406 rfl (lv_at hl 4 rfl) ?_
                                                      refine lv_iload hx hb dL_areTasksRight_407 (lv_at hl 9 rfl) ?_
                                                      refine lv_iconst (v := 4) hx hb dL_areTasksRight_409 (by decide) ?_
                                                      refine x_Vi (As := [.int (nI k), .int 4]) (rest0 := [.ref tp]) ⟨hx, hb, hml, hown, hts⟩ (c_X8_ofTask l D cA ad (tr ++ [(cN, .boolean)]) R211 H.size τ pd π bd tp ρ h102 (nI k) 4 (nI_pos (by omega)) (by rw [h.1.1.2.2.1]; exact (nI_ltI (by omega) (by omega)).mpr (by omega)) (by decide) (by decide)) (cwV 2 hts gl_areTasksRight_X8_ofTask rfl rfl rfl (by decide +kernel) ⟨Nat.le_of_ble_eq_true rfl, Nat.le_of_ble_eq_true rfl⟩) hKb hP hD hS hA 209 w_tp rfl hl.1 rfl rfl (Nat.le_of_ble_eq_true rfl) ⟨Nat.le_of_ble_eq_true rfl, Nat.le_of_ble_eq_true rfl⟩ dL_areTasksRight_410 (fun r _ H locs hw hP hD hS => ?_)
                                                      obtain rfl : r = (nI q4) := hw.trans c4
                                                      refine lv_iconst (v := 0) hx hb dL_areTasksRight_413 (by decide) ?_
                                                      refine x_Vi (As := [.int (nI q4), .int 0]) (rest0 := []) ⟨hx, hb, hml, hown, hts⟩ (c_X8_ofScope l D cA ad (tr ++ [(cN, .boolean)]) R211 H.size τ pd π bd tp ρ h102 (nI q4) 0 (nI_pos (by omega)) (by rw [h.1.1.2.2.2.1]; exact (nI_ltI (by omega) (by omega)).mpr (by omega)) (by decide) (by decide)) (cwV 2 hts gl_areTasksRight_X8_ofScope rfl rfl rfl (by decide +kernel) ⟨Nat.le_of_ble_eq_true rfl, Nat.le_of_ble_eq_true rfl⟩) hKb hP hD hS hA 209 w_tp rfl hl.1 rfl rfl (Nat.le_of_ble_eq_true rfl) ⟨Nat.le_of_ble_eq_true rfl, Nat.le_of_ble_eq_true rfl⟩ dL_areTasksRight_414 (fun r _ H locs hw hP hD hS => ?_)
                                                      obtain rfl : r = (nI o4) := hw.trans s0
                                                      refine lv_iload hx hb dL_areTasksRight_417 (lv_at hl 9 rfl) ?_
                                                      refine lv_icmp_ge (tgt := 444) hx hb dL_areTasksRight_419 (by decide) (fun c_419_235 => ?_) (fun c_419_235 => ?_)
                                                      · exact absurd ((nI_leI (a := k) (b := o4) (by omega) (by omega)).mp c_419_235) (by omega)
                                                      · skip
                                                        refine lv_aload_n hx hb dL_areTasksRight_422 rfl (lv_at hl 4 rfl) ?_
                                                        refine lv_aload_n hx hb dL_areTasksRight_423 rfl (lv_at hl 4 rfl) ?_
                                                        refine lv_iload hx hb dL_areTasksRight_424 (lv_at hl 9 rfl) ?_
                                                        refine lv_iconst (v := 4) hx hb dL_areTasksRight_426 (by decide) ?_
                                                        refine x_Vi (As := [.int (nI k), .int 4]) (rest0 := [.ref tp]) ⟨hx, hb, hml, hown, hts⟩ (c_X8_ofTask l D cA ad (tr ++ [(cN, .boolean)]) R211 H.size τ pd π bd tp ρ h102 (nI k) 4 (nI_pos (by omega)) (by rw [h.1.1.2.2.1]; exact (nI_ltI (by omega) (by omega)).mpr (by omega)) (by decide) (by decide)) (cwV 2 hts gl_areTasksRight_X8_ofTask rfl rfl rfl (by decide +kernel) ⟨Nat.le_of_ble_eq_true rfl, Nat.le_of_ble_eq_true rfl⟩) hKb hP hD hS hA 209 w_tp rfl hl.1 rfl rfl (Nat.le_of_ble_eq_true rfl) ⟨Nat.le_of_ble_eq_true rfl, Nat.le_of_ble_eq_true rfl⟩ dL_areTasksRight_427 (fun r _ H locs hw hP hD hS => ?_)
                                                        obtain rfl : r = (nI q4) := hw.trans c4
                                                        refine lv_iconst (v := 1) hx hb dL_areTasksRight_430 (by decide) ?_
                                                        refine x_Vi (As := [.int (nI q4), .int 1]) (rest0 := []) ⟨hx, hb, hml, hown, hts⟩ (c_X8_ofScope l D cA ad (tr ++ [(cN, .boolean)]) R211 H.size τ pd π bd tp ρ h102 (nI q4) 1 (nI_pos (by omega)) (by rw [h.1.1.2.2.2.1]; exact (nI_ltI (by omega) (by omega)).mpr (by omega)) (by decide) (by decide)) (cwV 2 hts gl_areTasksRight_X8_ofScope rfl rfl rfl (by decide +kernel) ⟨Nat.le_of_ble_eq_true rfl, Nat.le_of_ble_eq_true rfl⟩) hKb hP hD hS hA 209 w_tp rfl hl.1 rfl rfl (Nat.le_of_ble_eq_true rfl) ⟨Nat.le_of_ble_eq_true rfl, Nat.le_of_ble_eq_true rfl⟩ dL_areTasksRight_431 (fun r _ H locs hw hP hD hS => ?_)
                                                        obtain rfl : r = 0 := hw.trans s1
                                                        refine lv_iconst (v := 2) hx hb dL_areTasksRight_434 (by decide) ?_
                                                        refine lv_icmp_ne (tgt := 446) hx hb dL_areTasksRight_435 (by decide) (fun c_435_236 => ?_) (fun c_435_236 => ?_)
                                                        · skip
                                                          refine lv_iinc (v := (nI (k + 1))) (lv' := [(5, .int (nI (k + 1))), (9, .int (nI l9)), (8, .int 4), (7, .int (-1)), (6, .int 1), (0, .ref tp), (1, .ref oq), (2, .ref q1), (3, .ref q3), (4, .ref q5)]) hx hb dL_areTasksRight_446 hl (k := 9) rfl (show (nI k) + 1 = (nI (k + 1)) from nI_1 k) (by decide) rfl (fun ls hl => ?_)
                                                          refine lv_goto (tgt := 107) hx hb dL_areTasksRight_449 (by decide) ?_
                                                          exact ih n (Nat.lt_succ_self n) H locs ls ⟨(k + 1), f210, g, R211, ⟨by omega, st_upd e0 (by decide) hf ef210, hg.up, eR211⟩, hP, hD, hS, lv_sub hl [5, 6, 7, 8, 9, 0] rfl⟩
                                                        · exact absurd c_435_236 (by decide)
                                                  · exact absurd ((nI_ltI (a := q4) (b := S) (by omega) (by omega)).mpr (by omega)) c_390_233
                                                · skip
                                                  refine lv_aload_n hx hb dL_areTasksRight_377 rfl (lv_at hl 4 rfl) ?_
                                                  refine lv_iload hx hb dL_areTasksRight_378 (lv_at hl 9 rfl) ?_
                                                  refine lv_iconst (v := 4) hx hb dL_areTasksRight_380 (by decide) ?_
                                                  refine x_Vi (As := [.int (nI k), .int 4]) (rest0 := []) ⟨hx, hb, hml, hown, hts⟩ (c_X8_ofTask l D cA ad (tr ++ [(cN, .boolean)]) R211 H.size τ pd π bd tp ρ h102 (nI k) 4 (nI_pos (by omega)) (by rw [h.1.1.2.2.1]; exact (nI_ltI (by omega) (by omega)).mpr (by omega)) (by decide) (by decide)) (cwV 2 hts gl_areTasksRight_X8_ofTask rfl rfl rfl (by decide +kernel) ⟨Nat.le_of_ble_eq_true rfl, Nat.le_of_ble_eq_true rfl⟩) hKb hP hD hS hA 209 w_tp rfl hl.1 rfl rfl (Nat.le_of_ble_eq_true rfl) ⟨Nat.le_of_ble_eq_true rfl, Nat.le_of_ble_eq_true rfl⟩ dL_areTasksRight_381 (fun r _ H locs hw hP hD hS => ?_)
                                                  obtain rfl : r = (nI q4) := hw.trans c4
                                                  refine lv_aload_n hx hb dL_areTasksRight_384 rfl (lv_at hl 4 rfl) ?_
                                                  refine lv_bipush (v := 7) hx hb dL_areTasksRight_385 (by decide) ?_
                                                  refine x_Vi (As := [.int 7]) (rest0 := [.int (nI q4)]) ⟨hx, hb, hml, hown, hts⟩ (c_X8_many l D cA ad (tr ++ [(cN, .boolean)]) R211 H.size τ pd π bd tp ρ h102 7 (by decide) (by decide)) (cwV 1 hts gl_areTasksRight_X8_many rfl rfl rfl (by decide +kernel) ⟨Nat.le_of_ble_eq_true rfl, Nat.le_of_ble_eq_true rfl⟩) hKb hP hD hS hA 209 w_tp rfl hl.1 rfl rfl (Nat.le_of_ble_eq_true rfl) ⟨Nat.le_of_ble_eq_true rfl, Nat.le_of_ble_eq_true rfl⟩ dL_areTasksRight_387 (fun r _ H locs hw hP hD hS => ?_)
                                                  obtain rfl : r = (nI S) := hw.trans (many_7 h.1.1)
                                                  refine lv_icmp_lt (tgt := 395) hx hb dL_areTasksRight_390 (by decide) (fun c_390_237 => ?_) (fun c_390_237 => ?_)
                                                  · skip
                                                    refine lv_aload_n hx hb dL_areTasksRight_395 rfl (lv_at hl 4 rfl) ?_
                                                    refine lv_iload hx hb dL_areTasksRight_396 (lv_at hl 9 rfl) ?_
                                                    refine lv_iconst (v := 4) hx hb dL_areTasksRight_398 (by decide) ?_
                                                    refine x_Vi (As := [.int (nI k), .int 4]) (rest0 := []) ⟨hx, hb, hml, hown, hts⟩ (c_X8_ofTask l D cA ad (tr ++ [(cN, .boolean)]) R211 H.size τ pd π bd tp ρ h102 (nI k) 4 (nI_pos (by omega)) (by rw [h.1.1.2.2.1]; exact (nI_ltI (by omega) (by omega)).mpr (by omega)) (by decide) (by decide)) (cwV 2 hts gl_areTasksRight_X8_ofTask rfl rfl rfl (by decide +kernel) ⟨Nat.le_of_ble_eq_true rfl, Nat.le_of_ble_eq_true rfl⟩) hKb hP hD hS hA 209 w_tp rfl hl.1 rfl rfl (Nat.le_of_ble_eq_true rfl) ⟨Nat.le_of_ble_eq_true rfl, Nat.le_of_ble_eq_true rfl⟩ dL_areTasksRight_399 (fun r _ H locs hw hP hD hS => ?_)
                                                    obtain rfl : r = (nI q4) := hw.trans c4
                                                    refine lv_if_lt (tgt := 446) hx hb dL_areTasksRight_402 (by decide) (fun c_402_238 => ?_) (fun c_402_238 => ?_)
                                                    · exact absurd ((nI_ltI (a := q4) (b := 0) (by omega) (by omega)).mp c_402_238) (by omega)
                                                    · skip
                                                      refine lv_aload_n hx hb dL_areTasksRight_405 rfl (lv_at hl 4 rfl) ?_
                                                      refine lv_aload_n hx hb dL_areTasksRight_406 rfl (lv_at hl 4 rfl) ?_
                                                      refine lv_iload hx hb dL_areTasksRight_407 (lv_at hl 9 rfl) ?_
                                                      refine lv_iconst (v := 4) hx hb dL_areTasksRight_409 (by decide) ?_
                                                      refine x_Vi (As := [.int (nI k), .int 4]) (rest0 := [.ref tp]) ⟨hx, hb, hml, hown, hts⟩ (c_X8_ofTask l D cA ad (tr ++ [(cN, .boolean)]) R211 H.size τ pd π bd tp ρ h102 (nI k) 4 (nI_pos (by omega)) (by rw [h.1.1.2.2.1]; exact (nI_ltI (by omega) (by omega)).mpr (by omega)) (by decide) (by decide)) (cwV 2 hts gl_areTasksRight_X8_ofTask rfl rfl rfl (by decide +kernel) ⟨Nat.le_of_ble_eq_true rfl, Nat.le_of_ble_eq_true rfl⟩) hKb hP hD hS hA 209 w_tp rfl hl.1 rfl rfl (Nat.le_of_ble_eq_true rfl) ⟨Nat.le_of_ble_eq_true rfl, Nat.le_of_ble_eq_true rfl⟩ dL_areTasksRight_410 (fun r _ H locs hw hP hD hS => ?_)
                                                      obtain rfl : r = (nI q4) := hw.trans c4
                                                      refine lv_iconst (v := 0) hx hb dL_areTasksRight_413 (by decide) ?_
                                                      refine x_Vi (As := [.int (nI q4), .int 0]) (rest0 := []) ⟨hx, hb, hml, hown, hts⟩ (c_X8_ofScope l D cA ad (tr ++ [(cN, .boolean)]) R211 H.size τ pd π bd tp ρ h102 (nI q4) 0 (nI_pos (by omega)) (by rw [h.1.1.2.2.2.1]; exact (nI_ltI (by omega) (by omega)).mpr (by omega)) (by decide) (by decide)) (cwV 2 hts gl_areTasksRight_X8_ofScope rfl rfl rfl (by decide +kernel) ⟨Nat.le_of_ble_eq_true rfl, Nat.le_of_ble_eq_true rfl⟩) hKb hP hD hS hA 209 w_tp rfl hl.1 rfl rfl (Nat.le_of_ble_eq_true rfl) ⟨Nat.le_of_ble_eq_true rfl, Nat.le_of_ble_eq_true rfl⟩ dL_areTasksRight_414 (fun r _ H locs hw hP hD hS => ?_)
                                                      obtain rfl : r = (nI o4) := hw.trans s0
                                                      refine lv_iload hx hb dL_areTasksRight_417 (lv_at hl 9 rfl) ?_
                                                      refine lv_icmp_ge (tgt := 444) hx hb dL_areTasksRight_419 (by decide) (fun c_419_239 => ?_) (fun c_419_239 => ?_)
                                                      · exact absurd ((nI_leI (a := k) (b := o4) (by omega) (by omega)).mp c_419_239) (by omega)
                                                      · skip
                                                        refine lv_aload_n hx hb dL_areTasksRight_422 rfl (lv_at hl 4 rfl) ?_
                                                        refine lv_aload_n hx hb dL_areTasksRight_423 rfl (lv_at hl 4 rfl) ?_
                                                        refine lv_iload hx hb dL_areTasksRight_424 (lv_at hl 9 rfl) ?_
                                                        refine lv_iconst (v := 4) hx hb dL_areTasksRight_426 (by decide) ?_
                                                        refine x_Vi (As := [.int (nI k), .int 4]) (rest0 := [.ref tp]) ⟨hx, hb, hml, hown, hts⟩ (c_X8_ofTask l D cA ad (tr ++ [(cN, .boolean)]) R211 H.size τ pd π bd tp ρ h102 (nI k) 4 (nI_pos (by omega)) (by rw [h.1.1.2.2.1]; exact (nI_ltI (by omega) (by omega)).mpr (by omega)) (by decide) (by decide)) (cwV 2 hts gl_areTasksRight_X8_ofTask rfl rfl rfl (by decide +kernel) ⟨Nat.le_of_ble_eq_true rfl, Nat.le_of_ble_eq_true rfl⟩) hKb hP hD hS hA 209 w_tp rfl hl.1 rfl rfl (Nat.le_of_ble_eq_true rfl) ⟨Nat.le_of_ble_eq_true rfl, Nat.le_of_ble_eq_true rfl⟩ dL_areTasksRight_427 (fun r _ H locs hw hP hD hS => ?_)
                                                        obtain rfl : r = (nI q4) := hw.trans c4
                                                        refine lv_iconst (v := 1) hx hb dL_areTasksRight_430 (by decide) ?_
                                                        refine x_Vi (As := [.int (nI q4), .int 1]) (rest0 := []) ⟨hx, hb, hml, hown, hts⟩ (c_X8_ofScope l D cA ad (tr ++ [(cN, .boolean)]) R211 H.size τ pd π bd tp ρ h102 (nI q4) 1 (nI_pos (by omega)) (by rw [h.1.1.2.2.2.1]; exact (nI_ltI (by omega) (by omega)).mpr (by omega)) (by decide) (by decide)) (cwV 2 hts gl_areTasksRight_X8_ofScope rfl rfl rfl (by decide +kernel) ⟨Nat.le_of_ble_eq_true rfl, Nat.le_of_ble_eq_true rfl⟩) hKb hP hD hS hA 209 w_tp rfl hl.1 rfl rfl (Nat.le_of_ble_eq_true rfl) ⟨Nat.le_of_ble_eq_true rfl, Nat.le_of_ble_eq_true rfl⟩ dL_areTasksRight_431 (fun r _ H locs hw hP hD hS => ?_)
                                                        obtain rfl : r = 1 := hw.trans s1
                                                        refine lv_iconst (v := 2) hx hb dL_areTasksRight_434 (by decide) ?_
                                                        refine lv_icmp_ne (tgt := 446) hx hb dL_areTasksRight_435 (by decide) (fun c_435_240 => ?_) (fun c_435_240 => ?_)
                                                        · skip
                                                          refine lv_iinc (v := (nI (k + 1))) (lv' := [(5, .int (nI (k + 1))), (9, .int (nI l9)), (8, .int 4), (7, .int (-1)), (6, .int 1), (0, .ref tp), (1, .ref oq), (2, .ref q1), (3, .ref q3), (4, .ref q5)]) hx hb dL_areTasksRight_446 hl (k := 9) rfl (show (nI k) + 1 = (nI (k + 1)) from nI_1 k) (by decide) rfl (fun ls hl => ?_)
                                                          refine lv_goto (tgt := 107) hx hb dL_areTasksRight_449 (by decide) ?_
                                                          exact ih n (Nat.lt_succ_self n) H locs ls ⟨(k + 1), f210, g, R211, ⟨by omega, st_upd e0 (by decide) hf ef210, hg.up, eR211⟩, hP, hD, hS, lv_sub hl [5, 6, 7, 8, 9, 0] rfl⟩
                                                        · exact absurd c_435_240 (by decide)
                                                  · exact absurd ((nI_ltI (a := q4) (b := S) (by omega) (by omega)).mpr (by omega)) c_390_237
                                                · exact absurd hal (hv2 rfl)
                                          · exact absurd c_348_229 (by decide)
                                        · exact absurd c_340_228 (by decide)
                                · exact absurd c_287_224 (by decide)
                              · exact absurd c_259_223 (by decide)
                          · exact absurd c_245_221 (by decide)
                        · exact absurd ((nI_leI (a := 0) (b := l9) (by omega) (by omega)).mpr (by omega)) c_234_220
                · exact absurd c_198_216 (by decide)
          · exact absurd c_175_213 (by decide)
        · exact absurd c_165_212 (by decide)
      · skip
        rw [ww] at c8
        have hw18 : f43 18 = 4 := hwt 18 (by decide)
        rw [kk] at hf0
        refine lv_aload_n hx hb dL_areTasksRight_117 rfl (lv_at hl 0 rfl) ?_
        refine lv_iload hx hb dL_areTasksRight_118 (lv_at hl 5 rfl) ?_
        refine lv_iconst (v := 1) hx hb dL_areTasksRight_120 (by decide) ?_
        refine x_Vi (As := [.int (nI k), .int 1]) (rest0 := []) ⟨hx, hb, hml, hown, hts⟩ (c_X8_ofTask l D cA ad (tr ++ [(cN, .boolean)]) R45 H.size τ pd π bd tp ρ h102 (nI k) 1 (nI_pos (by omega)) (by rw [h.1.1.2.2.1]; exact (nI_ltI (by omega) (by omega)).mpr (by omega)) (by decide) (by decide)) (cwV 2 hts gl_areTasksRight_X8_ofTask rfl rfl rfl (by decide +kernel) ⟨Nat.le_of_ble_eq_true rfl, Nat.le_of_ble_eq_true rfl⟩) hKb hP hD hS hA 209 w_tp rfl hl.1 rfl rfl (Nat.le_of_ble_eq_true rfl) ⟨Nat.le_of_ble_eq_true rfl, Nat.le_of_ble_eq_true rfl⟩ dL_areTasksRight_121 (fun r _ H locs hw hP hD hS => ?_)
        obtain rfl : r = 1 := hw.trans c1
        refine lv_istore (lv' := [(6, .int 1), (0, .ref tp), (1, .ref oq), (2, .ref q1), (3, .ref q3), (4, .ref q5), (5, .int (nI k))]) hx hb dL_areTasksRight_124 hl (by decide) rfl (fun ls hl => ?_)
        refine lv_aload_n hx hb dL_areTasksRight_126 rfl (lv_at hl 1 rfl) ?_
        refine lv_iload hx hb dL_areTasksRight_127 (lv_at hl 6 rfl) ?_
        refine lv_bipush (v := 6) hx hb dL_areTasksRight_129 (by decide) ?_
        refine x_Vi (As := [.int (nI k), .int 6]) (rest0 := []) ⟨hx, hb, hml, hown, hts⟩ (c_X8_ofTask l D cA ad (tr ++ [(cN, .boolean)]) R45 H.size τ pd π bd tp ρ h102 (nI k) 6 (nI_pos (by omega)) (by rw [h.1.1.2.2.1]; exact (nI_ltI (by omega) (by omega)).mpr (by omega)) (by decide) (by decide)) (cwV 2 hts gl_areTasksRight_X8_ofTask rfl rfl rfl (by decide +kernel) ⟨Nat.le_of_ble_eq_true rfl, Nat.le_of_ble_eq_true rfl⟩) hKb hP hD hS hA 209 w_tp rfl hl.1 rfl rfl (Nat.le_of_ble_eq_true rfl) ⟨Nat.le_of_ble_eq_true rfl, Nat.le_of_ble_eq_true rfl⟩ dL_areTasksRight_131 (fun r _ H locs hw hP hD hS => ?_)
        obtain rfl : r = (-1) := hw.trans c6
        refine lv_istore (lv' := [(7, .int (-1)), (6, .int 1), (0, .ref tp), (1, .ref oq), (2, .ref q1), (3, .ref q3), (4, .ref q5), (5, .int (nI k))]) hx hb dL_areTasksRight_134 hl (by decide) rfl (fun ls hl => ?_)
        refine lv_aload_n hx hb dL_areTasksRight_136 rfl (lv_at hl 2 rfl) ?_
        refine lv_iload hx hb dL_areTasksRight_137 (lv_at hl 7 rfl) ?_
        refine lv_bipush (v := 8) hx hb dL_areTasksRight_139 (by decide) ?_
        refine x_Vi (As := [.int (nI k), .int 8]) (rest0 := []) ⟨hx, hb, hml, hown, hts⟩ (c_X8_ofTask l D cA ad (tr ++ [(cN, .boolean)]) R45 H.size τ pd π bd tp ρ h102 (nI k) 8 (nI_pos (by omega)) (by rw [h.1.1.2.2.1]; exact (nI_ltI (by omega) (by omega)).mpr (by omega)) (by decide) (by decide)) (cwV 2 hts gl_areTasksRight_X8_ofTask rfl rfl rfl (by decide +kernel) ⟨Nat.le_of_ble_eq_true rfl, Nat.le_of_ble_eq_true rfl⟩) hKb hP hD hS hA 209 w_tp rfl hl.1 rfl rfl (Nat.le_of_ble_eq_true rfl) ⟨Nat.le_of_ble_eq_true rfl, Nat.le_of_ble_eq_true rfl⟩ dL_areTasksRight_141 (fun r _ H locs hw hP hD hS => ?_)
        obtain rfl : r = 4 := hw.trans c8
        refine lv_istore (lv' := [(8, .int 4), (7, .int (-1)), (6, .int 1), (0, .ref tp), (1, .ref oq), (2, .ref q1), (3, .ref q3), (4, .ref q5), (5, .int (nI k))]) hx hb dL_areTasksRight_144 hl (by decide) rfl (fun ls hl => ?_)
        refine lv_aload_n hx hb dL_areTasksRight_146 rfl (lv_at hl 3 rfl) ?_
        refine lv_iload hx hb dL_areTasksRight_147 (lv_at hl 8 rfl) ?_
        refine lv_iconst (v := 2) hx hb dL_areTasksRight_149 (by decide) ?_
        refine x_Vi (As := [.int (nI k), .int 2]) (rest0 := []) ⟨hx, hb, hml, hown, hts⟩ (c_X8_ofTask l D cA ad (tr ++ [(cN, .boolean)]) R45 H.size τ pd π bd tp ρ h102 (nI k) 2 (nI_pos (by omega)) (by rw [h.1.1.2.2.1]; exact (nI_ltI (by omega) (by omega)).mpr (by omega)) (by decide) (by decide)) (cwV 2 hts gl_areTasksRight_X8_ofTask rfl rfl rfl (by decide +kernel) ⟨Nat.le_of_ble_eq_true rfl, Nat.le_of_ble_eq_true rfl⟩) hKb hP hD hS hA 209 w_tp rfl hl.1 rfl rfl (Nat.le_of_ble_eq_true rfl) ⟨Nat.le_of_ble_eq_true rfl, Nat.le_of_ble_eq_true rfl⟩ dL_areTasksRight_150 (fun r _ H locs hw hP hD hS => ?_)
        obtain rfl : r = (nI l9) := hw.trans c2
        refine lv_istore (lv' := [(9, .int (nI l9)), (8, .int 4), (7, .int (-1)), (6, .int 1), (0, .ref tp), (1, .ref oq), (2, .ref q1), (3, .ref q3), (4, .ref q5), (5, .int (nI k))]) hx hb dL_areTasksRight_153 hl (by decide) rfl (fun ls hl => ?_)
        refine lv_aload_n hx hb dL_areTasksRight_155 rfl (lv_at hl 6 rfl) ?_
        refine lv_iload hx hb dL_areTasksRight_156 (lv_at hl 3 rfl) ?_
        refine lv_dup2_11 hx hb dL_areTasksRight_158 rfl rfl ?_
        refine va_iald hx hb hKb hP (0 + rest.length + 210) (0) (wNewR eR45 rfl) rfl (by unfold vp_in; decide) dL_areTasksRight_159 ?_
        refine W.eq (g2 := F0 m 160 ls [.int (nI (cnt (m_isIn τ (nI 1)) k)), .int 1, .ref q1]) (by show F0 m _ ls (.int (f 1) :: _) = _; rw [hf 1 (by decide)]) ?_
        refine lv_iconst (v := 1) hx hb dL_areTasksRight_160 (by decide) ?_
        refine lv_iadd hx hb dL_areTasksRight_161 ?_
        refine W.eq (g2 := F0 m 162 ls [.int (nI ((cnt (m_isIn τ (nI 1)) k) + 1)), .int 1, .ref q1]) (by rw [show ((nI (cnt (m_isIn τ (nI 1)) k)) : Int32) + 1 = (nI ((cnt (m_isIn τ (nI 1)) k) + 1)) from nI_add (cnt (m_isIn τ (nI 1)) k) 1]) ?_
        refine va_iast hx hb hKb hP hD hS (0 + rest.length + 210) (0) (wNewR eR45 rfl) rfl (by unfold vp_in; decide) dL_areTasksRight_162 (fun H locs hP hD hS => ?_)
        rw [wNewSR eR45] at hP hD
        obtain ⟨f241, ef241⟩ : ∃ z : Nat → Int32, z = upd f 1 (nI ((cnt (m_isIn τ (nI 1)) k) + 1)) := ⟨_, rfl⟩
        obtain ⟨R242, eR242⟩ : ∃ z : va_W, z = rest ++ [(q1, .inl (cA 0, 5, .inl f241)), (q3, .inl (cN, 24, .inl g)), (q5, .inl (cA 0, 19, .inl f43))] := ⟨_, rfl⟩
        have hP : va_P D vwCl (wB cA ad τ ++ (wPg cA ad pd π ++ (wB cA bd ρ ++ ((tp, .inr (8, tpF ad bd)) :: R242)))) H := by rw [eR242, ef241]; exact hP
        have hD : va_D A (wB cA ad τ ++ (wPg cA ad pd π ++ (wB cA bd ρ ++ ((tp, .inr (8, tpF ad bd)) :: R242)))) := by rw [eR242, ef241]; exact hD
        refine lv_iload hx hb dL_areTasksRight_163 (lv_at hl 2 rfl) ?_
        refine lv_if_lt (tgt := 172) hx hb dL_areTasksRight_165 (by decide) (fun c_165_243 => ?_) (fun c_165_243 => ?_)
        · skip
          refine lv_iconst (v := 0) hx hb dL_areTasksRight_172 (by decide) ?_
          refine lv_iload hx hb dL_areTasksRight_173 (lv_at hl 3 rfl) ?_
          refine lv_if_ne (tgt := 182) hx hb dL_areTasksRight_175 (by decide) (fun c_175_244 => ?_) (fun c_175_244 => ?_)
          · skip
            refine lv_iconst (v := 0) hx hb dL_areTasksRight_182 (by decide) ?_
            refine lv_icmp_ne (tgt := 283) hx hb dL_areTasksRight_183 (by decide) (fun c_183_245 => ?_) (fun c_183_245 => ?_)
            · exact absurd c_183_245 (by decide)
            · skip
              refine lv_iload hx hb dL_areTasksRight_186 (lv_at hl 2 rfl) ?_
              refine lv_aload_n hx hb dL_areTasksRight_188 rfl (lv_at hl 4 rfl) ?_
              refine lv_iconst (v := 2) hx hb dL_areTasksRight_189 (by decide) ?_
              refine x_Vi (As := [.int 2]) (rest0 := [.int (-1)]) ⟨hx, hb, hml, hown, hts⟩ (c_X8_many l D cA ad (tr ++ [(cN, .boolean)]) R242 H.size τ pd π bd tp ρ h102 2 (by decide) (by decide)) (cwV 1 hts gl_areTasksRight_X8_many rfl rfl rfl (by decide +kernel) ⟨Nat.le_of_ble_eq_true rfl, Nat.le_of_ble_eq_true rfl⟩) hKb hP hD hS hA 209 w_tp rfl hl.1 rfl rfl (Nat.le_of_ble_eq_true rfl) ⟨Nat.le_of_ble_eq_true rfl, Nat.le_of_ble_eq_true rfl⟩ dL_areTasksRight_190 (fun r _ H locs hw hP hD hS => ?_)
              obtain rfl : r = (nI L.length) := hw.trans ((many_st h.1.1).1.trans (congrArg nI (ready_len hL h.1.1)))
              refine lv_icmp_ge (tgt := 283) hx hb dL_areTasksRight_193 (by decide) (fun c_193_246 => ?_) (fun c_193_246 => ?_)
              · exact absurd c_193_246 (n1_nle (b := L.length) (by omega))
              · skip
                refine lv_iload hx hb dL_areTasksRight_196 (lv_at hl 2 rfl) ?_
                refine lv_if_lt (tgt := 208) hx hb dL_areTasksRight_198 (by decide) (fun c_198_247 => ?_) (fun c_198_247 => ?_)
                · skip
                  refine lv_iload hx hb dL_areTasksRight_208 (lv_at hl 1 rfl) ?_
                  refine lv_if_le (tgt := 217) hx hb dL_areTasksRight_210 (by decide) (fun c_210_248 => ?_) (fun c_210_248 => ?_)
                  · exact absurd c_210_248 (by decide)
                  · skip
                    refine lv_iconst (v := 1) hx hb dL_areTasksRight_213 (by decide) ?_
                    refine lv_goto (tgt := 218) hx hb dL_areTasksRight_214 (by decide) ?_
                    refine lv_iload hx hb dL_areTasksRight_218 (lv_at hl 3 rfl) ?_
                    refine lv_iconst (v := 1) hx hb dL_areTasksRight_220 (by decide) ?_
                    refine lv_icmp_ne (tgt := 228) hx hb dL_areTasksRight_221 (by decide) (fun c_221_249 => ?_) (fun c_221_249 => ?_)
                    · exact absurd c_221_249 (by decide)
                    · skip
                      refine lv_iconst (v := 1) hx hb dL_areTasksRight_224 (by decide) ?_
                      refine lv_goto (tgt := 229) hx hb dL_areTasksRight_225 (by decide) ?_
                      refine lv_icmp_ne (tgt := 283) hx hb dL_areTasksRight_229 (by decide) (fun c_229_250 => ?_) (fun c_229_250 => ?_)
                      · exact absurd c_229_250 (by decide)
                      · skip
                        refine lv_iload hx hb dL_areTasksRight_232 (lv_at hl 0 rfl) ?_
                        refine lv_if_ge (tgt := 241) hx hb dL_areTasksRight_234 (by decide) (fun c_234_251 => ?_) (fun c_234_251 => ?_)
                        · skip
                          refine lv_iconst (v := 0) hx hb dL_areTasksRight_241 (by decide) ?_
                          refine lv_iload hx hb dL_areTasksRight_242 (lv_at hl 3 rfl) ?_
                          refine lv_iconst (v := 1) hx hb dL_areTasksRight_244 (by decide) ?_
                          refine lv_icmp_le (tgt := 252) hx hb dL_areTasksRight_245 (by decide) (fun c_245_252 => ?_) (fun c_245_252 => ?_)
                          · skip
                            refine lv_iconst (v := 0) hx hb dL_areTasksRight_252 (by decide) ?_
                            refine lv_icmp_ne (tgt := 283) hx hb dL_areTasksRight_253 (by decide) (fun c_253_253 => ?_) (fun c_253_253 => ?_)
                            · exact absurd c_253_253 (by decide)
                            · skip
                              refine lv_iload hx hb dL_areTasksRight_256 (lv_at hl 3 rfl) ?_
                              refine lv_iconst (v := 1) hx hb dL_areTasksRight_258 (by decide) ?_
                              refine lv_icmp_le (tgt := 285) hx hb dL_areTasksRight_259 (by decide) (fun c_259_254 => ?_) (fun c_259_254 => ?_)
                              · skip
                                refine lv_iload hx hb dL_areTasksRight_285 (lv_at hl 2 rfl) ?_
                                refine lv_if_lt (tgt := 295) hx hb dL_areTasksRight_287 (by decide) (fun c_287_255 => ?_) (fun c_287_255 => ?_)
                                · skip
                                  refine lv_iload hx hb dL_areTasksRight_295 (lv_at hl 1 rfl) ?_
                                  refine lv_if_le (tgt := 345) hx hb dL_areTasksRight_297 (by decide) (fun c_297_256 => ?_) (fun c_297_256 => ?_)
                                  · exact absurd c_297_256 (by decide)
                                  · skip
                                    refine lv_iload hx hb dL_areTasksRight_300 (lv_at hl 1 rfl) ?_
                                    refine lv_iconst (v := 5) hx hb dL_areTasksRight_302 (by decide) ?_
                                    refine lv_icmp_ge (tgt := 345) hx hb dL_areTasksRight_303 (by decide) (fun c_303_257 => ?_) (fun c_303_257 => ?_)
                                    · exact absurd c_303_257 (by decide)
                                    · skip
                                      refine lv_aload_n hx hb dL_areTasksRight_306 rfl (lv_at hl 4 rfl) ?_
                                      refine lv_iload hx hb dL_areTasksRight_307 (lv_at hl 9 rfl) ?_
                                      refine lv_bipush (v := 7) hx hb dL_areTasksRight_309 (by decide) ?_
                                      refine x_Vi (As := [.int (nI k), .int 7]) (rest0 := []) ⟨hx, hb, hml, hown, hts⟩ (c_X8_ofTask l D cA ad (tr ++ [(cN, .boolean)]) R242 H.size τ pd π bd tp ρ h102 (nI k) 7 (nI_pos (by omega)) (by rw [h.1.1.2.2.1]; exact (nI_ltI (by omega) (by omega)).mpr (by omega)) (by decide) (by decide)) (cwV 2 hts gl_areTasksRight_X8_ofTask rfl rfl rfl (by decide +kernel) ⟨Nat.le_of_ble_eq_true rfl, Nat.le_of_ble_eq_true rfl⟩) hKb hP hD hS hA 209 w_tp rfl hl.1 rfl rfl (Nat.le_of_ble_eq_true rfl) ⟨Nat.le_of_ble_eq_true rfl, Nat.le_of_ble_eq_true rfl⟩ dL_areTasksRight_311 (fun r _ H locs hw hP hD hS => ?_)
                                      obtain rfl : r = 0 := hw.trans c7
                                      refine lv_iconst (v := 1) hx hb dL_areTasksRight_314 (by decide) ?_
                                      refine lv_icmp_eq (tgt := 343) hx hb dL_areTasksRight_315 (by decide) (fun c_315_258 => ?_) (fun c_315_258 => ?_)
                                      · exact absurd c_315_258 (by decide)
                                      · skip
                                        refine lv_aload hx hb dL_areTasksRight_318 (lv_at hl 8 rfl) ?_
                                        refine lv_aload_n hx hb dL_areTasksRight_320 rfl (lv_at hl 5 rfl) ?_
                                        refine va_getN (D := D) (C := RX9) (T := TX9) (N := 3) (ci := 9) (host := RL) hx hb hts nl_areTasksRight_X9 hown hKb hP (0 + 210) (wOldR eR242 (own0 hR)) rfl 0 (by decide) (va_Nw.use rfl hN) (fun _ h => h) rfl dL_areTasksRight_321 ?_
                                        refine lv_aload_n hx hb dL_areTasksRight_324 rfl (lv_at hl 4 rfl) ?_
                                        refine lv_iload hx hb dL_areTasksRight_325 (lv_at hl 9 rfl) ?_
                                        refine lv_iconst (v := 0) hx hb dL_areTasksRight_327 (by decide) ?_
                                        refine x_Vi (As := [.int (nI k), .int 0]) (rest0 := [.ref la, .ref q5]) ⟨hx, hb, hml, hown, hts⟩ (c_X8_ofTask l D cA ad (tr ++ [(cN, .boolean)]) R242 H.size τ pd π bd tp ρ h102 (nI k) 0 (nI_pos (by omega)) (by rw [h.1.1.2.2.1]; exact (nI_ltI (by omega) (by omega)).mpr (by omega)) (by decide) (by decide)) (cwV 2 hts gl_areTasksRight_X8_ofTask rfl rfl rfl (by decide +kernel) ⟨Nat.le_of_ble_eq_true rfl, Nat.le_of_ble_eq_true rfl⟩) hKb hP hD hS hA 209 w_tp rfl hl.1 rfl rfl (Nat.le_of_ble_eq_true rfl) ⟨Nat.le_of_ble_eq_true rfl, Nat.le_of_ble_eq_true rfl⟩ dL_areTasksRight_328 (fun r _ H locs hw hP hD hS => ?_)
                                        obtain rfl : r = (nI b9) := hw.trans c0
                                        refine va_aldr hx hb hKb hP (1 + 210) (j3 + 5) (wOldR eR242 (own1 hR)) (ty_old ht3) (vp_in_nI (by omega) (by omega)) dL_areTasksRight_331 ?_
                                        refine W.eq (g2 := F0 m 332 ls [.ref (lb b9), .ref q5]) (by rw [nI_clamp (show b9 < 2 ^ 31 by omega)]; show F0 m _ ls (va_rf (rf8 lb b9) :: _) = _; rw [rf8_at b8]; rfl) ?_
                                        refine lv_iload hx hb dL_areTasksRight_332 (lv_at hl 0 rfl) ?_
                                        refine va_aldr hx hb hKb hP (b9 + 2 + 210) (j2 + 5) (wOldR eR242 (ownI hR b8)) (ty_old ht2) (vp_in_nI (by omega) (by omega)) dL_areTasksRight_334 ?_
                                        refine W.eq (g2 := F0 m 335 ls [.ref q9, .ref q5]) (by rw [nI_clamp (show l9 < 2 ^ 31 by omega), hLA]; rfl) ?_
                                        refine lv_iconst (v := 0) hx hb dL_areTasksRight_335 (by decide) ?_
                                        refine va_iald hx hb hKb hP (kq + 11 + 210) 0 (wOldR eR242 (ownR hR hkq)) rfl (by unfold vp_in; decide) dL_areTasksRight_336 ?_
                                        refine W.eq (g2 := F0 m 337 ls [.int 18, .ref q5]) (by show F0 m _ ls (.int (fq 0) :: _) = _; rw [hf0]) ?_
                                        refine va_iald hx hb hKb hP (2 + rest.length + 210) (0) (wNewR eR242 rfl) rfl (by unfold vp_in; decide) dL_areTasksRight_337 ?_
                                        refine W.eq (g2 := F0 m 338 ls [.int 4]) (by show F0 m _ ls (.int (f43 18) :: _) = _; rw [hw18]) ?_
                                        refine lv_iload hx hb dL_areTasksRight_338 (lv_at hl 1 rfl) ?_
                                        refine lv_icmp_eq (tgt := 345) hx hb dL_areTasksRight_340 (by decide) (fun c_340_259 => ?_) (fun c_340_259 => ?_)
                                        · skip
                                          refine lv_iload hx hb dL_areTasksRight_345 (lv_at hl 1 rfl) ?_
                                          refine lv_iconst (v := 5) hx hb dL_areTasksRight_347 (by decide) ?_
                                          refine lv_icmp_ne (tgt := 361) hx hb dL_areTasksRight_348 (by decide) (fun c_348_260 => ?_) (fun c_348_260 => ?_)
                                          · skip
                                            have hb9 : bnd (τ (k + 6) 5) := by have := task_there hB hk24; rwa [aT3 hk24] at this
                                            refine lv_aload_n hx hb dL_areTasksRight_361 rfl (lv_at hl 4 rfl) ?_
                                            refine lv_iload hx hb dL_areTasksRight_362 (lv_at hl 9 rfl) ?_
                                            refine lv_iconst (v := 3) hx hb dL_areTasksRight_364 (by decide) ?_
                                            refine x_Vi (As := [.int (nI k), .int 3]) (rest0 := []) ⟨hx, hb, hml, hown, hts⟩ (c_X8_ofTask l D cA ad (tr ++ [(cN, .boolean)]) R242 H.size τ pd π bd tp ρ h102 (nI k) 3 (nI_pos (by omega)) (by rw [h.1.1.2.2.1]; exact (nI_ltI (by omega) (by omega)).mpr (by omega)) (by decide) (by decide)) (cwV 2 hts gl_areTasksRight_X8_ofTask rfl rfl rfl (by decide +kernel) ⟨Nat.le_of_ble_eq_true rfl, Nat.le_of_ble_eq_true rfl⟩) hKb hP hD hS hA 209 w_tp rfl hl.1 rfl rfl (Nat.le_of_ble_eq_true rfl) ⟨Nat.le_of_ble_eq_true rfl, Nat.le_of_ble_eq_true rfl⟩ dL_areTasksRight_365 (fun r _ H locs hw hP hD hS => ?_)
                                            obtain rfl : r = (τ (k + 6) 5) := hw.trans (aT3 (by omega))
                                            refine va_mabs (rest := []) hx hb (hml.trans hl.1.symm) hown (hts (.methodLink RL 103 Lib.Math.abs.name) (by decide +kernel)) (hts (.static Lib.Math.abs.name) (by decide +kernel)) (hts (.initialized "java/lang/Math") (by decide +kernel)) (hts (.code Lib.Math.abs.name Lib.Math.abs.code 1 (some .int)) (by decide +kernel)) (Nat.le_of_ble_eq_true rfl) (Nat.le_of_ble_eq_true rfl) (Nat.le_of_ble_eq_true rfl) (Nat.le_of_ble_eq_true rfl) dL_areTasksRight_368 ?_
                                            refine lv_sipush (v := 9999) hx hb dL_areTasksRight_371 (by decide) ?_
                                            refine lv_icmp_gt (tgt := 393) hx hb dL_areTasksRight_374 (by decide) (fun c_374_261 => ?_) (fun c_374_261 => ?_)
                                            · exact absurd c_374_261 (abs_bnd hb9)
                                            · skip
                                              rcases task_in h hk with c4 | ⟨q4, hq4, c4, ⟨o4, ho4, s0⟩, v4, hv4, s1, hv2⟩
                                              · skip
                                                refine lv_aload_n hx hb dL_areTasksRight_377 rfl (lv_at hl 4 rfl) ?_
                                                refine lv_iload hx hb dL_areTasksRight_378 (lv_at hl 9 rfl) ?_
                                                refine lv_iconst (v := 4) hx hb dL_areTasksRight_380 (by decide) ?_
                                                refine x_Vi (As := [.int (nI k), .int 4]) (rest0 := []) ⟨hx, hb, hml, hown, hts⟩ (c_X8_ofTask l D cA ad (tr ++ [(cN, .boolean)]) R242 H.size τ pd π bd tp ρ h102 (nI k) 4 (nI_pos (by omega)) (by rw [h.1.1.2.2.1]; exact (nI_ltI (by omega) (by omega)).mpr (by omega)) (by decide) (by decide)) (cwV 2 hts gl_areTasksRight_X8_ofTask rfl rfl rfl (by decide +kernel) ⟨Nat.le_of_ble_eq_true rfl, Nat.le_of_ble_eq_true rfl⟩) hKb hP hD hS hA 209 w_tp rfl hl.1 rfl rfl (Nat.le_of_ble_eq_true rfl) ⟨Nat.le_of_ble_eq_true rfl, Nat.le_of_ble_eq_true rfl⟩ dL_areTasksRight_381 (fun r _ H locs hw hP hD hS => ?_)
                                                obtain rfl : r = (-1) := hw.trans c4
                                                refine lv_aload_n hx hb dL_areTasksRight_384 rfl (lv_at hl 4 rfl) ?_
                                                refine lv_bipush (v := 7) hx hb dL_areTasksRight_385 (by decide) ?_
                                                refine x_Vi (As := [.int 7]) (rest0 := [.int (-1)]) ⟨hx, hb, hml, hown, hts⟩ (c_X8_many l D cA ad (tr ++ [(cN, .boolean)]) R242 H.size τ pd π bd tp ρ h102 7 (by decide) (by decide)) (cwV 1 hts gl_areTasksRight_X8_many rfl rfl rfl (by decide +kernel) ⟨Nat.le_of_ble_eq_true rfl, Nat.le_of_ble_eq_true rfl⟩) hKb hP hD hS hA 209 w_tp rfl hl.1 rfl rfl (Nat.le_of_ble_eq_true rfl) ⟨Nat.le_of_ble_eq_true rfl, Nat.le_of_ble_eq_true rfl⟩ dL_areTasksRight_387 (fun r _ H locs hw hP hD hS => ?_)
                                                obtain rfl : r = (nI S) := hw.trans (many_7 h.1.1)
                                                refine lv_icmp_lt (tgt := 395) hx hb dL_areTasksRight_390 (by decide) (fun c_390_262 => ?_) (fun c_390_262 => ?_)
                                                · skip
                                                  refine lv_aload_n hx hb dL_areTasksRight_395 rfl (lv_at hl 4 rfl) ?_
                                                  refine lv_iload hx hb dL_areTasksRight_396 (lv_at hl 9 rfl) ?_
                                                  refine lv_iconst (v := 4) hx hb dL_areTasksRight_398 (by decide) ?_
                                                  refine x_Vi (As := [.int (nI k), .int 4]) (rest0 := []) ⟨hx, hb, hml, hown, hts⟩ (c_X8_ofTask l D cA ad (tr ++ [(cN, .boolean)]) R242 H.size τ pd π bd tp ρ h102 (nI k) 4 (nI_pos (by omega)) (by rw [h.1.1.2.2.1]; exact (nI_ltI (by omega) (by omega)).mpr (by omega)) (by decide) (by decide)) (cwV 2 hts gl_areTasksRight_X8_ofTask rfl rfl rfl (by decide +kernel) ⟨Nat.le_of_ble_eq_true rfl, Nat.le_of_ble_eq_true rfl⟩) hKb hP hD hS hA 209 w_tp rfl hl.1 rfl rfl (Nat.le_of_ble_eq_true rfl) ⟨Nat.le_of_ble_eq_true rfl, Nat.le_of_ble_eq_true rfl⟩ dL_areTasksRight_399 (fun r _ H locs hw hP hD hS => ?_)
                                                  obtain rfl : r = (-1) := hw.trans c4
                                                  refine lv_if_lt (tgt := 446) hx hb dL_areTasksRight_402 (by decide) (fun c_402_263 => ?_) (fun c_402_263 => ?_)
                                                  · skip
                                                    refine lv_iinc (v := (nI (k + 1))) (lv' := [(5, .int (nI (k + 1))), (9, .int (nI l9)), (8, .int 4), (7, .int (-1)), (6, .int 1), (0, .ref tp), (1, .ref oq), (2, .ref q1), (3, .ref q3), (4, .ref q5)]) hx hb dL_areTasksRight_446 hl (k := 9) rfl (show (nI k) + 1 = (nI (k + 1)) from nI_1 k) (by decide) rfl (fun ls hl => ?_)
                                                    refine lv_goto (tgt := 107) hx hb dL_areTasksRight_449 (by decide) ?_
                                                    exact ih n (Nat.lt_succ_self n) H locs ls ⟨(k + 1), f241, g, R242, ⟨by omega, st_upd e0 (by decide) hf ef241, hg.up, eR242⟩, hP, hD, hS, lv_sub hl [5, 6, 7, 8, 9, 0] rfl⟩
                                                  · exact absurd c_402_263 (by decide)
                                                · exact absurd (n1_lt (b := S) (by omega)) c_390_262
                                              · skip
                                                rcases (show v4 = 0 ∨ v4 = 1 ∨ v4 = 2 by omega) with e4 | e4 | e4 <;> subst e4
                                                · skip
                                                  refine lv_aload_n hx hb dL_areTasksRight_377 rfl (lv_at hl 4 rfl) ?_
                                                  refine lv_iload hx hb dL_areTasksRight_378 (lv_at hl 9 rfl) ?_
                                                  refine lv_iconst (v := 4) hx hb dL_areTasksRight_380 (by decide) ?_
                                                  refine x_Vi (As := [.int (nI k), .int 4]) (rest0 := []) ⟨hx, hb, hml, hown, hts⟩ (c_X8_ofTask l D cA ad (tr ++ [(cN, .boolean)]) R242 H.size τ pd π bd tp ρ h102 (nI k) 4 (nI_pos (by omega)) (by rw [h.1.1.2.2.1]; exact (nI_ltI (by omega) (by omega)).mpr (by omega)) (by decide) (by decide)) (cwV 2 hts gl_areTasksRight_X8_ofTask rfl rfl rfl (by decide +kernel) ⟨Nat.le_of_ble_eq_true rfl, Nat.le_of_ble_eq_true rfl⟩) hKb hP hD hS hA 209 w_tp rfl hl.1 rfl rfl (Nat.le_of_ble_eq_true rfl) ⟨Nat.le_of_ble_eq_true rfl, Nat.le_of_ble_eq_true rfl⟩ dL_areTasksRight_381 (fun r _ H locs hw hP hD hS => ?_)
                                                  obtain rfl : r = (nI q4) := hw.trans c4
                                                  refine lv_aload_n hx hb dL_areTasksRight_384 rfl (lv_at hl 4 rfl) ?_
                                                  refine lv_bipush (v := 7) hx hb dL_areTasksRight_385 (by decide) ?_
                                                  refine x_Vi (As := [.int 7]) (rest0 := [.int (nI q4)]) ⟨hx, hb, hml, hown, hts⟩ (c_X8_many l D cA ad (tr ++ [(cN, .boolean)]) R242 H.size τ pd π bd tp ρ h102 7 (by decide) (by decide)) (cwV 1 hts gl_areTasksRight_X8_many rfl rfl rfl (by decide +kernel) ⟨Nat.le_of_ble_eq_true rfl, Nat.le_of_ble_eq_true rfl⟩) hKb hP hD hS hA 209 w_tp rfl hl.1 rfl rfl (Nat.le_of_ble_eq_true rfl) ⟨Nat.le_of_ble_eq_true rfl, Nat.le_of_ble_eq_true rfl⟩ dL_areTasksRight_387 (fun r _ H locs hw hP hD hS => ?_)
                                                  obtain rfl : r = (nI S) := hw.trans (many_7 h.1.1)
                                                  refine lv_icmp_lt (tgt := 395) hx hb dL_areTasksRight_390 (by decide) (fun c_390_264 => ?_) (fun c_390_264 => ?_)
                                                  · skip
                                                    refine lv_aload_n hx hb dL_areTasksRight_395 rfl (lv_at hl 4 rfl) ?_
                                                    refine lv_iload hx hb dL_areTasksRight_396 (lv_at hl 9 rfl) ?_
                                                    refine lv_iconst (v := 4) hx hb dL_areTasksRight_398 (by decide) ?_
                                                    refine x_Vi (As := [.int (nI k), .int 4]) (rest0 := []) ⟨hx, hb, hml, hown, hts⟩ (c_X8_ofTask l D cA ad (tr ++ [(cN, .boolean)]) R242 H.size τ pd π bd tp ρ h102 (nI k) 4 (nI_pos (by omega)) (by rw [h.1.1.2.2.1]; exact (nI_ltI (by omega) (by omega)).mpr (by omega)) (by decide) (by decide)) (cwV 2 hts gl_areTasksRight_X8_ofTask rfl rfl rfl (by decide +kernel) ⟨Nat.le_of_ble_eq_true rfl, Nat.le_of_ble_eq_true rfl⟩) hKb hP hD hS hA 209 w_tp rfl hl.1 rfl rfl (Nat.le_of_ble_eq_true rfl) ⟨Nat.le_of_ble_eq_true rfl, Nat.le_of_ble_eq_true rfl⟩ dL_areTasksRight_399 (fun r _ H locs hw hP hD hS => ?_)
                                                    obtain rfl : r = (nI q4) := hw.trans c4
                                                    refine lv_if_lt (tgt := 446) hx hb dL_areTasksRight_402 (by decide) (fun c_402_265 => ?_) (fun c_402_265 => ?_)
                                                    · exact absurd ((nI_ltI (a := q4) (b := 0) (by omega) (by omega)).mp c_402_265) (by omega)
                                                    · skip
                                                      refine lv_aload_n hx hb dL_areTasksRight_405 rfl (lv_at hl 4 rfl) ?_
                                                      refine lv_aload_n hx hb dL_areTasksRight_406 rfl (lv_at hl 4 rfl) ?_
                                                      refine lv_iload hx hb dL_areTasksRight_407 (lv_at hl 9 rfl) ?_
                                                      refine lv_iconst (v := 4) hx hb dL_areTasksRight_409 (by decide) ?_
                                                      refine x_Vi (As := [.int (nI k), .int 4]) (rest0 := [.ref tp]) ⟨hx, hb, hml, hown, hts⟩ (c_X8_ofTask l D cA ad (tr ++ [(cN, .boolean)]) R242 H.size τ pd π bd tp ρ h102 (nI k) 4 (nI_pos (by omega)) (by rw [h.1.1.2.2.1]; exact (nI_ltI (by omega) (by omega)).mpr (by omega)) (by decide) (by decide)) (cwV 2 hts gl_areTasksRight_X8_ofTask rfl rfl rfl (by decide +kernel) ⟨Nat.le_of_ble_eq_true rfl, Nat.le_of_ble_eq_true rfl⟩) hKb hP hD hS hA 209 w_tp rfl hl.1 rfl rfl (Nat.le_of_ble_eq_true rfl) ⟨Nat.le_of_ble_eq_true rfl, Nat.le_of_ble_eq_true rfl⟩ dL_areTasksRight_410 (fun r _ H locs hw hP hD hS => ?_)
                                                      obtain rfl : r = (nI q4) := hw.trans c4
                                                      refine lv_iconst (v := 0) hx hb dL_areTasksRight_413 (by decide) ?_
                                                      refine x_Vi (As := [.int (nI q4), .int 0]) (rest0 := []) ⟨hx, hb, hml, hown, hts⟩ (c_X8_ofScope l D cA ad (tr ++ [(cN, .boolean)]) R242 H.size τ pd π bd tp ρ h102 (nI q4) 0 (nI_pos (by omega)) (by rw [h.1.1.2.2.2.1]; exact (nI_ltI (by omega) (by omega)).mpr (by omega)) (by decide) (by decide)) (cwV 2 hts gl_areTasksRight_X8_ofScope rfl rfl rfl (by decide +kernel) ⟨Nat.le_of_ble_eq_true rfl, Nat.le_of_ble_eq_true rfl⟩) hKb hP hD hS hA 209 w_tp rfl hl.1 rfl rfl (Nat.le_of_ble_eq_true rfl) ⟨Nat.le_of_ble_eq_true rfl, Nat.le_of_ble_eq_true rfl⟩ dL_areTasksRight_414 (fun r _ H locs hw hP hD hS => ?_)
                                                      obtain rfl : r = (nI o4) := hw.trans s0
                                                      refine lv_iload hx hb dL_areTasksRight_417 (lv_at hl 9 rfl) ?_
                                                      refine lv_icmp_ge (tgt := 444) hx hb dL_areTasksRight_419 (by decide) (fun c_419_266 => ?_) (fun c_419_266 => ?_)
                                                      · exact absurd ((nI_leI (a := k) (b := o4) (by omega) (by omega)).mp c_419_266) (by omega)
                                                      · skip
                                                        refine lv_aload_n hx hb dL_areTasksRight_422 rfl (lv_at hl 4 rfl) ?_
                                                        refine lv_aload_n hx hb dL_areTasksRight_423 rfl (lv_at hl 4 rfl) ?_
                                                        refine lv_iload hx hb dL_areTasksRight_424 (lv_at hl 9 rfl) ?_
                                                        refine lv_iconst (v := 4) hx hb dL_areTasksRight_426 (by decide) ?_
                                                        refine x_Vi (As := [.int (nI k), .int 4]) (rest0 := [.ref tp]) ⟨hx, hb, hml, hown, hts⟩ (c_X8_ofTask l D cA ad (tr ++ [(cN, .boolean)]) R242 H.size τ pd π bd tp ρ h102 (nI k) 4 (nI_pos (by omega)) (by rw [h.1.1.2.2.1]; exact (nI_ltI (by omega) (by omega)).mpr (by omega)) (by decide) (by decide)) (cwV 2 hts gl_areTasksRight_X8_ofTask rfl rfl rfl (by decide +kernel) ⟨Nat.le_of_ble_eq_true rfl, Nat.le_of_ble_eq_true rfl⟩) hKb hP hD hS hA 209 w_tp rfl hl.1 rfl rfl (Nat.le_of_ble_eq_true rfl) ⟨Nat.le_of_ble_eq_true rfl, Nat.le_of_ble_eq_true rfl⟩ dL_areTasksRight_427 (fun r _ H locs hw hP hD hS => ?_)
                                                        obtain rfl : r = (nI q4) := hw.trans c4
                                                        refine lv_iconst (v := 1) hx hb dL_areTasksRight_430 (by decide) ?_
                                                        refine x_Vi (As := [.int (nI q4), .int 1]) (rest0 := []) ⟨hx, hb, hml, hown, hts⟩ (c_X8_ofScope l D cA ad (tr ++ [(cN, .boolean)]) R242 H.size τ pd π bd tp ρ h102 (nI q4) 1 (nI_pos (by omega)) (by rw [h.1.1.2.2.2.1]; exact (nI_ltI (by omega) (by omega)).mpr (by omega)) (by decide) (by decide)) (cwV 2 hts gl_areTasksRight_X8_ofScope rfl rfl rfl (by decide +kernel) ⟨Nat.le_of_ble_eq_true rfl, Nat.le_of_ble_eq_true rfl⟩) hKb hP hD hS hA 209 w_tp rfl hl.1 rfl rfl (Nat.le_of_ble_eq_true rfl) ⟨Nat.le_of_ble_eq_true rfl, Nat.le_of_ble_eq_true rfl⟩ dL_areTasksRight_431 (fun r _ H locs hw hP hD hS => ?_)
                                                        obtain rfl : r = 0 := hw.trans s1
                                                        refine lv_iconst (v := 2) hx hb dL_areTasksRight_434 (by decide) ?_
                                                        refine lv_icmp_ne (tgt := 446) hx hb dL_areTasksRight_435 (by decide) (fun c_435_267 => ?_) (fun c_435_267 => ?_)
                                                        · skip
                                                          refine lv_iinc (v := (nI (k + 1))) (lv' := [(5, .int (nI (k + 1))), (9, .int (nI l9)), (8, .int 4), (7, .int (-1)), (6, .int 1), (0, .ref tp), (1, .ref oq), (2, .ref q1), (3, .ref q3), (4, .ref q5)]) hx hb dL_areTasksRight_446 hl (k := 9) rfl (show (nI k) + 1 = (nI (k + 1)) from nI_1 k) (by decide) rfl (fun ls hl => ?_)
                                                          refine lv_goto (tgt := 107) hx hb dL_areTasksRight_449 (by decide) ?_
                                                          exact ih n (Nat.lt_succ_self n) H locs ls ⟨(k + 1), f241, g, R242, ⟨by omega, st_upd e0 (by decide) hf ef241, hg.up, eR242⟩, hP, hD, hS, lv_sub hl [5, 6, 7, 8, 9, 0] rfl⟩
                                                        · exact absurd c_435_267 (by decide)
                                                  · exact absurd ((nI_ltI (a := q4) (b := S) (by omega) (by omega)).mpr (by omega)) c_390_264
                                                · skip
                                                  refine lv_aload_n hx hb dL_areTasksRight_377 rfl (lv_at hl 4 rfl) ?_
                                                  refine lv_iload hx hb dL_areTasksRight_378 (lv_at hl 9 rfl) ?_
                                                  refine lv_iconst (v := 4) hx hb dL_areTasksRight_380 (by decide) ?_
                                                  refine x_Vi (As := [.int (nI k), .int 4]) (rest0 := []) ⟨hx, hb, hml, hown, hts⟩ (c_X8_ofTask l D cA ad (tr ++ [(cN, .boolean)]) R242 H.size τ pd π bd tp ρ h102 (nI k) 4 (nI_pos (by omega)) (by rw [h.1.1.2.2.1]; exact (nI_ltI (by omega) (by omega)).mpr (by omega)) (by decide) (by decide)) (cwV 2 hts gl_areTasksRight_X8_ofTask rfl rfl rfl (by decide +kernel) ⟨Nat.le_of_ble_eq_true rfl, Nat.le_of_ble_eq_true rfl⟩) hKb hP hD hS hA 209 w_tp rfl hl.1 rfl rfl (Nat.le_of_ble_eq_true rfl) ⟨Nat.le_of_ble_eq_true rfl, Nat.le_of_ble_eq_true rfl⟩ dL_areTasksRight_381 (fun r _ H locs hw hP hD hS => ?_)
                                                  obtain rfl : r = (nI q4) := hw.trans c4
                                                  refine lv_aload_n hx hb dL_areTasksRight_384 rfl (lv_at hl 4 rfl) ?_
                                                  refine lv_bipush (v := 7) hx hb dL_areTasksRight_385 (by decide) ?_
                                                  refine x_Vi (As := [.int 7]) (rest0 := [.int (nI q4)]) ⟨hx, hb, hml, hown, hts⟩ (c_X8_many l D cA ad (tr ++ [(cN, .boolean)]) R242 H.size τ pd π bd tp ρ h102 7 (by decide) (by decide)) (cwV 1 hts gl_areTasksRight_X8_many rfl rfl rfl (by decide +kernel) ⟨Nat.le_of_ble_eq_true rfl, Nat.le_of_ble_eq_true rfl⟩) hKb hP hD hS hA 209 w_tp rfl hl.1 rfl rfl (Nat.le_of_ble_eq_true rfl) ⟨Nat.le_of_ble_eq_true rfl, Nat.le_of_ble_eq_true rfl⟩ dL_areTasksRight_387 (fun r _ H locs hw hP hD hS => ?_)
                                                  obtain rfl : r = (nI S) := hw.trans (many_7 h.1.1)
                                                  refine lv_icmp_lt (tgt := 395) hx hb dL_areTasksRight_390 (by decide) (fun c_390_268 => ?_) (fun c_390_268 => ?_)
                                                  · skip
                                                    refine lv_aload_n hx hb dL_areTasksRight_395 rfl (lv_at hl 4 rfl) ?_
                                                    refine lv_iload hx hb dL_areTasksRight_396 (lv_at hl 9 rfl) ?_
                                                    refine lv_iconst (v := 4) hx hb dL_areTasksRight_398 (by decide) ?_
                                                    refine x_Vi (As := [.int (nI k), .int 4]) (rest0 := []) ⟨hx, hb, hml, hown, hts⟩ (c_X8_ofTask l D cA ad (tr ++ [(cN, .boolean)]) R242 H.size τ pd π bd tp ρ h102 (nI k) 4 (nI_pos (by omega)) (by rw [h.1.1.2.2.1]; exact (nI_ltI (by omega) (by omega)).mpr (by omega)) (by decide) (by decide)) (cwV 2 hts gl_areTasksRight_X8_ofTask rfl rfl rfl (by decide +kernel) ⟨Nat.le_of_ble_eq_true rfl, Nat.le_of_ble_eq_true rfl⟩) hKb hP hD hS hA 209 w_tp rfl hl.1 rfl rfl (Nat.le_of_ble_eq_true rfl) ⟨Nat.le_of_ble_eq_true rfl, Nat.le_of_ble_eq_true rfl⟩ dL_areTasksRight_399 (fun r _ H locs hw hP hD hS => ?_)
                                                    obtain rfl : r = (nI q4) := hw.trans c4
                                                    refine lv_if_lt (tgt := 446) hx hb dL_areTasksRight_402 (by decide) (fun c_402_269 => ?_) (fun c_402_269 => ?_)
                                                    · exact absurd ((nI_ltI (a := q4) (b := 0) (by omega) (by omega)).mp c_402_269) (by omega)
                                                    · skip
                                                      refine lv_aload_n hx hb dL_areTasksRight_405 rfl (lv_at hl 4 rfl) ?_
                                                      refine lv_aload_n hx hb dL_areTasksRight_406 rfl (lv_at hl 4 rfl) ?_
                                                      refine lv_iload hx hb dL_areTasksRight_407 (lv_at hl 9 rfl) ?_
                                                      refine lv_iconst (v := 4) hx hb dL_areTasksRight_409 (by decide) ?_
                                                      refine x_Vi (As := [.int (nI k), .int 4]) (rest0 := [.ref tp]) ⟨hx, hb, hml, hown, hts⟩ (c_X8_ofTask l D cA ad (tr ++ [(cN, .boolean)]) R242 H.size τ pd π bd tp ρ h102 (nI k) 4 (nI_pos (by omega)) (by rw [h.1.1.2.2.1]; exact (nI_ltI (by omega) (by omega)).mpr (by omega)) (by decide) (by decide)) (cwV 2 hts gl_areTasksRight_X8_ofTask rfl rfl rfl (by decide +kernel) ⟨Nat.le_of_ble_eq_true rfl, Nat.le_of_ble_eq_true rfl⟩) hKb hP hD hS hA 209 w_tp rfl hl.1 rfl rfl (Nat.le_of_ble_eq_true rfl) ⟨Nat.le_of_ble_eq_true rfl, Nat.le_of_ble_eq_true rfl⟩ dL_areTasksRight_410 (fun r _ H locs hw hP hD hS => ?_)
                                                      obtain rfl : r = (nI q4) := hw.trans c4
                                                      refine lv_iconst (v := 0) hx hb dL_areTasksRight_413 (by decide) ?_
                                                      refine x_Vi (As := [.int (nI q4), .int 0]) (rest0 := []) ⟨hx, hb, hml, hown, hts⟩ (c_X8_ofScope l D cA ad (tr ++ [(cN, .boolean)]) R242 H.size τ pd π bd tp ρ h102 (nI q4) 0 (nI_pos (by omega)) (by rw [h.1.1.2.2.2.1]; exact (nI_ltI (by omega) (by omega)).mpr (by omega)) (by decide) (by decide)) (cwV 2 hts gl_areTasksRight_X8_ofScope rfl rfl rfl (by decide +kernel) ⟨Nat.le_of_ble_eq_true rfl, Nat.le_of_ble_eq_true rfl⟩) hKb hP hD hS hA 209 w_tp rfl hl.1 rfl rfl (Nat.le_of_ble_eq_true rfl) ⟨Nat.le_of_ble_eq_true rfl, Nat.le_of_ble_eq_true rfl⟩ dL_areTasksRight_414 (fun r _ H locs hw hP hD hS => ?_)
                                                      obtain rfl : r = (nI o4) := hw.trans s0
                                                      refine lv_iload hx hb dL_areTasksRight_417 (lv_at hl 9 rfl) ?_
                                                      refine lv_icmp_ge (tgt := 444) hx hb dL_areTasksRight_419 (by decide) (fun c_419_270 => ?_) (fun c_419_270 => ?_)
                                                      · exact absurd ((nI_leI (a := k) (b := o4) (by omega) (by omega)).mp c_419_270) (by omega)
                                                      · skip
                                                        refine lv_aload_n hx hb dL_areTasksRight_422 rfl (lv_at hl 4 rfl) ?_
                                                        refine lv_aload_n hx hb dL_areTasksRight_423 rfl (lv_at hl 4 rfl) ?_
                                                        refine lv_iload hx hb dL_areTasksRight_424 (lv_at hl 9 rfl) ?_
                                                        refine lv_iconst (v := 4) hx hb dL_areTasksRight_426 (by decide) ?_
                                                        refine x_Vi (As := [.int (nI k), .int 4]) (rest0 := [.ref tp]) ⟨hx, hb, hml, hown, hts⟩ (c_X8_ofTask l D cA ad (tr ++ [(cN, .boolean)]) R242 H.size τ pd π bd tp ρ h102 (nI k) 4 (nI_pos (by omega)) (by rw [h.1.1.2.2.1]; exact (nI_ltI (by omega) (by omega)).mpr (by omega)) (by decide) (by decide)) (cwV 2 hts gl_areTasksRight_X8_ofTask rfl rfl rfl (by decide +kernel) ⟨Nat.le_of_ble_eq_true rfl, Nat.le_of_ble_eq_true rfl⟩) hKb hP hD hS hA 209 w_tp rfl hl.1 rfl rfl (Nat.le_of_ble_eq_true rfl) ⟨Nat.le_of_ble_eq_true rfl, Nat.le_of_ble_eq_true rfl⟩ dL_areTasksRight_427 (fun r _ H locs hw hP hD hS => ?_)
                                                        obtain rfl : r = (nI q4) := hw.trans c4
                                                        refine lv_iconst (v := 1) hx hb dL_areTasksRight_430 (by decide) ?_
                                                        refine x_Vi (As := [.int (nI q4), .int 1]) (rest0 := []) ⟨hx, hb, hml, hown, hts⟩ (c_X8_ofScope l D cA ad (tr ++ [(cN, .boolean)]) R242 H.size τ pd π bd tp ρ h102 (nI q4) 1 (nI_pos (by omega)) (by rw [h.1.1.2.2.2.1]; exact (nI_ltI (by omega) (by omega)).mpr (by omega)) (by decide) (by decide)) (cwV 2 hts gl_areTasksRight_X8_ofScope rfl rfl rfl (by decide +kernel) ⟨Nat.le_of_ble_eq_true rfl, Nat.le_of_ble_eq_true rfl⟩) hKb hP hD hS hA 209 w_tp rfl hl.1 rfl rfl (Nat.le_of_ble_eq_true rfl) ⟨Nat.le_of_ble_eq_true rfl, Nat.le_of_ble_eq_true rfl⟩ dL_areTasksRight_431 (fun r _ H locs hw hP hD hS => ?_)
                                                        obtain rfl : r = 1 := hw.trans s1
                                                        refine lv_iconst (v := 2) hx hb dL_areTasksRight_434 (by decide) ?_
                                                        refine lv_icmp_ne (tgt := 446) hx hb dL_areTasksRight_435 (by decide) (fun c_435_271 => ?_) (fun c_435_271 => ?_)
                                                        · skip
                                                          refine lv_iinc (v := (nI (k + 1))) (lv' := [(5, .int (nI (k + 1))), (9, .int (nI l9)), (8, .int 4), (7, .int (-1)), (6, .int 1), (0, .ref tp), (1, .ref oq), (2, .ref q1), (3, .ref q3), (4, .ref q5)]) hx hb dL_areTasksRight_446 hl (k := 9) rfl (show (nI k) + 1 = (nI (k + 1)) from nI_1 k) (by decide) rfl (fun ls hl => ?_)
                                                          refine lv_goto (tgt := 107) hx hb dL_areTasksRight_449 (by decide) ?_
                                                          exact ih n (Nat.lt_succ_self n) H locs ls ⟨(k + 1), f241, g, R242, ⟨by omega, st_upd e0 (by decide) hf ef241, hg.up, eR242⟩, hP, hD, hS, lv_sub hl [5, 6, 7, 8, 9, 0] rfl⟩
                                                        · exact absurd c_435_271 (by decide)
                                                  · exact absurd ((nI_ltI (a := q4) (b := S) (by omega) (by omega)).mpr (by omega)) c_390_268
                                                · exact absurd hal (hv2 rfl)
                                          · exact absurd c_348_260 (by decide)
                                        · exact absurd c_340_259 (by decide)
                                · exact absurd c_287_255 (by decide)
                              · exact absurd c_259_254 (by decide)
                          · exact absurd c_245_252 (by decide)
                        · exact absurd ((nI_leI (a := 0) (b := l9) (by omega) (by omega)).mpr (by omega)) c_234_251
                · exact absurd c_198_247 (by decide)
          · exact absurd c_175_244 (by decide)
        · exact absurd c_165_243 (by decide)
    · skip
      rcases (show v9 = 2 ∨ v9 = 3 ∨ v9 = 4 by omega) with e9 | e9 | e9 <;> subst e9
      · skip
        have e0 : τ (k + 6) 3 = nI 2 := (aT1 hk24).symm.trans c1
        refine lv_aload_n hx hb dL_areTasksRight_117 rfl (lv_at hl 0 rfl) ?_
        refine lv_iload hx hb dL_areTasksRight_118 (lv_at hl 5 rfl) ?_
        refine lv_iconst (v := 1) hx hb dL_areTasksRight_120 (by decide) ?_
        refine x_Vi (As := [.int (nI k), .int 1]) (rest0 := []) ⟨hx, hb, hml, hown, hts⟩ (c_X8_ofTask l D cA ad (tr ++ [(cN, .boolean)]) R45 H.size τ pd π bd tp ρ h102 (nI k) 1 (nI_pos (by omega)) (by rw [h.1.1.2.2.1]; exact (nI_ltI (by omega) (by omega)).mpr (by omega)) (by decide) (by decide)) (cwV 2 hts gl_areTasksRight_X8_ofTask rfl rfl rfl (by decide +kernel) ⟨Nat.le_of_ble_eq_true rfl, Nat.le_of_ble_eq_true rfl⟩) hKb hP hD hS hA 209 w_tp rfl hl.1 rfl rfl (Nat.le_of_ble_eq_true rfl) ⟨Nat.le_of_ble_eq_true rfl, Nat.le_of_ble_eq_true rfl⟩ dL_areTasksRight_121 (fun r _ H locs hw hP hD hS => ?_)
        obtain rfl : r = 2 := hw.trans c1
        refine lv_istore (lv' := [(6, .int 2), (0, .ref tp), (1, .ref oq), (2, .ref q1), (3, .ref q3), (4, .ref q5), (5, .int (nI k))]) hx hb dL_areTasksRight_124 hl (by decide) rfl (fun ls hl => ?_)
        refine lv_aload_n hx hb dL_areTasksRight_126 rfl (lv_at hl 1 rfl) ?_
        refine lv_iload hx hb dL_areTasksRight_127 (lv_at hl 6 rfl) ?_
        refine lv_bipush (v := 6) hx hb dL_areTasksRight_129 (by decide) ?_
        refine x_Vi (As := [.int (nI k), .int 6]) (rest0 := []) ⟨hx, hb, hml, hown, hts⟩ (c_X8_ofTask l D cA ad (tr ++ [(cN, .boolean)]) R45 H.size τ pd π bd tp ρ h102 (nI k) 6 (nI_pos (by omega)) (by rw [h.1.1.2.2.1]; exact (nI_ltI (by omega) (by omega)).mpr (by omega)) (by decide) (by decide)) (cwV 2 hts gl_areTasksRight_X8_ofTask rfl rfl rfl (by decide +kernel) ⟨Nat.le_of_ble_eq_true rfl, Nat.le_of_ble_eq_true rfl⟩) hKb hP hD hS hA 209 w_tp rfl hl.1 rfl rfl (Nat.le_of_ble_eq_true rfl) ⟨Nat.le_of_ble_eq_true rfl, Nat.le_of_ble_eq_true rfl⟩ dL_areTasksRight_131 (fun r _ H locs hw hP hD hS => ?_)
        obtain rfl : r = (-1) := hw.trans c6
        refine lv_istore (lv' := [(7, .int (-1)), (6, .int 2), (0, .ref tp), (1, .ref oq), (2, .ref q1), (3, .ref q3), (4, .ref q5), (5, .int (nI k))]) hx hb dL_areTasksRight_134 hl (by decide) rfl (fun ls hl => ?_)
        refine lv_aload_n hx hb dL_areTasksRight_136 rfl (lv_at hl 2 rfl) ?_
        refine lv_iload hx hb dL_areTasksRight_137 (lv_at hl 7 rfl) ?_
        refine lv_bipush (v := 8) hx hb dL_areTasksRight_139 (by decide) ?_
        refine x_Vi (As := [.int (nI k), .int 8]) (rest0 := []) ⟨hx, hb, hml, hown, hts⟩ (c_X8_ofTask l D cA ad (tr ++ [(cN, .boolean)]) R45 H.size τ pd π bd tp ρ h102 (nI k) 8 (nI_pos (by omega)) (by rw [h.1.1.2.2.1]; exact (nI_ltI (by omega) (by omega)).mpr (by omega)) (by decide) (by decide)) (cwV 2 hts gl_areTasksRight_X8_ofTask rfl rfl rfl (by decide +kernel) ⟨Nat.le_of_ble_eq_true rfl, Nat.le_of_ble_eq_true rfl⟩) hKb hP hD hS hA 209 w_tp rfl hl.1 rfl rfl (Nat.le_of_ble_eq_true rfl) ⟨Nat.le_of_ble_eq_true rfl, Nat.le_of_ble_eq_true rfl⟩ dL_areTasksRight_141 (fun r _ H locs hw hP hD hS => ?_)
        obtain rfl : r = 0 := hw.trans c8
        refine lv_istore (lv' := [(8, .int 0), (7, .int (-1)), (6, .int 2), (0, .ref tp), (1, .ref oq), (2, .ref q1), (3, .ref q3), (4, .ref q5), (5, .int (nI k))]) hx hb dL_areTasksRight_144 hl (by decide) rfl (fun ls hl => ?_)
        refine lv_aload_n hx hb dL_areTasksRight_146 rfl (lv_at hl 3 rfl) ?_
        refine lv_iload hx hb dL_areTasksRight_147 (lv_at hl 8 rfl) ?_
        refine lv_iconst (v := 2) hx hb dL_areTasksRight_149 (by decide) ?_
        refine x_Vi (As := [.int (nI k), .int 2]) (rest0 := []) ⟨hx, hb, hml, hown, hts⟩ (c_X8_ofTask l D cA ad (tr ++ [(cN, .boolean)]) R45 H.size τ pd π bd tp ρ h102 (nI k) 2 (nI_pos (by omega)) (by rw [h.1.1.2.2.1]; exact (nI_ltI (by omega) (by omega)).mpr (by omega)) (by decide) (by decide)) (cwV 2 hts gl_areTasksRight_X8_ofTask rfl rfl rfl (by decide +kernel) ⟨Nat.le_of_ble_eq_true rfl, Nat.le_of_ble_eq_true rfl⟩) hKb hP hD hS hA 209 w_tp rfl hl.1 rfl rfl (Nat.le_of_ble_eq_true rfl) ⟨Nat.le_of_ble_eq_true rfl, Nat.le_of_ble_eq_true rfl⟩ dL_areTasksRight_150 (fun r _ H locs hw hP hD hS => ?_)
        obtain rfl : r = (-1) := hw.trans c2
        refine lv_istore (lv' := [(9, .int (-1)), (8, .int 0), (7, .int (-1)), (6, .int 2), (0, .ref tp), (1, .ref oq), (2, .ref q1), (3, .ref q3), (4, .ref q5), (5, .int (nI k))]) hx hb dL_areTasksRight_153 hl (by decide) rfl (fun ls hl => ?_)
        refine lv_aload_n hx hb dL_areTasksRight_155 rfl (lv_at hl 6 rfl) ?_
        refine lv_iload hx hb dL_areTasksRight_156 (lv_at hl 3 rfl) ?_
        refine lv_dup2_11 hx hb dL_areTasksRight_158 rfl rfl ?_
        refine va_iald hx hb hKb hP (0 + rest.length + 210) (0) (wNewR eR45 rfl) rfl (by unfold vp_in; decide) dL_areTasksRight_159 ?_
        refine W.eq (g2 := F0 m 160 ls [.int (nI (cnt (m_isIn τ (nI 2)) k)), .int 2, .ref q1]) (by show F0 m _ ls (.int (f 2) :: _) = _; rw [hf 2 (by decide)]) ?_
        refine lv_iconst (v := 1) hx hb dL_areTasksRight_160 (by decide) ?_
        refine lv_iadd hx hb dL_areTasksRight_161 ?_
        refine W.eq (g2 := F0 m 162 ls [.int (nI ((cnt (m_isIn τ (nI 2)) k) + 1)), .int 2, .ref q1]) (by rw [show ((nI (cnt (m_isIn τ (nI 2)) k)) : Int32) + 1 = (nI ((cnt (m_isIn τ (nI 2)) k) + 1)) from nI_add (cnt (m_isIn τ (nI 2)) k) 1]) ?_
        refine va_iast hx hb hKb hP hD hS (0 + rest.length + 210) (0) (wNewR eR45 rfl) rfl (by unfold vp_in; decide) dL_areTasksRight_162 (fun H locs hP hD hS => ?_)
        rw [wNewSR eR45] at hP hD
        obtain ⟨f272, ef272⟩ : ∃ z : Nat → Int32, z = upd f 2 (nI ((cnt (m_isIn τ (nI 2)) k) + 1)) := ⟨_, rfl⟩
        obtain ⟨R273, eR273⟩ : ∃ z : va_W, z = rest ++ [(q1, .inl (cA 0, 5, .inl f272)), (q3, .inl (cN, 24, .inl g)), (q5, .inl (cA 0, 19, .inl f43))] := ⟨_, rfl⟩
        have hP : va_P D vwCl (wB cA ad τ ++ (wPg cA ad pd π ++ (wB cA bd ρ ++ ((tp, .inr (8, tpF ad bd)) :: R273)))) H := by rw [eR273, ef272]; exact hP
        have hD : va_D A (wB cA ad τ ++ (wPg cA ad pd π ++ (wB cA bd ρ ++ ((tp, .inr (8, tpF ad bd)) :: R273)))) := by rw [eR273, ef272]; exact hD
        refine lv_iload hx hb dL_areTasksRight_163 (lv_at hl 2 rfl) ?_
        refine lv_if_lt (tgt := 172) hx hb dL_areTasksRight_165 (by decide) (fun c_165_274 => ?_) (fun c_165_274 => ?_)
        · skip
          refine lv_iconst (v := 0) hx hb dL_areTasksRight_172 (by decide) ?_
          refine lv_iload hx hb dL_areTasksRight_173 (lv_at hl 3 rfl) ?_
          refine lv_if_ne (tgt := 182) hx hb dL_areTasksRight_175 (by decide) (fun c_175_275 => ?_) (fun c_175_275 => ?_)
          · skip
            refine lv_iconst (v := 0) hx hb dL_areTasksRight_182 (by decide) ?_
            refine lv_icmp_ne (tgt := 283) hx hb dL_areTasksRight_183 (by decide) (fun c_183_276 => ?_) (fun c_183_276 => ?_)
            · exact absurd c_183_276 (by decide)
            · skip
              refine lv_iload hx hb dL_areTasksRight_186 (lv_at hl 2 rfl) ?_
              refine lv_aload_n hx hb dL_areTasksRight_188 rfl (lv_at hl 4 rfl) ?_
              refine lv_iconst (v := 2) hx hb dL_areTasksRight_189 (by decide) ?_
              refine x_Vi (As := [.int 2]) (rest0 := [.int (-1)]) ⟨hx, hb, hml, hown, hts⟩ (c_X8_many l D cA ad (tr ++ [(cN, .boolean)]) R273 H.size τ pd π bd tp ρ h102 2 (by decide) (by decide)) (cwV 1 hts gl_areTasksRight_X8_many rfl rfl rfl (by decide +kernel) ⟨Nat.le_of_ble_eq_true rfl, Nat.le_of_ble_eq_true rfl⟩) hKb hP hD hS hA 209 w_tp rfl hl.1 rfl rfl (Nat.le_of_ble_eq_true rfl) ⟨Nat.le_of_ble_eq_true rfl, Nat.le_of_ble_eq_true rfl⟩ dL_areTasksRight_190 (fun r _ H locs hw hP hD hS => ?_)
              obtain rfl : r = (nI L.length) := hw.trans ((many_st h.1.1).1.trans (congrArg nI (ready_len hL h.1.1)))
              refine lv_icmp_ge (tgt := 283) hx hb dL_areTasksRight_193 (by decide) (fun c_193_277 => ?_) (fun c_193_277 => ?_)
              · exact absurd c_193_277 (n1_nle (b := L.length) (by omega))
              · skip
                refine lv_iload hx hb dL_areTasksRight_196 (lv_at hl 2 rfl) ?_
                refine lv_if_lt (tgt := 208) hx hb dL_areTasksRight_198 (by decide) (fun c_198_278 => ?_) (fun c_198_278 => ?_)
                · skip
                  refine lv_iload hx hb dL_areTasksRight_208 (lv_at hl 1 rfl) ?_
                  refine lv_if_le (tgt := 217) hx hb dL_areTasksRight_210 (by decide) (fun c_210_279 => ?_) (fun c_210_279 => ?_)
                  · skip
                    refine lv_iconst (v := 0) hx hb dL_areTasksRight_217 (by decide) ?_
                    refine lv_iload hx hb dL_areTasksRight_218 (lv_at hl 3 rfl) ?_
                    refine lv_iconst (v := 1) hx hb dL_areTasksRight_220 (by decide) ?_
                    refine lv_icmp_ne (tgt := 228) hx hb dL_areTasksRight_221 (by decide) (fun c_221_280 => ?_) (fun c_221_280 => ?_)
                    · skip
                      refine lv_iconst (v := 0) hx hb dL_areTasksRight_228 (by decide) ?_
                      refine lv_icmp_ne (tgt := 283) hx hb dL_areTasksRight_229 (by decide) (fun c_229_281 => ?_) (fun c_229_281 => ?_)
                      · exact absurd c_229_281 (by decide)
                      · skip
                        refine lv_iload hx hb dL_areTasksRight_232 (lv_at hl 0 rfl) ?_
                        refine lv_if_ge (tgt := 241) hx hb dL_areTasksRight_234 (by decide) (fun c_234_282 => ?_) (fun c_234_282 => ?_)
                        · exact absurd c_234_282 (by decide)
                        · skip
                          refine lv_iconst (v := 1) hx hb dL_areTasksRight_237 (by decide) ?_
                          refine lv_goto (tgt := 242) hx hb dL_areTasksRight_238 (by decide) ?_
                          refine lv_iload hx hb dL_areTasksRight_242 (lv_at hl 3 rfl) ?_
                          refine lv_iconst (v := 1) hx hb dL_areTasksRight_244 (by decide) ?_
                          refine lv_icmp_le (tgt := 252) hx hb dL_areTasksRight_245 (by decide) (fun c_245_283 => ?_) (fun c_245_283 => ?_)
                          · exact absurd c_245_283 (by decide)
                          · skip
                            refine lv_iconst (v := 1) hx hb dL_areTasksRight_248 (by decide) ?_
                            refine lv_goto (tgt := 253) hx hb dL_areTasksRight_249 (by decide) ?_
                            refine lv_icmp_ne (tgt := 283) hx hb dL_areTasksRight_253 (by decide) (fun c_253_284 => ?_) (fun c_253_284 => ?_)
                            · exact absurd c_253_284 (by decide)
                            · skip
                              refine lv_iload hx hb dL_areTasksRight_256 (lv_at hl 3 rfl) ?_
                              refine lv_iconst (v := 1) hx hb dL_areTasksRight_258 (by decide) ?_
                              refine lv_icmp_le (tgt := 285) hx hb dL_areTasksRight_259 (by decide) (fun c_259_285 => ?_) (fun c_259_285 => ?_)
                              · exact absurd c_259_285 (by decide)
                              · skip
                                refine lv_aload_n hx hb dL_areTasksRight_262 rfl (lv_at hl 4 rfl) ?_
                                refine lv_iload hx hb dL_areTasksRight_263 (lv_at hl 9 rfl) ?_
                                refine lv_iconst (v := 5) hx hb dL_areTasksRight_265 (by decide) ?_
                                refine x_Vi (As := [.int (nI k), .int 5]) (rest0 := []) ⟨hx, hb, hml, hown, hts⟩ (c_X8_ofTask l D cA ad (tr ++ [(cN, .boolean)]) R273 H.size τ pd π bd tp ρ h102 (nI k) 5 (nI_pos (by omega)) (by rw [h.1.1.2.2.1]; exact (nI_ltI (by omega) (by omega)).mpr (by omega)) (by decide) (by decide)) (cwV 2 hts gl_areTasksRight_X8_ofTask rfl rfl rfl (by decide +kernel) ⟨Nat.le_of_ble_eq_true rfl, Nat.le_of_ble_eq_true rfl⟩) hKb hP hD hS hA 209 w_tp rfl hl.1 rfl rfl (Nat.le_of_ble_eq_true rfl) ⟨Nat.le_of_ble_eq_true rfl, Nat.le_of_ble_eq_true rfl⟩ dL_areTasksRight_266 (fun r _ H locs hw hP hD hS => ?_)
                                obtain rfl : r = 0 := hw.trans c5
                                refine lv_if_ne (tgt := 283) hx hb dL_areTasksRight_269 (by decide) (fun c_269_286 => ?_) (fun c_269_286 => ?_)
                                · exact absurd c_269_286 (by decide)
                                · skip
                                  refine lv_aload_n hx hb dL_areTasksRight_272 rfl (lv_at hl 4 rfl) ?_
                                  refine lv_iload hx hb dL_areTasksRight_273 (lv_at hl 9 rfl) ?_
                                  refine lv_bipush (v := 7) hx hb dL_areTasksRight_275 (by decide) ?_
                                  refine x_Vi (As := [.int (nI k), .int 7]) (rest0 := []) ⟨hx, hb, hml, hown, hts⟩ (c_X8_ofTask l D cA ad (tr ++ [(cN, .boolean)]) R273 H.size τ pd π bd tp ρ h102 (nI k) 7 (nI_pos (by omega)) (by rw [h.1.1.2.2.1]; exact (nI_ltI (by omega) (by omega)).mpr (by omega)) (by decide) (by decide)) (cwV 2 hts gl_areTasksRight_X8_ofTask rfl rfl rfl (by decide +kernel) ⟨Nat.le_of_ble_eq_true rfl, Nat.le_of_ble_eq_true rfl⟩) hKb hP hD hS hA 209 w_tp rfl hl.1 rfl rfl (Nat.le_of_ble_eq_true rfl) ⟨Nat.le_of_ble_eq_true rfl, Nat.le_of_ble_eq_true rfl⟩ dL_areTasksRight_277 (fun r _ H locs hw hP hD hS => ?_)
                                  obtain rfl : r = 0 := hw.trans c7
                                  refine lv_if_eq (tgt := 285) hx hb dL_areTasksRight_280 (by decide) (fun c_280_287 => ?_) (fun c_280_287 => ?_)
                                  · skip
                                    refine lv_iload hx hb dL_areTasksRight_285 (lv_at hl 2 rfl) ?_
                                    refine lv_if_lt (tgt := 295) hx hb dL_areTasksRight_287 (by decide) (fun c_287_288 => ?_) (fun c_287_288 => ?_)
                                    · skip
                                      refine lv_iload hx hb dL_areTasksRight_295 (lv_at hl 1 rfl) ?_
                                      refine lv_if_le (tgt := 345) hx hb dL_areTasksRight_297 (by decide) (fun c_297_289 => ?_) (fun c_297_289 => ?_)
                                      · skip
                                        refine lv_iload hx hb dL_areTasksRight_345 (lv_at hl 1 rfl) ?_
                                        refine lv_iconst (v := 5) hx hb dL_areTasksRight_347 (by decide) ?_
                                        refine lv_icmp_ne (tgt := 361) hx hb dL_areTasksRight_348 (by decide) (fun c_348_290 => ?_) (fun c_348_290 => ?_)
                                        · skip
                                          have hb9 : bnd (τ (k + 6) 5) := by have := task_there hB hk24; rwa [aT3 hk24] at this
                                          refine lv_aload_n hx hb dL_areTasksRight_361 rfl (lv_at hl 4 rfl) ?_
                                          refine lv_iload hx hb dL_areTasksRight_362 (lv_at hl 9 rfl) ?_
                                          refine lv_iconst (v := 3) hx hb dL_areTasksRight_364 (by decide) ?_
                                          refine x_Vi (As := [.int (nI k), .int 3]) (rest0 := []) ⟨hx, hb, hml, hown, hts⟩ (c_X8_ofTask l D cA ad (tr ++ [(cN, .boolean)]) R273 H.size τ pd π bd tp ρ h102 (nI k) 3 (nI_pos (by omega)) (by rw [h.1.1.2.2.1]; exact (nI_ltI (by omega) (by omega)).mpr (by omega)) (by decide) (by decide)) (cwV 2 hts gl_areTasksRight_X8_ofTask rfl rfl rfl (by decide +kernel) ⟨Nat.le_of_ble_eq_true rfl, Nat.le_of_ble_eq_true rfl⟩) hKb hP hD hS hA 209 w_tp rfl hl.1 rfl rfl (Nat.le_of_ble_eq_true rfl) ⟨Nat.le_of_ble_eq_true rfl, Nat.le_of_ble_eq_true rfl⟩ dL_areTasksRight_365 (fun r _ H locs hw hP hD hS => ?_)
                                          obtain rfl : r = (τ (k + 6) 5) := hw.trans (aT3 (by omega))
                                          refine va_mabs (rest := []) hx hb (hml.trans hl.1.symm) hown (hts (.methodLink RL 103 Lib.Math.abs.name) (by decide +kernel)) (hts (.static Lib.Math.abs.name) (by decide +kernel)) (hts (.initialized "java/lang/Math") (by decide +kernel)) (hts (.code Lib.Math.abs.name Lib.Math.abs.code 1 (some .int)) (by decide +kernel)) (Nat.le_of_ble_eq_true rfl) (Nat.le_of_ble_eq_true rfl) (Nat.le_of_ble_eq_true rfl) (Nat.le_of_ble_eq_true rfl) dL_areTasksRight_368 ?_
                                          refine lv_sipush (v := 9999) hx hb dL_areTasksRight_371 (by decide) ?_
                                          refine lv_icmp_gt (tgt := 393) hx hb dL_areTasksRight_374 (by decide) (fun c_374_291 => ?_) (fun c_374_291 => ?_)
                                          · exact absurd c_374_291 (abs_bnd hb9)
                                          · skip
                                            rcases task_in h hk with c4 | ⟨q4, hq4, c4, ⟨o4, ho4, s0⟩, v4, hv4, s1, hv2⟩
                                            · skip
                                              refine lv_aload_n hx hb dL_areTasksRight_377 rfl (lv_at hl 4 rfl) ?_
                                              refine lv_iload hx hb dL_areTasksRight_378 (lv_at hl 9 rfl) ?_
                                              refine lv_iconst (v := 4) hx hb dL_areTasksRight_380 (by decide) ?_
                                              refine x_Vi (As := [.int (nI k), .int 4]) (rest0 := []) ⟨hx, hb, hml, hown, hts⟩ (c_X8_ofTask l D cA ad (tr ++ [(cN, .boolean)]) R273 H.size τ pd π bd tp ρ h102 (nI k) 4 (nI_pos (by omega)) (by rw [h.1.1.2.2.1]; exact (nI_ltI (by omega) (by omega)).mpr (by omega)) (by decide) (by decide)) (cwV 2 hts gl_areTasksRight_X8_ofTask rfl rfl rfl (by decide +kernel) ⟨Nat.le_of_ble_eq_true rfl, Nat.le_of_ble_eq_true rfl⟩) hKb hP hD hS hA 209 w_tp rfl hl.1 rfl rfl (Nat.le_of_ble_eq_true rfl) ⟨Nat.le_of_ble_eq_true rfl, Nat.le_of_ble_eq_true rfl⟩ dL_areTasksRight_381 (fun r _ H locs hw hP hD hS => ?_)
                                              obtain rfl : r = (-1) := hw.trans c4
                                              refine lv_aload_n hx hb dL_areTasksRight_384 rfl (lv_at hl 4 rfl) ?_
                                              refine lv_bipush (v := 7) hx hb dL_areTasksRight_385 (by decide) ?_
                                              refine x_Vi (As := [.int 7]) (rest0 := [.int (-1)]) ⟨hx, hb, hml, hown, hts⟩ (c_X8_many l D cA ad (tr ++ [(cN, .boolean)]) R273 H.size τ pd π bd tp ρ h102 7 (by decide) (by decide)) (cwV 1 hts gl_areTasksRight_X8_many rfl rfl rfl (by decide +kernel) ⟨Nat.le_of_ble_eq_true rfl, Nat.le_of_ble_eq_true rfl⟩) hKb hP hD hS hA 209 w_tp rfl hl.1 rfl rfl (Nat.le_of_ble_eq_true rfl) ⟨Nat.le_of_ble_eq_true rfl, Nat.le_of_ble_eq_true rfl⟩ dL_areTasksRight_387 (fun r _ H locs hw hP hD hS => ?_)
                                              obtain rfl : r = (nI S) := hw.trans (many_7 h.1.1)
                                              refine lv_icmp_lt (tgt := 395) hx hb dL_areTasksRight_390 (by decide) (fun c_390_292 => ?_) (fun c_390_292 => ?_)
                                              · skip
                                                refine lv_aload_n hx hb dL_areTasksRight_395 rfl (lv_at hl 4 rfl) ?_
                                                refine lv_iload hx hb dL_areTasksRight_396 (lv_at hl 9 rfl) ?_
                                                refine lv_iconst (v := 4) hx hb dL_areTasksRight_398 (by decide) ?_
                                                refine x_Vi (As := [.int (nI k), .int 4]) (rest0 := []) ⟨hx, hb, hml, hown, hts⟩ (c_X8_ofTask l D cA ad (tr ++ [(cN, .boolean)]) R273 H.size τ pd π bd tp ρ h102 (nI k) 4 (nI_pos (by omega)) (by rw [h.1.1.2.2.1]; exact (nI_ltI (by omega) (by omega)).mpr (by omega)) (by decide) (by decide)) (cwV 2 hts gl_areTasksRight_X8_ofTask rfl rfl rfl (by decide +kernel) ⟨Nat.le_of_ble_eq_true rfl, Nat.le_of_ble_eq_true rfl⟩) hKb hP hD hS hA 209 w_tp rfl hl.1 rfl rfl (Nat.le_of_ble_eq_true rfl) ⟨Nat.le_of_ble_eq_true rfl, Nat.le_of_ble_eq_true rfl⟩ dL_areTasksRight_399 (fun r _ H locs hw hP hD hS => ?_)
                                                obtain rfl : r = (-1) := hw.trans c4
                                                refine lv_if_lt (tgt := 446) hx hb dL_areTasksRight_402 (by decide) (fun c_402_293 => ?_) (fun c_402_293 => ?_)
                                                · skip
                                                  refine lv_iinc (v := (nI (k + 1))) (lv' := [(5, .int (nI (k + 1))), (9, .int (-1)), (8, .int 0), (7, .int (-1)), (6, .int 2), (0, .ref tp), (1, .ref oq), (2, .ref q1), (3, .ref q3), (4, .ref q5)]) hx hb dL_areTasksRight_446 hl (k := 9) rfl (show (nI k) + 1 = (nI (k + 1)) from nI_1 k) (by decide) rfl (fun ls hl => ?_)
                                                  refine lv_goto (tgt := 107) hx hb dL_areTasksRight_449 (by decide) ?_
                                                  exact ih n (Nat.lt_succ_self n) H locs ls ⟨(k + 1), f272, g, R273, ⟨by omega, st_upd e0 (by decide) hf ef272, hg.up, eR273⟩, hP, hD, hS, lv_sub hl [5, 6, 7, 8, 9, 0] rfl⟩
                                                · exact absurd c_402_293 (by decide)
                                              · exact absurd (n1_lt (b := S) (by omega)) c_390_292
                                            · skip
                                              rcases (show v4 = 0 ∨ v4 = 1 ∨ v4 = 2 by omega) with e4 | e4 | e4 <;> subst e4
                                              · skip
                                                refine lv_aload_n hx hb dL_areTasksRight_377 rfl (lv_at hl 4 rfl) ?_
                                                refine lv_iload hx hb dL_areTasksRight_378 (lv_at hl 9 rfl) ?_
                                                refine lv_iconst (v := 4) hx hb dL_areTasksRight_380 (by decide) ?_
                                                refine x_Vi (As := [.int (nI k), .int 4]) (rest0 := []) ⟨hx, hb, hml, hown, hts⟩ (c_X8_ofTask l D cA ad (tr ++ [(cN, .boolean)]) R273 H.size τ pd π bd tp ρ h102 (nI k) 4 (nI_pos (by omega)) (by rw [h.1.1.2.2.1]; exact (nI_ltI (by omega) (by omega)).mpr (by omega)) (by decide) (by decide)) (cwV 2 hts gl_areTasksRight_X8_ofTask rfl rfl rfl (by decide +kernel) ⟨Nat.le_of_ble_eq_true rfl, Nat.le_of_ble_eq_true rfl⟩) hKb hP hD hS hA 209 w_tp rfl hl.1 rfl rfl (Nat.le_of_ble_eq_true rfl) ⟨Nat.le_of_ble_eq_true rfl, Nat.le_of_ble_eq_true rfl⟩ dL_areTasksRight_381 (fun r _ H locs hw hP hD hS => ?_)
                                                obtain rfl : r = (nI q4) := hw.trans c4
                                                refine lv_aload_n hx hb dL_areTasksRight_384 rfl (lv_at hl 4 rfl) ?_
                                                refine lv_bipush (v := 7) hx hb dL_areTasksRight_385 (by decide) ?_
                                                refine x_Vi (As := [.int 7]) (rest0 := [.int (nI q4)]) ⟨hx, hb, hml, hown, hts⟩ (c_X8_many l D cA ad (tr ++ [(cN, .boolean)]) R273 H.size τ pd π bd tp ρ h102 7 (by decide) (by decide)) (cwV 1 hts gl_areTasksRight_X8_many rfl rfl rfl (by decide +kernel) ⟨Nat.le_of_ble_eq_true rfl, Nat.le_of_ble_eq_true rfl⟩) hKb hP hD hS hA 209 w_tp rfl hl.1 rfl rfl (Nat.le_of_ble_eq_true rfl) ⟨Nat.le_of_ble_eq_true rfl, Nat.le_of_ble_eq_true rfl⟩ dL_areTasksRight_387 (fun r _ H locs hw hP hD hS => ?_)
                                                obtain rfl : r = (nI S) := hw.trans (many_7 h.1.1)
                                                refine lv_icmp_lt (tgt := 395) hx hb dL_areTasksRight_390 (by decide) (fun c_390_294 => ?_) (fun c_390_294 => ?_)
                                                · skip
                                                  refine lv_aload_n hx hb dL_areTasksRight_395 rfl (lv_at hl 4 rfl) ?_
                                                  refine lv_iload hx hb dL_areTasksRight_396 (lv_at hl 9 rfl) ?_
                                                  refine lv_iconst (v := 4) hx hb dL_areTasksRight_398 (by decide) ?_
                                                  refine x_Vi (As := [.int (nI k), .int 4]) (rest0 := []) ⟨hx, hb, hml, hown, hts⟩ (c_X8_ofTask l D cA ad (tr ++ [(cN, .boolean)]) R273 H.size τ pd π bd tp ρ h102 (nI k) 4 (nI_pos (by omega)) (by rw [h.1.1.2.2.1]; exact (nI_ltI (by omega) (by omega)).mpr (by omega)) (by decide) (by decide)) (cwV 2 hts gl_areTasksRight_X8_ofTask rfl rfl rfl (by decide +kernel) ⟨Nat.le_of_ble_eq_true rfl, Nat.le_of_ble_eq_true rfl⟩) hKb hP hD hS hA 209 w_tp rfl hl.1 rfl rfl (Nat.le_of_ble_eq_true rfl) ⟨Nat.le_of_ble_eq_true rfl, Nat.le_of_ble_eq_true rfl⟩ dL_areTasksRight_399 (fun r _ H locs hw hP hD hS => ?_)
                                                  obtain rfl : r = (nI q4) := hw.trans c4
                                                  refine lv_if_lt (tgt := 446) hx hb dL_areTasksRight_402 (by decide) (fun c_402_295 => ?_) (fun c_402_295 => ?_)
                                                  · exact absurd ((nI_ltI (a := q4) (b := 0) (by omega) (by omega)).mp c_402_295) (by omega)
                                                  · skip
                                                    refine lv_aload_n hx hb dL_areTasksRight_405 rfl (lv_at hl 4 rfl) ?_
                                                    refine lv_aload_n hx hb dL_areTasksRight_406 rfl (lv_at hl 4 rfl) ?_
                                                    refine lv_iload hx hb dL_areTasksRight_407 (lv_at hl 9 rfl) ?_
                                                    refine lv_iconst (v := 4) hx hb dL_areTasksRight_409 (by decide) ?_
                                                    refine x_Vi (As := [.int (nI k), .int 4]) (rest0 := [.ref tp]) ⟨hx, hb, hml, hown, hts⟩ (c_X8_ofTask l D cA ad (tr ++ [(cN, .boolean)]) R273 H.size τ pd π bd tp ρ h102 (nI k) 4 (nI_pos (by omega)) (by rw [h.1.1.2.2.1]; exact (nI_ltI (by omega) (by omega)).mpr (by omega)) (by decide) (by decide)) (cwV 2 hts gl_areTasksRight_X8_ofTask rfl rfl rfl (by decide +kernel) ⟨Nat.le_of_ble_eq_true rfl, Nat.le_of_ble_eq_true rfl⟩) hKb hP hD hS hA 209 w_tp rfl hl.1 rfl rfl (Nat.le_of_ble_eq_true rfl) ⟨Nat.le_of_ble_eq_true rfl, Nat.le_of_ble_eq_true rfl⟩ dL_areTasksRight_410 (fun r _ H locs hw hP hD hS => ?_)
                                                    obtain rfl : r = (nI q4) := hw.trans c4
                                                    refine lv_iconst (v := 0) hx hb dL_areTasksRight_413 (by decide) ?_
                                                    refine x_Vi (As := [.int (nI q4), .int 0]) (rest0 := []) ⟨hx, hb, hml, hown, hts⟩ (c_X8_ofScope l D cA ad (tr ++ [(cN, .boolean)]) R273 H.size τ pd π bd tp ρ h102 (nI q4) 0 (nI_pos (by omega)) (by rw [h.1.1.2.2.2.1]; exact (nI_ltI (by omega) (by omega)).mpr (by omega)) (by decide) (by decide)) (cwV 2 hts gl_areTasksRight_X8_ofScope rfl rfl rfl (by decide +kernel) ⟨Nat.le_of_ble_eq_true rfl, Nat.le_of_ble_eq_true rfl⟩) hKb hP hD hS hA 209 w_tp rfl hl.1 rfl rfl (Nat.le_of_ble_eq_true rfl) ⟨Nat.le_of_ble_eq_true rfl, Nat.le_of_ble_eq_true rfl⟩ dL_areTasksRight_414 (fun r _ H locs hw hP hD hS => ?_)
                                                    obtain rfl : r = (nI o4) := hw.trans s0
                                                    refine lv_iload hx hb dL_areTasksRight_417 (lv_at hl 9 rfl) ?_
                                                    refine lv_icmp_ge (tgt := 444) hx hb dL_areTasksRight_419 (by decide) (fun c_419_296 => ?_) (fun c_419_296 => ?_)
                                                    · exact absurd ((nI_leI (a := k) (b := o4) (by omega) (by omega)).mp c_419_296) (by omega)
                                                    · skip
                                                      refine lv_aload_n hx hb dL_areTasksRight_422 rfl (lv_at hl 4 rfl) ?_
                                                      refine lv_aload_n hx hb dL_areTasksRight_423 rfl (lv_at hl 4 rfl) ?_
                                                      refine lv_iload hx hb dL_areTasksRight_424 (lv_at hl 9 rfl) ?_
                                                      refine lv_iconst (v := 4) hx hb dL_areTasksRight_426 (by decide) ?_
                                                      refine x_Vi (As := [.int (nI k), .int 4]) (rest0 := [.ref tp]) ⟨hx, hb, hml, hown, hts⟩ (c_X8_ofTask l D cA ad (tr ++ [(cN, .boolean)]) R273 H.size τ pd π bd tp ρ h102 (nI k) 4 (nI_pos (by omega)) (by rw [h.1.1.2.2.1]; exact (nI_ltI (by omega) (by omega)).mpr (by omega)) (by decide) (by decide)) (cwV 2 hts gl_areTasksRight_X8_ofTask rfl rfl rfl (by decide +kernel) ⟨Nat.le_of_ble_eq_true rfl, Nat.le_of_ble_eq_true rfl⟩) hKb hP hD hS hA 209 w_tp rfl hl.1 rfl rfl (Nat.le_of_ble_eq_true rfl) ⟨Nat.le_of_ble_eq_true rfl, Nat.le_of_ble_eq_true rfl⟩ dL_areTasksRight_427 (fun r _ H locs hw hP hD hS => ?_)
                                                      obtain rfl : r = (nI q4) := hw.trans c4
                                                      refine lv_iconst (v := 1) hx hb dL_areTasksRight_430 (by decide) ?_
                                                      refine x_Vi (As := [.int (nI q4), .int 1]) (rest0 := []) ⟨hx, hb, hml, hown, hts⟩ (c_X8_ofScope l D cA ad (tr ++ [(cN, .boolean)]) R273 H.size τ pd π bd tp ρ h102 (nI q4) 1 (nI_pos (by omega)) (by rw [h.1.1.2.2.2.1]; exact (nI_ltI (by omega) (by omega)).mpr (by omega)) (by decide) (by decide)) (cwV 2 hts gl_areTasksRight_X8_ofScope rfl rfl rfl (by decide +kernel) ⟨Nat.le_of_ble_eq_true rfl, Nat.le_of_ble_eq_true rfl⟩) hKb hP hD hS hA 209 w_tp rfl hl.1 rfl rfl (Nat.le_of_ble_eq_true rfl) ⟨Nat.le_of_ble_eq_true rfl, Nat.le_of_ble_eq_true rfl⟩ dL_areTasksRight_431 (fun r _ H locs hw hP hD hS => ?_)
                                                      obtain rfl : r = 0 := hw.trans s1
                                                      refine lv_iconst (v := 2) hx hb dL_areTasksRight_434 (by decide) ?_
                                                      refine lv_icmp_ne (tgt := 446) hx hb dL_areTasksRight_435 (by decide) (fun c_435_297 => ?_) (fun c_435_297 => ?_)
                                                      · skip
                                                        refine lv_iinc (v := (nI (k + 1))) (lv' := [(5, .int (nI (k + 1))), (9, .int (-1)), (8, .int 0), (7, .int (-1)), (6, .int 2), (0, .ref tp), (1, .ref oq), (2, .ref q1), (3, .ref q3), (4, .ref q5)]) hx hb dL_areTasksRight_446 hl (k := 9) rfl (show (nI k) + 1 = (nI (k + 1)) from nI_1 k) (by decide) rfl (fun ls hl => ?_)
                                                        refine lv_goto (tgt := 107) hx hb dL_areTasksRight_449 (by decide) ?_
                                                        exact ih n (Nat.lt_succ_self n) H locs ls ⟨(k + 1), f272, g, R273, ⟨by omega, st_upd e0 (by decide) hf ef272, hg.up, eR273⟩, hP, hD, hS, lv_sub hl [5, 6, 7, 8, 9, 0] rfl⟩
                                                      · exact absurd c_435_297 (by decide)
                                                · exact absurd ((nI_ltI (a := q4) (b := S) (by omega) (by omega)).mpr (by omega)) c_390_294
                                              · skip
                                                refine lv_aload_n hx hb dL_areTasksRight_377 rfl (lv_at hl 4 rfl) ?_
                                                refine lv_iload hx hb dL_areTasksRight_378 (lv_at hl 9 rfl) ?_
                                                refine lv_iconst (v := 4) hx hb dL_areTasksRight_380 (by decide) ?_
                                                refine x_Vi (As := [.int (nI k), .int 4]) (rest0 := []) ⟨hx, hb, hml, hown, hts⟩ (c_X8_ofTask l D cA ad (tr ++ [(cN, .boolean)]) R273 H.size τ pd π bd tp ρ h102 (nI k) 4 (nI_pos (by omega)) (by rw [h.1.1.2.2.1]; exact (nI_ltI (by omega) (by omega)).mpr (by omega)) (by decide) (by decide)) (cwV 2 hts gl_areTasksRight_X8_ofTask rfl rfl rfl (by decide +kernel) ⟨Nat.le_of_ble_eq_true rfl, Nat.le_of_ble_eq_true rfl⟩) hKb hP hD hS hA 209 w_tp rfl hl.1 rfl rfl (Nat.le_of_ble_eq_true rfl) ⟨Nat.le_of_ble_eq_true rfl, Nat.le_of_ble_eq_true rfl⟩ dL_areTasksRight_381 (fun r _ H locs hw hP hD hS => ?_)
                                                obtain rfl : r = (nI q4) := hw.trans c4
                                                refine lv_aload_n hx hb dL_areTasksRight_384 rfl (lv_at hl 4 rfl) ?_
                                                refine lv_bipush (v := 7) hx hb dL_areTasksRight_385 (by decide) ?_
                                                refine x_Vi (As := [.int 7]) (rest0 := [.int (nI q4)]) ⟨hx, hb, hml, hown, hts⟩ (c_X8_many l D cA ad (tr ++ [(cN, .boolean)]) R273 H.size τ pd π bd tp ρ h102 7 (by decide) (by decide)) (cwV 1 hts gl_areTasksRight_X8_many rfl rfl rfl (by decide +kernel) ⟨Nat.le_of_ble_eq_true rfl, Nat.le_of_ble_eq_true rfl⟩) hKb hP hD hS hA 209 w_tp rfl hl.1 rfl rfl (Nat.le_of_ble_eq_true rfl) ⟨Nat.le_of_ble_eq_true rfl, Nat.le_of_ble_eq_true rfl⟩ dL_areTasksRight_387 (fun r _ H locs hw hP hD hS => ?_)
                                                obtain rfl : r = (nI S) := hw.trans (many_7 h.1.1)
                                                refine lv_icmp_lt (tgt := 395) hx hb dL_areTasksRight_390 (by decide) (fun c_390_298 => ?_) (fun c_390_298 => ?_)
                                                · skip
                                                  refine lv_aload_n hx hb dL_areTasksRight_395 rfl (lv_at hl 4 rfl) ?_
                                                  refine lv_iload hx hb dL_areTasksRight_396 (lv_at hl 9 rfl) ?_
                                                  refine lv_iconst (v := 4) hx hb dL_areTasksRight_398 (by decide) ?_
                                                  refine x_Vi (As := [.int (nI k), .int 4]) (rest0 := []) ⟨hx, hb, hml, hown, hts⟩ (c_X8_ofTask l D cA ad (tr ++ [(cN, .boolean)]) R273 H.size τ pd π bd tp ρ h102 (nI k) 4 (nI_pos (by omega)) (by rw [h.1.1.2.2.1]; exact (nI_ltI (by omega) (by omega)).mpr (by omega)) (by decide) (by decide)) (cwV 2 hts gl_areTasksRight_X8_ofTask rfl rfl rfl (by decide +kernel) ⟨Nat.le_of_ble_eq_true rfl, Nat.le_of_ble_eq_true rfl⟩) hKb hP hD hS hA 209 w_tp rfl hl.1 rfl rfl (Nat.le_of_ble_eq_true rfl) ⟨Nat.le_of_ble_eq_true rfl, Nat.le_of_ble_eq_true rfl⟩ dL_areTasksRight_399 (fun r _ H locs hw hP hD hS => ?_)
                                                  obtain rfl : r = (nI q4) := hw.trans c4
                                                  refine lv_if_lt (tgt := 446) hx hb dL_areTasksRight_402 (by decide) (fun c_402_299 => ?_) (fun c_402_299 => ?_)
                                                  · exact absurd ((nI_ltI (a := q4) (b := 0) (by omega) (by omega)).mp c_402_299) (by omega)
                                                  · skip
                                                    refine lv_aload_n hx hb dL_areTasksRight_405 rfl (lv_at hl 4 rfl) ?_
                                                    refine lv_aload_n hx hb dL_areTasksRight_406 rfl (lv_at hl 4 rfl) ?_
                                                    refine lv_iload hx hb dL_areTasksRight_407 (lv_at hl 9 rfl) ?_
                                                    refine lv_iconst (v := 4) hx hb dL_areTasksRight_409 (by decide) ?_
                                                    refine x_Vi (As := [.int (nI k), .int 4]) (rest0 := [.ref tp]) ⟨hx, hb, hml, hown, hts⟩ (c_X8_ofTask l D cA ad (tr ++ [(cN, .boolean)]) R273 H.size τ pd π bd tp ρ h102 (nI k) 4 (nI_pos (by omega)) (by rw [h.1.1.2.2.1]; exact (nI_ltI (by omega) (by omega)).mpr (by omega)) (by decide) (by decide)) (cwV 2 hts gl_areTasksRight_X8_ofTask rfl rfl rfl (by decide +kernel) ⟨Nat.le_of_ble_eq_true rfl, Nat.le_of_ble_eq_true rfl⟩) hKb hP hD hS hA 209 w_tp rfl hl.1 rfl rfl (Nat.le_of_ble_eq_true rfl) ⟨Nat.le_of_ble_eq_true rfl, Nat.le_of_ble_eq_true rfl⟩ dL_areTasksRight_410 (fun r _ H locs hw hP hD hS => ?_)
                                                    obtain rfl : r = (nI q4) := hw.trans c4
                                                    refine lv_iconst (v := 0) hx hb dL_areTasksRight_413 (by decide) ?_
                                                    refine x_Vi (As := [.int (nI q4), .int 0]) (rest0 := []) ⟨hx, hb, hml, hown, hts⟩ (c_X8_ofScope l D cA ad (tr ++ [(cN, .boolean)]) R273 H.size τ pd π bd tp ρ h102 (nI q4) 0 (nI_pos (by omega)) (by rw [h.1.1.2.2.2.1]; exact (nI_ltI (by omega) (by omega)).mpr (by omega)) (by decide) (by decide)) (cwV 2 hts gl_areTasksRight_X8_ofScope rfl rfl rfl (by decide +kernel) ⟨Nat.le_of_ble_eq_true rfl, Nat.le_of_ble_eq_true rfl⟩) hKb hP hD hS hA 209 w_tp rfl hl.1 rfl rfl (Nat.le_of_ble_eq_true rfl) ⟨Nat.le_of_ble_eq_true rfl, Nat.le_of_ble_eq_true rfl⟩ dL_areTasksRight_414 (fun r _ H locs hw hP hD hS => ?_)
                                                    obtain rfl : r = (nI o4) := hw.trans s0
                                                    refine lv_iload hx hb dL_areTasksRight_417 (lv_at hl 9 rfl) ?_
                                                    refine lv_icmp_ge (tgt := 444) hx hb dL_areTasksRight_419 (by decide) (fun c_419_300 => ?_) (fun c_419_300 => ?_)
                                                    · exact absurd ((nI_leI (a := k) (b := o4) (by omega) (by omega)).mp c_419_300) (by omega)
                                                    · skip
                                                      refine lv_aload_n hx hb dL_areTasksRight_422 rfl (lv_at hl 4 rfl) ?_
                                                      refine lv_aload_n hx hb dL_areTasksRight_423 rfl (lv_at hl 4 rfl) ?_
                                                      refine lv_iload hx hb dL_areTasksRight_424 (lv_at hl 9 rfl) ?_
                                                      refine lv_iconst (v := 4) hx hb dL_areTasksRight_426 (by decide) ?_
                                                      refine x_Vi (As := [.int (nI k), .int 4]) (rest0 := [.ref tp]) ⟨hx, hb, hml, hown, hts⟩ (c_X8_ofTask l D cA ad (tr ++ [(cN, .boolean)]) R273 H.size τ pd π bd tp ρ h102 (nI k) 4 (nI_pos (by omega)) (by rw [h.1.1.2.2.1]; exact (nI_ltI (by omega) (by omega)).mpr (by omega)) (by decide) (by decide)) (cwV 2 hts gl_areTasksRight_X8_ofTask rfl rfl rfl (by decide +kernel) ⟨Nat.le_of_ble_eq_true rfl, Nat.le_of_ble_eq_true rfl⟩) hKb hP hD hS hA 209 w_tp rfl hl.1 rfl rfl (Nat.le_of_ble_eq_true rfl) ⟨Nat.le_of_ble_eq_true rfl, Nat.le_of_ble_eq_true rfl⟩ dL_areTasksRight_427 (fun r _ H locs hw hP hD hS => ?_)
                                                      obtain rfl : r = (nI q4) := hw.trans c4
                                                      refine lv_iconst (v := 1) hx hb dL_areTasksRight_430 (by decide) ?_
                                                      refine x_Vi (As := [.int (nI q4), .int 1]) (rest0 := []) ⟨hx, hb, hml, hown, hts⟩ (c_X8_ofScope l D cA ad (tr ++ [(cN, .boolean)]) R273 H.size τ pd π bd tp ρ h102 (nI q4) 1 (nI_pos (by omega)) (by rw [h.1.1.2.2.2.1]; exact (nI_ltI (by omega) (by omega)).mpr (by omega)) (by decide) (by decide)) (cwV 2 hts gl_areTasksRight_X8_ofScope rfl rfl rfl (by decide +kernel) ⟨Nat.le_of_ble_eq_true rfl, Nat.le_of_ble_eq_true rfl⟩) hKb hP hD hS hA 209 w_tp rfl hl.1 rfl rfl (Nat.le_of_ble_eq_true rfl) ⟨Nat.le_of_ble_eq_true rfl, Nat.le_of_ble_eq_true rfl⟩ dL_areTasksRight_431 (fun r _ H locs hw hP hD hS => ?_)
                                                      obtain rfl : r = 1 := hw.trans s1
                                                      refine lv_iconst (v := 2) hx hb dL_areTasksRight_434 (by decide) ?_
                                                      refine lv_icmp_ne (tgt := 446) hx hb dL_areTasksRight_435 (by decide) (fun c_435_301 => ?_) (fun c_435_301 => ?_)
                                                      · skip
                                                        refine lv_iinc (v := (nI (k + 1))) (lv' := [(5, .int (nI (k + 1))), (9, .int (-1)), (8, .int 0), (7, .int (-1)), (6, .int 2), (0, .ref tp), (1, .ref oq), (2, .ref q1), (3, .ref q3), (4, .ref q5)]) hx hb dL_areTasksRight_446 hl (k := 9) rfl (show (nI k) + 1 = (nI (k + 1)) from nI_1 k) (by decide) rfl (fun ls hl => ?_)
                                                        refine lv_goto (tgt := 107) hx hb dL_areTasksRight_449 (by decide) ?_
                                                        exact ih n (Nat.lt_succ_self n) H locs ls ⟨(k + 1), f272, g, R273, ⟨by omega, st_upd e0 (by decide) hf ef272, hg.up, eR273⟩, hP, hD, hS, lv_sub hl [5, 6, 7, 8, 9, 0] rfl⟩
                                                      · exact absurd c_435_301 (by decide)
                                                · exact absurd ((nI_ltI (a := q4) (b := S) (by omega) (by omega)).mpr (by omega)) c_390_298
                                              · skip
                                                refine lv_aload_n hx hb dL_areTasksRight_377 rfl (lv_at hl 4 rfl) ?_
                                                refine lv_iload hx hb dL_areTasksRight_378 (lv_at hl 9 rfl) ?_
                                                refine lv_iconst (v := 4) hx hb dL_areTasksRight_380 (by decide) ?_
                                                refine x_Vi (As := [.int (nI k), .int 4]) (rest0 := []) ⟨hx, hb, hml, hown, hts⟩ (c_X8_ofTask l D cA ad (tr ++ [(cN, .boolean)]) R273 H.size τ pd π bd tp ρ h102 (nI k) 4 (nI_pos (by omega)) (by rw [h.1.1.2.2.1]; exact (nI_ltI (by omega) (by omega)).mpr (by omega)) (by decide) (by decide)) (cwV 2 hts gl_areTasksRight_X8_ofTask rfl rfl rfl (by decide +kernel) ⟨Nat.le_of_ble_eq_true rfl, Nat.le_of_ble_eq_true rfl⟩) hKb hP hD hS hA 209 w_tp rfl hl.1 rfl rfl (Nat.le_of_ble_eq_true rfl) ⟨Nat.le_of_ble_eq_true rfl, Nat.le_of_ble_eq_true rfl⟩ dL_areTasksRight_381 (fun r _ H locs hw hP hD hS => ?_)
                                                obtain rfl : r = (nI q4) := hw.trans c4
                                                refine lv_aload_n hx hb dL_areTasksRight_384 rfl (lv_at hl 4 rfl) ?_
                                                refine lv_bipush (v := 7) hx hb dL_areTasksRight_385 (by decide) ?_
                                                refine x_Vi (As := [.int 7]) (rest0 := [.int (nI q4)]) ⟨hx, hb, hml, hown, hts⟩ (c_X8_many l D cA ad (tr ++ [(cN, .boolean)]) R273 H.size τ pd π bd tp ρ h102 7 (by decide) (by decide)) (cwV 1 hts gl_areTasksRight_X8_many rfl rfl rfl (by decide +kernel) ⟨Nat.le_of_ble_eq_true rfl, Nat.le_of_ble_eq_true rfl⟩) hKb hP hD hS hA 209 w_tp rfl hl.1 rfl rfl (Nat.le_of_ble_eq_true rfl) ⟨Nat.le_of_ble_eq_true rfl, Nat.le_of_ble_eq_true rfl⟩ dL_areTasksRight_387 (fun r _ H locs hw hP hD hS => ?_)
                                                obtain rfl : r = (nI S) := hw.trans (many_7 h.1.1)
                                                refine lv_icmp_lt (tgt := 395) hx hb dL_areTasksRight_390 (by decide) (fun c_390_302 => ?_) (fun c_390_302 => ?_)
                                                · skip
                                                  refine lv_aload_n hx hb dL_areTasksRight_395 rfl (lv_at hl 4 rfl) ?_
                                                  refine lv_iload hx hb dL_areTasksRight_396 (lv_at hl 9 rfl) ?_
                                                  refine lv_iconst (v := 4) hx hb dL_areTasksRight_398 (by decide) ?_
                                                  refine x_Vi (As := [.int (nI k), .int 4]) (rest0 := []) ⟨hx, hb, hml, hown, hts⟩ (c_X8_ofTask l D cA ad (tr ++ [(cN, .boolean)]) R273 H.size τ pd π bd tp ρ h102 (nI k) 4 (nI_pos (by omega)) (by rw [h.1.1.2.2.1]; exact (nI_ltI (by omega) (by omega)).mpr (by omega)) (by decide) (by decide)) (cwV 2 hts gl_areTasksRight_X8_ofTask rfl rfl rfl (by decide +kernel) ⟨Nat.le_of_ble_eq_true rfl, Nat.le_of_ble_eq_true rfl⟩) hKb hP hD hS hA 209 w_tp rfl hl.1 rfl rfl (Nat.le_of_ble_eq_true rfl) ⟨Nat.le_of_ble_eq_true rfl, Nat.le_of_ble_eq_true rfl⟩ dL_areTasksRight_399 (fun r _ H locs hw hP hD hS => ?_)
                                                  obtain rfl : r = (nI q4) := hw.trans c4
                                                  refine lv_if_lt (tgt := 446) hx hb dL_areTasksRight_402 (by decide) (fun c_402_303 => ?_) (fun c_402_303 => ?_)
                                                  · exact absurd ((nI_ltI (a := q4) (b := 0) (by omega) (by omega)).mp c_402_303) (by omega)
                                                  · skip
                                                    refine lv_aload_n hx hb dL_areTasksRight_405 rfl (lv_at hl 4 rfl) ?_
                                                    refine lv_aload_n hx hb dL_areTasksRight_406 rfl (lv_at hl 4 rfl) ?_
                                                    refine lv_iload hx hb dL_areTasksRight_407 (lv_at hl 9 rfl) ?_
                                                    refine lv_iconst (v := 4) hx hb dL_areTasksRight_409 (by decide) ?_
                                                    refine x_Vi (As := [.int (nI k), .int 4]) (rest0 := [.ref tp]) ⟨hx, hb, hml, hown, hts⟩ (c_X8_ofTask l D cA ad (tr ++ [(cN, .boolean)]) R273 H.size τ pd π bd tp ρ h102 (nI k) 4 (nI_pos (by omega)) (by rw [h.1.1.2.2.1]; exact (nI_ltI (by omega) (by omega)).mpr (by omega)) (by decide) (by decide)) (cwV 2 hts gl_areTasksRight_X8_ofTask rfl rfl rfl (by decide +kernel) ⟨Nat.le_of_ble_eq_true rfl, Nat.le_of_ble_eq_true rfl⟩) hKb hP hD hS hA 209 w_tp rfl hl.1 rfl rfl (Nat.le_of_ble_eq_true rfl) ⟨Nat.le_of_ble_eq_true rfl, Nat.le_of_ble_eq_true rfl⟩ dL_areTasksRight_410 (fun r _ H locs hw hP hD hS => ?_)
                                                    obtain rfl : r = (nI q4) := hw.trans c4
                                                    refine lv_iconst (v := 0) hx hb dL_areTasksRight_413 (by decide) ?_
                                                    refine x_Vi (As := [.int (nI q4), .int 0]) (rest0 := []) ⟨hx, hb, hml, hown, hts⟩ (c_X8_ofScope l D cA ad (tr ++ [(cN, .boolean)]) R273 H.size τ pd π bd tp ρ h102 (nI q4) 0 (nI_pos (by omega)) (by rw [h.1.1.2.2.2.1]; exact (nI_ltI (by omega) (by omega)).mpr (by omega)) (by decide) (by decide)) (cwV 2 hts gl_areTasksRight_X8_ofScope rfl rfl rfl (by decide +kernel) ⟨Nat.le_of_ble_eq_true rfl, Nat.le_of_ble_eq_true rfl⟩) hKb hP hD hS hA 209 w_tp rfl hl.1 rfl rfl (Nat.le_of_ble_eq_true rfl) ⟨Nat.le_of_ble_eq_true rfl, Nat.le_of_ble_eq_true rfl⟩ dL_areTasksRight_414 (fun r _ H locs hw hP hD hS => ?_)
                                                    obtain rfl : r = (nI o4) := hw.trans s0
                                                    refine lv_iload hx hb dL_areTasksRight_417 (lv_at hl 9 rfl) ?_
                                                    refine lv_icmp_ge (tgt := 444) hx hb dL_areTasksRight_419 (by decide) (fun c_419_304 => ?_) (fun c_419_304 => ?_)
                                                    · exact absurd ((nI_leI (a := k) (b := o4) (by omega) (by omega)).mp c_419_304) (by omega)
                                                    · skip
                                                      refine lv_aload_n hx hb dL_areTasksRight_422 rfl (lv_at hl 4 rfl) ?_
                                                      refine lv_aload_n hx hb dL_areTasksRight_423 rfl (lv_at hl 4 rfl) ?_
                                                      refine lv_iload hx hb dL_areTasksRight_424 (lv_at hl 9 rfl) ?_
                                                      refine lv_iconst (v := 4) hx hb dL_areTasksRight_426 (by decide) ?_
                                                      refine x_Vi (As := [.int (nI k), .int 4]) (rest0 := [.ref tp]) ⟨hx, hb, hml, hown, hts⟩ (c_X8_ofTask l D cA ad (tr ++ [(cN, .boolean)]) R273 H.size τ pd π bd tp ρ h102 (nI k) 4 (nI_pos (by omega)) (by rw [h.1.1.2.2.1]; exact (nI_ltI (by omega) (by omega)).mpr (by omega)) (by decide) (by decide)) (cwV 2 hts gl_areTasksRight_X8_ofTask rfl rfl rfl (by decide +kernel) ⟨Nat.le_of_ble_eq_true rfl, Nat.le_of_ble_eq_true rfl⟩) hKb hP hD hS hA 209 w_tp rfl hl.1 rfl rfl (Nat.le_of_ble_eq_true rfl) ⟨Nat.le_of_ble_eq_true rfl, Nat.le_of_ble_eq_true rfl⟩ dL_areTasksRight_427 (fun r _ H locs hw hP hD hS => ?_)
                                                      obtain rfl : r = (nI q4) := hw.trans c4
                                                      refine lv_iconst (v := 1) hx hb dL_areTasksRight_430 (by decide) ?_
                                                      refine x_Vi (As := [.int (nI q4), .int 1]) (rest0 := []) ⟨hx, hb, hml, hown, hts⟩ (c_X8_ofScope l D cA ad (tr ++ [(cN, .boolean)]) R273 H.size τ pd π bd tp ρ h102 (nI q4) 1 (nI_pos (by omega)) (by rw [h.1.1.2.2.2.1]; exact (nI_ltI (by omega) (by omega)).mpr (by omega)) (by decide) (by decide)) (cwV 2 hts gl_areTasksRight_X8_ofScope rfl rfl rfl (by decide +kernel) ⟨Nat.le_of_ble_eq_true rfl, Nat.le_of_ble_eq_true rfl⟩) hKb hP hD hS hA 209 w_tp rfl hl.1 rfl rfl (Nat.le_of_ble_eq_true rfl) ⟨Nat.le_of_ble_eq_true rfl, Nat.le_of_ble_eq_true rfl⟩ dL_areTasksRight_431 (fun r _ H locs hw hP hD hS => ?_)
                                                      obtain rfl : r = 2 := hw.trans s1
                                                      refine lv_iconst (v := 2) hx hb dL_areTasksRight_434 (by decide) ?_
                                                      refine lv_icmp_ne (tgt := 446) hx hb dL_areTasksRight_435 (by decide) (fun c_435_305 => ?_) (fun c_435_305 => ?_)
                                                      · exact absurd c_435_305 (by decide)
                                                      · skip
                                                        refine lv_iload hx hb dL_areTasksRight_438 (lv_at hl 3 rfl) ?_
                                                        refine lv_iconst (v := 2) hx hb dL_areTasksRight_440 (by decide) ?_
                                                        refine lv_icmp_ge (tgt := 446) hx hb dL_areTasksRight_441 (by decide) (fun c_441_306 => ?_) (fun c_441_306 => ?_)
                                                        · skip
                                                          refine lv_iinc (v := (nI (k + 1))) (lv' := [(5, .int (nI (k + 1))), (9, .int (-1)), (8, .int 0), (7, .int (-1)), (6, .int 2), (0, .ref tp), (1, .ref oq), (2, .ref q1), (3, .ref q3), (4, .ref q5)]) hx hb dL_areTasksRight_446 hl (k := 9) rfl (show (nI k) + 1 = (nI (k + 1)) from nI_1 k) (by decide) rfl (fun ls hl => ?_)
                                                          refine lv_goto (tgt := 107) hx hb dL_areTasksRight_449 (by decide) ?_
                                                          exact ih n (Nat.lt_succ_self n) H locs ls ⟨(k + 1), f272, g, R273, ⟨by omega, st_upd e0 (by decide) hf ef272, hg.up, eR273⟩, hP, hD, hS, lv_sub hl [5, 6, 7, 8, 9, 0] rfl⟩
                                                        · exact absurd c_441_306 (by decide)
                                                · exact absurd ((nI_ltI (a := q4) (b := S) (by omega) (by omega)).mpr (by omega)) c_390_302
                                        · exact absurd c_348_290 (by decide)
                                      · exact absurd c_297_289 (by decide)
                                    · exact absurd c_287_288 (by decide)
                                  · exact absurd c_280_287 (by decide)
                    · exact absurd c_221_280 (by decide)
                  · exact absurd c_210_279 (by decide)
                · exact absurd c_198_278 (by decide)
          · exact absurd c_175_275 (by decide)
        · exact absurd c_165_274 (by decide)
      · skip
        have e0 : τ (k + 6) 3 = nI 3 := (aT1 hk24).symm.trans c1
        refine lv_aload_n hx hb dL_areTasksRight_117 rfl (lv_at hl 0 rfl) ?_
        refine lv_iload hx hb dL_areTasksRight_118 (lv_at hl 5 rfl) ?_
        refine lv_iconst (v := 1) hx hb dL_areTasksRight_120 (by decide) ?_
        refine x_Vi (As := [.int (nI k), .int 1]) (rest0 := []) ⟨hx, hb, hml, hown, hts⟩ (c_X8_ofTask l D cA ad (tr ++ [(cN, .boolean)]) R45 H.size τ pd π bd tp ρ h102 (nI k) 1 (nI_pos (by omega)) (by rw [h.1.1.2.2.1]; exact (nI_ltI (by omega) (by omega)).mpr (by omega)) (by decide) (by decide)) (cwV 2 hts gl_areTasksRight_X8_ofTask rfl rfl rfl (by decide +kernel) ⟨Nat.le_of_ble_eq_true rfl, Nat.le_of_ble_eq_true rfl⟩) hKb hP hD hS hA 209 w_tp rfl hl.1 rfl rfl (Nat.le_of_ble_eq_true rfl) ⟨Nat.le_of_ble_eq_true rfl, Nat.le_of_ble_eq_true rfl⟩ dL_areTasksRight_121 (fun r _ H locs hw hP hD hS => ?_)
        obtain rfl : r = 3 := hw.trans c1
        refine lv_istore (lv' := [(6, .int 3), (0, .ref tp), (1, .ref oq), (2, .ref q1), (3, .ref q3), (4, .ref q5), (5, .int (nI k))]) hx hb dL_areTasksRight_124 hl (by decide) rfl (fun ls hl => ?_)
        refine lv_aload_n hx hb dL_areTasksRight_126 rfl (lv_at hl 1 rfl) ?_
        refine lv_iload hx hb dL_areTasksRight_127 (lv_at hl 6 rfl) ?_
        refine lv_bipush (v := 6) hx hb dL_areTasksRight_129 (by decide) ?_
        refine x_Vi (As := [.int (nI k), .int 6]) (rest0 := []) ⟨hx, hb, hml, hown, hts⟩ (c_X8_ofTask l D cA ad (tr ++ [(cN, .boolean)]) R45 H.size τ pd π bd tp ρ h102 (nI k) 6 (nI_pos (by omega)) (by rw [h.1.1.2.2.1]; exact (nI_ltI (by omega) (by omega)).mpr (by omega)) (by decide) (by decide)) (cwV 2 hts gl_areTasksRight_X8_ofTask rfl rfl rfl (by decide +kernel) ⟨Nat.le_of_ble_eq_true rfl, Nat.le_of_ble_eq_true rfl⟩) hKb hP hD hS hA 209 w_tp rfl hl.1 rfl rfl (Nat.le_of_ble_eq_true rfl) ⟨Nat.le_of_ble_eq_true rfl, Nat.le_of_ble_eq_true rfl⟩ dL_areTasksRight_131 (fun r _ H locs hw hP hD hS => ?_)
        obtain rfl : r = (-1) := hw.trans c6
        refine lv_istore (lv' := [(7, .int (-1)), (6, .int 3), (0, .ref tp), (1, .ref oq), (2, .ref q1), (3, .ref q3), (4, .ref q5), (5, .int (nI k))]) hx hb dL_areTasksRight_134 hl (by decide) rfl (fun ls hl => ?_)
        refine lv_aload_n hx hb dL_areTasksRight_136 rfl (lv_at hl 2 rfl) ?_
        refine lv_iload hx hb dL_areTasksRight_137 (lv_at hl 7 rfl) ?_
        refine lv_bipush (v := 8) hx hb dL_areTasksRight_139 (by decide) ?_
        refine x_Vi (As := [.int (nI k), .int 8]) (rest0 := []) ⟨hx, hb, hml, hown, hts⟩ (c_X8_ofTask l D cA ad (tr ++ [(cN, .boolean)]) R45 H.size τ pd π bd tp ρ h102 (nI k) 8 (nI_pos (by omega)) (by rw [h.1.1.2.2.1]; exact (nI_ltI (by omega) (by omega)).mpr (by omega)) (by decide) (by decide)) (cwV 2 hts gl_areTasksRight_X8_ofTask rfl rfl rfl (by decide +kernel) ⟨Nat.le_of_ble_eq_true rfl, Nat.le_of_ble_eq_true rfl⟩) hKb hP hD hS hA 209 w_tp rfl hl.1 rfl rfl (Nat.le_of_ble_eq_true rfl) ⟨Nat.le_of_ble_eq_true rfl, Nat.le_of_ble_eq_true rfl⟩ dL_areTasksRight_141 (fun r _ H locs hw hP hD hS => ?_)
        obtain rfl : r = 0 := hw.trans c8
        refine lv_istore (lv' := [(8, .int 0), (7, .int (-1)), (6, .int 3), (0, .ref tp), (1, .ref oq), (2, .ref q1), (3, .ref q3), (4, .ref q5), (5, .int (nI k))]) hx hb dL_areTasksRight_144 hl (by decide) rfl (fun ls hl => ?_)
        refine lv_aload_n hx hb dL_areTasksRight_146 rfl (lv_at hl 3 rfl) ?_
        refine lv_iload hx hb dL_areTasksRight_147 (lv_at hl 8 rfl) ?_
        refine lv_iconst (v := 2) hx hb dL_areTasksRight_149 (by decide) ?_
        refine x_Vi (As := [.int (nI k), .int 2]) (rest0 := []) ⟨hx, hb, hml, hown, hts⟩ (c_X8_ofTask l D cA ad (tr ++ [(cN, .boolean)]) R45 H.size τ pd π bd tp ρ h102 (nI k) 2 (nI_pos (by omega)) (by rw [h.1.1.2.2.1]; exact (nI_ltI (by omega) (by omega)).mpr (by omega)) (by decide) (by decide)) (cwV 2 hts gl_areTasksRight_X8_ofTask rfl rfl rfl (by decide +kernel) ⟨Nat.le_of_ble_eq_true rfl, Nat.le_of_ble_eq_true rfl⟩) hKb hP hD hS hA 209 w_tp rfl hl.1 rfl rfl (Nat.le_of_ble_eq_true rfl) ⟨Nat.le_of_ble_eq_true rfl, Nat.le_of_ble_eq_true rfl⟩ dL_areTasksRight_150 (fun r _ H locs hw hP hD hS => ?_)
        obtain rfl : r = (-1) := hw.trans c2
        refine lv_istore (lv' := [(9, .int (-1)), (8, .int 0), (7, .int (-1)), (6, .int 3), (0, .ref tp), (1, .ref oq), (2, .ref q1), (3, .ref q3), (4, .ref q5), (5, .int (nI k))]) hx hb dL_areTasksRight_153 hl (by decide) rfl (fun ls hl => ?_)
        refine lv_aload_n hx hb dL_areTasksRight_155 rfl (lv_at hl 6 rfl) ?_
        refine lv_iload hx hb dL_areTasksRight_156 (lv_at hl 3 rfl) ?_
        refine lv_dup2_11 hx hb dL_areTasksRight_158 rfl rfl ?_
        refine va_iald hx hb hKb hP (0 + rest.length + 210) (0) (wNewR eR45 rfl) rfl (by unfold vp_in; decide) dL_areTasksRight_159 ?_
        refine W.eq (g2 := F0 m 160 ls [.int (nI (cnt (m_isIn τ (nI 3)) k)), .int 3, .ref q1]) (by show F0 m _ ls (.int (f 3) :: _) = _; rw [hf 3 (by decide)]) ?_
        refine lv_iconst (v := 1) hx hb dL_areTasksRight_160 (by decide) ?_
        refine lv_iadd hx hb dL_areTasksRight_161 ?_
        refine W.eq (g2 := F0 m 162 ls [.int (nI ((cnt (m_isIn τ (nI 3)) k) + 1)), .int 3, .ref q1]) (by rw [show ((nI (cnt (m_isIn τ (nI 3)) k)) : Int32) + 1 = (nI ((cnt (m_isIn τ (nI 3)) k) + 1)) from nI_add (cnt (m_isIn τ (nI 3)) k) 1]) ?_
        refine va_iast hx hb hKb hP hD hS (0 + rest.length + 210) (0) (wNewR eR45 rfl) rfl (by unfold vp_in; decide) dL_areTasksRight_162 (fun H locs hP hD hS => ?_)
        rw [wNewSR eR45] at hP hD
        obtain ⟨f307, ef307⟩ : ∃ z : Nat → Int32, z = upd f 3 (nI ((cnt (m_isIn τ (nI 3)) k) + 1)) := ⟨_, rfl⟩
        obtain ⟨R308, eR308⟩ : ∃ z : va_W, z = rest ++ [(q1, .inl (cA 0, 5, .inl f307)), (q3, .inl (cN, 24, .inl g)), (q5, .inl (cA 0, 19, .inl f43))] := ⟨_, rfl⟩
        have hP : va_P D vwCl (wB cA ad τ ++ (wPg cA ad pd π ++ (wB cA bd ρ ++ ((tp, .inr (8, tpF ad bd)) :: R308)))) H := by rw [eR308, ef307]; exact hP
        have hD : va_D A (wB cA ad τ ++ (wPg cA ad pd π ++ (wB cA bd ρ ++ ((tp, .inr (8, tpF ad bd)) :: R308)))) := by rw [eR308, ef307]; exact hD
        refine lv_iload hx hb dL_areTasksRight_163 (lv_at hl 2 rfl) ?_
        refine lv_if_lt (tgt := 172) hx hb dL_areTasksRight_165 (by decide) (fun c_165_309 => ?_) (fun c_165_309 => ?_)
        · skip
          refine lv_iconst (v := 0) hx hb dL_areTasksRight_172 (by decide) ?_
          refine lv_iload hx hb dL_areTasksRight_173 (lv_at hl 3 rfl) ?_
          refine lv_if_ne (tgt := 182) hx hb dL_areTasksRight_175 (by decide) (fun c_175_310 => ?_) (fun c_175_310 => ?_)
          · skip
            refine lv_iconst (v := 0) hx hb dL_areTasksRight_182 (by decide) ?_
            refine lv_icmp_ne (tgt := 283) hx hb dL_areTasksRight_183 (by decide) (fun c_183_311 => ?_) (fun c_183_311 => ?_)
            · exact absurd c_183_311 (by decide)
            · skip
              refine lv_iload hx hb dL_areTasksRight_186 (lv_at hl 2 rfl) ?_
              refine lv_aload_n hx hb dL_areTasksRight_188 rfl (lv_at hl 4 rfl) ?_
              refine lv_iconst (v := 2) hx hb dL_areTasksRight_189 (by decide) ?_
              refine x_Vi (As := [.int 2]) (rest0 := [.int (-1)]) ⟨hx, hb, hml, hown, hts⟩ (c_X8_many l D cA ad (tr ++ [(cN, .boolean)]) R308 H.size τ pd π bd tp ρ h102 2 (by decide) (by decide)) (cwV 1 hts gl_areTasksRight_X8_many rfl rfl rfl (by decide +kernel) ⟨Nat.le_of_ble_eq_true rfl, Nat.le_of_ble_eq_true rfl⟩) hKb hP hD hS hA 209 w_tp rfl hl.1 rfl rfl (Nat.le_of_ble_eq_true rfl) ⟨Nat.le_of_ble_eq_true rfl, Nat.le_of_ble_eq_true rfl⟩ dL_areTasksRight_190 (fun r _ H locs hw hP hD hS => ?_)
              obtain rfl : r = (nI L.length) := hw.trans ((many_st h.1.1).1.trans (congrArg nI (ready_len hL h.1.1)))
              refine lv_icmp_ge (tgt := 283) hx hb dL_areTasksRight_193 (by decide) (fun c_193_312 => ?_) (fun c_193_312 => ?_)
              · exact absurd c_193_312 (n1_nle (b := L.length) (by omega))
              · skip
                refine lv_iload hx hb dL_areTasksRight_196 (lv_at hl 2 rfl) ?_
                refine lv_if_lt (tgt := 208) hx hb dL_areTasksRight_198 (by decide) (fun c_198_313 => ?_) (fun c_198_313 => ?_)
                · skip
                  refine lv_iload hx hb dL_areTasksRight_208 (lv_at hl 1 rfl) ?_
                  refine lv_if_le (tgt := 217) hx hb dL_areTasksRight_210 (by decide) (fun c_210_314 => ?_) (fun c_210_314 => ?_)
                  · skip
                    refine lv_iconst (v := 0) hx hb dL_areTasksRight_217 (by decide) ?_
                    refine lv_iload hx hb dL_areTasksRight_218 (lv_at hl 3 rfl) ?_
                    refine lv_iconst (v := 1) hx hb dL_areTasksRight_220 (by decide) ?_
                    refine lv_icmp_ne (tgt := 228) hx hb dL_areTasksRight_221 (by decide) (fun c_221_315 => ?_) (fun c_221_315 => ?_)
                    · skip
                      refine lv_iconst (v := 0) hx hb dL_areTasksRight_228 (by decide) ?_
                      refine lv_icmp_ne (tgt := 283) hx hb dL_areTasksRight_229 (by decide) (fun c_229_316 => ?_) (fun c_229_316 => ?_)
                      · exact absurd c_229_316 (by decide)
                      · skip
                        refine lv_iload hx hb dL_areTasksRight_232 (lv_at hl 0 rfl) ?_
                        refine lv_if_ge (tgt := 241) hx hb dL_areTasksRight_234 (by decide) (fun c_234_317 => ?_) (fun c_234_317 => ?_)
                        · exact absurd c_234_317 (by decide)
                        · skip
                          refine lv_iconst (v := 1) hx hb dL_areTasksRight_237 (by decide) ?_
                          refine lv_goto (tgt := 242) hx hb dL_areTasksRight_238 (by decide) ?_
                          refine lv_iload hx hb dL_areTasksRight_242 (lv_at hl 3 rfl) ?_
                          refine lv_iconst (v := 1) hx hb dL_areTasksRight_244 (by decide) ?_
                          refine lv_icmp_le (tgt := 252) hx hb dL_areTasksRight_245 (by decide) (fun c_245_318 => ?_) (fun c_245_318 => ?_)
                          · exact absurd c_245_318 (by decide)
                          · skip
                            refine lv_iconst (v := 1) hx hb dL_areTasksRight_248 (by decide) ?_
                            refine lv_goto (tgt := 253) hx hb dL_areTasksRight_249 (by decide) ?_
                            refine lv_icmp_ne (tgt := 283) hx hb dL_areTasksRight_253 (by decide) (fun c_253_319 => ?_) (fun c_253_319 => ?_)
                            · exact absurd c_253_319 (by decide)
                            · skip
                              refine lv_iload hx hb dL_areTasksRight_256 (lv_at hl 3 rfl) ?_
                              refine lv_iconst (v := 1) hx hb dL_areTasksRight_258 (by decide) ?_
                              refine lv_icmp_le (tgt := 285) hx hb dL_areTasksRight_259 (by decide) (fun c_259_320 => ?_) (fun c_259_320 => ?_)
                              · exact absurd c_259_320 (by decide)
                              · skip
                                refine lv_aload_n hx hb dL_areTasksRight_262 rfl (lv_at hl 4 rfl) ?_
                                refine lv_iload hx hb dL_areTasksRight_263 (lv_at hl 9 rfl) ?_
                                refine lv_iconst (v := 5) hx hb dL_areTasksRight_265 (by decide) ?_
                                refine x_Vi (As := [.int (nI k), .int 5]) (rest0 := []) ⟨hx, hb, hml, hown, hts⟩ (c_X8_ofTask l D cA ad (tr ++ [(cN, .boolean)]) R308 H.size τ pd π bd tp ρ h102 (nI k) 5 (nI_pos (by omega)) (by rw [h.1.1.2.2.1]; exact (nI_ltI (by omega) (by omega)).mpr (by omega)) (by decide) (by decide)) (cwV 2 hts gl_areTasksRight_X8_ofTask rfl rfl rfl (by decide +kernel) ⟨Nat.le_of_ble_eq_true rfl, Nat.le_of_ble_eq_true rfl⟩) hKb hP hD hS hA 209 w_tp rfl hl.1 rfl rfl (Nat.le_of_ble_eq_true rfl) ⟨Nat.le_of_ble_eq_true rfl, Nat.le_of_ble_eq_true rfl⟩ dL_areTasksRight_266 (fun r _ H locs hw hP hD hS => ?_)
                                obtain rfl : r = 0 := hw.trans c5
                                refine lv_if_ne (tgt := 283) hx hb dL_areTasksRight_269 (by decide) (fun c_269_321 => ?_) (fun c_269_321 => ?_)
                                · exact absurd c_269_321 (by decide)
                                · skip
                                  refine lv_aload_n hx hb dL_areTasksRight_272 rfl (lv_at hl 4 rfl) ?_
                                  refine lv_iload hx hb dL_areTasksRight_273 (lv_at hl 9 rfl) ?_
                                  refine lv_bipush (v := 7) hx hb dL_areTasksRight_275 (by decide) ?_
                                  refine x_Vi (As := [.int (nI k), .int 7]) (rest0 := []) ⟨hx, hb, hml, hown, hts⟩ (c_X8_ofTask l D cA ad (tr ++ [(cN, .boolean)]) R308 H.size τ pd π bd tp ρ h102 (nI k) 7 (nI_pos (by omega)) (by rw [h.1.1.2.2.1]; exact (nI_ltI (by omega) (by omega)).mpr (by omega)) (by decide) (by decide)) (cwV 2 hts gl_areTasksRight_X8_ofTask rfl rfl rfl (by decide +kernel) ⟨Nat.le_of_ble_eq_true rfl, Nat.le_of_ble_eq_true rfl⟩) hKb hP hD hS hA 209 w_tp rfl hl.1 rfl rfl (Nat.le_of_ble_eq_true rfl) ⟨Nat.le_of_ble_eq_true rfl, Nat.le_of_ble_eq_true rfl⟩ dL_areTasksRight_277 (fun r _ H locs hw hP hD hS => ?_)
                                  obtain rfl : r = 0 := hw.trans c7
                                  refine lv_if_eq (tgt := 285) hx hb dL_areTasksRight_280 (by decide) (fun c_280_322 => ?_) (fun c_280_322 => ?_)
                                  · skip
                                    refine lv_iload hx hb dL_areTasksRight_285 (lv_at hl 2 rfl) ?_
                                    refine lv_if_lt (tgt := 295) hx hb dL_areTasksRight_287 (by decide) (fun c_287_323 => ?_) (fun c_287_323 => ?_)
                                    · skip
                                      refine lv_iload hx hb dL_areTasksRight_295 (lv_at hl 1 rfl) ?_
                                      refine lv_if_le (tgt := 345) hx hb dL_areTasksRight_297 (by decide) (fun c_297_324 => ?_) (fun c_297_324 => ?_)
                                      · skip
                                        refine lv_iload hx hb dL_areTasksRight_345 (lv_at hl 1 rfl) ?_
                                        refine lv_iconst (v := 5) hx hb dL_areTasksRight_347 (by decide) ?_
                                        refine lv_icmp_ne (tgt := 361) hx hb dL_areTasksRight_348 (by decide) (fun c_348_325 => ?_) (fun c_348_325 => ?_)
                                        · skip
                                          have hb9 : bnd (τ (k + 6) 5) := by have := task_there hB hk24; rwa [aT3 hk24] at this
                                          refine lv_aload_n hx hb dL_areTasksRight_361 rfl (lv_at hl 4 rfl) ?_
                                          refine lv_iload hx hb dL_areTasksRight_362 (lv_at hl 9 rfl) ?_
                                          refine lv_iconst (v := 3) hx hb dL_areTasksRight_364 (by decide) ?_
                                          refine x_Vi (As := [.int (nI k), .int 3]) (rest0 := []) ⟨hx, hb, hml, hown, hts⟩ (c_X8_ofTask l D cA ad (tr ++ [(cN, .boolean)]) R308 H.size τ pd π bd tp ρ h102 (nI k) 3 (nI_pos (by omega)) (by rw [h.1.1.2.2.1]; exact (nI_ltI (by omega) (by omega)).mpr (by omega)) (by decide) (by decide)) (cwV 2 hts gl_areTasksRight_X8_ofTask rfl rfl rfl (by decide +kernel) ⟨Nat.le_of_ble_eq_true rfl, Nat.le_of_ble_eq_true rfl⟩) hKb hP hD hS hA 209 w_tp rfl hl.1 rfl rfl (Nat.le_of_ble_eq_true rfl) ⟨Nat.le_of_ble_eq_true rfl, Nat.le_of_ble_eq_true rfl⟩ dL_areTasksRight_365 (fun r _ H locs hw hP hD hS => ?_)
                                          obtain rfl : r = (τ (k + 6) 5) := hw.trans (aT3 (by omega))
                                          refine va_mabs (rest := []) hx hb (hml.trans hl.1.symm) hown (hts (.methodLink RL 103 Lib.Math.abs.name) (by decide +kernel)) (hts (.static Lib.Math.abs.name) (by decide +kernel)) (hts (.initialized "java/lang/Math") (by decide +kernel)) (hts (.code Lib.Math.abs.name Lib.Math.abs.code 1 (some .int)) (by decide +kernel)) (Nat.le_of_ble_eq_true rfl) (Nat.le_of_ble_eq_true rfl) (Nat.le_of_ble_eq_true rfl) (Nat.le_of_ble_eq_true rfl) dL_areTasksRight_368 ?_
                                          refine lv_sipush (v := 9999) hx hb dL_areTasksRight_371 (by decide) ?_
                                          refine lv_icmp_gt (tgt := 393) hx hb dL_areTasksRight_374 (by decide) (fun c_374_326 => ?_) (fun c_374_326 => ?_)
                                          · exact absurd c_374_326 (abs_bnd hb9)
                                          · skip
                                            rcases task_in h hk with c4 | ⟨q4, hq4, c4, ⟨o4, ho4, s0⟩, v4, hv4, s1, hv2⟩
                                            · skip
                                              refine lv_aload_n hx hb dL_areTasksRight_377 rfl (lv_at hl 4 rfl) ?_
                                              refine lv_iload hx hb dL_areTasksRight_378 (lv_at hl 9 rfl) ?_
                                              refine lv_iconst (v := 4) hx hb dL_areTasksRight_380 (by decide) ?_
                                              refine x_Vi (As := [.int (nI k), .int 4]) (rest0 := []) ⟨hx, hb, hml, hown, hts⟩ (c_X8_ofTask l D cA ad (tr ++ [(cN, .boolean)]) R308 H.size τ pd π bd tp ρ h102 (nI k) 4 (nI_pos (by omega)) (by rw [h.1.1.2.2.1]; exact (nI_ltI (by omega) (by omega)).mpr (by omega)) (by decide) (by decide)) (cwV 2 hts gl_areTasksRight_X8_ofTask rfl rfl rfl (by decide +kernel) ⟨Nat.le_of_ble_eq_true rfl, Nat.le_of_ble_eq_true rfl⟩) hKb hP hD hS hA 209 w_tp rfl hl.1 rfl rfl (Nat.le_of_ble_eq_true rfl) ⟨Nat.le_of_ble_eq_true rfl, Nat.le_of_ble_eq_true rfl⟩ dL_areTasksRight_381 (fun r _ H locs hw hP hD hS => ?_)
                                              obtain rfl : r = (-1) := hw.trans c4
                                              refine lv_aload_n hx hb dL_areTasksRight_384 rfl (lv_at hl 4 rfl) ?_
                                              refine lv_bipush (v := 7) hx hb dL_areTasksRight_385 (by decide) ?_
                                              refine x_Vi (As := [.int 7]) (rest0 := [.int (-1)]) ⟨hx, hb, hml, hown, hts⟩ (c_X8_many l D cA ad (tr ++ [(cN, .boolean)]) R308 H.size τ pd π bd tp ρ h102 7 (by decide) (by decide)) (cwV 1 hts gl_areTasksRight_X8_many rfl rfl rfl (by decide +kernel) ⟨Nat.le_of_ble_eq_true rfl, Nat.le_of_ble_eq_true rfl⟩) hKb hP hD hS hA 209 w_tp rfl hl.1 rfl rfl (Nat.le_of_ble_eq_true rfl) ⟨Nat.le_of_ble_eq_true rfl, Nat.le_of_ble_eq_true rfl⟩ dL_areTasksRight_387 (fun r _ H locs hw hP hD hS => ?_)
                                              obtain rfl : r = (nI S) := hw.trans (many_7 h.1.1)
                                              refine lv_icmp_lt (tgt := 395) hx hb dL_areTasksRight_390 (by decide) (fun c_390_327 => ?_) (fun c_390_327 => ?_)
                                              · skip
                                                refine lv_aload_n hx hb dL_areTasksRight_395 rfl (lv_at hl 4 rfl) ?_
                                                refine lv_iload hx hb dL_areTasksRight_396 (lv_at hl 9 rfl) ?_
                                                refine lv_iconst (v := 4) hx hb dL_areTasksRight_398 (by decide) ?_
                                                refine x_Vi (As := [.int (nI k), .int 4]) (rest0 := []) ⟨hx, hb, hml, hown, hts⟩ (c_X8_ofTask l D cA ad (tr ++ [(cN, .boolean)]) R308 H.size τ pd π bd tp ρ h102 (nI k) 4 (nI_pos (by omega)) (by rw [h.1.1.2.2.1]; exact (nI_ltI (by omega) (by omega)).mpr (by omega)) (by decide) (by decide)) (cwV 2 hts gl_areTasksRight_X8_ofTask rfl rfl rfl (by decide +kernel) ⟨Nat.le_of_ble_eq_true rfl, Nat.le_of_ble_eq_true rfl⟩) hKb hP hD hS hA 209 w_tp rfl hl.1 rfl rfl (Nat.le_of_ble_eq_true rfl) ⟨Nat.le_of_ble_eq_true rfl, Nat.le_of_ble_eq_true rfl⟩ dL_areTasksRight_399 (fun r _ H locs hw hP hD hS => ?_)
                                                obtain rfl : r = (-1) := hw.trans c4
                                                refine lv_if_lt (tgt := 446) hx hb dL_areTasksRight_402 (by decide) (fun c_402_328 => ?_) (fun c_402_328 => ?_)
                                                · skip
                                                  refine lv_iinc (v := (nI (k + 1))) (lv' := [(5, .int (nI (k + 1))), (9, .int (-1)), (8, .int 0), (7, .int (-1)), (6, .int 3), (0, .ref tp), (1, .ref oq), (2, .ref q1), (3, .ref q3), (4, .ref q5)]) hx hb dL_areTasksRight_446 hl (k := 9) rfl (show (nI k) + 1 = (nI (k + 1)) from nI_1 k) (by decide) rfl (fun ls hl => ?_)
                                                  refine lv_goto (tgt := 107) hx hb dL_areTasksRight_449 (by decide) ?_
                                                  exact ih n (Nat.lt_succ_self n) H locs ls ⟨(k + 1), f307, g, R308, ⟨by omega, st_upd e0 (by decide) hf ef307, hg.up, eR308⟩, hP, hD, hS, lv_sub hl [5, 6, 7, 8, 9, 0] rfl⟩
                                                · exact absurd c_402_328 (by decide)
                                              · exact absurd (n1_lt (b := S) (by omega)) c_390_327
                                            · skip
                                              rcases (show v4 = 0 ∨ v4 = 1 ∨ v4 = 2 by omega) with e4 | e4 | e4 <;> subst e4
                                              · skip
                                                refine lv_aload_n hx hb dL_areTasksRight_377 rfl (lv_at hl 4 rfl) ?_
                                                refine lv_iload hx hb dL_areTasksRight_378 (lv_at hl 9 rfl) ?_
                                                refine lv_iconst (v := 4) hx hb dL_areTasksRight_380 (by decide) ?_
                                                refine x_Vi (As := [.int (nI k), .int 4]) (rest0 := []) ⟨hx, hb, hml, hown, hts⟩ (c_X8_ofTask l D cA ad (tr ++ [(cN, .boolean)]) R308 H.size τ pd π bd tp ρ h102 (nI k) 4 (nI_pos (by omega)) (by rw [h.1.1.2.2.1]; exact (nI_ltI (by omega) (by omega)).mpr (by omega)) (by decide) (by decide)) (cwV 2 hts gl_areTasksRight_X8_ofTask rfl rfl rfl (by decide +kernel) ⟨Nat.le_of_ble_eq_true rfl, Nat.le_of_ble_eq_true rfl⟩) hKb hP hD hS hA 209 w_tp rfl hl.1 rfl rfl (Nat.le_of_ble_eq_true rfl) ⟨Nat.le_of_ble_eq_true rfl, Nat.le_of_ble_eq_true rfl⟩ dL_areTasksRight_381 (fun r _ H locs hw hP hD hS => ?_)
                                                obtain rfl : r = (nI q4) := hw.trans c4
                                                refine lv_aload_n hx hb dL_areTasksRight_384 rfl (lv_at hl 4 rfl) ?_
                                                refine lv_bipush (v := 7) hx hb dL_areTasksRight_385 (by decide) ?_
                                                refine x_Vi (As := [.int 7]) (rest0 := [.int (nI q4)]) ⟨hx, hb, hml, hown, hts⟩ (c_X8_many l D cA ad (tr ++ [(cN, .boolean)]) R308 H.size τ pd π bd tp ρ h102 7 (by decide) (by decide)) (cwV 1 hts gl_areTasksRight_X8_many rfl rfl rfl (by decide +kernel) ⟨Nat.le_of_ble_eq_true rfl, Nat.le_of_ble_eq_true rfl⟩) hKb hP hD hS hA 209 w_tp rfl hl.1 rfl rfl (Nat.le_of_ble_eq_true rfl) ⟨Nat.le_of_ble_eq_true rfl, Nat.le_of_ble_eq_true rfl⟩ dL_areTasksRight_387 (fun r _ H locs hw hP hD hS => ?_)
                                                obtain rfl : r = (nI S) := hw.trans (many_7 h.1.1)
                                                refine lv_icmp_lt (tgt := 395) hx hb dL_areTasksRight_390 (by decide) (fun c_390_329 => ?_) (fun c_390_329 => ?_)
                                                · skip
                                                  refine lv_aload_n hx hb dL_areTasksRight_395 rfl (lv_at hl 4 rfl) ?_
                                                  refine lv_iload hx hb dL_areTasksRight_396 (lv_at hl 9 rfl) ?_
                                                  refine lv_iconst (v := 4) hx hb dL_areTasksRight_398 (by decide) ?_
                                                  refine x_Vi (As := [.int (nI k), .int 4]) (rest0 := []) ⟨hx, hb, hml, hown, hts⟩ (c_X8_ofTask l D cA ad (tr ++ [(cN, .boolean)]) R308 H.size τ pd π bd tp ρ h102 (nI k) 4 (nI_pos (by omega)) (by rw [h.1.1.2.2.1]; exact (nI_ltI (by omega) (by omega)).mpr (by omega)) (by decide) (by decide)) (cwV 2 hts gl_areTasksRight_X8_ofTask rfl rfl rfl (by decide +kernel) ⟨Nat.le_of_ble_eq_true rfl, Nat.le_of_ble_eq_true rfl⟩) hKb hP hD hS hA 209 w_tp rfl hl.1 rfl rfl (Nat.le_of_ble_eq_true rfl) ⟨Nat.le_of_ble_eq_true rfl, Nat.le_of_ble_eq_true rfl⟩ dL_areTasksRight_399 (fun r _ H locs hw hP hD hS => ?_)
                                                  obtain rfl : r = (nI q4) := hw.trans c4
                                                  refine lv_if_lt (tgt := 446) hx hb dL_areTasksRight_402 (by decide) (fun c_402_330 => ?_) (fun c_402_330 => ?_)
                                                  · exact absurd ((nI_ltI (a := q4) (b := 0) (by omega) (by omega)).mp c_402_330) (by omega)
                                                  · skip
                                                    refine lv_aload_n hx hb dL_areTasksRight_405 rfl (lv_at hl 4 rfl) ?_
                                                    refine lv_aload_n hx hb dL_areTasksRight_406 rfl (lv_at hl 4 rfl) ?_
                                                    refine lv_iload hx hb dL_areTasksRight_407 (lv_at hl 9 rfl) ?_
                                                    refine lv_iconst (v := 4) hx hb dL_areTasksRight_409 (by decide) ?_
                                                    refine x_Vi (As := [.int (nI k), .int 4]) (rest0 := [.ref tp]) ⟨hx, hb, hml, hown, hts⟩ (c_X8_ofTask l D cA ad (tr ++ [(cN, .boolean)]) R308 H.size τ pd π bd tp ρ h102 (nI k) 4 (nI_pos (by omega)) (by rw [h.1.1.2.2.1]; exact (nI_ltI (by omega) (by omega)).mpr (by omega)) (by decide) (by decide)) (cwV 2 hts gl_areTasksRight_X8_ofTask rfl rfl rfl (by decide +kernel) ⟨Nat.le_of_ble_eq_true rfl, Nat.le_of_ble_eq_true rfl⟩) hKb hP hD hS hA 209 w_tp rfl hl.1 rfl rfl (Nat.le_of_ble_eq_true rfl) ⟨Nat.le_of_ble_eq_true rfl, Nat.le_of_ble_eq_true rfl⟩ dL_areTasksRight_410 (fun r _ H locs hw hP hD hS => ?_)
                                                    obtain rfl : r = (nI q4) := hw.trans c4
                                                    refine lv_iconst (v := 0) hx hb dL_areTasksRight_413 (by decide) ?_
                                                    refine x_Vi (As := [.int (nI q4), .int 0]) (rest0 := []) ⟨hx, hb, hml, hown, hts⟩ (c_X8_ofScope l D cA ad (tr ++ [(cN, .boolean)]) R308 H.size τ pd π bd tp ρ h102 (nI q4) 0 (nI_pos (by omega)) (by rw [h.1.1.2.2.2.1]; exact (nI_ltI (by omega) (by omega)).mpr (by omega)) (by decide) (by decide)) (cwV 2 hts gl_areTasksRight_X8_ofScope rfl rfl rfl (by decide +kernel) ⟨Nat.le_of_ble_eq_true rfl, Nat.le_of_ble_eq_true rfl⟩) hKb hP hD hS hA 209 w_tp rfl hl.1 rfl rfl (Nat.le_of_ble_eq_true rfl) ⟨Nat.le_of_ble_eq_true rfl, Nat.le_of_ble_eq_true rfl⟩ dL_areTasksRight_414 (fun r _ H locs hw hP hD hS => ?_)
                                                    obtain rfl : r = (nI o4) := hw.trans s0
                                                    refine lv_iload hx hb dL_areTasksRight_417 (lv_at hl 9 rfl) ?_
                                                    refine lv_icmp_ge (tgt := 444) hx hb dL_areTasksRight_419 (by decide) (fun c_419_331 => ?_) (fun c_419_331 => ?_)
                                                    · exact absurd ((nI_leI (a := k) (b := o4) (by omega) (by omega)).mp c_419_331) (by omega)
                                                    · skip
                                                      refine lv_aload_n hx hb dL_areTasksRight_422 rfl (lv_at hl 4 rfl) ?_
                                                      refine lv_aload_n hx hb dL_areTasksRight_423 rfl (lv_at hl 4 rfl) ?_
                                                      refine lv_iload hx hb dL_areTasksRight_424 (lv_at hl 9 rfl) ?_
                                                      refine lv_iconst (v := 4) hx hb dL_areTasksRight_426 (by decide) ?_
                                                      refine x_Vi (As := [.int (nI k), .int 4]) (rest0 := [.ref tp]) ⟨hx, hb, hml, hown, hts⟩ (c_X8_ofTask l D cA ad (tr ++ [(cN, .boolean)]) R308 H.size τ pd π bd tp ρ h102 (nI k) 4 (nI_pos (by omega)) (by rw [h.1.1.2.2.1]; exact (nI_ltI (by omega) (by omega)).mpr (by omega)) (by decide) (by decide)) (cwV 2 hts gl_areTasksRight_X8_ofTask rfl rfl rfl (by decide +kernel) ⟨Nat.le_of_ble_eq_true rfl, Nat.le_of_ble_eq_true rfl⟩) hKb hP hD hS hA 209 w_tp rfl hl.1 rfl rfl (Nat.le_of_ble_eq_true rfl) ⟨Nat.le_of_ble_eq_true rfl, Nat.le_of_ble_eq_true rfl⟩ dL_areTasksRight_427 (fun r _ H locs hw hP hD hS => ?_)
                                                      obtain rfl : r = (nI q4) := hw.trans c4
                                                      refine lv_iconst (v := 1) hx hb dL_areTasksRight_430 (by decide) ?_
                                                      refine x_Vi (As := [.int (nI q4), .int 1]) (rest0 := []) ⟨hx, hb, hml, hown, hts⟩ (c_X8_ofScope l D cA ad (tr ++ [(cN, .boolean)]) R308 H.size τ pd π bd tp ρ h102 (nI q4) 1 (nI_pos (by omega)) (by rw [h.1.1.2.2.2.1]; exact (nI_ltI (by omega) (by omega)).mpr (by omega)) (by decide) (by decide)) (cwV 2 hts gl_areTasksRight_X8_ofScope rfl rfl rfl (by decide +kernel) ⟨Nat.le_of_ble_eq_true rfl, Nat.le_of_ble_eq_true rfl⟩) hKb hP hD hS hA 209 w_tp rfl hl.1 rfl rfl (Nat.le_of_ble_eq_true rfl) ⟨Nat.le_of_ble_eq_true rfl, Nat.le_of_ble_eq_true rfl⟩ dL_areTasksRight_431 (fun r _ H locs hw hP hD hS => ?_)
                                                      obtain rfl : r = 0 := hw.trans s1
                                                      refine lv_iconst (v := 2) hx hb dL_areTasksRight_434 (by decide) ?_
                                                      refine lv_icmp_ne (tgt := 446) hx hb dL_areTasksRight_435 (by decide) (fun c_435_332 => ?_) (fun c_435_332 => ?_)
                                                      · skip
                                                        refine lv_iinc (v := (nI (k + 1))) (lv' := [(5, .int (nI (k + 1))), (9, .int (-1)), (8, .int 0), (7, .int (-1)), (6, .int 3), (0, .ref tp), (1, .ref oq), (2, .ref q1), (3, .ref q3), (4, .ref q5)]) hx hb dL_areTasksRight_446 hl (k := 9) rfl (show (nI k) + 1 = (nI (k + 1)) from nI_1 k) (by decide) rfl (fun ls hl => ?_)
                                                        refine lv_goto (tgt := 107) hx hb dL_areTasksRight_449 (by decide) ?_
                                                        exact ih n (Nat.lt_succ_self n) H locs ls ⟨(k + 1), f307, g, R308, ⟨by omega, st_upd e0 (by decide) hf ef307, hg.up, eR308⟩, hP, hD, hS, lv_sub hl [5, 6, 7, 8, 9, 0] rfl⟩
                                                      · exact absurd c_435_332 (by decide)
                                                · exact absurd ((nI_ltI (a := q4) (b := S) (by omega) (by omega)).mpr (by omega)) c_390_329
                                              · skip
                                                refine lv_aload_n hx hb dL_areTasksRight_377 rfl (lv_at hl 4 rfl) ?_
                                                refine lv_iload hx hb dL_areTasksRight_378 (lv_at hl 9 rfl) ?_
                                                refine lv_iconst (v := 4) hx hb dL_areTasksRight_380 (by decide) ?_
                                                refine x_Vi (As := [.int (nI k), .int 4]) (rest0 := []) ⟨hx, hb, hml, hown, hts⟩ (c_X8_ofTask l D cA ad (tr ++ [(cN, .boolean)]) R308 H.size τ pd π bd tp ρ h102 (nI k) 4 (nI_pos (by omega)) (by rw [h.1.1.2.2.1]; exact (nI_ltI (by omega) (by omega)).mpr (by omega)) (by decide) (by decide)) (cwV 2 hts gl_areTasksRight_X8_ofTask rfl rfl rfl (by decide +kernel) ⟨Nat.le_of_ble_eq_true rfl, Nat.le_of_ble_eq_true rfl⟩) hKb hP hD hS hA 209 w_tp rfl hl.1 rfl rfl (Nat.le_of_ble_eq_true rfl) ⟨Nat.le_of_ble_eq_true rfl, Nat.le_of_ble_eq_true rfl⟩ dL_areTasksRight_381 (fun r _ H locs hw hP hD hS => ?_)
                                                obtain rfl : r = (nI q4) := hw.trans c4
                                                refine lv_aload_n hx hb dL_areTasksRight_384 rfl (lv_at hl 4 rfl) ?_
                                                refine lv_bipush (v := 7) hx hb dL_areTasksRight_385 (by decide) ?_
                                                refine x_Vi (As := [.int 7]) (rest0 := [.int (nI q4)]) ⟨hx, hb, hml, hown, hts⟩ (c_X8_many l D cA ad (tr ++ [(cN, .boolean)]) R308 H.size τ pd π bd tp ρ h102 7 (by decide) (by decide)) (cwV 1 hts gl_areTasksRight_X8_many rfl rfl rfl (by decide +kernel) ⟨Nat.le_of_ble_eq_true rfl, Nat.le_of_ble_eq_true rfl⟩) hKb hP hD hS hA 209 w_tp rfl hl.1 rfl rfl (Nat.le_of_ble_eq_true rfl) ⟨Nat.le_of_ble_eq_true rfl, Nat.le_of_ble_eq_true rfl⟩ dL_areTasksRight_387 (fun r _ H locs hw hP hD hS => ?_)
                                                obtain rfl : r = (nI S) := hw.trans (many_7 h.1.1)
                                                refine lv_icmp_lt (tgt := 395) hx hb dL_areTasksRight_390 (by decide) (fun c_390_333 => ?_) (fun c_390_333 => ?_)
                                                · skip
                                                  refine lv_aload_n hx hb dL_areTasksRight_395 rfl (lv_at hl 4 rfl) ?_
                                                  refine lv_iload hx hb dL_areTasksRight_396 (lv_at hl 9 rfl) ?_
                                                  refine lv_iconst (v := 4) hx hb dL_areTasksRight_398 (by decide) ?_
                                                  refine x_Vi (As := [.int (nI k), .int 4]) (rest0 := []) ⟨hx, hb, hml, hown, hts⟩ (c_X8_ofTask l D cA ad (tr ++ [(cN, .boolean)]) R308 H.size τ pd π bd tp ρ h102 (nI k) 4 (nI_pos (by omega)) (by rw [h.1.1.2.2.1]; exact (nI_ltI (by omega) (by omega)).mpr (by omega)) (by decide) (by decide)) (cwV 2 hts gl_areTasksRight_X8_ofTask rfl rfl rfl (by decide +kernel) ⟨Nat.le_of_ble_eq_true rfl, Nat.le_of_ble_eq_true rfl⟩) hKb hP hD hS hA 209 w_tp rfl hl.1 rfl rfl (Nat.le_of_ble_eq_true rfl) ⟨Nat.le_of_ble_eq_true rfl, Nat.le_of_ble_eq_true rfl⟩ dL_areTasksRight_399 (fun r _ H locs hw hP hD hS => ?_)
                                                  obtain rfl : r = (nI q4) := hw.trans c4
                                                  refine lv_if_lt (tgt := 446) hx hb dL_areTasksRight_402 (by decide) (fun c_402_334 => ?_) (fun c_402_334 => ?_)
                                                  · exact absurd ((nI_ltI (a := q4) (b := 0) (by omega) (by omega)).mp c_402_334) (by omega)
                                                  · skip
                                                    refine lv_aload_n hx hb dL_areTasksRight_405 rfl (lv_at hl 4 rfl) ?_
                                                    refine lv_aload_n hx hb dL_areTasksRight_406 rfl (lv_at hl 4 rfl) ?_
                                                    refine lv_iload hx hb dL_areTasksRight_407 (lv_at hl 9 rfl) ?_
                                                    refine lv_iconst (v := 4) hx hb dL_areTasksRight_409 (by decide) ?_
                                                    refine x_Vi (As := [.int (nI k), .int 4]) (rest0 := [.ref tp]) ⟨hx, hb, hml, hown, hts⟩ (c_X8_ofTask l D cA ad (tr ++ [(cN, .boolean)]) R308 H.size τ pd π bd tp ρ h102 (nI k) 4 (nI_pos (by omega)) (by rw [h.1.1.2.2.1]; exact (nI_ltI (by omega) (by omega)).mpr (by omega)) (by decide) (by decide)) (cwV 2 hts gl_areTasksRight_X8_ofTask rfl rfl rfl (by decide +kernel) ⟨Nat.le_of_ble_eq_true rfl, Nat.le_of_ble_eq_true rfl⟩) hKb hP hD hS hA 209 w_tp rfl hl.1 rfl rfl (Nat.le_of_ble_eq_true rfl) ⟨Nat.le_of_ble_eq_true rfl, Nat.le_of_ble_eq_true rfl⟩ dL_areTasksRight_410 (fun r _ H locs hw hP hD hS => ?_)
                                                    obtain rfl : r = (nI q4) := hw.trans c4
                                                    refine lv_iconst (v := 0) hx hb dL_areTasksRight_413 (by decide) ?_
                                                    refine x_Vi (As := [.int (nI q4), .int 0]) (rest0 := []) ⟨hx, hb, hml, hown, hts⟩ (c_X8_ofScope l D cA ad (tr ++ [(cN, .boolean)]) R308 H.size τ pd π bd tp ρ h102 (nI q4) 0 (nI_pos (by omega)) (by rw [h.1.1.2.2.2.1]; exact (nI_ltI (by omega) (by omega)).mpr (by omega)) (by decide) (by decide)) (cwV 2 hts gl_areTasksRight_X8_ofScope rfl rfl rfl (by decide +kernel) ⟨Nat.le_of_ble_eq_true rfl, Nat.le_of_ble_eq_true rfl⟩) hKb hP hD hS hA 209 w_tp rfl hl.1 rfl rfl (Nat.le_of_ble_eq_true rfl) ⟨Nat.le_of_ble_eq_true rfl, Nat.le_of_ble_eq_true rfl⟩ dL_areTasksRight_414 (fun r _ H locs hw hP hD hS => ?_)
                                                    obtain rfl : r = (nI o4) := hw.trans s0
                                                    refine lv_iload hx hb dL_areTasksRight_417 (lv_at hl 9 rfl) ?_
                                                    refine lv_icmp_ge (tgt := 444) hx hb dL_areTasksRight_419 (by decide) (fun c_419_335 => ?_) (fun c_419_335 => ?_)
                                                    · exact absurd ((nI_leI (a := k) (b := o4) (by omega) (by omega)).mp c_419_335) (by omega)
                                                    · skip
                                                      refine lv_aload_n hx hb dL_areTasksRight_422 rfl (lv_at hl 4 rfl) ?_
                                                      refine lv_aload_n hx hb dL_areTasksRight_423 rfl (lv_at hl 4 rfl) ?_
                                                      refine lv_iload hx hb dL_areTasksRight_424 (lv_at hl 9 rfl) ?_
                                                      refine lv_iconst (v := 4) hx hb dL_areTasksRight_426 (by decide) ?_
                                                      refine x_Vi (As := [.int (nI k), .int 4]) (rest0 := [.ref tp]) ⟨hx, hb, hml, hown, hts⟩ (c_X8_ofTask l D cA ad (tr ++ [(cN, .boolean)]) R308 H.size τ pd π bd tp ρ h102 (nI k) 4 (nI_pos (by omega)) (by rw [h.1.1.2.2.1]; exact (nI_ltI (by omega) (by omega)).mpr (by omega)) (by decide) (by decide)) (cwV 2 hts gl_areTasksRight_X8_ofTask rfl rfl rfl (by decide +kernel) ⟨Nat.le_of_ble_eq_true rfl, Nat.le_of_ble_eq_true rfl⟩) hKb hP hD hS hA 209 w_tp rfl hl.1 rfl rfl (Nat.le_of_ble_eq_true rfl) ⟨Nat.le_of_ble_eq_true rfl, Nat.le_of_ble_eq_true rfl⟩ dL_areTasksRight_427 (fun r _ H locs hw hP hD hS => ?_)
                                                      obtain rfl : r = (nI q4) := hw.trans c4
                                                      refine lv_iconst (v := 1) hx hb dL_areTasksRight_430 (by decide) ?_
                                                      refine x_Vi (As := [.int (nI q4), .int 1]) (rest0 := []) ⟨hx, hb, hml, hown, hts⟩ (c_X8_ofScope l D cA ad (tr ++ [(cN, .boolean)]) R308 H.size τ pd π bd tp ρ h102 (nI q4) 1 (nI_pos (by omega)) (by rw [h.1.1.2.2.2.1]; exact (nI_ltI (by omega) (by omega)).mpr (by omega)) (by decide) (by decide)) (cwV 2 hts gl_areTasksRight_X8_ofScope rfl rfl rfl (by decide +kernel) ⟨Nat.le_of_ble_eq_true rfl, Nat.le_of_ble_eq_true rfl⟩) hKb hP hD hS hA 209 w_tp rfl hl.1 rfl rfl (Nat.le_of_ble_eq_true rfl) ⟨Nat.le_of_ble_eq_true rfl, Nat.le_of_ble_eq_true rfl⟩ dL_areTasksRight_431 (fun r _ H locs hw hP hD hS => ?_)
                                                      obtain rfl : r = 1 := hw.trans s1
                                                      refine lv_iconst (v := 2) hx hb dL_areTasksRight_434 (by decide) ?_
                                                      refine lv_icmp_ne (tgt := 446) hx hb dL_areTasksRight_435 (by decide) (fun c_435_336 => ?_) (fun c_435_336 => ?_)
                                                      · skip
                                                        refine lv_iinc (v := (nI (k + 1))) (lv' := [(5, .int (nI (k + 1))), (9, .int (-1)), (8, .int 0), (7, .int (-1)), (6, .int 3), (0, .ref tp), (1, .ref oq), (2, .ref q1), (3, .ref q3), (4, .ref q5)]) hx hb dL_areTasksRight_446 hl (k := 9) rfl (show (nI k) + 1 = (nI (k + 1)) from nI_1 k) (by decide) rfl (fun ls hl => ?_)
                                                        refine lv_goto (tgt := 107) hx hb dL_areTasksRight_449 (by decide) ?_
                                                        exact ih n (Nat.lt_succ_self n) H locs ls ⟨(k + 1), f307, g, R308, ⟨by omega, st_upd e0 (by decide) hf ef307, hg.up, eR308⟩, hP, hD, hS, lv_sub hl [5, 6, 7, 8, 9, 0] rfl⟩
                                                      · exact absurd c_435_336 (by decide)
                                                · exact absurd ((nI_ltI (a := q4) (b := S) (by omega) (by omega)).mpr (by omega)) c_390_333
                                              · skip
                                                refine lv_aload_n hx hb dL_areTasksRight_377 rfl (lv_at hl 4 rfl) ?_
                                                refine lv_iload hx hb dL_areTasksRight_378 (lv_at hl 9 rfl) ?_
                                                refine lv_iconst (v := 4) hx hb dL_areTasksRight_380 (by decide) ?_
                                                refine x_Vi (As := [.int (nI k), .int 4]) (rest0 := []) ⟨hx, hb, hml, hown, hts⟩ (c_X8_ofTask l D cA ad (tr ++ [(cN, .boolean)]) R308 H.size τ pd π bd tp ρ h102 (nI k) 4 (nI_pos (by omega)) (by rw [h.1.1.2.2.1]; exact (nI_ltI (by omega) (by omega)).mpr (by omega)) (by decide) (by decide)) (cwV 2 hts gl_areTasksRight_X8_ofTask rfl rfl rfl (by decide +kernel) ⟨Nat.le_of_ble_eq_true rfl, Nat.le_of_ble_eq_true rfl⟩) hKb hP hD hS hA 209 w_tp rfl hl.1 rfl rfl (Nat.le_of_ble_eq_true rfl) ⟨Nat.le_of_ble_eq_true rfl, Nat.le_of_ble_eq_true rfl⟩ dL_areTasksRight_381 (fun r _ H locs hw hP hD hS => ?_)
                                                obtain rfl : r = (nI q4) := hw.trans c4
                                                refine lv_aload_n hx hb dL_areTasksRight_384 rfl (lv_at hl 4 rfl) ?_
                                                refine lv_bipush (v := 7) hx hb dL_areTasksRight_385 (by decide) ?_
                                                refine x_Vi (As := [.int 7]) (rest0 := [.int (nI q4)]) ⟨hx, hb, hml, hown, hts⟩ (c_X8_many l D cA ad (tr ++ [(cN, .boolean)]) R308 H.size τ pd π bd tp ρ h102 7 (by decide) (by decide)) (cwV 1 hts gl_areTasksRight_X8_many rfl rfl rfl (by decide +kernel) ⟨Nat.le_of_ble_eq_true rfl, Nat.le_of_ble_eq_true rfl⟩) hKb hP hD hS hA 209 w_tp rfl hl.1 rfl rfl (Nat.le_of_ble_eq_true rfl) ⟨Nat.le_of_ble_eq_true rfl, Nat.le_of_ble_eq_true rfl⟩ dL_areTasksRight_387 (fun r _ H locs hw hP hD hS => ?_)
                                                obtain rfl : r = (nI S) := hw.trans (many_7 h.1.1)
                                                refine lv_icmp_lt (tgt := 395) hx hb dL_areTasksRight_390 (by decide) (fun c_390_337 => ?_) (fun c_390_337 => ?_)
                                                · skip
                                                  refine lv_aload_n hx hb dL_areTasksRight_395 rfl (lv_at hl 4 rfl) ?_
                                                  refine lv_iload hx hb dL_areTasksRight_396 (lv_at hl 9 rfl) ?_
                                                  refine lv_iconst (v := 4) hx hb dL_areTasksRight_398 (by decide) ?_
                                                  refine x_Vi (As := [.int (nI k), .int 4]) (rest0 := []) ⟨hx, hb, hml, hown, hts⟩ (c_X8_ofTask l D cA ad (tr ++ [(cN, .boolean)]) R308 H.size τ pd π bd tp ρ h102 (nI k) 4 (nI_pos (by omega)) (by rw [h.1.1.2.2.1]; exact (nI_ltI (by omega) (by omega)).mpr (by omega)) (by decide) (by decide)) (cwV 2 hts gl_areTasksRight_X8_ofTask rfl rfl rfl (by decide +kernel) ⟨Nat.le_of_ble_eq_true rfl, Nat.le_of_ble_eq_true rfl⟩) hKb hP hD hS hA 209 w_tp rfl hl.1 rfl rfl (Nat.le_of_ble_eq_true rfl) ⟨Nat.le_of_ble_eq_true rfl, Nat.le_of_ble_eq_true rfl⟩ dL_areTasksRight_399 (fun r _ H locs hw hP hD hS => ?_)
                                                  obtain rfl : r = (nI q4) := hw.trans c4
                                                  refine lv_if_lt (tgt := 446) hx hb dL_areTasksRight_402 (by decide) (fun c_402_338 => ?_) (fun c_402_338 => ?_)
                                                  · exact absurd ((nI_ltI (a := q4) (b := 0) (by omega) (by omega)).mp c_402_338) (by omega)
                                                  · skip
                                                    refine lv_aload_n hx hb dL_areTasksRight_405 rfl (lv_at hl 4 rfl) ?_
                                                    refine lv_aload_n hx hb dL_areTasksRight_406 rfl (lv_at hl 4 rfl) ?_
                                                    refine lv_iload hx hb dL_areTasksRight_407 (lv_at hl 9 rfl) ?_
                                                    refine lv_iconst (v := 4) hx hb dL_areTasksRight_409 (by decide) ?_
                                                    refine x_Vi (As := [.int (nI k), .int 4]) (rest0 := [.ref tp]) ⟨hx, hb, hml, hown, hts⟩ (c_X8_ofTask l D cA ad (tr ++ [(cN, .boolean)]) R308 H.size τ pd π bd tp ρ h102 (nI k) 4 (nI_pos (by omega)) (by rw [h.1.1.2.2.1]; exact (nI_ltI (by omega) (by omega)).mpr (by omega)) (by decide) (by decide)) (cwV 2 hts gl_areTasksRight_X8_ofTask rfl rfl rfl (by decide +kernel) ⟨Nat.le_of_ble_eq_true rfl, Nat.le_of_ble_eq_true rfl⟩) hKb hP hD hS hA 209 w_tp rfl hl.1 rfl rfl (Nat.le_of_ble_eq_true rfl) ⟨Nat.le_of_ble_eq_true rfl, Nat.le_of_ble_eq_true rfl⟩ dL_areTasksRight_410 (fun r _ H locs hw hP hD hS => ?_)
                                                    obtain rfl : r = (nI q4) := hw.trans c4
                                                    refine lv_iconst (v := 0) hx hb dL_areTasksRight_413 (by decide) ?_
                                                    refine x_Vi (As := [.int (nI q4), .int 0]) (rest0 := []) ⟨hx, hb, hml, hown, hts⟩ (c_X8_ofScope l D cA ad (tr ++ [(cN, .boolean)]) R308 H.size τ pd π bd tp ρ h102 (nI q4) 0 (nI_pos (by omega)) (by rw [h.1.1.2.2.2.1]; exact (nI_ltI (by omega) (by omega)).mpr (by omega)) (by decide) (by decide)) (cwV 2 hts gl_areTasksRight_X8_ofScope rfl rfl rfl (by decide +kernel) ⟨Nat.le_of_ble_eq_true rfl, Nat.le_of_ble_eq_true rfl⟩) hKb hP hD hS hA 209 w_tp rfl hl.1 rfl rfl (Nat.le_of_ble_eq_true rfl) ⟨Nat.le_of_ble_eq_true rfl, Nat.le_of_ble_eq_true rfl⟩ dL_areTasksRight_414 (fun r _ H locs hw hP hD hS => ?_)
                                                    obtain rfl : r = (nI o4) := hw.trans s0
                                                    refine lv_iload hx hb dL_areTasksRight_417 (lv_at hl 9 rfl) ?_
                                                    refine lv_icmp_ge (tgt := 444) hx hb dL_areTasksRight_419 (by decide) (fun c_419_339 => ?_) (fun c_419_339 => ?_)
                                                    · exact absurd ((nI_leI (a := k) (b := o4) (by omega) (by omega)).mp c_419_339) (by omega)
                                                    · skip
                                                      refine lv_aload_n hx hb dL_areTasksRight_422 rfl (lv_at hl 4 rfl) ?_
                                                      refine lv_aload_n hx hb dL_areTasksRight_423 rfl (lv_at hl 4 rfl) ?_
                                                      refine lv_iload hx hb dL_areTasksRight_424 (lv_at hl 9 rfl) ?_
                                                      refine lv_iconst (v := 4) hx hb dL_areTasksRight_426 (by decide) ?_
                                                      refine x_Vi (As := [.int (nI k), .int 4]) (rest0 := [.ref tp]) ⟨hx, hb, hml, hown, hts⟩ (c_X8_ofTask l D cA ad (tr ++ [(cN, .boolean)]) R308 H.size τ pd π bd tp ρ h102 (nI k) 4 (nI_pos (by omega)) (by rw [h.1.1.2.2.1]; exact (nI_ltI (by omega) (by omega)).mpr (by omega)) (by decide) (by decide)) (cwV 2 hts gl_areTasksRight_X8_ofTask rfl rfl rfl (by decide +kernel) ⟨Nat.le_of_ble_eq_true rfl, Nat.le_of_ble_eq_true rfl⟩) hKb hP hD hS hA 209 w_tp rfl hl.1 rfl rfl (Nat.le_of_ble_eq_true rfl) ⟨Nat.le_of_ble_eq_true rfl, Nat.le_of_ble_eq_true rfl⟩ dL_areTasksRight_427 (fun r _ H locs hw hP hD hS => ?_)
                                                      obtain rfl : r = (nI q4) := hw.trans c4
                                                      refine lv_iconst (v := 1) hx hb dL_areTasksRight_430 (by decide) ?_
                                                      refine x_Vi (As := [.int (nI q4), .int 1]) (rest0 := []) ⟨hx, hb, hml, hown, hts⟩ (c_X8_ofScope l D cA ad (tr ++ [(cN, .boolean)]) R308 H.size τ pd π bd tp ρ h102 (nI q4) 1 (nI_pos (by omega)) (by rw [h.1.1.2.2.2.1]; exact (nI_ltI (by omega) (by omega)).mpr (by omega)) (by decide) (by decide)) (cwV 2 hts gl_areTasksRight_X8_ofScope rfl rfl rfl (by decide +kernel) ⟨Nat.le_of_ble_eq_true rfl, Nat.le_of_ble_eq_true rfl⟩) hKb hP hD hS hA 209 w_tp rfl hl.1 rfl rfl (Nat.le_of_ble_eq_true rfl) ⟨Nat.le_of_ble_eq_true rfl, Nat.le_of_ble_eq_true rfl⟩ dL_areTasksRight_431 (fun r _ H locs hw hP hD hS => ?_)
                                                      obtain rfl : r = 2 := hw.trans s1
                                                      refine lv_iconst (v := 2) hx hb dL_areTasksRight_434 (by decide) ?_
                                                      refine lv_icmp_ne (tgt := 446) hx hb dL_areTasksRight_435 (by decide) (fun c_435_340 => ?_) (fun c_435_340 => ?_)
                                                      · exact absurd c_435_340 (by decide)
                                                      · skip
                                                        refine lv_iload hx hb dL_areTasksRight_438 (lv_at hl 3 rfl) ?_
                                                        refine lv_iconst (v := 2) hx hb dL_areTasksRight_440 (by decide) ?_
                                                        refine lv_icmp_ge (tgt := 446) hx hb dL_areTasksRight_441 (by decide) (fun c_441_341 => ?_) (fun c_441_341 => ?_)
                                                        · skip
                                                          refine lv_iinc (v := (nI (k + 1))) (lv' := [(5, .int (nI (k + 1))), (9, .int (-1)), (8, .int 0), (7, .int (-1)), (6, .int 3), (0, .ref tp), (1, .ref oq), (2, .ref q1), (3, .ref q3), (4, .ref q5)]) hx hb dL_areTasksRight_446 hl (k := 9) rfl (show (nI k) + 1 = (nI (k + 1)) from nI_1 k) (by decide) rfl (fun ls hl => ?_)
                                                          refine lv_goto (tgt := 107) hx hb dL_areTasksRight_449 (by decide) ?_
                                                          exact ih n (Nat.lt_succ_self n) H locs ls ⟨(k + 1), f307, g, R308, ⟨by omega, st_upd e0 (by decide) hf ef307, hg.up, eR308⟩, hP, hD, hS, lv_sub hl [5, 6, 7, 8, 9, 0] rfl⟩
                                                        · exact absurd c_441_341 (by decide)
                                                · exact absurd ((nI_ltI (a := q4) (b := S) (by omega) (by omega)).mpr (by omega)) c_390_337
                                        · exact absurd c_348_325 (by decide)
                                      · exact absurd c_297_324 (by decide)
                                    · exact absurd c_287_323 (by decide)
                                  · exact absurd c_280_322 (by decide)
                    · exact absurd c_221_315 (by decide)
                  · exact absurd c_210_314 (by decide)
                · exact absurd c_198_313 (by decide)
          · exact absurd c_175_310 (by decide)
        · exact absurd c_165_309 (by decide)
      · skip
        have e0 : τ (k + 6) 3 = nI 4 := (aT1 hk24).symm.trans c1
        refine lv_aload_n hx hb dL_areTasksRight_117 rfl (lv_at hl 0 rfl) ?_
        refine lv_iload hx hb dL_areTasksRight_118 (lv_at hl 5 rfl) ?_
        refine lv_iconst (v := 1) hx hb dL_areTasksRight_120 (by decide) ?_
        refine x_Vi (As := [.int (nI k), .int 1]) (rest0 := []) ⟨hx, hb, hml, hown, hts⟩ (c_X8_ofTask l D cA ad (tr ++ [(cN, .boolean)]) R45 H.size τ pd π bd tp ρ h102 (nI k) 1 (nI_pos (by omega)) (by rw [h.1.1.2.2.1]; exact (nI_ltI (by omega) (by omega)).mpr (by omega)) (by decide) (by decide)) (cwV 2 hts gl_areTasksRight_X8_ofTask rfl rfl rfl (by decide +kernel) ⟨Nat.le_of_ble_eq_true rfl, Nat.le_of_ble_eq_true rfl⟩) hKb hP hD hS hA 209 w_tp rfl hl.1 rfl rfl (Nat.le_of_ble_eq_true rfl) ⟨Nat.le_of_ble_eq_true rfl, Nat.le_of_ble_eq_true rfl⟩ dL_areTasksRight_121 (fun r _ H locs hw hP hD hS => ?_)
        obtain rfl : r = 4 := hw.trans c1
        refine lv_istore (lv' := [(6, .int 4), (0, .ref tp), (1, .ref oq), (2, .ref q1), (3, .ref q3), (4, .ref q5), (5, .int (nI k))]) hx hb dL_areTasksRight_124 hl (by decide) rfl (fun ls hl => ?_)
        refine lv_aload_n hx hb dL_areTasksRight_126 rfl (lv_at hl 1 rfl) ?_
        refine lv_iload hx hb dL_areTasksRight_127 (lv_at hl 6 rfl) ?_
        refine lv_bipush (v := 6) hx hb dL_areTasksRight_129 (by decide) ?_
        refine x_Vi (As := [.int (nI k), .int 6]) (rest0 := []) ⟨hx, hb, hml, hown, hts⟩ (c_X8_ofTask l D cA ad (tr ++ [(cN, .boolean)]) R45 H.size τ pd π bd tp ρ h102 (nI k) 6 (nI_pos (by omega)) (by rw [h.1.1.2.2.1]; exact (nI_ltI (by omega) (by omega)).mpr (by omega)) (by decide) (by decide)) (cwV 2 hts gl_areTasksRight_X8_ofTask rfl rfl rfl (by decide +kernel) ⟨Nat.le_of_ble_eq_true rfl, Nat.le_of_ble_eq_true rfl⟩) hKb hP hD hS hA 209 w_tp rfl hl.1 rfl rfl (Nat.le_of_ble_eq_true rfl) ⟨Nat.le_of_ble_eq_true rfl, Nat.le_of_ble_eq_true rfl⟩ dL_areTasksRight_131 (fun r _ H locs hw hP hD hS => ?_)
        obtain rfl : r = (-1) := hw.trans c6
        refine lv_istore (lv' := [(7, .int (-1)), (6, .int 4), (0, .ref tp), (1, .ref oq), (2, .ref q1), (3, .ref q3), (4, .ref q5), (5, .int (nI k))]) hx hb dL_areTasksRight_134 hl (by decide) rfl (fun ls hl => ?_)
        refine lv_aload_n hx hb dL_areTasksRight_136 rfl (lv_at hl 2 rfl) ?_
        refine lv_iload hx hb dL_areTasksRight_137 (lv_at hl 7 rfl) ?_
        refine lv_bipush (v := 8) hx hb dL_areTasksRight_139 (by decide) ?_
        refine x_Vi (As := [.int (nI k), .int 8]) (rest0 := []) ⟨hx, hb, hml, hown, hts⟩ (c_X8_ofTask l D cA ad (tr ++ [(cN, .boolean)]) R45 H.size τ pd π bd tp ρ h102 (nI k) 8 (nI_pos (by omega)) (by rw [h.1.1.2.2.1]; exact (nI_ltI (by omega) (by omega)).mpr (by omega)) (by decide) (by decide)) (cwV 2 hts gl_areTasksRight_X8_ofTask rfl rfl rfl (by decide +kernel) ⟨Nat.le_of_ble_eq_true rfl, Nat.le_of_ble_eq_true rfl⟩) hKb hP hD hS hA 209 w_tp rfl hl.1 rfl rfl (Nat.le_of_ble_eq_true rfl) ⟨Nat.le_of_ble_eq_true rfl, Nat.le_of_ble_eq_true rfl⟩ dL_areTasksRight_141 (fun r _ H locs hw hP hD hS => ?_)
        obtain rfl : r = 0 := hw.trans c8
        refine lv_istore (lv' := [(8, .int 0), (7, .int (-1)), (6, .int 4), (0, .ref tp), (1, .ref oq), (2, .ref q1), (3, .ref q3), (4, .ref q5), (5, .int (nI k))]) hx hb dL_areTasksRight_144 hl (by decide) rfl (fun ls hl => ?_)
        refine lv_aload_n hx hb dL_areTasksRight_146 rfl (lv_at hl 3 rfl) ?_
        refine lv_iload hx hb dL_areTasksRight_147 (lv_at hl 8 rfl) ?_
        refine lv_iconst (v := 2) hx hb dL_areTasksRight_149 (by decide) ?_
        refine x_Vi (As := [.int (nI k), .int 2]) (rest0 := []) ⟨hx, hb, hml, hown, hts⟩ (c_X8_ofTask l D cA ad (tr ++ [(cN, .boolean)]) R45 H.size τ pd π bd tp ρ h102 (nI k) 2 (nI_pos (by omega)) (by rw [h.1.1.2.2.1]; exact (nI_ltI (by omega) (by omega)).mpr (by omega)) (by decide) (by decide)) (cwV 2 hts gl_areTasksRight_X8_ofTask rfl rfl rfl (by decide +kernel) ⟨Nat.le_of_ble_eq_true rfl, Nat.le_of_ble_eq_true rfl⟩) hKb hP hD hS hA 209 w_tp rfl hl.1 rfl rfl (Nat.le_of_ble_eq_true rfl) ⟨Nat.le_of_ble_eq_true rfl, Nat.le_of_ble_eq_true rfl⟩ dL_areTasksRight_150 (fun r _ H locs hw hP hD hS => ?_)
        obtain rfl : r = (-1) := hw.trans c2
        refine lv_istore (lv' := [(9, .int (-1)), (8, .int 0), (7, .int (-1)), (6, .int 4), (0, .ref tp), (1, .ref oq), (2, .ref q1), (3, .ref q3), (4, .ref q5), (5, .int (nI k))]) hx hb dL_areTasksRight_153 hl (by decide) rfl (fun ls hl => ?_)
        refine lv_aload_n hx hb dL_areTasksRight_155 rfl (lv_at hl 6 rfl) ?_
        refine lv_iload hx hb dL_areTasksRight_156 (lv_at hl 3 rfl) ?_
        refine lv_dup2_11 hx hb dL_areTasksRight_158 rfl rfl ?_
        refine va_iald hx hb hKb hP (0 + rest.length + 210) (0) (wNewR eR45 rfl) rfl (by unfold vp_in; decide) dL_areTasksRight_159 ?_
        refine W.eq (g2 := F0 m 160 ls [.int (nI (cnt (m_isIn τ (nI 4)) k)), .int 4, .ref q1]) (by show F0 m _ ls (.int (f 4) :: _) = _; rw [hf 4 (by decide)]) ?_
        refine lv_iconst (v := 1) hx hb dL_areTasksRight_160 (by decide) ?_
        refine lv_iadd hx hb dL_areTasksRight_161 ?_
        refine W.eq (g2 := F0 m 162 ls [.int (nI ((cnt (m_isIn τ (nI 4)) k) + 1)), .int 4, .ref q1]) (by rw [show ((nI (cnt (m_isIn τ (nI 4)) k)) : Int32) + 1 = (nI ((cnt (m_isIn τ (nI 4)) k) + 1)) from nI_add (cnt (m_isIn τ (nI 4)) k) 1]) ?_
        refine va_iast hx hb hKb hP hD hS (0 + rest.length + 210) (0) (wNewR eR45 rfl) rfl (by unfold vp_in; decide) dL_areTasksRight_162 (fun H locs hP hD hS => ?_)
        rw [wNewSR eR45] at hP hD
        obtain ⟨f342, ef342⟩ : ∃ z : Nat → Int32, z = upd f 4 (nI ((cnt (m_isIn τ (nI 4)) k) + 1)) := ⟨_, rfl⟩
        obtain ⟨R343, eR343⟩ : ∃ z : va_W, z = rest ++ [(q1, .inl (cA 0, 5, .inl f342)), (q3, .inl (cN, 24, .inl g)), (q5, .inl (cA 0, 19, .inl f43))] := ⟨_, rfl⟩
        have hP : va_P D vwCl (wB cA ad τ ++ (wPg cA ad pd π ++ (wB cA bd ρ ++ ((tp, .inr (8, tpF ad bd)) :: R343)))) H := by rw [eR343, ef342]; exact hP
        have hD : va_D A (wB cA ad τ ++ (wPg cA ad pd π ++ (wB cA bd ρ ++ ((tp, .inr (8, tpF ad bd)) :: R343)))) := by rw [eR343, ef342]; exact hD
        refine lv_iload hx hb dL_areTasksRight_163 (lv_at hl 2 rfl) ?_
        refine lv_if_lt (tgt := 172) hx hb dL_areTasksRight_165 (by decide) (fun c_165_344 => ?_) (fun c_165_344 => ?_)
        · skip
          refine lv_iconst (v := 0) hx hb dL_areTasksRight_172 (by decide) ?_
          refine lv_iload hx hb dL_areTasksRight_173 (lv_at hl 3 rfl) ?_
          refine lv_if_ne (tgt := 182) hx hb dL_areTasksRight_175 (by decide) (fun c_175_345 => ?_) (fun c_175_345 => ?_)
          · skip
            refine lv_iconst (v := 0) hx hb dL_areTasksRight_182 (by decide) ?_
            refine lv_icmp_ne (tgt := 283) hx hb dL_areTasksRight_183 (by decide) (fun c_183_346 => ?_) (fun c_183_346 => ?_)
            · exact absurd c_183_346 (by decide)
            · skip
              refine lv_iload hx hb dL_areTasksRight_186 (lv_at hl 2 rfl) ?_
              refine lv_aload_n hx hb dL_areTasksRight_188 rfl (lv_at hl 4 rfl) ?_
              refine lv_iconst (v := 2) hx hb dL_areTasksRight_189 (by decide) ?_
              refine x_Vi (As := [.int 2]) (rest0 := [.int (-1)]) ⟨hx, hb, hml, hown, hts⟩ (c_X8_many l D cA ad (tr ++ [(cN, .boolean)]) R343 H.size τ pd π bd tp ρ h102 2 (by decide) (by decide)) (cwV 1 hts gl_areTasksRight_X8_many rfl rfl rfl (by decide +kernel) ⟨Nat.le_of_ble_eq_true rfl, Nat.le_of_ble_eq_true rfl⟩) hKb hP hD hS hA 209 w_tp rfl hl.1 rfl rfl (Nat.le_of_ble_eq_true rfl) ⟨Nat.le_of_ble_eq_true rfl, Nat.le_of_ble_eq_true rfl⟩ dL_areTasksRight_190 (fun r _ H locs hw hP hD hS => ?_)
              obtain rfl : r = (nI L.length) := hw.trans ((many_st h.1.1).1.trans (congrArg nI (ready_len hL h.1.1)))
              refine lv_icmp_ge (tgt := 283) hx hb dL_areTasksRight_193 (by decide) (fun c_193_347 => ?_) (fun c_193_347 => ?_)
              · exact absurd c_193_347 (n1_nle (b := L.length) (by omega))
              · skip
                refine lv_iload hx hb dL_areTasksRight_196 (lv_at hl 2 rfl) ?_
                refine lv_if_lt (tgt := 208) hx hb dL_areTasksRight_198 (by decide) (fun c_198_348 => ?_) (fun c_198_348 => ?_)
                · skip
                  refine lv_iload hx hb dL_areTasksRight_208 (lv_at hl 1 rfl) ?_
                  refine lv_if_le (tgt := 217) hx hb dL_areTasksRight_210 (by decide) (fun c_210_349 => ?_) (fun c_210_349 => ?_)
                  · skip
                    refine lv_iconst (v := 0) hx hb dL_areTasksRight_217 (by decide) ?_
                    refine lv_iload hx hb dL_areTasksRight_218 (lv_at hl 3 rfl) ?_
                    refine lv_iconst (v := 1) hx hb dL_areTasksRight_220 (by decide) ?_
                    refine lv_icmp_ne (tgt := 228) hx hb dL_areTasksRight_221 (by decide) (fun c_221_350 => ?_) (fun c_221_350 => ?_)
                    · skip
                      refine lv_iconst (v := 0) hx hb dL_areTasksRight_228 (by decide) ?_
                      refine lv_icmp_ne (tgt := 283) hx hb dL_areTasksRight_229 (by decide) (fun c_229_351 => ?_) (fun c_229_351 => ?_)
                      · exact absurd c_229_351 (by decide)
                      · skip
                        refine lv_iload hx hb dL_areTasksRight_232 (lv_at hl 0 rfl) ?_
                        refine lv_if_ge (tgt := 241) hx hb dL_areTasksRight_234 (by decide) (fun c_234_352 => ?_) (fun c_234_352 => ?_)
                        · exact absurd c_234_352 (by decide)
                        · skip
                          refine lv_iconst (v := 1) hx hb dL_areTasksRight_237 (by decide) ?_
                          refine lv_goto (tgt := 242) hx hb dL_areTasksRight_238 (by decide) ?_
                          refine lv_iload hx hb dL_areTasksRight_242 (lv_at hl 3 rfl) ?_
                          refine lv_iconst (v := 1) hx hb dL_areTasksRight_244 (by decide) ?_
                          refine lv_icmp_le (tgt := 252) hx hb dL_areTasksRight_245 (by decide) (fun c_245_353 => ?_) (fun c_245_353 => ?_)
                          · exact absurd c_245_353 (by decide)
                          · skip
                            refine lv_iconst (v := 1) hx hb dL_areTasksRight_248 (by decide) ?_
                            refine lv_goto (tgt := 253) hx hb dL_areTasksRight_249 (by decide) ?_
                            refine lv_icmp_ne (tgt := 283) hx hb dL_areTasksRight_253 (by decide) (fun c_253_354 => ?_) (fun c_253_354 => ?_)
                            · exact absurd c_253_354 (by decide)
                            · skip
                              refine lv_iload hx hb dL_areTasksRight_256 (lv_at hl 3 rfl) ?_
                              refine lv_iconst (v := 1) hx hb dL_areTasksRight_258 (by decide) ?_
                              refine lv_icmp_le (tgt := 285) hx hb dL_areTasksRight_259 (by decide) (fun c_259_355 => ?_) (fun c_259_355 => ?_)
                              · exact absurd c_259_355 (by decide)
                              · skip
                                refine lv_aload_n hx hb dL_areTasksRight_262 rfl (lv_at hl 4 rfl) ?_
                                refine lv_iload hx hb dL_areTasksRight_263 (lv_at hl 9 rfl) ?_
                                refine lv_iconst (v := 5) hx hb dL_areTasksRight_265 (by decide) ?_
                                refine x_Vi (As := [.int (nI k), .int 5]) (rest0 := []) ⟨hx, hb, hml, hown, hts⟩ (c_X8_ofTask l D cA ad (tr ++ [(cN, .boolean)]) R343 H.size τ pd π bd tp ρ h102 (nI k) 5 (nI_pos (by omega)) (by rw [h.1.1.2.2.1]; exact (nI_ltI (by omega) (by omega)).mpr (by omega)) (by decide) (by decide)) (cwV 2 hts gl_areTasksRight_X8_ofTask rfl rfl rfl (by decide +kernel) ⟨Nat.le_of_ble_eq_true rfl, Nat.le_of_ble_eq_true rfl⟩) hKb hP hD hS hA 209 w_tp rfl hl.1 rfl rfl (Nat.le_of_ble_eq_true rfl) ⟨Nat.le_of_ble_eq_true rfl, Nat.le_of_ble_eq_true rfl⟩ dL_areTasksRight_266 (fun r _ H locs hw hP hD hS => ?_)
                                obtain rfl : r = 0 := hw.trans c5
                                refine lv_if_ne (tgt := 283) hx hb dL_areTasksRight_269 (by decide) (fun c_269_356 => ?_) (fun c_269_356 => ?_)
                                · exact absurd c_269_356 (by decide)
                                · skip
                                  refine lv_aload_n hx hb dL_areTasksRight_272 rfl (lv_at hl 4 rfl) ?_
                                  refine lv_iload hx hb dL_areTasksRight_273 (lv_at hl 9 rfl) ?_
                                  refine lv_bipush (v := 7) hx hb dL_areTasksRight_275 (by decide) ?_
                                  refine x_Vi (As := [.int (nI k), .int 7]) (rest0 := []) ⟨hx, hb, hml, hown, hts⟩ (c_X8_ofTask l D cA ad (tr ++ [(cN, .boolean)]) R343 H.size τ pd π bd tp ρ h102 (nI k) 7 (nI_pos (by omega)) (by rw [h.1.1.2.2.1]; exact (nI_ltI (by omega) (by omega)).mpr (by omega)) (by decide) (by decide)) (cwV 2 hts gl_areTasksRight_X8_ofTask rfl rfl rfl (by decide +kernel) ⟨Nat.le_of_ble_eq_true rfl, Nat.le_of_ble_eq_true rfl⟩) hKb hP hD hS hA 209 w_tp rfl hl.1 rfl rfl (Nat.le_of_ble_eq_true rfl) ⟨Nat.le_of_ble_eq_true rfl, Nat.le_of_ble_eq_true rfl⟩ dL_areTasksRight_277 (fun r _ H locs hw hP hD hS => ?_)
                                  obtain rfl : r = 0 := hw.trans c7
                                  refine lv_if_eq (tgt := 285) hx hb dL_areTasksRight_280 (by decide) (fun c_280_357 => ?_) (fun c_280_357 => ?_)
                                  · skip
                                    refine lv_iload hx hb dL_areTasksRight_285 (lv_at hl 2 rfl) ?_
                                    refine lv_if_lt (tgt := 295) hx hb dL_areTasksRight_287 (by decide) (fun c_287_358 => ?_) (fun c_287_358 => ?_)
                                    · skip
                                      refine lv_iload hx hb dL_areTasksRight_295 (lv_at hl 1 rfl) ?_
                                      refine lv_if_le (tgt := 345) hx hb dL_areTasksRight_297 (by decide) (fun c_297_359 => ?_) (fun c_297_359 => ?_)
                                      · skip
                                        refine lv_iload hx hb dL_areTasksRight_345 (lv_at hl 1 rfl) ?_
                                        refine lv_iconst (v := 5) hx hb dL_areTasksRight_347 (by decide) ?_
                                        refine lv_icmp_ne (tgt := 361) hx hb dL_areTasksRight_348 (by decide) (fun c_348_360 => ?_) (fun c_348_360 => ?_)
                                        · skip
                                          have hb9 : bnd (τ (k + 6) 5) := by have := task_there hB hk24; rwa [aT3 hk24] at this
                                          refine lv_aload_n hx hb dL_areTasksRight_361 rfl (lv_at hl 4 rfl) ?_
                                          refine lv_iload hx hb dL_areTasksRight_362 (lv_at hl 9 rfl) ?_
                                          refine lv_iconst (v := 3) hx hb dL_areTasksRight_364 (by decide) ?_
                                          refine x_Vi (As := [.int (nI k), .int 3]) (rest0 := []) ⟨hx, hb, hml, hown, hts⟩ (c_X8_ofTask l D cA ad (tr ++ [(cN, .boolean)]) R343 H.size τ pd π bd tp ρ h102 (nI k) 3 (nI_pos (by omega)) (by rw [h.1.1.2.2.1]; exact (nI_ltI (by omega) (by omega)).mpr (by omega)) (by decide) (by decide)) (cwV 2 hts gl_areTasksRight_X8_ofTask rfl rfl rfl (by decide +kernel) ⟨Nat.le_of_ble_eq_true rfl, Nat.le_of_ble_eq_true rfl⟩) hKb hP hD hS hA 209 w_tp rfl hl.1 rfl rfl (Nat.le_of_ble_eq_true rfl) ⟨Nat.le_of_ble_eq_true rfl, Nat.le_of_ble_eq_true rfl⟩ dL_areTasksRight_365 (fun r _ H locs hw hP hD hS => ?_)
                                          obtain rfl : r = (τ (k + 6) 5) := hw.trans (aT3 (by omega))
                                          refine va_mabs (rest := []) hx hb (hml.trans hl.1.symm) hown (hts (.methodLink RL 103 Lib.Math.abs.name) (by decide +kernel)) (hts (.static Lib.Math.abs.name) (by decide +kernel)) (hts (.initialized "java/lang/Math") (by decide +kernel)) (hts (.code Lib.Math.abs.name Lib.Math.abs.code 1 (some .int)) (by decide +kernel)) (Nat.le_of_ble_eq_true rfl) (Nat.le_of_ble_eq_true rfl) (Nat.le_of_ble_eq_true rfl) (Nat.le_of_ble_eq_true rfl) dL_areTasksRight_368 ?_
                                          refine lv_sipush (v := 9999) hx hb dL_areTasksRight_371 (by decide) ?_
                                          refine lv_icmp_gt (tgt := 393) hx hb dL_areTasksRight_374 (by decide) (fun c_374_361 => ?_) (fun c_374_361 => ?_)
                                          · exact absurd c_374_361 (abs_bnd hb9)
                                          · skip
                                            rcases task_in h hk with c4 | ⟨q4, hq4, c4, ⟨o4, ho4, s0⟩, v4, hv4, s1, hv2⟩
                                            · skip
                                              refine lv_aload_n hx hb dL_areTasksRight_377 rfl (lv_at hl 4 rfl) ?_
                                              refine lv_iload hx hb dL_areTasksRight_378 (lv_at hl 9 rfl) ?_
                                              refine lv_iconst (v := 4) hx hb dL_areTasksRight_380 (by decide) ?_
                                              refine x_Vi (As := [.int (nI k), .int 4]) (rest0 := []) ⟨hx, hb, hml, hown, hts⟩ (c_X8_ofTask l D cA ad (tr ++ [(cN, .boolean)]) R343 H.size τ pd π bd tp ρ h102 (nI k) 4 (nI_pos (by omega)) (by rw [h.1.1.2.2.1]; exact (nI_ltI (by omega) (by omega)).mpr (by omega)) (by decide) (by decide)) (cwV 2 hts gl_areTasksRight_X8_ofTask rfl rfl rfl (by decide +kernel) ⟨Nat.le_of_ble_eq_true rfl, Nat.le_of_ble_eq_true rfl⟩) hKb hP hD hS hA 209 w_tp rfl hl.1 rfl rfl (Nat.le_of_ble_eq_true rfl) ⟨Nat.le_of_ble_eq_true rfl, Nat.le_of_ble_eq_true rfl⟩ dL_areTasksRight_381 (fun r _ H locs hw hP hD hS => ?_)
                                              obtain rfl : r = (-1) := hw.trans c4
                                              refine lv_aload_n hx hb dL_areTasksRight_384 rfl (lv_at hl 4 rfl) ?_
                                              refine lv_bipush (v := 7) hx hb dL_areTasksRight_385 (by decide) ?_
                                              refine x_Vi (As := [.int 7]) (rest0 := [.int (-1)]) ⟨hx, hb, hml, hown, hts⟩ (c_X8_many l D cA ad (tr ++ [(cN, .boolean)]) R343 H.size τ pd π bd tp ρ h102 7 (by decide) (by decide)) (cwV 1 hts gl_areTasksRight_X8_many rfl rfl rfl (by decide +kernel) ⟨Nat.le_of_ble_eq_true rfl, Nat.le_of_ble_eq_true rfl⟩) hKb hP hD hS hA 209 w_tp rfl hl.1 rfl rfl (Nat.le_of_ble_eq_true rfl) ⟨Nat.le_of_ble_eq_true rfl, Nat.le_of_ble_eq_true rfl⟩ dL_areTasksRight_387 (fun r _ H locs hw hP hD hS => ?_)
                                              obtain rfl : r = (nI S) := hw.trans (many_7 h.1.1)
                                              refine lv_icmp_lt (tgt := 395) hx hb dL_areTasksRight_390 (by decide) (fun c_390_362 => ?_) (fun c_390_362 => ?_)
                                              · skip
                                                refine lv_aload_n hx hb dL_areTasksRight_395 rfl (lv_at hl 4 rfl) ?_
                                                refine lv_iload hx hb dL_areTasksRight_396 (lv_at hl 9 rfl) ?_
                                                refine lv_iconst (v := 4) hx hb dL_areTasksRight_398 (by decide) ?_
                                                refine x_Vi (As := [.int (nI k), .int 4]) (rest0 := []) ⟨hx, hb, hml, hown, hts⟩ (c_X8_ofTask l D cA ad (tr ++ [(cN, .boolean)]) R343 H.size τ pd π bd tp ρ h102 (nI k) 4 (nI_pos (by omega)) (by rw [h.1.1.2.2.1]; exact (nI_ltI (by omega) (by omega)).mpr (by omega)) (by decide) (by decide)) (cwV 2 hts gl_areTasksRight_X8_ofTask rfl rfl rfl (by decide +kernel) ⟨Nat.le_of_ble_eq_true rfl, Nat.le_of_ble_eq_true rfl⟩) hKb hP hD hS hA 209 w_tp rfl hl.1 rfl rfl (Nat.le_of_ble_eq_true rfl) ⟨Nat.le_of_ble_eq_true rfl, Nat.le_of_ble_eq_true rfl⟩ dL_areTasksRight_399 (fun r _ H locs hw hP hD hS => ?_)
                                                obtain rfl : r = (-1) := hw.trans c4
                                                refine lv_if_lt (tgt := 446) hx hb dL_areTasksRight_402 (by decide) (fun c_402_363 => ?_) (fun c_402_363 => ?_)
                                                · skip
                                                  refine lv_iinc (v := (nI (k + 1))) (lv' := [(5, .int (nI (k + 1))), (9, .int (-1)), (8, .int 0), (7, .int (-1)), (6, .int 4), (0, .ref tp), (1, .ref oq), (2, .ref q1), (3, .ref q3), (4, .ref q5)]) hx hb dL_areTasksRight_446 hl (k := 9) rfl (show (nI k) + 1 = (nI (k + 1)) from nI_1 k) (by decide) rfl (fun ls hl => ?_)
                                                  refine lv_goto (tgt := 107) hx hb dL_areTasksRight_449 (by decide) ?_
                                                  exact ih n (Nat.lt_succ_self n) H locs ls ⟨(k + 1), f342, g, R343, ⟨by omega, st_upd e0 (by decide) hf ef342, hg.up, eR343⟩, hP, hD, hS, lv_sub hl [5, 6, 7, 8, 9, 0] rfl⟩
                                                · exact absurd c_402_363 (by decide)
                                              · exact absurd (n1_lt (b := S) (by omega)) c_390_362
                                            · skip
                                              rcases (show v4 = 0 ∨ v4 = 1 ∨ v4 = 2 by omega) with e4 | e4 | e4 <;> subst e4
                                              · skip
                                                refine lv_aload_n hx hb dL_areTasksRight_377 rfl (lv_at hl 4 rfl) ?_
                                                refine lv_iload hx hb dL_areTasksRight_378 (lv_at hl 9 rfl) ?_
                                                refine lv_iconst (v := 4) hx hb dL_areTasksRight_380 (by decide) ?_
                                                refine x_Vi (As := [.int (nI k), .int 4]) (rest0 := []) ⟨hx, hb, hml, hown, hts⟩ (c_X8_ofTask l D cA ad (tr ++ [(cN, .boolean)]) R343 H.size τ pd π bd tp ρ h102 (nI k) 4 (nI_pos (by omega)) (by rw [h.1.1.2.2.1]; exact (nI_ltI (by omega) (by omega)).mpr (by omega)) (by decide) (by decide)) (cwV 2 hts gl_areTasksRight_X8_ofTask rfl rfl rfl (by decide +kernel) ⟨Nat.le_of_ble_eq_true rfl, Nat.le_of_ble_eq_true rfl⟩) hKb hP hD hS hA 209 w_tp rfl hl.1 rfl rfl (Nat.le_of_ble_eq_true rfl) ⟨Nat.le_of_ble_eq_true rfl, Nat.le_of_ble_eq_true rfl⟩ dL_areTasksRight_381 (fun r _ H locs hw hP hD hS => ?_)
                                                obtain rfl : r = (nI q4) := hw.trans c4
                                                refine lv_aload_n hx hb dL_areTasksRight_384 rfl (lv_at hl 4 rfl) ?_
                                                refine lv_bipush (v := 7) hx hb dL_areTasksRight_385 (by decide) ?_
                                                refine x_Vi (As := [.int 7]) (rest0 := [.int (nI q4)]) ⟨hx, hb, hml, hown, hts⟩ (c_X8_many l D cA ad (tr ++ [(cN, .boolean)]) R343 H.size τ pd π bd tp ρ h102 7 (by decide) (by decide)) (cwV 1 hts gl_areTasksRight_X8_many rfl rfl rfl (by decide +kernel) ⟨Nat.le_of_ble_eq_true rfl, Nat.le_of_ble_eq_true rfl⟩) hKb hP hD hS hA 209 w_tp rfl hl.1 rfl rfl (Nat.le_of_ble_eq_true rfl) ⟨Nat.le_of_ble_eq_true rfl, Nat.le_of_ble_eq_true rfl⟩ dL_areTasksRight_387 (fun r _ H locs hw hP hD hS => ?_)
                                                obtain rfl : r = (nI S) := hw.trans (many_7 h.1.1)
                                                refine lv_icmp_lt (tgt := 395) hx hb dL_areTasksRight_390 (by decide) (fun c_390_364 => ?_) (fun c_390_364 => ?_)
                                                · skip
                                                  refine lv_aload_n hx hb dL_areTasksRight_395 rfl (lv_at hl 4 rfl) ?_
                                                  refine lv_iload hx hb dL_areTasksRight_396 (lv_at hl 9 rfl) ?_
                                                  refine lv_iconst (v := 4) hx hb dL_areTasksRight_398 (by decide) ?_
                                                  refine x_Vi (As := [.int (nI k), .int 4]) (rest0 := []) ⟨hx, hb, hml, hown, hts⟩ (c_X8_ofTask l D cA ad (tr ++ [(cN, .boolean)]) R343 H.size τ pd π bd tp ρ h102 (nI k) 4 (nI_pos (by omega)) (by rw [h.1.1.2.2.1]; exact (nI_ltI (by omega) (by omega)).mpr (by omega)) (by decide) (by decide)) (cwV 2 hts gl_areTasksRight_X8_ofTask rfl rfl rfl (by decide +kernel) ⟨Nat.le_of_ble_eq_true rfl, Nat.le_of_ble_eq_true rfl⟩) hKb hP hD hS hA 209 w_tp rfl hl.1 rfl rfl (Nat.le_of_ble_eq_true rfl) ⟨Nat.le_of_ble_eq_true rfl, Nat.le_of_ble_eq_true rfl⟩ dL_areTasksRight_399 (fun r _ H locs hw hP hD hS => ?_)
                                                  obtain rfl : r = (nI q4) := hw.trans c4
                                                  refine lv_if_lt (tgt := 446) hx hb dL_areTasksRight_402 (by decide) (fun c_402_365 => ?_) (fun c_402_365 => ?_)
                                                  · exact absurd ((nI_ltI (a := q4) (b := 0) (by omega) (by omega)).mp c_402_365) (by omega)
                                                  · skip
                                                    refine lv_aload_n hx hb dL_areTasksRight_405 rfl (lv_at hl 4 rfl) ?_
                                                    refine lv_aload_n hx hb dL_areTasksRight_406 rfl (lv_at hl 4 rfl) ?_
                                                    refine lv_iload hx hb dL_areTasksRight_407 (lv_at hl 9 rfl) ?_
                                                    refine lv_iconst (v := 4) hx hb dL_areTasksRight_409 (by decide) ?_
                                                    refine x_Vi (As := [.int (nI k), .int 4]) (rest0 := [.ref tp]) ⟨hx, hb, hml, hown, hts⟩ (c_X8_ofTask l D cA ad (tr ++ [(cN, .boolean)]) R343 H.size τ pd π bd tp ρ h102 (nI k) 4 (nI_pos (by omega)) (by rw [h.1.1.2.2.1]; exact (nI_ltI (by omega) (by omega)).mpr (by omega)) (by decide) (by decide)) (cwV 2 hts gl_areTasksRight_X8_ofTask rfl rfl rfl (by decide +kernel) ⟨Nat.le_of_ble_eq_true rfl, Nat.le_of_ble_eq_true rfl⟩) hKb hP hD hS hA 209 w_tp rfl hl.1 rfl rfl (Nat.le_of_ble_eq_true rfl) ⟨Nat.le_of_ble_eq_true rfl, Nat.le_of_ble_eq_true rfl⟩ dL_areTasksRight_410 (fun r _ H locs hw hP hD hS => ?_)
                                                    obtain rfl : r = (nI q4) := hw.trans c4
                                                    refine lv_iconst (v := 0) hx hb dL_areTasksRight_413 (by decide) ?_
                                                    refine x_Vi (As := [.int (nI q4), .int 0]) (rest0 := []) ⟨hx, hb, hml, hown, hts⟩ (c_X8_ofScope l D cA ad (tr ++ [(cN, .boolean)]) R343 H.size τ pd π bd tp ρ h102 (nI q4) 0 (nI_pos (by omega)) (by rw [h.1.1.2.2.2.1]; exact (nI_ltI (by omega) (by omega)).mpr (by omega)) (by decide) (by decide)) (cwV 2 hts gl_areTasksRight_X8_ofScope rfl rfl rfl (by decide +kernel) ⟨Nat.le_of_ble_eq_true rfl, Nat.le_of_ble_eq_true rfl⟩) hKb hP hD hS hA 209 w_tp rfl hl.1 rfl rfl (Nat.le_of_ble_eq_true rfl) ⟨Nat.le_of_ble_eq_true rfl, Nat.le_of_ble_eq_true rfl⟩ dL_areTasksRight_414 (fun r _ H locs hw hP hD hS => ?_)
                                                    obtain rfl : r = (nI o4) := hw.trans s0
                                                    refine lv_iload hx hb dL_areTasksRight_417 (lv_at hl 9 rfl) ?_
                                                    refine lv_icmp_ge (tgt := 444) hx hb dL_areTasksRight_419 (by decide) (fun c_419_366 => ?_) (fun c_419_366 => ?_)
                                                    · exact absurd ((nI_leI (a := k) (b := o4) (by omega) (by omega)).mp c_419_366) (by omega)
                                                    · skip
                                                      refine lv_aload_n hx hb dL_areTasksRight_422 rfl (lv_at hl 4 rfl) ?_
                                                      refine lv_aload_n hx hb dL_areTasksRight_423 rfl (lv_at hl 4 rfl) ?_
                                                      refine lv_iload hx hb dL_areTasksRight_424 (lv_at hl 9 rfl) ?_
                                                      refine lv_iconst (v := 4) hx hb dL_areTasksRight_426 (by decide) ?_
                                                      refine x_Vi (As := [.int (nI k), .int 4]) (rest0 := [.ref tp]) ⟨hx, hb, hml, hown, hts⟩ (c_X8_ofTask l D cA ad (tr ++ [(cN, .boolean)]) R343 H.size τ pd π bd tp ρ h102 (nI k) 4 (nI_pos (by omega)) (by rw [h.1.1.2.2.1]; exact (nI_ltI (by omega) (by omega)).mpr (by omega)) (by decide) (by decide)) (cwV 2 hts gl_areTasksRight_X8_ofTask rfl rfl rfl (by decide +kernel) ⟨Nat.le_of_ble_eq_true rfl, Nat.le_of_ble_eq_true rfl⟩) hKb hP hD hS hA 209 w_tp rfl hl.1 rfl rfl (Nat.le_of_ble_eq_true rfl) ⟨Nat.le_of_ble_eq_true rfl, Nat.le_of_ble_eq_true rfl⟩ dL_areTasksRight_427 (fun r _ H locs hw hP hD hS => ?_)
                                                      obtain rfl : r = (nI q4) := hw.trans c4
                                                      refine lv_iconst (v := 1) hx hb dL_areTasksRight_430 (by decide) ?_
                                                      refine x_Vi (As := [.int (nI q4), .int 1]) (rest0 := []) ⟨hx, hb, hml, hown, hts⟩ (c_X8_ofScope l D cA ad (tr ++ [(cN, .boolean)]) R343 H.size τ pd π bd tp ρ h102 (nI q4) 1 (nI_pos (by omega)) (by rw [h.1.1.2.2.2.1]; exact (nI_ltI (by omega) (by omega)).mpr (by omega)) (by decide) (by decide)) (cwV 2 hts gl_areTasksRight_X8_ofScope rfl rfl rfl (by decide +kernel) ⟨Nat.le_of_ble_eq_true rfl, Nat.le_of_ble_eq_true rfl⟩) hKb hP hD hS hA 209 w_tp rfl hl.1 rfl rfl (Nat.le_of_ble_eq_true rfl) ⟨Nat.le_of_ble_eq_true rfl, Nat.le_of_ble_eq_true rfl⟩ dL_areTasksRight_431 (fun r _ H locs hw hP hD hS => ?_)
                                                      obtain rfl : r = 0 := hw.trans s1
                                                      refine lv_iconst (v := 2) hx hb dL_areTasksRight_434 (by decide) ?_
                                                      refine lv_icmp_ne (tgt := 446) hx hb dL_areTasksRight_435 (by decide) (fun c_435_367 => ?_) (fun c_435_367 => ?_)
                                                      · skip
                                                        refine lv_iinc (v := (nI (k + 1))) (lv' := [(5, .int (nI (k + 1))), (9, .int (-1)), (8, .int 0), (7, .int (-1)), (6, .int 4), (0, .ref tp), (1, .ref oq), (2, .ref q1), (3, .ref q3), (4, .ref q5)]) hx hb dL_areTasksRight_446 hl (k := 9) rfl (show (nI k) + 1 = (nI (k + 1)) from nI_1 k) (by decide) rfl (fun ls hl => ?_)
                                                        refine lv_goto (tgt := 107) hx hb dL_areTasksRight_449 (by decide) ?_
                                                        exact ih n (Nat.lt_succ_self n) H locs ls ⟨(k + 1), f342, g, R343, ⟨by omega, st_upd e0 (by decide) hf ef342, hg.up, eR343⟩, hP, hD, hS, lv_sub hl [5, 6, 7, 8, 9, 0] rfl⟩
                                                      · exact absurd c_435_367 (by decide)
                                                · exact absurd ((nI_ltI (a := q4) (b := S) (by omega) (by omega)).mpr (by omega)) c_390_364
                                              · skip
                                                refine lv_aload_n hx hb dL_areTasksRight_377 rfl (lv_at hl 4 rfl) ?_
                                                refine lv_iload hx hb dL_areTasksRight_378 (lv_at hl 9 rfl) ?_
                                                refine lv_iconst (v := 4) hx hb dL_areTasksRight_380 (by decide) ?_
                                                refine x_Vi (As := [.int (nI k), .int 4]) (rest0 := []) ⟨hx, hb, hml, hown, hts⟩ (c_X8_ofTask l D cA ad (tr ++ [(cN, .boolean)]) R343 H.size τ pd π bd tp ρ h102 (nI k) 4 (nI_pos (by omega)) (by rw [h.1.1.2.2.1]; exact (nI_ltI (by omega) (by omega)).mpr (by omega)) (by decide) (by decide)) (cwV 2 hts gl_areTasksRight_X8_ofTask rfl rfl rfl (by decide +kernel) ⟨Nat.le_of_ble_eq_true rfl, Nat.le_of_ble_eq_true rfl⟩) hKb hP hD hS hA 209 w_tp rfl hl.1 rfl rfl (Nat.le_of_ble_eq_true rfl) ⟨Nat.le_of_ble_eq_true rfl, Nat.le_of_ble_eq_true rfl⟩ dL_areTasksRight_381 (fun r _ H locs hw hP hD hS => ?_)
                                                obtain rfl : r = (nI q4) := hw.trans c4
                                                refine lv_aload_n hx hb dL_areTasksRight_384 rfl (lv_at hl 4 rfl) ?_
                                                refine lv_bipush (v := 7) hx hb dL_areTasksRight_385 (by decide) ?_
                                                refine x_Vi (As := [.int 7]) (rest0 := [.int (nI q4)]) ⟨hx, hb, hml, hown, hts⟩ (c_X8_many l D cA ad (tr ++ [(cN, .boolean)]) R343 H.size τ pd π bd tp ρ h102 7 (by decide) (by decide)) (cwV 1 hts gl_areTasksRight_X8_many rfl rfl rfl (by decide +kernel) ⟨Nat.le_of_ble_eq_true rfl, Nat.le_of_ble_eq_true rfl⟩) hKb hP hD hS hA 209 w_tp rfl hl.1 rfl rfl (Nat.le_of_ble_eq_true rfl) ⟨Nat.le_of_ble_eq_true rfl, Nat.le_of_ble_eq_true rfl⟩ dL_areTasksRight_387 (fun r _ H locs hw hP hD hS => ?_)
                                                obtain rfl : r = (nI S) := hw.trans (many_7 h.1.1)
                                                refine lv_icmp_lt (tgt := 395) hx hb dL_areTasksRight_390 (by decide) (fun c_390_368 => ?_) (fun c_390_368 => ?_)
                                                · skip
                                                  refine lv_aload_n hx hb dL_areTasksRight_395 rfl (lv_at hl 4 rfl) ?_
                                                  refine lv_iload hx hb dL_areTasksRight_396 (lv_at hl 9 rfl) ?_
                                                  refine lv_iconst (v := 4) hx hb dL_areTasksRight_398 (by decide) ?_
                                                  refine x_Vi (As := [.int (nI k), .int 4]) (rest0 := []) ⟨hx, hb, hml, hown, hts⟩ (c_X8_ofTask l D cA ad (tr ++ [(cN, .boolean)]) R343 H.size τ pd π bd tp ρ h102 (nI k) 4 (nI_pos (by omega)) (by rw [h.1.1.2.2.1]; exact (nI_ltI (by omega) (by omega)).mpr (by omega)) (by decide) (by decide)) (cwV 2 hts gl_areTasksRight_X8_ofTask rfl rfl rfl (by decide +kernel) ⟨Nat.le_of_ble_eq_true rfl, Nat.le_of_ble_eq_true rfl⟩) hKb hP hD hS hA 209 w_tp rfl hl.1 rfl rfl (Nat.le_of_ble_eq_true rfl) ⟨Nat.le_of_ble_eq_true rfl, Nat.le_of_ble_eq_true rfl⟩ dL_areTasksRight_399 (fun r _ H locs hw hP hD hS => ?_)
                                                  obtain rfl : r = (nI q4) := hw.trans c4
                                                  refine lv_if_lt (tgt := 446) hx hb dL_areTasksRight_402 (by decide) (fun c_402_369 => ?_) (fun c_402_369 => ?_)
                                                  · exact absurd ((nI_ltI (a := q4) (b := 0) (by omega) (by omega)).mp c_402_369) (by omega)
                                                  · skip
                                                    refine lv_aload_n hx hb dL_areTasksRight_405 rfl (lv_at hl 4 rfl) ?_
                                                    refine lv_aload_n hx hb dL_areTasksRight_406 rfl (lv_at hl 4 rfl) ?_
                                                    refine lv_iload hx hb dL_areTasksRight_407 (lv_at hl 9 rfl) ?_
                                                    refine lv_iconst (v := 4) hx hb dL_areTasksRight_409 (by decide) ?_
                                                    refine x_Vi (As := [.int (nI k), .int 4]) (rest0 := [.ref tp]) ⟨hx, hb, hml, hown, hts⟩ (c_X8_ofTask l D cA ad (tr ++ [(cN, .boolean)]) R343 H.size τ pd π bd tp ρ h102 (nI k) 4 (nI_pos (by omega)) (by rw [h.1.1.2.2.1]; exact (nI_ltI (by omega) (by omega)).mpr (by omega)) (by decide) (by decide)) (cwV 2 hts gl_areTasksRight_X8_ofTask rfl rfl rfl (by decide +kernel) ⟨Nat.le_of_ble_eq_true rfl, Nat.le_of_ble_eq_true rfl⟩) hKb hP hD hS hA 209 w_tp rfl hl.1 rfl rfl (Nat.le_of_ble_eq_true rfl) ⟨Nat.le_of_ble_eq_true rfl, Nat.le_of_ble_eq_true rfl⟩ dL_areTasksRight_410 (fun r _ H locs hw hP hD hS => ?_)
                                                    obtain rfl : r = (nI q4) := hw.trans c4
                                                    refine lv_iconst (v := 0) hx hb dL_areTasksRight_413 (by decide) ?_
                                                    refine x_Vi (As := [.int (nI q4), .int 0]) (rest0 := []) ⟨hx, hb, hml, hown, hts⟩ (c_X8_ofScope l D cA ad (tr ++ [(cN, .boolean)]) R343 H.size τ pd π bd tp ρ h102 (nI q4) 0 (nI_pos (by omega)) (by rw [h.1.1.2.2.2.1]; exact (nI_ltI (by omega) (by omega)).mpr (by omega)) (by decide) (by decide)) (cwV 2 hts gl_areTasksRight_X8_ofScope rfl rfl rfl (by decide +kernel) ⟨Nat.le_of_ble_eq_true rfl, Nat.le_of_ble_eq_true rfl⟩) hKb hP hD hS hA 209 w_tp rfl hl.1 rfl rfl (Nat.le_of_ble_eq_true rfl) ⟨Nat.le_of_ble_eq_true rfl, Nat.le_of_ble_eq_true rfl⟩ dL_areTasksRight_414 (fun r _ H locs hw hP hD hS => ?_)
                                                    obtain rfl : r = (nI o4) := hw.trans s0
                                                    refine lv_iload hx hb dL_areTasksRight_417 (lv_at hl 9 rfl) ?_
                                                    refine lv_icmp_ge (tgt := 444) hx hb dL_areTasksRight_419 (by decide) (fun c_419_370 => ?_) (fun c_419_370 => ?_)
                                                    · exact absurd ((nI_leI (a := k) (b := o4) (by omega) (by omega)).mp c_419_370) (by omega)
                                                    · skip
                                                      refine lv_aload_n hx hb dL_areTasksRight_422 rfl (lv_at hl 4 rfl) ?_
                                                      refine lv_aload_n hx hb dL_areTasksRight_423 rfl (lv_at hl 4 rfl) ?_
                                                      refine lv_iload hx hb dL_areTasksRight_424 (lv_at hl 9 rfl) ?_
                                                      refine lv_iconst (v := 4) hx hb dL_areTasksRight_426 (by decide) ?_
                                                      refine x_Vi (As := [.int (nI k), .int 4]) (rest0 := [.ref tp]) ⟨hx, hb, hml, hown, hts⟩ (c_X8_ofTask l D cA ad (tr ++ [(cN, .boolean)]) R343 H.size τ pd π bd tp ρ h102 (nI k) 4 (nI_pos (by omega)) (by rw [h.1.1.2.2.1]; exact (nI_ltI (by omega) (by omega)).mpr (by omega)) (by decide) (by decide)) (cwV 2 hts gl_areTasksRight_X8_ofTask rfl rfl rfl (by decide +kernel) ⟨Nat.le_of_ble_eq_true rfl, Nat.le_of_ble_eq_true rfl⟩) hKb hP hD hS hA 209 w_tp rfl hl.1 rfl rfl (Nat.le_of_ble_eq_true rfl) ⟨Nat.le_of_ble_eq_true rfl, Nat.le_of_ble_eq_true rfl⟩ dL_areTasksRight_427 (fun r _ H locs hw hP hD hS => ?_)
                                                      obtain rfl : r = (nI q4) := hw.trans c4
                                                      refine lv_iconst (v := 1) hx hb dL_areTasksRight_430 (by decide) ?_
                                                      refine x_Vi (As := [.int (nI q4), .int 1]) (rest0 := []) ⟨hx, hb, hml, hown, hts⟩ (c_X8_ofScope l D cA ad (tr ++ [(cN, .boolean)]) R343 H.size τ pd π bd tp ρ h102 (nI q4) 1 (nI_pos (by omega)) (by rw [h.1.1.2.2.2.1]; exact (nI_ltI (by omega) (by omega)).mpr (by omega)) (by decide) (by decide)) (cwV 2 hts gl_areTasksRight_X8_ofScope rfl rfl rfl (by decide +kernel) ⟨Nat.le_of_ble_eq_true rfl, Nat.le_of_ble_eq_true rfl⟩) hKb hP hD hS hA 209 w_tp rfl hl.1 rfl rfl (Nat.le_of_ble_eq_true rfl) ⟨Nat.le_of_ble_eq_true rfl, Nat.le_of_ble_eq_true rfl⟩ dL_areTasksRight_431 (fun r _ H locs hw hP hD hS => ?_)
                                                      obtain rfl : r = 1 := hw.trans s1
                                                      refine lv_iconst (v := 2) hx hb dL_areTasksRight_434 (by decide) ?_
                                                      refine lv_icmp_ne (tgt := 446) hx hb dL_areTasksRight_435 (by decide) (fun c_435_371 => ?_) (fun c_435_371 => ?_)
                                                      · skip
                                                        refine lv_iinc (v := (nI (k + 1))) (lv' := [(5, .int (nI (k + 1))), (9, .int (-1)), (8, .int 0), (7, .int (-1)), (6, .int 4), (0, .ref tp), (1, .ref oq), (2, .ref q1), (3, .ref q3), (4, .ref q5)]) hx hb dL_areTasksRight_446 hl (k := 9) rfl (show (nI k) + 1 = (nI (k + 1)) from nI_1 k) (by decide) rfl (fun ls hl => ?_)
                                                        refine lv_goto (tgt := 107) hx hb dL_areTasksRight_449 (by decide) ?_
                                                        exact ih n (Nat.lt_succ_self n) H locs ls ⟨(k + 1), f342, g, R343, ⟨by omega, st_upd e0 (by decide) hf ef342, hg.up, eR343⟩, hP, hD, hS, lv_sub hl [5, 6, 7, 8, 9, 0] rfl⟩
                                                      · exact absurd c_435_371 (by decide)
                                                · exact absurd ((nI_ltI (a := q4) (b := S) (by omega) (by omega)).mpr (by omega)) c_390_368
                                              · skip
                                                refine lv_aload_n hx hb dL_areTasksRight_377 rfl (lv_at hl 4 rfl) ?_
                                                refine lv_iload hx hb dL_areTasksRight_378 (lv_at hl 9 rfl) ?_
                                                refine lv_iconst (v := 4) hx hb dL_areTasksRight_380 (by decide) ?_
                                                refine x_Vi (As := [.int (nI k), .int 4]) (rest0 := []) ⟨hx, hb, hml, hown, hts⟩ (c_X8_ofTask l D cA ad (tr ++ [(cN, .boolean)]) R343 H.size τ pd π bd tp ρ h102 (nI k) 4 (nI_pos (by omega)) (by rw [h.1.1.2.2.1]; exact (nI_ltI (by omega) (by omega)).mpr (by omega)) (by decide) (by decide)) (cwV 2 hts gl_areTasksRight_X8_ofTask rfl rfl rfl (by decide +kernel) ⟨Nat.le_of_ble_eq_true rfl, Nat.le_of_ble_eq_true rfl⟩) hKb hP hD hS hA 209 w_tp rfl hl.1 rfl rfl (Nat.le_of_ble_eq_true rfl) ⟨Nat.le_of_ble_eq_true rfl, Nat.le_of_ble_eq_true rfl⟩ dL_areTasksRight_381 (fun r _ H locs hw hP hD hS => ?_)
                                                obtain rfl : r = (nI q4) := hw.trans c4
                                                refine lv_aload_n hx hb dL_areTasksRight_384 rfl (lv_at hl 4 rfl) ?_
                                                refine lv_bipush (v := 7) hx hb dL_areTasksRight_385 (by decide) ?_
                                                refine x_Vi (As := [.int 7]) (rest0 := [.int (nI q4)]) ⟨hx, hb, hml, hown, hts⟩ (c_X8_many l D cA ad (tr ++ [(cN, .boolean)]) R343 H.size τ pd π bd tp ρ h102 7 (by decide) (by decide)) (cwV 1 hts gl_areTasksRight_X8_many rfl rfl rfl (by decide +kernel) ⟨Nat.le_of_ble_eq_true rfl, Nat.le_of_ble_eq_true rfl⟩) hKb hP hD hS hA 209 w_tp rfl hl.1 rfl rfl (Nat.le_of_ble_eq_true rfl) ⟨Nat.le_of_ble_eq_true rfl, Nat.le_of_ble_eq_true rfl⟩ dL_areTasksRight_387 (fun r _ H locs hw hP hD hS => ?_)
                                                obtain rfl : r = (nI S) := hw.trans (many_7 h.1.1)
                                                refine lv_icmp_lt (tgt := 395) hx hb dL_areTasksRight_390 (by decide) (fun c_390_372 => ?_) (fun c_390_372 => ?_)
                                                · skip
                                                  refine lv_aload_n hx hb dL_areTasksRight_395 rfl (lv_at hl 4 rfl) ?_
                                                  refine lv_iload hx hb dL_areTasksRight_396 (lv_at hl 9 rfl) ?_
                                                  refine lv_iconst (v := 4) hx hb dL_areTasksRight_398 (by decide) ?_
                                                  refine x_Vi (As := [.int (nI k), .int 4]) (rest0 := []) ⟨hx, hb, hml, hown, hts⟩ (c_X8_ofTask l D cA ad (tr ++ [(cN, .boolean)]) R343 H.size τ pd π bd tp ρ h102 (nI k) 4 (nI_pos (by omega)) (by rw [h.1.1.2.2.1]; exact (nI_ltI (by omega) (by omega)).mpr (by omega)) (by decide) (by decide)) (cwV 2 hts gl_areTasksRight_X8_ofTask rfl rfl rfl (by decide +kernel) ⟨Nat.le_of_ble_eq_true rfl, Nat.le_of_ble_eq_true rfl⟩) hKb hP hD hS hA 209 w_tp rfl hl.1 rfl rfl (Nat.le_of_ble_eq_true rfl) ⟨Nat.le_of_ble_eq_true rfl, Nat.le_of_ble_eq_true rfl⟩ dL_areTasksRight_399 (fun r _ H locs hw hP hD hS => ?_)
                                                  obtain rfl : r = (nI q4) := hw.trans c4
                                                  refine lv_if_lt (tgt := 446) hx hb dL_areTasksRight_402 (by decide) (fun c_402_373 => ?_) (fun c_402_373 => ?_)
                                                  · exact absurd ((nI_ltI (a := q4) (b := 0) (by omega) (by omega)).mp c_402_373) (by omega)
                                                  · skip
                                                    refine lv_aload_n hx hb dL_areTasksRight_405 rfl (lv_at hl 4 rfl) ?_
                                                    refine lv_aload_n hx hb dL_areTasksRight_406 rfl (lv_at hl 4 rfl) ?_
                                                    refine lv_iload hx hb dL_areTasksRight_407 (lv_at hl 9 rfl) ?_
                                                    refine lv_iconst (v := 4) hx hb dL_areTasksRight_409 (by decide) ?_
                                                    refine x_Vi (As := [.int (nI k), .int 4]) (rest0 := [.ref tp]) ⟨hx, hb, hml, hown, hts⟩ (c_X8_ofTask l D cA ad (tr ++ [(cN, .boolean)]) R343 H.size τ pd π bd tp ρ h102 (nI k) 4 (nI_pos (by omega)) (by rw [h.1.1.2.2.1]; exact (nI_ltI (by omega) (by omega)).mpr (by omega)) (by decide) (by decide)) (cwV 2 hts gl_areTasksRight_X8_ofTask rfl rfl rfl (by decide +kernel) ⟨Nat.le_of_ble_eq_true rfl, Nat.le_of_ble_eq_true rfl⟩) hKb hP hD hS hA 209 w_tp rfl hl.1 rfl rfl (Nat.le_of_ble_eq_true rfl) ⟨Nat.le_of_ble_eq_true rfl, Nat.le_of_ble_eq_true rfl⟩ dL_areTasksRight_410 (fun r _ H locs hw hP hD hS => ?_)
                                                    obtain rfl : r = (nI q4) := hw.trans c4
                                                    refine lv_iconst (v := 0) hx hb dL_areTasksRight_413 (by decide) ?_
                                                    refine x_Vi (As := [.int (nI q4), .int 0]) (rest0 := []) ⟨hx, hb, hml, hown, hts⟩ (c_X8_ofScope l D cA ad (tr ++ [(cN, .boolean)]) R343 H.size τ pd π bd tp ρ h102 (nI q4) 0 (nI_pos (by omega)) (by rw [h.1.1.2.2.2.1]; exact (nI_ltI (by omega) (by omega)).mpr (by omega)) (by decide) (by decide)) (cwV 2 hts gl_areTasksRight_X8_ofScope rfl rfl rfl (by decide +kernel) ⟨Nat.le_of_ble_eq_true rfl, Nat.le_of_ble_eq_true rfl⟩) hKb hP hD hS hA 209 w_tp rfl hl.1 rfl rfl (Nat.le_of_ble_eq_true rfl) ⟨Nat.le_of_ble_eq_true rfl, Nat.le_of_ble_eq_true rfl⟩ dL_areTasksRight_414 (fun r _ H locs hw hP hD hS => ?_)
                                                    obtain rfl : r = (nI o4) := hw.trans s0
                                                    refine lv_iload hx hb dL_areTasksRight_417 (lv_at hl 9 rfl) ?_
                                                    refine lv_icmp_ge (tgt := 444) hx hb dL_areTasksRight_419 (by decide) (fun c_419_374 => ?_) (fun c_419_374 => ?_)
                                                    · exact absurd ((nI_leI (a := k) (b := o4) (by omega) (by omega)).mp c_419_374) (by omega)
                                                    · skip
                                                      refine lv_aload_n hx hb dL_areTasksRight_422 rfl (lv_at hl 4 rfl) ?_
                                                      refine lv_aload_n hx hb dL_areTasksRight_423 rfl (lv_at hl 4 rfl) ?_
                                                      refine lv_iload hx hb dL_areTasksRight_424 (lv_at hl 9 rfl) ?_
                                                      refine lv_iconst (v := 4) hx hb dL_areTasksRight_426 (by decide) ?_
                                                      refine x_Vi (As := [.int (nI k), .int 4]) (rest0 := [.ref tp]) ⟨hx, hb, hml, hown, hts⟩ (c_X8_ofTask l D cA ad (tr ++ [(cN, .boolean)]) R343 H.size τ pd π bd tp ρ h102 (nI k) 4 (nI_pos (by omega)) (by rw [h.1.1.2.2.1]; exact (nI_ltI (by omega) (by omega)).mpr (by omega)) (by decide) (by decide)) (cwV 2 hts gl_areTasksRight_X8_ofTask rfl rfl rfl (by decide +kernel) ⟨Nat.le_of_ble_eq_true rfl, Nat.le_of_ble_eq_true rfl⟩) hKb hP hD hS hA 209 w_tp rfl hl.1 rfl rfl (Nat.le_of_ble_eq_true rfl) ⟨Nat.le_of_ble_eq_true rfl, Nat.le_of_ble_eq_true rfl⟩ dL_areTasksRight_427 (fun r _ H locs hw hP hD hS => ?_)
                                                      obtain rfl : r = (nI q4) := hw.trans c4
                                                      refine lv_iconst (v := 1) hx hb dL_areTasksRight_430 (by decide) ?_
                                                      refine x_Vi (As := [.int (nI q4), .int 1]) (rest0 := []) ⟨hx, hb, hml, hown, hts⟩ (c_X8_ofScope l D cA ad (tr ++ [(cN, .boolean)]) R343 H.size τ pd π bd tp ρ h102 (nI q4) 1 (nI_pos (by omega)) (by rw [h.1.1.2.2.2.1]; exact (nI_ltI (by omega) (by omega)).mpr (by omega)) (by decide) (by decide)) (cwV 2 hts gl_areTasksRight_X8_ofScope rfl rfl rfl (by decide +kernel) ⟨Nat.le_of_ble_eq_true rfl, Nat.le_of_ble_eq_true rfl⟩) hKb hP hD hS hA 209 w_tp rfl hl.1 rfl rfl (Nat.le_of_ble_eq_true rfl) ⟨Nat.le_of_ble_eq_true rfl, Nat.le_of_ble_eq_true rfl⟩ dL_areTasksRight_431 (fun r _ H locs hw hP hD hS => ?_)
                                                      obtain rfl : r = 2 := hw.trans s1
                                                      refine lv_iconst (v := 2) hx hb dL_areTasksRight_434 (by decide) ?_
                                                      refine lv_icmp_ne (tgt := 446) hx hb dL_areTasksRight_435 (by decide) (fun c_435_375 => ?_) (fun c_435_375 => ?_)
                                                      · exact absurd c_435_375 (by decide)
                                                      · skip
                                                        refine lv_iload hx hb dL_areTasksRight_438 (lv_at hl 3 rfl) ?_
                                                        refine lv_iconst (v := 2) hx hb dL_areTasksRight_440 (by decide) ?_
                                                        refine lv_icmp_ge (tgt := 446) hx hb dL_areTasksRight_441 (by decide) (fun c_441_376 => ?_) (fun c_441_376 => ?_)
                                                        · skip
                                                          refine lv_iinc (v := (nI (k + 1))) (lv' := [(5, .int (nI (k + 1))), (9, .int (-1)), (8, .int 0), (7, .int (-1)), (6, .int 4), (0, .ref tp), (1, .ref oq), (2, .ref q1), (3, .ref q3), (4, .ref q5)]) hx hb dL_areTasksRight_446 hl (k := 9) rfl (show (nI k) + 1 = (nI (k + 1)) from nI_1 k) (by decide) rfl (fun ls hl => ?_)
                                                          refine lv_goto (tgt := 107) hx hb dL_areTasksRight_449 (by decide) ?_
                                                          exact ih n (Nat.lt_succ_self n) H locs ls ⟨(k + 1), f342, g, R343, ⟨by omega, st_upd e0 (by decide) hf ef342, hg.up, eR343⟩, hP, hD, hS, lv_sub hl [5, 6, 7, 8, 9, 0] rfl⟩
                                                        · exact absurd c_441_376 (by decide)
                                                · exact absurd ((nI_ltI (a := q4) (b := S) (by omega) (by omega)).mpr (by omega)) c_390_372
                                        · exact absurd c_348_360 (by decide)
                                      · exact absurd c_297_359 (by decide)
                                    · exact absurd c_287_358 (by decide)
                                  · exact absurd c_280_357 (by decide)
                    · exact absurd c_221_350 (by decide)
                  · exact absurd c_210_349 (by decide)
                · exact absurd c_198_348 (by decide)
          · exact absurd c_175_345 (by decide)
        · exact absurd c_165_344 (by decide)
