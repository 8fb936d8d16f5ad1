/-! the law's Own: isLine -/
theorem oW_setL {c0 c2 c3 : ClassId} {oq la sq : Nat} {b : Int32} {lb : Nat → Nat} {LA : Nat → Nat → Option Nat} {z : Nat → Int32} {X : va_W} {i : Nat} (hi : i < 8) (g : Nat → Option Nat) : (oW c0 c2 c3 oq la sq b lb LA z ++ X).set (i + 2) (lb i, .inl (c2, 12, .inr (.inr (.inr (.inr g))))) = oW c0 c2 c3 oq la sq b lb (fun j => if j = i then g else LA j) z ++ X := by
  rcases (show i = 0 ∨ i = 1 ∨ i = 2 ∨ i = 3 ∨ i = 4 ∨ i = 5 ∨ i = 6 ∨ i = 7 by omega) with h | h | h | h | h | h | h | h <;> subst h <;> rfl
theorem oW_setS {c0 c2 c3 : ClassId} {oq la sq : Nat} {b : Int32} {lb : Nat → Nat} {LA : Nat → Nat → Option Nat} {z y : Nat → Int32} {X : va_W} : (oW c0 c2 c3 oq la sq b lb LA z ++ X).set 10 (sq, .inl (c0, 8, .inl y)) = oW c0 c2 c3 oq la sq b lb LA y ++ X := rfl
theorem OI.line {c0 c2 c3 : ClassId} {oq la sq : Nat} {lb : Nat → Nat} {kc : Nat × va_E} {π : Sg} {B b n q : Nat} {LA : Nat → Nat → Option Nat} {z f : Nat → Int32} {r2 : va_W} {k a c : Int32} (h2 : IP π B) (h3 : ∀ i, i < 8 → z i = π 1 i) (h4 : ∀ i, B ≤ i → i < 8 → π 1 i = 0) (h5 : ∀ i, i < 8 → ∀ j, j < 12 → nI j < π 1 i → ∃ (q k : Nat) (f : Nat → Int32), LA i j = some q ∧ (kc :: r2)[k]? = some (q, .inl (c0, 3, .inl f)) ∧ f 0 = π 2 (i * 12 + j))
    (h6 : PB π) (hb : b < B) (hn : n < 12) (h1 : π 1 b = nI n) (hf : m_fits k a c (nI n) = true) (hf0 : f 0 = k) : OI c0 c2 c3 oq la sq lb kc (m_addLine π (nI b) k a c) B (oW c0 c2 c3 oq la sq (nI B) lb (fun j => if j = b then va_up (LA b) n (some q) else LA j) (upd z b (nI (n + 1))) ++ (kc :: (r2 ++ [(q, .inl (c0, 3, .inl f))]))) ∧ m_addLine π (nI b) k a c 1 b = nI (n + 1) := by
  have hb8 : b < 8 := by have := h2.2.1; omega
  have hip := ip_line h2 hb8 hn h1 hf
  rw [addLine_eq hb8 hn h1] at hip ⊢
  have e1 : ∀ i, up2 (up2 (up2 (up2 π 2 (b * 12 + n) k) 3 (b * 12 + n) a) 4 (b * 12 + n) c) 1 b (nI (n + 1)) 1 i = if i = b then nI (n + 1) else π 1 i := fun i => by
    rw [up2_k]
    show (if i = b then _ else _) = _
    by_cases c1 : i = b
    · rw [if_pos c1, if_pos c1]
    · rw [if_neg c1, if_neg c1, up2_ne (by decide), up2_ne (by decide), up2_ne (by decide)]
  have e2 : ∀ i, up2 (up2 (up2 (up2 π 2 (b * 12 + n) k) 3 (b * 12 + n) a) 4 (b * 12 + n) c) 1 b (nI (n + 1)) 2 i = if i = b * 12 + n then k else π 2 i := fun i => by
    rw [up2_ne (by decide), up2_ne (by decide), up2_ne (by decide), up2_k]; rfl
  refine ⟨⟨_, _, _, rfl, hip, fun i hi => ?_, fun i hi hi8 => ?_, fun i hi j hj hz => ?_, fun i => ?_⟩, by rw [e1, if_pos rfl]⟩
  · rw [e1]
    by_cases c1 : i = b
    · rw [if_pos c1]; exact if_pos c1
    · rw [if_neg c1, ← h3 i hi]; exact if_neg c1
  · rw [e1, if_neg (by omega)]; exact h4 i hi hi8
  · rw [e1] at hz
    rw [e2]
    by_cases c1 : i = b
    · rw [if_pos c1] at hz
      subst c1
      have hj1 := (nI_ltI (by omega) (by omega)).mp hz
      by_cases c2 : j = n
      · subst c2
        refine ⟨q, r2.length + 1, f, by rw [if_pos rfl]; exact if_pos rfl, ?_, by rw [if_pos rfl]; exact hf0⟩
        show (r2 ++ [_])[r2.length]? = _
        rw [List.getElem?_append_right (Nat.le_refl _), Nat.sub_self]; rfl
      · obtain ⟨q0, k0, f0, g1, g2, g3⟩ := h5 i hi j hj (by rw [h1]; exact (nI_ltI (by omega) (by omega)).mpr (by omega))
        refine ⟨q0, k0, f0, by rw [if_pos rfl, ← g1]; exact if_neg c2, ?_, by rw [if_neg (by omega)]; exact g3⟩
        show ((kc :: r2) ++ [_])[k0]? = _
        rw [List.getElem?_append_left (List.getElem?_eq_some_iff.mp g2).1]; exact g2
    · rw [if_neg c1] at hz
      obtain ⟨q0, k0, f0, g1, g2, g3⟩ := h5 i hi j hj hz
      refine ⟨q0, k0, f0, by rw [if_neg c1]; exact g1, ?_, by rw [if_neg (by omega)]; exact g3⟩
      show ((kc :: r2) ++ [_])[k0]? = _
      rw [List.getElem?_append_left (List.getElem?_eq_some_iff.mp g2).1]; exact g2
  · rw [up2_ne (by decide), up2_ne (by decide), up2_k]
    by_cases c1 : i = b * 12 + n
    · rw [show upd _ (b * 12 + n) a i = a from if_pos c1]; exact bnd_fits hf
    · rw [show upd (up2 π 2 (b * 12 + n) k 3) (b * 12 + n) a i = up2 π 2 (b * 12 + n) k 3 i from if_neg c1, up2_ne (by decide)]; exact h6 i
theorem ty_at {cA : Nat → ClassId} {tr : List (ClassId × FieldType)} {j : Nat} {x : ClassId × FieldType} (h : tr[j]? = some x) : (tyB cA ++ tr)[j + 5]? = some x := by
  have := ty_old (cA := cA) (Y := []) h
  rw [List.append_nil] at this; exact this
/-- the class of the arrays of arrays: of which component -/
def AE (c2 c1 : ClassId) (U : State) : Prop := ∃ kA : Class, U.vm.classes[c2]? = some kA ∧ kA.kind = .array c1 (.array .int)
theorem AE.moved {c2 c1 : ClassId} {u U : State} (hvm : u.vm.Alike U.vm) (h : AE c2 c1 u) : AE c2 c1 U := by
  obtain ⟨kA, h1, h2⟩ := h
  obtain ⟨k', hk', he⟩ := hvm.2.2 _ _ h1
  exact ⟨k', hk', by rw [he]; exact h2⟩
theorem asg_refl (vm : Vm) (c : ClassId) : vm.assignable c c = true := by
  unfold Vm.assignable
  rw [show (256 : Nat) = 255 + 1 from rfl, Vm.assignableAux, beq_self_eq_true, Bool.true_or]
section XASTR
variable {p : Program} {l : Launch} {e : Env} {R : Room} {s : State} {m : MethodId} {args : Array Value} {below : List Frame} {meth : Method} {c : Code} {H : Heap} {locs : List Loc} {cells slots : Nat} {Q : State → Prop}
variable {cc : ByteArray} {pc : Nat} {ls : Array Slot} {rest : List Value} {D : va_G} {cl : List vw_C} {A : Nat → Prop} {a : Nat} {tys : List (ClassId × FieldType)} {ws : va_W} {H0 : Heap}
/-- an array of ints is laid into an array of arrays -/
theorem va_astr (hexec : p.tables.exec = Jvm.exec) (hb : c.code = cc) (hK : va_K D cl tys s) (hP : va_P D cl ws H) (hD : va_D A ws) (hS : va_S A H0 H locs) {c2 c1 : ClassId} (hE : AE c2 c1 s) (q0 t1 qk : Nat) {n n1 v : Nat} {f : Nat → Option Nat} {g : Nat → Int32} (ha : ws[q0]? = some (a, .inl (c2, n, .inr (.inr (.inr (.inr f)))))) (ht1 : tys[t1]? = some (c1, .int)) (hv : ws[qk]? = some (v, .inl (c1, n1, .inl g))) {i : Int32} (hin : vp_in i n) (hdg : decode cc pc = .ok (.aastore, 1))
    (kk : ∀ (H1 : Heap) (locs1 : List Loc), va_P D cl (ws.set q0 (a, .inl (c2, n, .inr (.inr (.inr (.inr (va_up f i.toNatClampNeg (some v)))))))) H1 → va_D A (ws.set q0 (a, .inl (c2, n, .inr (.inr (.inr (.inr (va_up f i.toNatClampNeg (some v)))))))) → va_S A H0 H1 locs1 → W p l e R s m args below meth c H1 locs1 cells slots Q (F0 m (pc + 1) ls rest)) : W p l e R s m args below meth c H locs cells slots Q (F0 m pc ls (.ref v :: .int i :: .ref a :: rest)) := by
  have hlt : i.toNatClampNeg < n := Nat.not_le.mp fun q => hin (Or.inr q)
  have h0 : ¬ i < 0 := fun q => hin (Or.inl q)
  obtain ⟨kA, k1, k2⟩ := hE
  obtain ⟨kC, hkC, -⟩ := Vm.findClass_spec (show s.vm.findClass ("[" ++ FieldType.int.toString) = some c1 from (hK.2 t1 _ ht1).2)
  refine W.aast (cv := vp_cell c1 (n1, .inl g)) hexec hb (hP q0 _ ha) (fun q h => by cases h) (fun h => by cases h) k1 k2 rfl hkC ⟨h0, by show _ < (arrV _ _ _).slots.size; rw [arrV_size]; exact hlt⟩ (hP qk _ hv) (fun q h => by cases h) hkC (asg_refl _ _) rfl rfl hdg fun H1 e z oq => ?_
  refine kk H1 _ (hP.set hD ha ?_ oq) (hD.set ha) (hS.put z oq (hD.2 q0 _ ha))
  show H1[a]? = some (vp_cell _ _)
  rw [e]
  rw [vp_cell_q, vp_cell_q, arrV_store]
  congr 2
  funext q
  by_cases hq : q = i.toNatClampNeg
  · subst hq
    simp [updV, va_up, va_rf]
  · simp [updV, va_up, hq]
end XASTR
set_option maxHeartbeats 4000000 in
set_option maxRecDepth 100000 in
theorem c_X9_isLine (l : Launch) (D : va_G) (cA : Nat → ClassId) (ad : Nat → Nat) (tr : List (ClassId × FieldType)) (R : va_W) (sz : Nat) (τ : Sg) (pd : Nat → Nat) (π : Sg) (bd : Nat → Nat) (tp : Nat) (ρ : Sg) (h102 : bd 102 = ad 102) (c2 c3 : ClassId) (oq la sq : Nat) (lb : Nat → Nat) (kc : Nat × va_E) (B : Nat) (j2 j3 : Nat) (ht2 : tr[j2]? = some (c2, .array .int)) (ht3 : tr[j3]? = some (c3, .array (.array .int))) (hO : OI (cA 0) c2 c3 oq la sq lb kc π B R) (b n : Nat) (kd a w : Int32) (hbB : b < B) (hnb : n < 2 ^ 31) (h1 : π 1 b = nI n) (hfit : n < 12 → m_fits kd a w (nI n) = true) (hUs : m_isUsed τ (nI b) = false) : Met l yX9_isLine wl_isLine ({ frames := 4, cells := 1, slots := 3, locals := 90 }) (va_Pc [.ref oq, .ref tp, .int (nI b), .int kd, .int a, .int w] (fun U => inW D (tyB cA ++ tr) (wB cA ad τ ++ (wPg cA ad pd π ++ (wB cA bd ρ ++ ((tp, .inr (8, tpF ad bd)) :: R)))) sz U ∧ AE c2 (cA 0) U)) (va_Qi (fun (r : Int32) (u : va_W × Sg) => r = 1 ∧ OI (cA 0) c2 c3 oq la sq lb kc u.2 B u.1 ∧ (n < 12 → u.2 1 b = nI (n + 1))) (fun u : va_W × Sg => outW D (tyB cA ++ tr) (va_A (wB cA ad τ ++ (wPg cA ad pd π ++ (wB cA bd ρ ++ ((tp, .inr (8, tpF ad bd)) :: R)))) sz) (wB cA ad τ ++ (wPg cA ad pd u.2 ++ (wB cA bd ρ ++ ((tp, .inr (8, tpF ad bd)) :: u.1))))) (va_A (wB cA ad τ ++ (wPg cA ad pd π ++ (wB cA bd ρ ++ ((tp, .inr (8, tpF ad bd)) :: R)))) sz)) 1 3 (va_A (wB cA ad τ ++ (wPg cA ad pd π ++ (wB cA bd ρ ++ ((tp, .inr (8, tpF ad bd)) :: R)))) sz) := by
  refine Met.ofW (cc := cX9_isLine) (maxL := 7) (ret := (some .boolean)) (by decide) rfl ?_
  intro p e s m args below meth c s₁ B9 hml hv
  obtain ⟨rfl, ⟨hsz, hP, hK, hD0⟩, hE⟩ := hv
  have hx := B9.exec
  have hb := B9.bytes
  have hr := B9.returns
  have hts := atoms_spec (ws := wl_isLine) B9.pre
  have hown : s.vm.findClass RX9 = some m.cls := findClass_of_methodNamed B9.named
  have hlocks := B9.notSynchronized
  subst hsz
  have hD := hD0.self (sz := s.heap.size)
  clear hD0
  generalize hAe : va_A (wB cA ad τ ++ (wPg cA ad pd π ++ (wB cA bd ρ ++ ((tp, .inr (8, tpF ad bd)) :: R)))) s.heap.size = A at hD ⊢
  have hA : ∀ q : Nat, s.heap.size ≤ q → A q := fun q h => by rw [← hAe]; exact Or.inr h
  clear hAe
  have hS : va_S A s.heap s.heap [] := va_S.rf
  have hP : va_P D vwCl (wB cA ad τ ++ (wPg cA ad pd π ++ (wB cA bd ρ ++ ((tp, .inr (8, tpF ad bd)) :: R)))) s.heap := hP
  have hl := lv_entry ([.ref oq, .ref tp, .int (nI b), .int kd, .int a, .int w]) (n := 7) (Nat.le_of_ble_eq_true rfl)
  rw [lg_entry_eq]
  generalize (lg_sl ([.ref oq, .ref tp, .int (nI b), .int kd, .int a, .int w]) ++ List.replicate (7 - (lg_sl ([.ref oq, .ref tp, .int (nI b), .int kd, .int a, .int w])).length) Slot.unset).toArray = ls at hl ⊢
  have hl : lv_has ls 7 [(0, .ref oq), (1, .ref tp), (2, .int (nI b)), (3, .int kd), (4, .int a), (5, .int w)] := hl
  obtain ⟨LA, z, r2, hR, hIP, hz, h0z, hLn, hPB⟩ := id hO
  have hb8 : b < 8 := by have := hIP.2.1; omega
  have k14 := hts (.fieldLink RX9 14 "ScopeRowLaw$Own" "size" "[I") (by decide +kernel)
  have k9 := hts (.fieldLink RX9 9 "ScopeRowLaw$Own" "lines" "[[[I") (by decide +kernel)
  refine lv_aload_n hx hb dX9_isLine_0 rfl (lv_at hl 0 rfl) ?_
  refine va_get (D := D) (C := RX9) (T := TX9) (N := 3) (ci := 9) (v := .ref sq) hx hb hts nl_isLine_X9 hown hK hP (0 + 210) (by rw [wL_at]; exact own0 hR) rfl 1 (by decide) k14 (fun _ h9 => h9) rfl dX9_isLine_1 ?_
  refine lv_iload_n hx hb dX9_isLine_4 rfl (lv_at hl 2 rfl) ?_
  refine va_iald hx hb hK hP (10 + 210) 0 (by rw [wL_at]; exact ownS hR) rfl (vp_in_nI hb8 (by decide)) dX9_isLine_5 ?_
  refine W.eq (g2 := F0 m 6 ls [.int (nI n)]) (by rw [nI_clamp (show b < 2 ^ 31 by omega), hz b hb8, h1]) ?_
  refine lv_bipush (v := 12) hx hb dX9_isLine_6 (by decide) ?_
  refine lv_icmp_ne (tgt := 13) hx hb dX9_isLine_8 (by decide) (fun c1 => ?_) (fun c1 => ?_)
  · have hn12 : n < 12 := by
      have h12 : n ≤ 12 := by obtain ⟨n0, g1, g2⟩ := hIP.2.2.1 b hb8; rw [h1] at g2; have := nI_inj hnb (by omega) g2; omega
      have : n ≠ 12 := fun z => c1 (by rw [z]; rfl)
      omega
    have hf := hfit hn12
    refine lv_iconst (v := 3) hx hb dX9_isLine_13 (by decide) ?_
    refine va_newa (atype := .int) (ty := .int) (N' := 3) (a0 := (3, .inl (fun _ => 0))) hx hb (hts (.arrayClass .int) (by decide +kernel)) rfl hK hP hD hS hA (fun _ => rfl) (by decide) (by decide) (Nat.le_of_ble_eq_true rfl) (Nat.le_of_ble_eq_true rfl) (Nat.le_of_ble_eq_true rfl) dX9_isLine_14 (fun q cN H hKn hP hD hS => ?_)
    obtain rfl : cN = cA 0 := cA_int hKn rfl
    clear hKn
    rw [wL_app] at hP hD
    obtain ⟨f0, ef0⟩ : ∃ z : Nat → Int32, z = (fun _ => 0) := ⟨_, rfl⟩
    obtain ⟨R0, eR0⟩ : ∃ z : va_W, z = R ++ [(q, .inl (cA 0, 3, .inl f0))] := ⟨_, rfl⟩
    have hP : va_P D vwCl (wB cA ad τ ++ (wPg cA ad pd π ++ (wB cA bd ρ ++ ((tp, .inr (8, tpF ad bd)) :: R0)))) H := by rw [eR0, ef0]; exact hP
    have hD : va_D A (wB cA ad τ ++ (wPg cA ad pd π ++ (wB cA bd ρ ++ ((tp, .inr (8, tpF ad bd)) :: R0)))) := by rw [eR0, ef0]; exact hD
    refine W.widen (k := 1) (n := 3) (by omega) (by omega) ?_
    refine lv_dup hx hb dX9_isLine_16 rfl ?_
    refine lv_iconst (v := 0) hx hb dX9_isLine_17 (by decide) ?_
    refine lv_iload_n hx hb dX9_isLine_18 rfl (lv_at hl 3 rfl) ?_
    refine va_iast hx hb hK hP hD hS (0 + R.length + 210) 0 (wNewR eR0 rfl) rfl (by unfold vp_in; decide) dX9_isLine_19 (fun H locs hP hD hS => ?_)
    rw [wNewSR eR0] at hP hD
    obtain ⟨f1, ef1⟩ : ∃ z : Nat → Int32, z = upd f0 0 kd := ⟨_, rfl⟩
    obtain ⟨R1, eR1⟩ : ∃ z : va_W, z = R ++ [(q, .inl (cA 0, 3, .inl f1))] := ⟨_, rfl⟩
    have hP : va_P D vwCl (wB cA ad τ ++ (wPg cA ad pd π ++ (wB cA bd ρ ++ ((tp, .inr (8, tpF ad bd)) :: R1)))) H := by rw [eR1, ef1]; exact hP
    have hD : va_D A (wB cA ad τ ++ (wPg cA ad pd π ++ (wB cA bd ρ ++ ((tp, .inr (8, tpF ad bd)) :: R1)))) := by rw [eR1, ef1]; exact hD
    refine lv_dup hx hb dX9_isLine_20 rfl ?_
    refine lv_iconst (v := 1) hx hb dX9_isLine_21 (by decide) ?_
    refine lv_iload hx hb dX9_isLine_22 (lv_at hl 4 rfl) ?_
    refine va_iast hx hb hK hP hD hS (0 + R.length + 210) 0 (wNewR eR1 rfl) rfl (by unfold vp_in; decide) dX9_isLine_24 (fun H locs hP hD hS => ?_)
    rw [wNewSR eR1] at hP hD
    obtain ⟨f2, ef2⟩ : ∃ z : Nat → Int32, z = upd f1 1 a := ⟨_, rfl⟩
    obtain ⟨R2, eR2⟩ : ∃ z : va_W, z = R ++ [(q, .inl (cA 0, 3, .inl f2))] := ⟨_, rfl⟩
    have hP : va_P D vwCl (wB cA ad τ ++ (wPg cA ad pd π ++ (wB cA bd ρ ++ ((tp, .inr (8, tpF ad bd)) :: R2)))) H := by rw [eR2, ef2]; exact hP
    have hD : va_D A (wB cA ad τ ++ (wPg cA ad pd π ++ (wB cA bd ρ ++ ((tp, .inr (8, tpF ad bd)) :: R2)))) := by rw [eR2, ef2]; exact hD
    refine lv_dup hx hb dX9_isLine_25 rfl ?_
    refine lv_iconst (v := 2) hx hb dX9_isLine_26 (by decide) ?_
    refine lv_iload hx hb dX9_isLine_27 (lv_at hl 5 rfl) ?_
    refine va_iast hx hb hK hP hD hS (0 + R.length + 210) 0 (wNewR eR2 rfl) rfl (by unfold vp_in; decide) dX9_isLine_29 (fun H locs hP hD hS => ?_)
    rw [wNewSR eR2] at hP hD
    obtain ⟨f3, ef3⟩ : ∃ z : Nat → Int32, z = upd f2 2 w := ⟨_, rfl⟩
    obtain ⟨R3, eR3⟩ : ∃ z : va_W, z = R ++ [(q, .inl (cA 0, 3, .inl f3))] := ⟨_, rfl⟩
    have hP : va_P D vwCl (wB cA ad τ ++ (wPg cA ad pd π ++ (wB cA bd ρ ++ ((tp, .inr (8, tpF ad bd)) :: R3)))) H := by rw [eR3, ef3]; exact hP
    have hD : va_D A (wB cA ad τ ++ (wPg cA ad pd π ++ (wB cA bd ρ ++ ((tp, .inr (8, tpF ad bd)) :: R3)))) := by rw [eR3, ef3]; exact hD
    have hf0 : f3 0 = kd := by rw [ef3, ef2, ef1]; rfl
    refine lv_astore (lv' := [(6, .ref q), (0, .ref oq), (1, .ref tp), (2, .int (nI b)), (3, .int kd), (4, .int a), (5, .int w)]) hx hb dX9_isLine_30 hl (by decide) rfl (fun ls hl => ?_)
    refine lv_aload_n hx hb dX9_isLine_32 rfl (lv_at hl 1 rfl) ?_
    refine va_get (D := D) (C := RX9) (T := TX9) (N := 3) (ci := 9) (v := .ref la) hx hb hts nl_isLine_X9 hown hK hP (0 + 210) (wOldR eR3 (own0 hR)) rfl 0 (by decide) k9 (fun _ h9 => h9) rfl dX9_isLine_33 ?_
    refine lv_iload_n hx hb dX9_isLine_36 rfl (lv_at hl 3 rfl) ?_
    refine va_aldr hx hb hK hP (1 + 210) (j3 + 5) (wOldR eR3 (own1 hR)) (ty_at ht3) (vp_in_nI hb8 (by decide)) dX9_isLine_37 ?_
    refine W.eq (g2 := F0 m 38 ls [.ref (lb b)]) (by rw [nI_clamp (show b < 2 ^ 31 by omega)]; show F0 m _ ls (va_rf (rf8 lb b) :: _) = _; rw [rf8_at hb8]; rfl) ?_
    refine lv_aload_n hx hb dX9_isLine_38 rfl (lv_at hl 1 rfl) ?_
    refine va_get (D := D) (C := RX9) (T := TX9) (N := 3) (ci := 9) (v := .ref sq) hx hb hts nl_isLine_X9 hown hK hP (0 + 210) (wOldR eR3 (own0 hR)) rfl 1 (by decide) k14 (fun _ h9 => h9) rfl dX9_isLine_39 ?_
    refine lv_iload_n hx hb dX9_isLine_42 rfl (lv_at hl 3 rfl) ?_
    refine va_iald hx hb hK hP (10 + 210) 0 (wOldR eR3 (ownS hR)) rfl (vp_in_nI hb8 (by decide)) dX9_isLine_43 ?_
    refine W.eq (g2 := F0 m 44 ls [.int (nI n), .ref (lb b)]) (by rw [nI_clamp (show b < 2 ^ 31 by omega), hz b hb8, h1]) ?_
    refine lv_aload hx hb dX9_isLine_44 (lv_at hl 0 rfl) ?_
    refine va_astr hx hb hK hP hD hS hE (b + 2 + 210) 0 (0 + R.length + 210) (wOldR eR3 (ownI hR hb8)) rfl (wNewR eR3 rfl) (vp_in_nI hn12 (by decide)) dX9_isLine_46 (fun H locs hP hD hS => ?_)
    rw [wL_set, nI_clamp (show n < 2 ^ 31 by omega), eR3, hR, List.append_assoc, oW_setL hb8] at hP hD
    obtain ⟨R4, eR4⟩ : ∃ z9 : va_W, z9 = oW (cA 0) c2 c3 oq la sq (nI B) lb (fun j => if j = b then va_up (LA b) n (some q) else LA j) z ++ ((kc :: r2) ++ [(q, .inl (cA 0, 3, .inl f3))]) := ⟨_, rfl⟩
    rw [← eR4] at hP hD
    refine lv_aload_n hx hb dX9_isLine_47 rfl (lv_at hl 1 rfl) ?_
    refine va_get (D := D) (C := RX9) (T := TX9) (N := 3) (ci := 9) (v := .ref sq) hx hb hts nl_isLine_X9 hown hK hP (0 + 210) (by rw [wL_at]; exact own0 eR4) rfl 1 (by decide) k14 (fun _ h9 => h9) rfl dX9_isLine_48 ?_
    refine lv_iload_n hx hb dX9_isLine_51 rfl (lv_at hl 3 rfl) ?_
    refine lv_dup2_11 hx hb dX9_isLine_52 rfl rfl ?_
    refine va_iald hx hb hK hP (10 + 210) 0 (by rw [wL_at]; exact ownS eR4) rfl (vp_in_nI hb8 (by decide)) dX9_isLine_53 ?_
    refine W.eq (g2 := F0 m 54 ls [.int (nI n), .int (nI b), .ref sq]) (by rw [nI_clamp (show b < 2 ^ 31 by omega), hz b hb8, h1]) ?_
    refine lv_iconst (v := 1) hx hb dX9_isLine_54 (by decide) ?_
    refine lv_iadd hx hb dX9_isLine_55 ?_
    refine W.eq (g2 := F0 m 56 ls [.int (nI (n + 1)), .int (nI b), .ref sq]) (by rw [show nI n + 1 = nI (n + 1) from nI_1 n]) ?_
    refine va_iast hx hb hK hP hD hS (10 + 210) 0 (by rw [wL_at]; exact ownS eR4) rfl (vp_in_nI hb8 (by decide)) dX9_isLine_56 (fun H locs hP hD hS => ?_)
    rw [wL_set, nI_clamp (show b < 2 ^ 31 by omega), eR4, oW_setS] at hP hD
    have hO1 := OI.line (q := q) (LA := LA) (z := z) (f := f3) (r2 := r2) (c0 := cA 0) (c2 := c2) (c3 := c3) (oq := oq) (la := la) (sq := sq) (lb := lb) (kc := kc) (a := a) (c := w) hIP hz h0z hLn hPB hbB hn12 h1 hf hf0
    obtain ⟨R5, eR5⟩ : ∃ z9 : va_W, z9 = oW (cA 0) c2 c3 oq la sq (nI B) lb (fun j => if j = b then va_up (LA b) n (some q) else LA j) (upd z b (nI (n + 1))) ++ (kc :: (r2 ++ [(q, .inl (cA 0, 3, .inl f3))])) := ⟨_, rfl⟩
    rw [← eR5] at hO1
    have hP : va_P D vwCl (wB cA ad τ ++ (wPg cA ad pd π ++ (wB cA bd ρ ++ ((tp, .inr (8, tpF ad bd)) :: R5)))) H := by rw [eR5]; exact hP
    have hD : va_D A (wB cA ad τ ++ (wPg cA ad pd π ++ (wB cA bd ρ ++ ((tp, .inr (8, tpF ad bd)) :: R5)))) := by rw [eR5]; exact hD
    have hln : m_linesOf π (nI b) = nI n := (linesOf_nI hb8).trans h1
    refine lv_aload_n hx hb dX9_isLine_57 rfl (lv_at hl 2 rfl) ?_
    refine lv_iload_n hx hb dX9_isLine_58 rfl (lv_at hl 3 rfl) ?_
    refine lv_iload_n hx hb dX9_isLine_59 rfl (lv_at hl 4 rfl) ?_
    refine lv_iload hx hb dX9_isLine_60 (lv_at hl 5 rfl) ?_
    refine lv_iload hx hb dX9_isLine_62 (lv_at hl 6 rfl) ?_
    refine x_Vi (As := [.int (nI b), .int kd, .int a, .int w]) (rest0 := []) ⟨hx, hb, hml, hown, hts⟩ (c_X8_line l D cA ad tr R5 H.size τ pd π bd tp ρ h102 (nI b) kd a w (nI_pos (by omega)) (by rw [hIP.1]; exact (nI_ltI (by omega) (by have := hIP.2.1; omega)).mpr hbB) (by rw [hln]; exact hf) (by rw [hln]; exact fun z9 => by have := (nI_leI (a := 12) (by decide) (by omega)).mp z9; omega) hUs) (cwV 4 hts gl_isLine_X8_line rfl rfl rfl (by decide +kernel) ⟨Nat.le_of_ble_eq_true rfl, Nat.le_of_ble_eq_true rfl⟩) hK hP hD hS hA 209 w_tp rfl hl.1 rfl rfl (Nat.le_of_ble_eq_true rfl) ⟨Nat.le_of_ble_eq_true rfl, Nat.le_of_ble_eq_true rfl⟩ dX9_isLine_64 (fun r π1 H locs hw hP hD hS => ?_)
    obtain ⟨er, eπ1⟩ := hw
    rw [hln] at er
    subst er
    refine lv_aload_n hx hb dX9_isLine_67 rfl (lv_at hl 1 rfl) ?_
    refine va_get (D := D) (C := RX9) (T := TX9) (N := 3) (ci := 9) (v := .ref sq) hx hb hts nl_isLine_X9 hown hK hP (0 + 210) (by rw [wL_at]; exact own0 eR5) rfl 1 (by decide) k14 (fun _ h9 => h9) rfl dX9_isLine_68 ?_
    refine lv_iload_n hx hb dX9_isLine_71 rfl (lv_at hl 3 rfl) ?_
    refine va_iald hx hb hK hP (10 + 210) 0 (by rw [wL_at]; exact ownS eR5) rfl (vp_in_nI hb8 (by decide)) dX9_isLine_72 ?_
    refine W.eq (g2 := F0 m 73 ls [.int (nI (n + 1)), .int (nI n)]) (by rw [nI_clamp (show b < 2 ^ 31 by omega)]; show F0 m _ ls (.int (upd z b (nI (n + 1)) b) :: _) = _; rw [show upd z b (nI (n + 1)) b = nI (n + 1) from if_pos rfl]) ?_
    refine lv_iconst (v := 1) hx hb dX9_isLine_73 (by decide) ?_
    refine lv_isub hx hb dX9_isLine_74 ?_
    refine lv_icmp_ne (tgt := 82) hx hb dX9_isLine_75 (by decide) (fun c1 => ?_) (fun c1 => ?_)
    · exact absurd (by rw [← nI_1]; exact (Int32.add_sub_cancel (nI n) 1).symm) c1
    refine lv_iconst (v := 1) hx hb dX9_isLine_78 (by decide) ?_
    refine lv_goto (tgt := 83) hx hb dX9_isLine_79 (by decide) ?_
    exact x_zret hx hb hr rfl hlocks hK (R5, π1) hP hD hS dX9_isLine_83 ⟨rfl, by rw [eπ1]; exact hO1.1, fun _ => by rw [eπ1]; exact hO1.2⟩
  · refine lv_iconst (v := 1) hx hb dX9_isLine_11 (by decide) ?_
    have h12 : n = 12 := nI_inj hnb (by decide) c1
    refine W.widen (k := 1) (n := 3) (by omega) (by omega) ?_
    exact x_zret hx hb hr rfl hlocks hK (R, π) hP hD hS dX9_isLine_12 ⟨rfl, hO, fun z9 => absurd z9 (by omega)⟩
