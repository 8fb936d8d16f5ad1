/-! Own(): the walk -/
theorem dX9_init_0 : decode cX9_init 0 = .ok (.aload_n 0, 1) := by decide +kernel
theorem dX9_init_1 : decode cX9_init 1 = .ok (.invokespecial 1, 3) := by decide +kernel
theorem dX9_init_4 : decode cX9_init 4 = .ok (.aload_n 0, 1) := by decide +kernel
theorem dX9_init_5 : decode cX9_init 5 = .ok (.bipush 8, 2) := by decide +kernel
theorem dX9_init_7 : decode cX9_init 7 = .ok (.bipush 12, 2) := by decide +kernel
theorem dX9_init_9 : decode cX9_init 9 = .ok (.multianewarray 7 2, 4) := by decide +kernel
theorem dX9_init_13 : decode cX9_init 13 = .ok (.putfield 9, 3) := by decide +kernel
theorem dX9_init_16 : decode cX9_init 16 = .ok (.aload_n 0, 1) := by decide +kernel
theorem dX9_init_17 : decode cX9_init 17 = .ok (.bipush 8, 2) := by decide +kernel
theorem dX9_init_19 : decode cX9_init 19 = .ok (.newarray .int, 2) := by decide +kernel
theorem dX9_init_21 : decode cX9_init 21 = .ok (.putfield 14, 3) := by decide +kernel
theorem dX9_init_24 : decode cX9_init 24 = .ok (.return_, 1) := by decide +kernel
noncomputable def wl_init9 : List Cond := .code yX9_init cX9_init 1 none :: ([.methodLink RX9 1 objectInit, .instanceMethod objectInit, .code objectInit ⟨#[0xb1]⟩ 1 none, .classLink RX9 7 "[[[I", .arrayClass .int, .fieldLink RX9 9 "ScopeRowLaw$Own" "lines" "[[[I", .fieldLink RX9 14 "ScopeRowLaw$Own" "size" "[I"] ++ (wsX90 ++ []))
theorem nl_init9_X9 : ∀ w ∈ u_ws RX9 TX9 3, w ∈ wl_init9 := mw_c (mw_r (mw_l (fun _ h => h)))
def EX9 (U : State) : Prop := va_AOA .int U ∧ va_AOA (.array .int) U
theorem EX9.call {U : State} {g : JFrame} {mk : MethodId} {a : Array Value} (h : EX9 U) : EX9 (U.calling g mk a) := ⟨va_AOA.moved (u := U) (U := U.calling g mk a) (Vm.Alike.refl U.vm) h.1, va_AOA.moved (u := U) (U := U.calling g mk a) (Vm.Alike.refl U.vm) h.2⟩
theorem EX9.warm {s U : State} (hW : s.WarmedH U.vm) (h : EX9 s) : EX9 U := ⟨va_AOA.moved hW.alike h.1, va_AOA.moved hW.alike h.2⟩
/-- what Own() makes behind the Own -/
def w9 (cA : Nat → ClassId) (c2 c3 : ClassId) (la : Nat) (lb : Nat → Nat) (sq : Nat) : va_W := (la, .inl (c3, 8, .inr (.inr (.inr (.inr (rf8 lb)))))) :: ((List.range 8).map (fun i => (lb i, .inl (c2, 12, .inr (.inr (.inr (.inr (fun _ => none))))))) ++ [(sq, .inl (cA 0, 8, .inl (fun _ => 0)))])
set_option maxHeartbeats 4000000 in
set_option maxRecDepth 100000 in
/-- Own() -/
theorem c_X9_init (l : Launch) (D : va_G) (cA : Nat → ClassId) (tr : List (ClassId × FieldType)) (ws : va_W) (sz : Nat) (q0 oq : Nat) (he : ws[q0]? = some (oq, .inr (9, [.null, .null, .int 0]))) (c2 c3 : ClassId) (j2 j3 : Nat) (ht2 : tr[j2]? = some (c2, .array .int)) (ht3 : tr[j3]? = some (c3, .array (.array .int))) : Met l yX9_init wl_init9 ({ frames := 1, cells := 10, slots := 112, locals := 12 }) (va_Pc [.ref oq] (fun U => inW D (tyB cA ++ tr) ws sz U ∧ EX9 U)) (va_Qv (fun _ : Nat × (Nat → Nat) × Nat => True) (fun u : Nat × (Nat → Nat) × Nat => outW D (tyB cA ++ tr) (va_A ws sz) (ws.set q0 (oq, .inr (9, oF u.1 u.2.2 0)) ++ w9 cA c2 c3 u.1 u.2.1 u.2.2)) (va_A ws sz)) 10 112 (va_A ws sz) := by
  refine Met.ofW (cc := cX9_init) (maxL := 1) (ret := none) (by decide) rfl ?_
  intro p e s m args below meth c s₁ B hml hv
  obtain ⟨rfl, ⟨hsz, hP, hK, hD0⟩, hE1, hE2⟩ := hv
  have hx := B.exec
  have hb := B.bytes
  have hr := B.returns
  have hts := atoms_spec (ws := wl_init9) B.pre
  have hown : s.vm.findClass RX9 = some m.cls := findClass_of_methodNamed B.named
  have hlocks := B.notSynchronized
  have hin : meth.name = "<init>" := (name_of_methodNamed B.named B.method).1
  subst hsz
  have hD := hD0.self (sz := s.heap.size)
  clear hD0
  generalize hAe : va_A ws s.heap.size = A at hD ⊢
  have hA : ∀ q : Nat, s.heap.size ≤ q → A q := fun q h => by rw [← hAe]; exact Or.inr h
  clear hAe
  have hS : va_S A s.heap s.heap [] := va_S.rf
  have hq : q0 < ws.length := (List.getElem?_eq_some_iff.mp he).1
  have hl := lv_entry ([.ref oq]) (n := 1) (Nat.le_of_ble_eq_true rfl)
  rw [lg_entry_eq]
  generalize (lg_sl ([.ref oq]) ++ List.replicate (1 - (lg_sl ([.ref oq])).length) Slot.unset).toArray = ls at hl ⊢
  have hl : lv_has ls 1 [(0, .ref oq)] := hl
  have k9 := hts (.fieldLink RX9 9 "ScopeRowLaw$Own" "lines" "[[[I") (by decide +kernel)
  have k14 := hts (.fieldLink RX9 14 "ScopeRowLaw$Own" "size" "[I") (by decide +kernel)
  have hP : va_P D vwCl (ws.set q0 (oq, .inr (9, [.null, .null, .int 0])) ++ []) s.heap := by rw [← xws_id he]; exact hP
  have hD : va_D A (ws.set q0 (oq, .inr (9, [.null, .null, .int 0])) ++ []) := by rw [← xws_id he]; exact hD
  refine lv_aload_n hx hb dX9_init_0 rfl (lv_at hl 0 rfl) ?_
  refine W.objInit hx hb hown (hts (.methodLink RX9 1 objectInit) (by decide +kernel)) (hts (.instanceMethod objectInit) (by decide +kernel)) (hts (.code objectInit ⟨#[0xb1]⟩ 1 none) (by decide +kernel)) rfl (by rw [hml]; exact hl.1) rfl dX9_init_1 (Nat.le_of_ble_eq_true rfl) (Nat.le_of_ble_eq_true rfl) ?_
  refine W.eq (g2 := F0 m 4 ls []) rfl ?_
  refine lv_aload_n hx hb dX9_init_4 rfl (lv_at hl 0 rfl) ?_
  refine lv_bipush (v := 8) hx hb dX9_init_5 (by decide) ?_
  refine lv_bipush (v := 12) hx hb dX9_init_7 (by decide) ?_
  have e3 : (tyB cA ++ tr)[j3 + 5]? = some (c3, .array (.array .int)) := ty_at ht3
  have hcy : s.vm.findClass (FieldType.array (.array .int)).toString = some c2 := (hK.2 _ _ (ty_at ht2)).2
  refine x_mna (ty := .array .int) (N' := 8) (K' := 12) (z := (12, .inr (.inr (.inr (.inr (fun _ => none)))))) hx hb (j3 + 5) hown (by rw [show ("[" ++ (FieldType.array (.array .int)).toString) = "[[[I" from by decide]; exact hts (.classLink RX9 7 "[[[I") (by decide +kernel)) hE2 (AOA_ac hE1) hcy hK e3 hP hD hS hA (by decide) (by decide) rfl rfl (Nat.le_of_ble_eq_true rfl) (Nat.le_of_ble_eq_true rfl) (Nat.le_of_ble_eq_true rfl) rfl rfl (Nat.le_of_ble_eq_true rfl) (Nat.le_of_ble_eq_true rfl) (fun c => arrV_new c 12 .null) dX9_init_9 (fun la lb H hP hD hS => ?_)
  rw [List.append_assoc] at hP hD
  obtain ⟨X, eX⟩ : ∃ z : va_W, z = [] ++ ((la, .inl (c3, 8, .inr (.inr (.inr (.inr (fun i => if i < 8 then some (lb i) else none)))))) :: (List.range 8).map (fun i => (lb i, .inl (c2, 12, .inr (.inr (.inr (.inr (fun _ => none)))))))) := ⟨_, rfl⟩
  have hP : va_P D vwCl (ws.set q0 (oq, .inr (9, [.null, .null, .int 0])) ++ X) H := by rw [eX]; exact hP
  have hD : va_D A (ws.set q0 (oq, .inr (9, [.null, .null, .int 0])) ++ X) := by rw [eX]; exact hD
  refine W.widen (k := 9) (n := 104) (by omega) (by omega) ?_
  refine va_putF (D := D) (ci := 9) (v := .ref la) (ty := tyX9 0) (C := RX9) (T := TX9) (N := 3) hx hb hts nl_init9_X9 tyX9 tyX9_ok nmX9 hown hK hP hD hS q0 (xt_set hq) rfl 0 (by decide) k9 (fun _ h9 => h9) rfl hin rfl (tyX9_ok 0 (by decide)) rfl rfl (Nat.le_of_ble_eq_true rfl) dX9_init_13 (fun H locs hP hD hS => ?_)
  rw [xset_set hq] at hP hD
  have hP : va_P D vwCl (ws.set q0 (oq, .inr (9, [.ref la, .null, .int 0])) ++ X) H := hP
  have hD : va_D A (ws.set q0 (oq, .inr (9, [.ref la, .null, .int 0])) ++ X) := hD
  refine lv_aload_n hx hb dX9_init_16 rfl (lv_at hl 0 rfl) ?_
  refine lv_bipush (v := 8) hx hb dX9_init_17 (by decide) ?_
  refine va_newa (atype := .int) (ty := .int) (N' := 8) (a0 := (8, .inl (fun _ => 0))) hx hb (hts (.arrayClass .int) (by decide +kernel)) rfl hK hP hD hS hA (fun _ => rfl) (by decide) (by decide) (Nat.le_of_ble_eq_true rfl) (Nat.le_of_ble_eq_true rfl) (Nat.le_of_ble_eq_true rfl) dX9_init_19 (fun sq cN H hKn hP hD hS => ?_)
  obtain rfl : cN = cA 0 := cA_int hKn rfl
  clear hKn
  rw [List.append_assoc] at hP hD
  refine va_putF (D := D) (ci := 9) (v := .ref sq) (ty := tyX9 1) (C := RX9) (T := TX9) (N := 3) hx hb hts nl_init9_X9 tyX9 tyX9_ok nmX9 hown hK hP hD hS q0 (xt_set hq) rfl 1 (by decide) k14 (fun _ h9 => h9) rfl hin rfl (tyX9_ok 1 (by decide)) rfl rfl (Nat.le_of_ble_eq_true rfl) dX9_init_21 (fun H locs hP hD hS => ?_)
  rw [xset_set hq, eX] at hP hD
  have hP : va_P D vwCl (ws.set q0 (oq, .inr (9, oF la sq 0)) ++ w9 cA c2 c3 la lb sq) H := hP
  have hD : va_D A (ws.set q0 (oq, .inr (9, oF la sq 0)) ++ w9 cA c2 c3 la lb sq) := hD
  exact W.vret hx hb hr (fun t ht hW => ⟨⟨(la, lb, sq), rfl, trivial, by rw [ht]; exact hP, va_K.moved hW.alike hK, hD⟩, hS.F ht⟩) hS.2.2 dX9_init_24 hlocks
