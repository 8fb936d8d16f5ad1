/-! checkNumber, where it throws -/
noncomputable def wl9_checkNumber : List Cond := .code yX8_checkNumber cX8_checkNumber 2 none :: (([.classLink RX8 176 IOE, .initialized IOE] : List Cond) ++ (vx_atS RX8 180 IOE exn).filter goodWord)
theorem bad_IOE : ∀ w ∈ (vx_atS RX8 180 IOE exn).filter (fun w => !goodWord w), w ∈ bdw IOE := by decide +kernel
theorem ot_IOE : ∀ w ∈ Cond.classLink RX8 176 IOE :: Cond.initialized IOE :: vx_atS RX8 180 IOE exn, vx_ot w = true := by decide +kernel
/-- what a throw leaves: the world as it was -/
abbrev XW (E : String) (D : va_G) (tys : List (ClassId × FieldType)) (ws : va_W) (A : Nat → Prop) : String → State → State → Prop := vx_X (fun _ : Unit => True) (fun (E' : String) (_ : Unit) (t : State) => E' = E ∧ outW D tys A ws t) A
set_option maxHeartbeats 1000000 in
theorem c_X8_checkNumber_t (l : Launch) (htr : l.stackTraces = false) (D : va_G) (tys : List (ClassId × FieldType)) (ws : va_W) (sz sa : Nat) (tx : String) (x n : Int32) (h0 : ¬ x < 0) (h1 : ¬ x < n) : vx_Met l yX8_checkNumber wl9_checkNumber ({ frames := 6, cells := 1, slots := 6, locals := 82 }) (va_Pc [.int x, .int n] (fun U => inW D tys ws sz U ∧ TH IOE 178 tx sa (va_A ws sz) U U.heap)) (va_Qv (fun _ : Unit => False) (fun _ : Unit => outW D tys (va_A ws sz) ws) (va_A ws sz)) (XW IOE D tys ws (va_A ws sz)) 1 6 (va_A ws sz) := by
  refine vx_ofW (cc := cX8_checkNumber) (maxL := 2) (ret := none) (by decide) rfl ?_
  intro p e s m args below meth c s₁ B9 hml hex hv
  obtain ⟨rfl, ⟨hsz, hP, hK, hD0⟩, hT⟩ := hv
  have hx := B9.exec
  have hb := B9.bytes
  have hts := atoms_spec (ws := wl9_checkNumber) B9.pre
  have hown : s.vm.findClass RX8 = some m.cls := findClass_of_methodNamed B9.named
  have hlocks := B9.notSynchronized
  subst hsz
  have hD := hD0.self (sz := s.heap.size)
  clear hD0
  generalize hAe : va_A ws s.heap.size = A at hD hT ⊢
  have hS : va_S A s.heap s.heap [] := va_S.rf
  have hl := lv_entry ([.int x, .int n]) (n := 2) (Nat.le_of_ble_eq_true rfl)
  rw [lg_entry_eq]
  generalize (lg_sl ([.int x, .int n]) ++ List.replicate (2 - (lg_sl ([.int x, .int n])).length) Slot.unset).toArray = ls at hl ⊢
  have hl : lv_has ls 2 [(0, .int x), (1, .int n)] := hl
  have k1 : (Cond.classLink RX8 176 IOE).before #[.int x, .int n] s = true := hts _ (List.mem_cons_of_mem _ List.mem_cons_self)
  have k2 : (Cond.initialized IOE).before #[.int x, .int n] s = true := hts _ (List.mem_cons_of_mem _ (List.mem_cons_of_mem _ List.mem_cons_self))
  have k3 : ∀ w ∈ vx_atS RX8 180 IOE exn, w.before #[.int x, .int n] s = true := vx_hat (fun w hw => hts w (List.mem_cons_of_mem _ (List.mem_append_right _ hw))) bad_IOE (hT.words _)
  refine lv_iload_n hx hb dX8_checkNumber_0 rfl (lv_at hl 0 rfl) ?_
  refine lv_if_lt (tgt := 9) hx hb dX8_checkNumber_1 (by decide) (fun c1 => absurd c1 h0) (fun c1 => ?_)
  refine lv_iload_n hx hb dX8_checkNumber_4 rfl (lv_at hl 0 rfl) ?_
  refine lv_iload_n hx hb dX8_checkNumber_5 rfl (lv_at hl 1 rfl) ?_
  refine lv_icmp_lt (tgt := 19) hx hb dX8_checkNumber_6 (by decide) (fun c1 => absurd c1 h1) (fun c1 => ?_)
  refine vx_throwS (pc := 9) (cls := IOE) (names := exn) (ik := 176) (is := 178) (ic := 180) (sa := sa) (text := tx) (A := A) hx hb htr hown (by decide +kernel) (by decide +kernel) k1 k2 hT.2.1 k3 ot_IOE hT.2.2.1 hT.2.2.2 hS (hl.1.trans hml.symm) dX8_checkNumber_9 dX8_checkNumber_12 dX8_checkNumber_13 dX8_checkNumber_15 dX8_checkNumber_18 (fun z hz => (hex z hz).elim) (by decide) (by decide) (Nat.le_of_ble_eq_true rfl) (Nat.le_of_ble_eq_true rfl) hlocks (fun t ht hz hk => ?_) (fun z hz => absurd hz List.not_mem_nil) (by decide) (by decide)
  exact ⟨(), trivial, ⟨rfl, hP.kept (fun k q hq => hk _ ((hP k q hq).lt)), va_K.moved ht hK, hD⟩, hz, fun q hq _ => hk q hq⟩
