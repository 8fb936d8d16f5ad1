/-! wouldHit, where there is no such SCOPE -/
noncomputable def wl9_wouldHit : List Cond := .code yX8_wouldHit cX8_wouldHit 2 (some .int) :: ([.fieldLink RX8 19 "ScopeRow" "state" "LScopeRow$State;", .fieldLink RX8 114 "ScopeRow$State" "scopeCount" "I"] ++ (wsX80 ++ (wsX60 ++ (va_wsS RX8 63 yX8_checkNumber wl9_checkNumber ++ []))))
theorem nl9_wouldHit_X8 : ∀ w ∈ u_ws RX8 TX8 7, w ∈ wl9_wouldHit := mw_c (mw_r (mw_l (fun _ h => h)))
theorem nl9_wouldHit_X6 : ∀ w ∈ u_ws RX6 TX6 12, w ∈ wl9_wouldHit := mw_c (mw_r (mw_r (mw_l (fun _ h => h))))
theorem gl9_wouldHit : GoodIn wl9_wouldHit (va_wsS RX8 63 yX8_checkNumber wl9_checkNumber) := gw_c (gw_r (gw_r (gw_r (gw_l (gw_self (by decide +kernel))))))
set_option maxHeartbeats 1000000 in
theorem c_X8_wouldHit_t (l : Launch) (htr : l.stackTraces = false) (D : va_G) (cA : Nat → ClassId) (ad : Nat → Nat) (tr : List (ClassId × FieldType)) (rest : va_W) (sz : Nat) (τ : Sg) (pd : Nat → Nat) (π : Sg) (bd : Nat → Nat) (tp : Nat) (ρ : Sg) (sa : Nat) (tx : String) (x : Int32) (h0 : ¬ x < 0) (h1 : ¬ x < τ 0 3) : vx_Met l yX8_wouldHit wl9_wouldHit ({ frames := 7, cells := 1, slots := 6, locals := 103 }) (va_Pc [.ref tp, .int x] (fun U => inW D (tyB cA ++ tr) (wB cA ad τ ++ (wPg cA ad pd π ++ (wB cA bd ρ ++ ((tp, .inr (8, tpF ad bd)) :: rest)))) sz U ∧ TH IOE 178 tx sa (va_A (wB cA ad τ ++ (wPg cA ad pd π ++ (wB cA bd ρ ++ ((tp, .inr (8, tpF ad bd)) :: rest)))) sz) U U.heap)) (va_Qi (fun (_ : Int32) (_ : Unit) => False) (fun _ : Unit => outW D (tyB cA ++ tr) (va_A (wB cA ad τ ++ (wPg cA ad pd π ++ (wB cA bd ρ ++ ((tp, .inr (8, tpF ad bd)) :: rest)))) sz) (wB cA ad τ ++ (wPg cA ad pd π ++ (wB cA bd ρ ++ ((tp, .inr (8, tpF ad bd)) :: rest))))) (va_A (wB cA ad τ ++ (wPg cA ad pd π ++ (wB cA bd ρ ++ ((tp, .inr (8, tpF ad bd)) :: rest)))) sz)) (XW IOE D (tyB cA ++ tr) (wB cA ad τ ++ (wPg cA ad pd π ++ (wB cA bd ρ ++ ((tp, .inr (8, tpF ad bd)) :: rest)))) (va_A (wB cA ad τ ++ (wPg cA ad pd π ++ (wB cA bd ρ ++ ((tp, .inr (8, tpF ad bd)) :: rest)))) sz)) 1 6 (va_A (wB cA ad τ ++ (wPg cA ad pd π ++ (wB cA bd ρ ++ ((tp, .inr (8, tpF ad bd)) :: rest)))) sz) := by
  refine vx_ofW (cc := cX8_wouldHit) (maxL := 2) (ret := (some .int)) (by decide) rfl ?_
  intro p e s m args below meth c s₁ B9 hml hex hv
  obtain ⟨rfl, ⟨hsz, hP, hK, hD0⟩, hT⟩ := hv
  have hx := B9.exec
  have hb := B9.bytes
  have hts := atoms_spec (ws := wl9_wouldHit) B9.pre
  have hown : s.vm.findClass RX8 = some m.cls := findClass_of_methodNamed B9.named
  have hlocks := B9.notSynchronized
  subst hsz
  have hD := hD0.self (sz := s.heap.size)
  have hS : va_S (va_A (wB cA ad τ ++ (wPg cA ad pd π ++ (wB cA bd ρ ++ ((tp, .inr (8, tpF ad bd)) :: rest)))) s.heap.size) s.heap s.heap [] := va_S.rf
  have hP : va_P D vwCl (wB cA ad τ ++ (wPg cA ad pd π ++ (wB cA bd ρ ++ ((tp, .inr (8, tpF ad bd)) :: rest)))) s.heap := hP
  have hl := lv_entry ([.ref tp, .int x]) (n := 2) (Nat.le_of_ble_eq_true rfl)
  rw [lg_entry_eq]
  generalize (lg_sl ([.ref tp, .int x]) ++ List.replicate (2 - (lg_sl ([.ref tp, .int x])).length) Slot.unset).toArray = ls at hl ⊢
  have hl : lv_has ls 2 [(0, .ref tp), (1, .int x)] := hl
  have k19 := hts (.fieldLink RX8 19 "ScopeRow" "state" "LScopeRow$State;") (by decide +kernel)
  have k114 := hts (.fieldLink RX8 114 "ScopeRow$State" "scopeCount" "I") (by decide +kernel)
  refine lv_iload_n hx hb dX8_wouldHit_0 rfl (lv_at hl 1 rfl) ?_
  refine lv_aload_n hx hb dX8_wouldHit_1 rfl (lv_at hl 0 rfl) ?_
  refine va_get (D := D) (C := RX8) (T := TX8) (N := 7) (ci := 8) (v := .ref (ad 0)) hx hb hts nl9_wouldHit_X8 hown hK hP 209 w_tp rfl 1 (by decide) k19 (fun _ h9 => h9) rfl dX8_wouldHit_2 ?_
  refine va_get (D := D) (C := RX6) (T := TX6) (N := 12) (ci := 6) (v := .int (τ 0 3)) hx hb hts nl9_wouldHit_X6 hown hK hP 0 w_st rfl 3 (by decide) k114 (fun _ h9 => h9) rfl dX8_wouldHit_5 ?_
  refine vx_callv (mc := 1) (ms := 6) (vx_runS (As := [.int x, .int (τ 0 3)]) (rest := []) ⟨hx, hb, hml, hown, hts⟩ (c_X8_checkNumber_t l htr D (tyB cA ++ tr) (wB cA ad τ ++ (wPg cA ad pd π ++ (wB cA bd ρ ++ ((tp, .inr (8, tpF ad bd)) :: rest)))) s.heap.size sa tx x (τ 0 3) h0 h1) (va_cwS 2 hts gl9_wouldHit rfl rfl rfl (by decide +kernel) ⟨Nat.le_of_ble_eq_true rfl, Nat.le_of_ble_eq_true rfl⟩) ⟨fun a U g mk q => ⟨q.1, inW_blind q.2.1, TH.call q.2.2⟩, fun U hU hW => ⟨rfl, ⟨by rw [hU], by rw [hU]; exact hP, va_K.moved hW.alike hK, hD.weaken (fun _ _ _ _ => trivial)⟩, by rw [hU]; exact hT.warm hW⟩⟩ rfl rfl hl.1 rfl (Nat.le_of_ble_eq_true rfl) dX8_wouldHit_8 ⟨Nat.le_of_ble_eq_true rfl, Nat.le_of_ble_eq_true rfl⟩) hS (fun _ _ h => h) (fun _ h => h) (fun _ _ h => h) (fun E ce q9 u t H1 locs1 ht hvm _ hB hz hk hS1 hce hcv hcl => ?_) (fun u t H1 locs1 ht hvm hpo => hpo.elim)
  obtain ⟨hE, hP1, hK1, hD1⟩ := hB
  exact vx_out (fun z hz => (hex z hz).elim) hlocks hce hcv hcl (fun t' ht' hvm' => ⟨(), trivial, ⟨hE, by rw [ht', ← ht]; exact hP1, va_K.moved hvm' hK, hD1⟩, by rw [ht']; exact hS1.1, fun q hq hn => by rw [ht']; exact hS1.2.1 q hq hn⟩) (fun z hz => hS1.2.2 z hz) (by decide) (by decide)
