/-! THE PROGRAM'S OWN WRITES, and what a LINE must be -/
theorem set_rest {cA ad} {τ : Sg} {R : va_W} {k : Nat} {e : Nat × va_E} : (wB cA ad τ ++ R).set (k + 102) e = wB cA ad τ ++ R.set k e := by
  rw [List.set_append_right _ _ (by rw [wB_len]; omega), wB_len]
  simp
section XPGW
variable {p : Program} {l : Launch} {e : Env} {R : Room} {s : State} {m : MethodId} {args : Array Value} {below : List Frame} {meth : Method} {c : Code} {H : Heap} {locs : List Loc} {cells slots : Nat} {Q : State → Prop}
variable {cc : ByteArray} {pc index : Nat} {ls : Array Slot} {st0 : List Value} {D : va_G} {cA : Nat → ClassId} {ad pd : Nat → Nat} {τ π : Sg} {rest : va_W} {tr : List (ClassId × FieldType)} {A : Nat → Prop} {H0 : Heap} {Ts : List Cond} {own ref : String} {x : Int32}
theorem p_pg (hx : p.tables.exec = Jvm.exec) (hb : c.code = cc) (hts : ∀ w ∈ Ts, w.before args s = true) (hin : ∀ w ∈ u_ws RX3 TX3 5, w ∈ Ts) (hown : s.vm.findClass own = some m.cls) (hK : va_K D vwCl (tyB cA ++ tr) s) (hP : va_P D vwCl (wB cA ad τ ++ (wPg cA ad pd π ++ rest)) H) (hD : va_D A (wB cA ad τ ++ (wPg cA ad pd π ++ rest))) (hS : va_S A H0 H locs) (j : Nat) (h1 : j = 0) (h2 : j < 5) (hlink : (Cond.fieldLink own index ref (TX3 j).2.1 (TX3 j).2.2.1).before args s = true) (hsame : ∀ x, s.fieldFound? (TX3 j).1 (TX3 j).2.1 (TX3 j).2.2.1 = some x → s.fieldFound? ref (TX3 j).2.1 (TX3 j).2.2.1 = some x) (hfin : (TX3 j).2.2.2 = false) (hn : narrow (tyX3 j) (.int x) = .int x) (hfit : fits (tyX3 j) (.int x) = true) (hdg : decode cc pc = .ok (.putfield index, 3))
    (kk : ∀ (π1 : Sg) (H1 : Heap) (locs1 : List Loc), π1 = up2 π 0 j x → va_P D vwCl (wB cA ad τ ++ (wPg cA ad pd π1 ++ rest)) H1 → va_D A (wB cA ad τ ++ (wPg cA ad pd π1 ++ rest)) → va_S A H0 H1 locs1 → W p l e R s m args below meth c H1 locs1 cells slots Q (F0 m (pc + 3) ls st0)) : W p l e R s m args below meth c H locs cells slots Q (F0 m pc ls (.int x :: .ref (ad 102) :: st0)) := by
  subst h1
  refine va_put (D := D) (C := RX3) (T := TX3) (N := 5) (ci := 3) hx hb hts hin tyX3 tyX3_ok nmX3 hown hK hP hD hS 102 w_pg rfl 0 h2 hlink hsame hfin (tyX3_ok 0 h2) hn hfit (Nat.le_of_ble_eq_true rfl) hdg (fun H1 locs1 hP hD hS => ?_)
  rw [set_rest (k := 0)] at hP hD
  exact kk (up2 π 0 0 x) H1 locs1 rfl hP hD hS
theorem p_pa1 (hx : p.tables.exec = Jvm.exec) (hb : c.code = cc) (hK : va_K D vwCl (tyB cA ++ tr) s) (hP : va_P D vwCl (wB cA ad τ ++ (wPg cA ad pd π ++ rest)) H) (hD : va_D A (wB cA ad τ ++ (wPg cA ad pd π ++ rest))) (hS : va_S A H0 H locs) {k : Int32} {j : Nat} (hj : k.toNatClampNeg = j) (hin : vp_in k 8) (hdg : decode cc pc = .ok (.iastore, 1))
    (kk : ∀ (π1 : Sg) (H1 : Heap) (locs1 : List Loc), π1 = up2 π 1 j x → va_P D vwCl (wB cA ad τ ++ (wPg cA ad pd π1 ++ rest)) H1 → va_D A (wB cA ad τ ++ (wPg cA ad pd π1 ++ rest)) → va_S A H0 H1 locs1 → W p l e R s m args below meth c H1 locs1 cells slots Q (F0 m (pc + 1) ls st0)) : W p l e R s m args below meth c H locs cells slots Q (F0 m pc ls (.int x :: .int k :: .ref (pd 1) :: st0)) := by
  subst hj
  refine va_iast hx hb hK hP hD hS 103 0 w_pa1 rfl hin hdg (fun H1 locs1 hP hD hS => ?_)
  rw [set_rest (k := 1)] at hP hD
  exact kk (up2 π 1 k.toNatClampNeg x) H1 locs1 rfl hP hD hS
theorem p_pa2 (hx : p.tables.exec = Jvm.exec) (hb : c.code = cc) (hK : va_K D vwCl (tyB cA ++ tr) s) (hP : va_P D vwCl (wB cA ad τ ++ (wPg cA ad pd π ++ rest)) H) (hD : va_D A (wB cA ad τ ++ (wPg cA ad pd π ++ rest))) (hS : va_S A H0 H locs) {k : Int32} {j : Nat} (hj : k.toNatClampNeg = j) (hin : vp_in k 96) (hdg : decode cc pc = .ok (.iastore, 1))
    (kk : ∀ (π1 : Sg) (H1 : Heap) (locs1 : List Loc), π1 = up2 π 2 j x → va_P D vwCl (wB cA ad τ ++ (wPg cA ad pd π1 ++ rest)) H1 → va_D A (wB cA ad τ ++ (wPg cA ad pd π1 ++ rest)) → va_S A H0 H1 locs1 → W p l e R s m args below meth c H1 locs1 cells slots Q (F0 m (pc + 1) ls st0)) : W p l e R s m args below meth c H locs cells slots Q (F0 m pc ls (.int x :: .int k :: .ref (pd 2) :: st0)) := by
  subst hj
  refine va_iast hx hb hK hP hD hS 104 0 w_pa2 rfl hin hdg (fun H1 locs1 hP hD hS => ?_)
  rw [set_rest (k := 2)] at hP hD
  exact kk (up2 π 2 k.toNatClampNeg x) H1 locs1 rfl hP hD hS
theorem p_pa3 (hx : p.tables.exec = Jvm.exec) (hb : c.code = cc) (hK : va_K D vwCl (tyB cA ++ tr) s) (hP : va_P D vwCl (wB cA ad τ ++ (wPg cA ad pd π ++ rest)) H) (hD : va_D A (wB cA ad τ ++ (wPg cA ad pd π ++ rest))) (hS : va_S A H0 H locs) {k : Int32} {j : Nat} (hj : k.toNatClampNeg = j) (hin : vp_in k 96) (hdg : decode cc pc = .ok (.iastore, 1))
    (kk : ∀ (π1 : Sg) (H1 : Heap) (locs1 : List Loc), π1 = up2 π 3 j x → va_P D vwCl (wB cA ad τ ++ (wPg cA ad pd π1 ++ rest)) H1 → va_D A (wB cA ad τ ++ (wPg cA ad pd π1 ++ rest)) → va_S A H0 H1 locs1 → W p l e R s m args below meth c H1 locs1 cells slots Q (F0 m (pc + 1) ls st0)) : W p l e R s m args below meth c H locs cells slots Q (F0 m pc ls (.int x :: .int k :: .ref (pd 3) :: st0)) := by
  subst hj
  refine va_iast hx hb hK hP hD hS 105 0 w_pa3 rfl hin hdg (fun H1 locs1 hP hD hS => ?_)
  rw [set_rest (k := 3)] at hP hD
  exact kk (up2 π 3 k.toNatClampNeg x) H1 locs1 rfl hP hD hS
theorem p_pa4 (hx : p.tables.exec = Jvm.exec) (hb : c.code = cc) (hK : va_K D vwCl (tyB cA ++ tr) s) (hP : va_P D vwCl (wB cA ad τ ++ (wPg cA ad pd π ++ rest)) H) (hD : va_D A (wB cA ad τ ++ (wPg cA ad pd π ++ rest))) (hS : va_S A H0 H locs) {k : Int32} {j : Nat} (hj : k.toNatClampNeg = j) (hin : vp_in k 96) (hdg : decode cc pc = .ok (.iastore, 1))
    (kk : ∀ (π1 : Sg) (H1 : Heap) (locs1 : List Loc), π1 = up2 π 4 j x → va_P D vwCl (wB cA ad τ ++ (wPg cA ad pd π1 ++ rest)) H1 → va_D A (wB cA ad τ ++ (wPg cA ad pd π1 ++ rest)) → va_S A H0 H1 locs1 → W p l e R s m args below meth c H1 locs1 cells slots Q (F0 m (pc + 1) ls st0)) : W p l e R s m args below meth c H locs cells slots Q (F0 m pc ls (.int x :: .int k :: .ref (pd 4) :: st0)) := by
  subst hj
  refine va_iast hx hb hK hP hD hS 106 0 w_pa4 rfl hin hdg (fun H1 locs1 hP hD hS => ?_)
  rw [set_rest (k := 4)] at hP hD
  exact kk (up2 π 4 k.toNatClampNeg x) H1 locs1 rfl hP hD hS
end XPGW
theorem m_placeOf_b {b x : Int32} (h : ¬ m_placeOf b x = -1) : vp_in b 8 := by
  unfold m_placeOf at h
  by_cases h1 : b < 0
  · rw [if_pos h1] at h; exact absurd rfl h
  by_cases h2 : 8 ≤ b
  · rw [if_neg h1, if_pos h2] at h; exact absurd rfl h
  exact in_of h1 h2 (by decide)
def m_addLine (π : Sg) (b k a c : Int32) : Sg := if m_placeOf b (m_linesOf π b) = -1 then π else
  let q := (m_placeOf b (m_linesOf π b)).toNatClampNeg
  up2 (up2 (up2 (up2 π 2 q k) 3 q a) 4 q c) 1 b.toNatClampNeg (m_linesOf π b + 1)
def m_lowA (k : Int32) : Int32 := if k = 0 then -99 else if k = 6 then 1 else if k = 12 then 1 else 0
def m_highA (k : Int32) : Int32 := if k = 0 then 99 else if k = 1 then 3 else if k = 2 then 3 else if k = 3 then 3 else if k = 4 then 0 else if k = 5 then 0 else if k = 6 then 7 else if k = 7 then 20 else if k = 8 then 0 else if k = 9 then 0 else if k = 10 then 7 else if k = 11 then 0 else if k = 12 then 9 else if k = 13 then 1 else if k = 14 then 1 else if k = 15 then 1 else if k = 16 then 1 else if k = 17 then 1 else 0
def m_fwd (k : Int32) : Bool := if k = 4 then true else if k = 7 then true else if k = 8 then true else false
def m_lowB (k n : Int32) : Int32 := if m_fwd k = true then n + 1 else 0
def m_highB (k n : Int32) : Int32 := if m_fwd k = true then 12 else if k = 3 then n else 0
def m_fits (k a b n : Int32) : Bool := if k < 0 then false else if k ≤ 18 then (if a < m_lowA k then false else if m_highA k < a then false else if b < m_lowB k n then false else if m_highB k n < b then false else true) else false

set_option maxHeartbeats 4000000 in
set_option maxRecDepth 100000 in
theorem c_X3_addBody (l : Launch) (D : va_G) (cA : Nat → ClassId) (ad : Nat → Nat) (tr : List (ClassId × FieldType)) (rest : va_W) (sz : Nat) (τ : Sg) (pd : Nat → Nat) (π : Sg)  : Met l yX3_addBody wsX3_addBody ({ frames := 0, cells := 0, slots := 0, locals := 0 }) (va_Pc [.ref (ad 102)] (inW D (tyB cA ++ tr) (wB cA ad τ ++ (wPg cA ad pd π ++ rest)) sz)) (va_Qi (fun (r : Int32) (u : Sg) => r = π 0 0 ∧ u = up2 π 0 0 (π 0 0 + 1)) (fun u : Sg => outW D (tyB cA ++ tr) (va_A (wB cA ad τ ++ (wPg cA ad pd π ++ rest)) sz) (wB cA ad τ ++ (wPg cA ad pd u ++ rest))) (va_A (wB cA ad τ ++ (wPg cA ad pd π ++ rest)) sz)) 0 0 (va_A (wB cA ad τ ++ (wPg cA ad pd π ++ rest)) sz) := by
  refine Met.ofW (cc := cX3_addBody) (maxL := 2) (ret := (some .int)) (by decide) rfl ?_
  intro p e s m args below meth c s₁ B hml hv
  obtain ⟨rfl, hsz, hP, hK, hD0⟩ := hv
  have hx := B.exec
  have hb := B.bytes
  have hr := B.returns
  have hts := atoms_spec (ws := wsX3_addBody) B.pre
  have hown : s.vm.findClass RX3 = some m.cls := findClass_of_methodNamed B.named
  have hlocks := B.notSynchronized
  subst hsz
  have hD := hD0.self (sz := s.heap.size)
  clear hD0
  generalize hAe : va_A (wB cA ad τ ++ (wPg cA ad pd π ++ rest)) s.heap.size = A at hD ⊢
  have hA : ∀ q : Nat, s.heap.size ≤ q → A q := fun q h => by rw [← hAe]; exact Or.inr h
  clear hAe
  have hS : va_S A s.heap s.heap [] := va_S.rf
  have hP : va_P D vwCl (wB cA ad τ ++ (wPg cA ad pd π ++ rest)) s.heap := hP
  have hl := lv_entry ([.ref (ad 102)]) (n := 2) (Nat.le_of_ble_eq_true rfl)
  rw [lg_entry_eq]
  generalize (lg_sl ([.ref (ad 102)]) ++ List.replicate (2 - (lg_sl ([.ref (ad 102)])).length) Slot.unset).toArray = ls at hl ⊢
  have hl : lv_has ls 2 [(0, .ref (ad 102))] := hl
  have nX3 : ∀ w ∈ u_ws RX3 TX3 5, w ∈ wsX3_addBody := by decide +kernel
  have k24 := hts (.fieldLink RX3 24 "ScopeRow$Program" "bodies" "I") (by decide +kernel)
  refine lv_aload_n hx hb dX3_addBody_0 rfl (lv_at hl 0 rfl) ?_
  refine va_get (D := D) (C := RX3) (T := TX3) (N := 5) (ci := 3) (v := .int (π 0 0)) hx hb hts nX3 hown hK hP 102 w_pg rfl 0 (by decide) k24 (fun _ h9 => h9) rfl dX3_addBody_1 ?_
  refine lv_topi (fun x1 ex1 => ?_)
  refine lv_istore_n (lv' := [(1, .int x1), (0, .ref (ad 102))]) hx hb dX3_addBody_4 rfl hl (by decide) rfl (fun ls hl => ?_)
  refine lv_aload_n hx hb dX3_addBody_5 rfl (lv_at hl 1 rfl) ?_
  refine lv_dup hx hb dX3_addBody_6 rfl ?_
  refine va_get (D := D) (C := RX3) (T := TX3) (N := 5) (ci := 3) (v := .int (π 0 0)) hx hb hts nX3 hown hK hP 102 w_pg rfl 0 (by decide) k24 (fun _ h9 => h9) rfl dX3_addBody_7 ?_
  refine lv_iconst (v := 1) hx hb dX3_addBody_10 (by decide) ?_
  refine lv_iadd hx hb dX3_addBody_11 ?_
  refine p_pg hx hb hts nX3 hown hK hP hD hS 0 (by decide) (by decide) k24 (fun _ h9 => h9) rfl rfl rfl dX3_addBody_12 (fun π2 H locs eπ2 hP hD hS => ?_)
  refine lv_iload_n hx hb dX3_addBody_15 rfl (lv_at hl 0 rfl) ?_
  exact x_iret hx hb hr hlocks hK π2 hP hD hS dX3_addBody_16 (by subst eπ2 ex1; simp)

set_option maxHeartbeats 4000000 in
set_option maxRecDepth 100000 in
theorem c_X3_addLine (l : Launch) (D : va_G) (cA : Nat → ClassId) (ad : Nat → Nat) (tr : List (ClassId × FieldType)) (rest : va_W) (sz : Nat) (τ : Sg) (pd : Nat → Nat) (π : Sg) (b k a c1 : Int32) : Met l yX3_addLine wsX3_addLine ({ frames := 1, cells := 0, slots := 0, locals := 23 }) (va_Pc [.ref (ad 102), .int b, .int k, .int a, .int c1] (inW D (tyB cA ++ tr) (wB cA ad τ ++ (wPg cA ad pd π ++ rest)) sz)) (va_Qv (fun u : Sg => u = m_addLine π b k a c1) (fun u : Sg => outW D (tyB cA ++ tr) (va_A (wB cA ad τ ++ (wPg cA ad pd π ++ rest)) sz) (wB cA ad τ ++ (wPg cA ad pd u ++ rest))) (va_A (wB cA ad τ ++ (wPg cA ad pd π ++ rest)) sz)) 0 0 (va_A (wB cA ad τ ++ (wPg cA ad pd π ++ rest)) sz) := by
  refine Met.ofW (cc := cX3_addLine) (maxL := 7) (ret := none) (by decide) rfl ?_
  intro p e s m args below meth c s₁ B hml hv
  obtain ⟨rfl, hsz, hP, hK, hD0⟩ := hv
  have hx := B.exec
  have hb := B.bytes
  have hr := B.returns
  have hts := atoms_spec (ws := wsX3_addLine) B.pre
  have hown : s.vm.findClass RX3 = some m.cls := findClass_of_methodNamed B.named
  have hlocks := B.notSynchronized
  subst hsz
  have hD := hD0.self (sz := s.heap.size)
  clear hD0
  generalize hAe : va_A (wB cA ad τ ++ (wPg cA ad pd π ++ rest)) s.heap.size = A at hD ⊢
  have hA : ∀ q : Nat, s.heap.size ≤ q → A q := fun q h => by rw [← hAe]; exact Or.inr h
  clear hAe
  have hS : va_S A s.heap s.heap [] := va_S.rf
  have hP : va_P D vwCl (wB cA ad τ ++ (wPg cA ad pd π ++ rest)) s.heap := hP
  have hl := lv_entry ([.ref (ad 102), .int b, .int k, .int a, .int c1]) (n := 7) (Nat.le_of_ble_eq_true rfl)
  rw [lg_entry_eq]
  generalize (lg_sl ([.ref (ad 102), .int b, .int k, .int a, .int c1]) ++ List.replicate (7 - (lg_sl ([.ref (ad 102), .int b, .int k, .int a, .int c1])).length) Slot.unset).toArray = ls at hl ⊢
  have hl : lv_has ls 7 [(0, .ref (ad 102)), (1, .int b), (2, .int k), (3, .int a), (4, .int c1)] := hl
  have nX3 : ∀ w ∈ u_ws RX3 TX3 5, w ∈ wsX3_addLine := by decide +kernel
  have k15 := hts (.fieldLink RX3 15 "ScopeRow$Program" "kinds" "[I") (by decide +kernel)
  have k18 := hts (.fieldLink RX3 18 "ScopeRow$Program" "firsts" "[I") (by decide +kernel)
  have k21 := hts (.fieldLink RX3 21 "ScopeRow$Program" "seconds" "[I") (by decide +kernel)
  have k9 := hts (.fieldLink RX3 9 "ScopeRow$Program" "lengths" "[I") (by decide +kernel)
  refine lv_aload_n hx hb dX3_addLine_0 rfl (lv_at hl 0 rfl) ?_
  refine lv_iload_n hx hb dX3_addLine_1 rfl (lv_at hl 1 rfl) ?_
  refine x_Vi (As := [.int b]) (rest0 := []) ⟨hx, hb, hml, hown, hts⟩ (c_X3_linesOf l D cA ad tr rest s.heap.size τ pd π b) (cwV 1 hts gX3_addLine_X3_linesOf rfl rfl rfl (by decide +kernel) ⟨Nat.le_of_ble_eq_true rfl, Nat.le_of_ble_eq_true rfl⟩) hK hP hD hS hA 102 w_pg rfl hl.1 rfl rfl (Nat.le_of_ble_eq_true rfl) ⟨Nat.zero_le _, Nat.zero_le _⟩ dX3_addLine_2 (fun r1 _ H locs hw hP hD hS => ?_)
  have er1 := hw
  refine lv_istore (lv' := [(5, .int r1), (0, .ref (ad 102)), (1, .int b), (2, .int k), (3, .int a), (4, .int c1)]) hx hb dX3_addLine_5 hl (by decide) rfl (fun ls hl => ?_)
  refine lv_aload_n hx hb dX3_addLine_7 rfl (lv_at hl 1 rfl) ?_
  refine lv_iload_n hx hb dX3_addLine_8 rfl (lv_at hl 2 rfl) ?_
  refine lv_iload hx hb dX3_addLine_9 (lv_at hl 0 rfl) ?_
  refine x_Vi (As := [.int b, .int r1]) (rest0 := []) ⟨hx, hb, hml, hown, hts⟩ (c_X3_placeOf l D cA ad tr rest H.size τ pd π b r1) (cwV 2 hts gX3_addLine_X3_placeOf rfl rfl rfl (by decide +kernel) ⟨Nat.le_of_ble_eq_true rfl, Nat.le_of_ble_eq_true rfl⟩) hK hP hD hS hA 102 w_pg rfl hl.1 rfl rfl (Nat.le_of_ble_eq_true rfl) ⟨Nat.zero_le _, Nat.zero_le _⟩ dX3_addLine_11 (fun r2 _ H locs hw hP hD hS => ?_)
  have er2 := hw
  refine lv_istore (lv' := [(6, .int r2), (5, .int r1), (0, .ref (ad 102)), (1, .int b), (2, .int k), (3, .int a), (4, .int c1)]) hx hb dX3_addLine_14 hl (by decide) rfl (fun ls hl => ?_)
  refine lv_iload hx hb dX3_addLine_16 (lv_at hl 0 rfl) ?_
  refine lv_iconst (v := (-1)) hx hb dX3_addLine_18 (by decide) ?_
  refine lv_icmp_ne (tgt := 23) hx hb dX3_addLine_19 (by decide) (fun c_19_3 => ?_) (fun c_19_3 => ?_)
  -- 19 jumps
  · skip
    refine lv_aload_n hx hb dX3_addLine_23 rfl (lv_at hl 2 rfl) ?_
    refine va_get (D := D) (C := RX3) (T := TX3) (N := 5) (ci := 3) (v := .ref (pd 2)) hx hb hts nX3 hown hK hP 102 w_pg rfl 2 (by decide) k15 (fun _ h9 => h9) rfl dX3_addLine_24 ?_
    refine lv_iload hx hb dX3_addLine_27 (lv_at hl 0 rfl) ?_
    refine lv_iload_n hx hb dX3_addLine_29 rfl (lv_at hl 4 rfl) ?_
    refine p_pa2 hx hb hK hP hD hS (j := (r2).toNatClampNeg) rfl (by rw [er2] at c_19_3 ⊢; exact m_placeOf_in c_19_3) dX3_addLine_30 (fun π4 H locs eπ4 hP hD hS => ?_)
    refine lv_aload_n hx hb dX3_addLine_31 rfl (lv_at hl 2 rfl) ?_
    refine va_get (D := D) (C := RX3) (T := TX3) (N := 5) (ci := 3) (v := .ref (pd 3)) hx hb hts nX3 hown hK hP 102 w_pg rfl 3 (by decide) k18 (fun _ h9 => h9) rfl dX3_addLine_32 ?_
    refine lv_iload hx hb dX3_addLine_35 (lv_at hl 0 rfl) ?_
    refine lv_iload_n hx hb dX3_addLine_37 rfl (lv_at hl 5 rfl) ?_
    refine p_pa3 hx hb hK hP hD hS (j := (r2).toNatClampNeg) rfl (by rw [er2] at c_19_3 ⊢; exact m_placeOf_in c_19_3) dX3_addLine_38 (fun π5 H locs eπ5 hP hD hS => ?_)
    refine lv_aload_n hx hb dX3_addLine_39 rfl (lv_at hl 2 rfl) ?_
    refine va_get (D := D) (C := RX3) (T := TX3) (N := 5) (ci := 3) (v := .ref (pd 4)) hx hb hts nX3 hown hK hP 102 w_pg rfl 4 (by decide) k21 (fun _ h9 => h9) rfl dX3_addLine_40 ?_
    refine lv_iload hx hb dX3_addLine_43 (lv_at hl 0 rfl) ?_
    refine lv_iload hx hb dX3_addLine_45 (lv_at hl 6 rfl) ?_
    refine p_pa4 hx hb hK hP hD hS (j := (r2).toNatClampNeg) rfl (by rw [er2] at c_19_3 ⊢; exact m_placeOf_in c_19_3) dX3_addLine_47 (fun π6 H locs eπ6 hP hD hS => ?_)
    refine lv_aload_n hx hb dX3_addLine_48 rfl (lv_at hl 2 rfl) ?_
    refine va_get (D := D) (C := RX3) (T := TX3) (N := 5) (ci := 3) (v := .ref (pd 1)) hx hb hts nX3 hown hK hP 102 w_pg rfl 1 (by decide) k9 (fun _ h9 => h9) rfl dX3_addLine_49 ?_
    refine lv_iload_n hx hb dX3_addLine_52 rfl (lv_at hl 3 rfl) ?_
    refine lv_iload hx hb dX3_addLine_53 (lv_at hl 1 rfl) ?_
    refine lv_iconst (v := 1) hx hb dX3_addLine_55 (by decide) ?_
    refine lv_iadd hx hb dX3_addLine_56 ?_
    refine p_pa1 hx hb hK hP hD hS (j := b.toNatClampNeg) rfl (by rw [er2] at c_19_3; exact m_placeOf_b c_19_3) dX3_addLine_57 (fun π7 H locs eπ7 hP hD hS => ?_)
    exact x_vret hx hb hr hlocks hK π7 hP hD hS dX3_addLine_58 (by subst eπ7 eπ6 eπ5 eπ4 er2 er1; simp [m_addLine, n24, n40, n2, n27, n4, c_19_3])
  -- 19 goes on
  · skip
    exact x_vret hx hb hr hlocks hK π hP hD hS dX3_addLine_22 (by subst er2 er1; simp [m_addLine, n24, n40, n2, n27, n4, eq_true c_19_3])

set_option maxHeartbeats 4000000 in
set_option maxRecDepth 100000 in
theorem c_X3_lowestA (l : Launch) (D : va_G) (cA : Nat → ClassId) (ad : Nat → Nat) (tr : List (ClassId × FieldType)) (rest : va_W) (sz : Nat) (τ : Sg) (k : Int32) : Met l yX3_lowestA wsX3_lowestA ({ frames := 0, cells := 0, slots := 0, locals := 0 }) (va_Pc [.int k] (inW D (tyB cA ++ tr) (wB cA ad τ ++ rest) sz)) (va_Qi (fun (r : Int32) (_ : Unit) => r = m_lowA k) (fun _ : Unit => outW D (tyB cA ++ tr) (va_A (wB cA ad τ ++ rest) sz) (wB cA ad τ ++ rest)) (va_A (wB cA ad τ ++ rest) sz)) 0 0 (va_A (wB cA ad τ ++ rest) sz) := by
  refine Met.ofW (cc := cX3_lowestA) (maxL := 1) (ret := (some .int)) (by decide) rfl ?_
  intro p e s m args below meth c s₁ B hml hv
  obtain ⟨rfl, hsz, hP, hK, hD0⟩ := hv
  have hx := B.exec
  have hb := B.bytes
  have hr := B.returns
  have hts := atoms_spec (ws := wsX3_lowestA) B.pre
  have hown : s.vm.findClass RX3 = some m.cls := findClass_of_methodNamed B.named
  have hlocks := B.notSynchronized
  subst hsz
  have hD := hD0.self (sz := s.heap.size)
  clear hD0
  generalize hAe : va_A (wB cA ad τ ++ rest) s.heap.size = A at hD ⊢
  have hA : ∀ q : Nat, s.heap.size ≤ q → A q := fun q h => by rw [← hAe]; exact Or.inr h
  clear hAe
  have hS : va_S A s.heap s.heap [] := va_S.rf
  have hP : va_P D vwCl (wB cA ad τ ++ rest) s.heap := hP
  have hl := lv_entry ([.int k]) (n := 1) (Nat.le_of_ble_eq_true rfl)
  rw [lg_entry_eq]
  generalize (lg_sl ([.int k]) ++ List.replicate (1 - (lg_sl ([.int k])).length) Slot.unset).toArray = ls at hl ⊢
  have hl : lv_has ls 1 [(0, .int k)] := hl
  refine lv_iload_n hx hb dX3_lowestA_0 rfl (lv_at hl 0 rfl) ?_
  by_cases q_1_0 : k = 0
  · skip
    refine lv_lookup (tgt := 36) (off := 35) hx hb dX3_lowestA_1 (by decide) (by rw [q_1_0]; decide) (by decide) ?_
    refine lv_bipush (v := (-99)) hx hb dX3_lowestA_36 (by decide) ?_
    exact x_iret hx hb hr hlocks hK () hP hD hS dX3_lowestA_38 (by simp (decide := true) [m_lowA, bI, eq_true q_1_0])
  by_cases q_1_6 : k = 6
  · skip
    refine lv_lookup (tgt := 39) (off := 38) hx hb dX3_lowestA_1 (by decide) (by rw [q_1_6]; decide) (by decide) ?_
    refine lv_iconst (v := 1) hx hb dX3_lowestA_39 (by decide) ?_
    exact x_iret hx hb hr hlocks hK () hP hD hS dX3_lowestA_40 (by simp (decide := true) [m_lowA, bI, q_1_0, eq_true q_1_6])
  by_cases q_1_12 : k = 12
  · skip
    refine lv_lookup (tgt := 39) (off := 38) hx hb dX3_lowestA_1 (by decide) (by rw [q_1_12]; decide) (by decide) ?_
    refine lv_iconst (v := 1) hx hb dX3_lowestA_39 (by decide) ?_
    exact x_iret hx hb hr hlocks hK () hP hD hS dX3_lowestA_40 (by simp (decide := true) [m_lowA, bI, q_1_0, q_1_6, eq_true q_1_12])
  refine lv_lookup (tgt := 41) (off := 40) hx hb dX3_lowestA_1 (by decide) (by have eq_1_0 : (k).toInt ≠ 0 := fun h => q_1_0 (Int32.toInt_inj.mp (h.trans (by decide))); have eq_1_6 : (k).toInt ≠ 6 := fun h => q_1_6 (Int32.toInt_inj.mp (h.trans (by decide))); have eq_1_12 : (k).toInt ≠ 12 := fun h => q_1_12 (Int32.toInt_inj.mp (h.trans (by decide))); simp [Op.lookupswitch.offset, eq_1_0, Ne.symm eq_1_0, eq_1_6, Ne.symm eq_1_6, eq_1_12, Ne.symm eq_1_12]) (by decide) ?_
  refine lv_iconst (v := 0) hx hb dX3_lowestA_41 (by decide) ?_
  exact x_iret hx hb hr hlocks hK () hP hD hS dX3_lowestA_42 (by simp (decide := true) [m_lowA, bI, q_1_0, q_1_6, q_1_12])

set_option maxHeartbeats 4000000 in
set_option maxRecDepth 100000 in
theorem c_X3_highestA (l : Launch) (D : va_G) (cA : Nat → ClassId) (ad : Nat → Nat) (tr : List (ClassId × FieldType)) (rest : va_W) (sz : Nat) (τ : Sg) (k : Int32) : Met l yX3_highestA wsX3_highestA ({ frames := 0, cells := 0, slots := 0, locals := 0 }) (va_Pc [.int k] (inW D (tyB cA ++ tr) (wB cA ad τ ++ rest) sz)) (va_Qi (fun (r : Int32) (_ : Unit) => r = m_highA k) (fun _ : Unit => outW D (tyB cA ++ tr) (va_A (wB cA ad τ ++ rest) sz) (wB cA ad τ ++ rest)) (va_A (wB cA ad τ ++ rest) sz)) 0 0 (va_A (wB cA ad τ ++ rest) sz) := by
  refine Met.ofW (cc := cX3_highestA) (maxL := 1) (ret := (some .int)) (by decide) rfl ?_
  intro p e s m args below meth c s₁ B hml hv
  obtain ⟨rfl, hsz, hP, hK, hD0⟩ := hv
  have hx := B.exec
  have hb := B.bytes
  have hr := B.returns
  have hts := atoms_spec (ws := wsX3_highestA) B.pre
  have hown : s.vm.findClass RX3 = some m.cls := findClass_of_methodNamed B.named
  have hlocks := B.notSynchronized
  subst hsz
  have hD := hD0.self (sz := s.heap.size)
  clear hD0
  generalize hAe : va_A (wB cA ad τ ++ rest) s.heap.size = A at hD ⊢
  have hA : ∀ q : Nat, s.heap.size ≤ q → A q := fun q h => by rw [← hAe]; exact Or.inr h
  clear hAe
  have hS : va_S A s.heap s.heap [] := va_S.rf
  have hP : va_P D vwCl (wB cA ad τ ++ rest) s.heap := hP
  have hl := lv_entry ([.int k]) (n := 1) (Nat.le_of_ble_eq_true rfl)
  rw [lg_entry_eq]
  generalize (lg_sl ([.int k]) ++ List.replicate (1 - (lg_sl ([.int k])).length) Slot.unset).toArray = ls at hl ⊢
  have hl : lv_has ls 1 [(0, .int k)] := hl
  refine lv_iload_n hx hb dX3_highestA_0 rfl (lv_at hl 0 rfl) ?_
  by_cases q_1_0 : k = 0
  · skip
    refine lv_tableIn (tgt := 88) (off := 87) hx hb dX3_highestA_1 (by rw [q_1_0]; decide) (by rw [q_1_0]; decide) (by rw [q_1_0]; decide) (by decide) ?_
    refine lv_bipush (v := 99) hx hb dX3_highestA_88 (by decide) ?_
    exact x_iret hx hb hr hlocks hK () hP hD hS dX3_highestA_90 (by simp (decide := true) [m_highA, bI, eq_true q_1_0])
  by_cases q_1_1 : k = 1
  · skip
    refine lv_tableIn (tgt := 91) (off := 90) hx hb dX3_highestA_1 (by rw [q_1_1]; decide) (by rw [q_1_1]; decide) (by rw [q_1_1]; decide) (by decide) ?_
    refine lv_iconst (v := 3) hx hb dX3_highestA_91 (by decide) ?_
    exact x_iret hx hb hr hlocks hK () hP hD hS dX3_highestA_92 (by simp (decide := true) [m_highA, bI, q_1_0, eq_true q_1_1])
  by_cases q_1_2 : k = 2
  · skip
    refine lv_tableIn (tgt := 91) (off := 90) hx hb dX3_highestA_1 (by rw [q_1_2]; decide) (by rw [q_1_2]; decide) (by rw [q_1_2]; decide) (by decide) ?_
    refine lv_iconst (v := 3) hx hb dX3_highestA_91 (by decide) ?_
    exact x_iret hx hb hr hlocks hK () hP hD hS dX3_highestA_92 (by simp (decide := true) [m_highA, bI, q_1_0, q_1_1, eq_true q_1_2])
  by_cases q_1_3 : k = 3
  · skip
    refine lv_tableIn (tgt := 91) (off := 90) hx hb dX3_highestA_1 (by rw [q_1_3]; decide) (by rw [q_1_3]; decide) (by rw [q_1_3]; decide) (by decide) ?_
    refine lv_iconst (v := 3) hx hb dX3_highestA_91 (by decide) ?_
    exact x_iret hx hb hr hlocks hK () hP hD hS dX3_highestA_92 (by simp (decide := true) [m_highA, bI, q_1_0, q_1_1, q_1_2, eq_true q_1_3])
  by_cases q_1_4 : k = 4
  · skip
    refine lv_tableIn (tgt := 109) (off := 108) hx hb dX3_highestA_1 (by rw [q_1_4]; decide) (by rw [q_1_4]; decide) (by rw [q_1_4]; decide) (by decide) ?_
    refine lv_iconst (v := 0) hx hb dX3_highestA_109 (by decide) ?_
    exact x_iret hx hb hr hlocks hK () hP hD hS dX3_highestA_110 (by simp (decide := true) [m_highA, bI, q_1_0, q_1_1, q_1_2, q_1_3, eq_true q_1_4])
  by_cases q_1_5 : k = 5
  · skip
    refine lv_tableIn (tgt := 109) (off := 108) hx hb dX3_highestA_1 (by rw [q_1_5]; decide) (by rw [q_1_5]; decide) (by rw [q_1_5]; decide) (by decide) ?_
    refine lv_iconst (v := 0) hx hb dX3_highestA_109 (by decide) ?_
    exact x_iret hx hb hr hlocks hK () hP hD hS dX3_highestA_110 (by simp (decide := true) [m_highA, bI, q_1_0, q_1_1, q_1_2, q_1_3, q_1_4, eq_true q_1_5])
  by_cases q_1_6 : k = 6
  · skip
    refine lv_tableIn (tgt := 93) (off := 92) hx hb dX3_highestA_1 (by rw [q_1_6]; decide) (by rw [q_1_6]; decide) (by rw [q_1_6]; decide) (by decide) ?_
    refine lv_bipush (v := 7) hx hb dX3_highestA_93 (by decide) ?_
    exact x_iret hx hb hr hlocks hK () hP hD hS dX3_highestA_95 (by simp (decide := true) [m_highA, bI, q_1_0, q_1_1, q_1_2, q_1_3, q_1_4, q_1_5, eq_true q_1_6])
  by_cases q_1_7 : k = 7
  · skip
    refine lv_tableIn (tgt := 96) (off := 95) hx hb dX3_highestA_1 (by rw [q_1_7]; decide) (by rw [q_1_7]; decide) (by rw [q_1_7]; decide) (by decide) ?_
    refine lv_bipush (v := 20) hx hb dX3_highestA_96 (by decide) ?_
    exact x_iret hx hb hr hlocks hK () hP hD hS dX3_highestA_98 (by simp (decide := true) [m_highA, bI, q_1_0, q_1_1, q_1_2, q_1_3, q_1_4, q_1_5, q_1_6, eq_true q_1_7])
  by_cases q_1_8 : k = 8
  · skip
    refine lv_tableIn (tgt := 109) (off := 108) hx hb dX3_highestA_1 (by rw [q_1_8]; decide) (by rw [q_1_8]; decide) (by rw [q_1_8]; decide) (by decide) ?_
    refine lv_iconst (v := 0) hx hb dX3_highestA_109 (by decide) ?_
    exact x_iret hx hb hr hlocks hK () hP hD hS dX3_highestA_110 (by simp (decide := true) [m_highA, bI, q_1_0, q_1_1, q_1_2, q_1_3, q_1_4, q_1_5, q_1_6, q_1_7, eq_true q_1_8])
  by_cases q_1_9 : k = 9
  · skip
    refine lv_tableIn (tgt := 109) (off := 108) hx hb dX3_highestA_1 (by rw [q_1_9]; decide) (by rw [q_1_9]; decide) (by rw [q_1_9]; decide) (by decide) ?_
    refine lv_iconst (v := 0) hx hb dX3_highestA_109 (by decide) ?_
    exact x_iret hx hb hr hlocks hK () hP hD hS dX3_highestA_110 (by simp (decide := true) [m_highA, bI, q_1_0, q_1_1, q_1_2, q_1_3, q_1_4, q_1_5, q_1_6, q_1_7, q_1_8, eq_true q_1_9])
  by_cases q_1_10 : k = 10
  · skip
    refine lv_tableIn (tgt := 99) (off := 98) hx hb dX3_highestA_1 (by rw [q_1_10]; decide) (by rw [q_1_10]; decide) (by rw [q_1_10]; decide) (by decide) ?_
    refine lv_bipush (v := 7) hx hb dX3_highestA_99 (by decide) ?_
    exact x_iret hx hb hr hlocks hK () hP hD hS dX3_highestA_101 (by simp (decide := true) [m_highA, bI, q_1_0, q_1_1, q_1_2, q_1_3, q_1_4, q_1_5, q_1_6, q_1_7, q_1_8, q_1_9, eq_true q_1_10])
  by_cases q_1_11 : k = 11
  · skip
    refine lv_tableIn (tgt := 109) (off := 108) hx hb dX3_highestA_1 (by rw [q_1_11]; decide) (by rw [q_1_11]; decide) (by rw [q_1_11]; decide) (by decide) ?_
    refine lv_iconst (v := 0) hx hb dX3_highestA_109 (by decide) ?_
    exact x_iret hx hb hr hlocks hK () hP hD hS dX3_highestA_110 (by simp (decide := true) [m_highA, bI, q_1_0, q_1_1, q_1_2, q_1_3, q_1_4, q_1_5, q_1_6, q_1_7, q_1_8, q_1_9, q_1_10, eq_true q_1_11])
  by_cases q_1_12 : k = 12
  · skip
    refine lv_tableIn (tgt := 102) (off := 101) hx hb dX3_highestA_1 (by rw [q_1_12]; decide) (by rw [q_1_12]; decide) (by rw [q_1_12]; decide) (by decide) ?_
    refine lv_bipush (v := 9) hx hb dX3_highestA_102 (by decide) ?_
    exact x_iret hx hb hr hlocks hK () hP hD hS dX3_highestA_104 (by simp (decide := true) [m_highA, bI, q_1_0, q_1_1, q_1_2, q_1_3, q_1_4, q_1_5, q_1_6, q_1_7, q_1_8, q_1_9, q_1_10, q_1_11, eq_true q_1_12])
  by_cases q_1_13 : k = 13
  · skip
    refine lv_tableIn (tgt := 105) (off := 104) hx hb dX3_highestA_1 (by rw [q_1_13]; decide) (by rw [q_1_13]; decide) (by rw [q_1_13]; decide) (by decide) ?_
    refine lv_iconst (v := 1) hx hb dX3_highestA_105 (by decide) ?_
    exact x_iret hx hb hr hlocks hK () hP hD hS dX3_highestA_106 (by simp (decide := true) [m_highA, bI, q_1_0, q_1_1, q_1_2, q_1_3, q_1_4, q_1_5, q_1_6, q_1_7, q_1_8, q_1_9, q_1_10, q_1_11, q_1_12, eq_true q_1_13])
  by_cases q_1_14 : k = 14
  · skip
    refine lv_tableIn (tgt := 105) (off := 104) hx hb dX3_highestA_1 (by rw [q_1_14]; decide) (by rw [q_1_14]; decide) (by rw [q_1_14]; decide) (by decide) ?_
    refine lv_iconst (v := 1) hx hb dX3_highestA_105 (by decide) ?_
    exact x_iret hx hb hr hlocks hK () hP hD hS dX3_highestA_106 (by simp (decide := true) [m_highA, bI, q_1_0, q_1_1, q_1_2, q_1_3, q_1_4, q_1_5, q_1_6, q_1_7, q_1_8, q_1_9, q_1_10, q_1_11, q_1_12, q_1_13, eq_true q_1_14])
  by_cases q_1_15 : k = 15
  · skip
    refine lv_tableIn (tgt := 107) (off := 106) hx hb dX3_highestA_1 (by rw [q_1_15]; decide) (by rw [q_1_15]; decide) (by rw [q_1_15]; decide) (by decide) ?_
    refine lv_iconst (v := 1) hx hb dX3_highestA_107 (by decide) ?_
    exact x_iret hx hb hr hlocks hK () hP hD hS dX3_highestA_108 (by simp (decide := true) [m_highA, bI, q_1_0, q_1_1, q_1_2, q_1_3, q_1_4, q_1_5, q_1_6, q_1_7, q_1_8, q_1_9, q_1_10, q_1_11, q_1_12, q_1_13, q_1_14, eq_true q_1_15])
  by_cases q_1_16 : k = 16
  · skip
    refine lv_tableIn (tgt := 107) (off := 106) hx hb dX3_highestA_1 (by rw [q_1_16]; decide) (by rw [q_1_16]; decide) (by rw [q_1_16]; decide) (by decide) ?_
    refine lv_iconst (v := 1) hx hb dX3_highestA_107 (by decide) ?_
    exact x_iret hx hb hr hlocks hK () hP hD hS dX3_highestA_108 (by simp (decide := true) [m_highA, bI, q_1_0, q_1_1, q_1_2, q_1_3, q_1_4, q_1_5, q_1_6, q_1_7, q_1_8, q_1_9, q_1_10, q_1_11, q_1_12, q_1_13, q_1_14, q_1_15, eq_true q_1_16])
  by_cases q_1_17 : k = 17
  · skip
    refine lv_tableIn (tgt := 107) (off := 106) hx hb dX3_highestA_1 (by rw [q_1_17]; decide) (by rw [q_1_17]; decide) (by rw [q_1_17]; decide) (by decide) ?_
    refine lv_iconst (v := 1) hx hb dX3_highestA_107 (by decide) ?_
    exact x_iret hx hb hr hlocks hK () hP hD hS dX3_highestA_108 (by simp (decide := true) [m_highA, bI, q_1_0, q_1_1, q_1_2, q_1_3, q_1_4, q_1_5, q_1_6, q_1_7, q_1_8, q_1_9, q_1_10, q_1_11, q_1_12, q_1_13, q_1_14, q_1_15, q_1_16, eq_true q_1_17])
  refine lv_tableOut (tgt := 109) hx hb dX3_highestA_1 (by have eq_1_0 : (k).toInt ≠ 0 := fun h => q_1_0 (Int32.toInt_inj.mp (h.trans (by decide))); have eq_1_1 : (k).toInt ≠ 1 := fun h => q_1_1 (Int32.toInt_inj.mp (h.trans (by decide))); have eq_1_2 : (k).toInt ≠ 2 := fun h => q_1_2 (Int32.toInt_inj.mp (h.trans (by decide))); have eq_1_3 : (k).toInt ≠ 3 := fun h => q_1_3 (Int32.toInt_inj.mp (h.trans (by decide))); have eq_1_4 : (k).toInt ≠ 4 := fun h => q_1_4 (Int32.toInt_inj.mp (h.trans (by decide))); have eq_1_5 : (k).toInt ≠ 5 := fun h => q_1_5 (Int32.toInt_inj.mp (h.trans (by decide))); have eq_1_6 : (k).toInt ≠ 6 := fun h => q_1_6 (Int32.toInt_inj.mp (h.trans (by decide))); have eq_1_7 : (k).toInt ≠ 7 := fun h => q_1_7 (Int32.toInt_inj.mp (h.trans (by decide))); have eq_1_8 : (k).toInt ≠ 8 := fun h => q_1_8 (Int32.toInt_inj.mp (h.trans (by decide))); have eq_1_9 : (k).toInt ≠ 9 := fun h => q_1_9 (Int32.toInt_inj.mp (h.trans (by decide))); have eq_1_10 : (k).toInt ≠ 10 := fun h => q_1_10 (Int32.toInt_inj.mp (h.trans (by decide))); have eq_1_11 : (k).toInt ≠ 11 := fun h => q_1_11 (Int32.toInt_inj.mp (h.trans (by decide))); have eq_1_12 : (k).toInt ≠ 12 := fun h => q_1_12 (Int32.toInt_inj.mp (h.trans (by decide))); have eq_1_13 : (k).toInt ≠ 13 := fun h => q_1_13 (Int32.toInt_inj.mp (h.trans (by decide))); have eq_1_14 : (k).toInt ≠ 14 := fun h => q_1_14 (Int32.toInt_inj.mp (h.trans (by decide))); have eq_1_15 : (k).toInt ≠ 15 := fun h => q_1_15 (Int32.toInt_inj.mp (h.trans (by decide))); have eq_1_16 : (k).toInt ≠ 16 := fun h => q_1_16 (Int32.toInt_inj.mp (h.trans (by decide))); have eq_1_17 : (k).toInt ≠ 17 := fun h => q_1_17 (Int32.toInt_inj.mp (h.trans (by decide))); omega) (by decide) ?_
  refine lv_iconst (v := 0) hx hb dX3_highestA_109 (by decide) ?_
  exact x_iret hx hb hr hlocks hK () hP hD hS dX3_highestA_110 (by simp (decide := true) [m_highA, bI, q_1_0, q_1_1, q_1_2, q_1_3, q_1_4, q_1_5, q_1_6, q_1_7, q_1_8, q_1_9, q_1_10, q_1_11, q_1_12, q_1_13, q_1_14, q_1_15, q_1_16, q_1_17])

set_option maxHeartbeats 4000000 in
set_option maxRecDepth 100000 in
theorem c_X3_goesForward (l : Launch) (D : va_G) (cA : Nat → ClassId) (ad : Nat → Nat) (tr : List (ClassId × FieldType)) (rest : va_W) (sz : Nat) (τ : Sg) (k : Int32) : Met l yX3_goesForward wsX3_goesForward ({ frames := 0, cells := 0, slots := 0, locals := 0 }) (va_Pc [.int k] (inW D (tyB cA ++ tr) (wB cA ad τ ++ rest) sz)) (va_Qi (fun (r : Int32) (_ : Unit) => r = bI (m_fwd k)) (fun _ : Unit => outW D (tyB cA ++ tr) (va_A (wB cA ad τ ++ rest) sz) (wB cA ad τ ++ rest)) (va_A (wB cA ad τ ++ rest) sz)) 0 0 (va_A (wB cA ad τ ++ rest) sz) := by
  refine Met.ofW (cc := cX3_goesForward) (maxL := 1) (ret := (some .boolean)) (by decide) rfl ?_
  intro p e s m args below meth c s₁ B hml hv
  obtain ⟨rfl, hsz, hP, hK, hD0⟩ := hv
  have hx := B.exec
  have hb := B.bytes
  have hr := B.returns
  have hts := atoms_spec (ws := wsX3_goesForward) B.pre
  have hown : s.vm.findClass RX3 = some m.cls := findClass_of_methodNamed B.named
  have hlocks := B.notSynchronized
  subst hsz
  have hD := hD0.self (sz := s.heap.size)
  clear hD0
  generalize hAe : va_A (wB cA ad τ ++ rest) s.heap.size = A at hD ⊢
  have hA : ∀ q : Nat, s.heap.size ≤ q → A q := fun q h => by rw [← hAe]; exact Or.inr h
  clear hAe
  have hS : va_S A s.heap s.heap [] := va_S.rf
  have hP : va_P D vwCl (wB cA ad τ ++ rest) s.heap := hP
  have hl := lv_entry ([.int k]) (n := 1) (Nat.le_of_ble_eq_true rfl)
  rw [lg_entry_eq]
  generalize (lg_sl ([.int k]) ++ List.replicate (1 - (lg_sl ([.int k])).length) Slot.unset).toArray = ls at hl ⊢
  have hl : lv_has ls 1 [(0, .int k)] := hl
  refine lv_iload_n hx hb dX3_goesForward_0 rfl (lv_at hl 0 rfl) ?_
  refine lv_iconst (v := 4) hx hb dX3_goesForward_1 (by decide) ?_
  refine lv_icmp_eq (tgt := 17) hx hb dX3_goesForward_2 (by decide) (fun c_2_1 => ?_) (fun c_2_1 => ?_)
  -- 2 jumps
  · skip
    refine lv_iconst (v := 1) hx hb dX3_goesForward_17 (by decide) ?_
    refine lv_goto (tgt := 22) hx hb dX3_goesForward_18 (by decide) ?_
    exact x_zret hx hb hr rfl hlocks hK () hP hD hS dX3_goesForward_22 (by simp (decide := true) [m_fwd, bI, eq_true c_2_1])
  -- 2 goes on
  · skip
    refine lv_iload_n hx hb dX3_goesForward_5 rfl (lv_at hl 0 rfl) ?_
    refine lv_bipush (v := 7) hx hb dX3_goesForward_6 (by decide) ?_
    refine lv_icmp_eq (tgt := 17) hx hb dX3_goesForward_8 (by decide) (fun c_8_2 => ?_) (fun c_8_2 => ?_)
    -- 8 jumps
    · skip
      refine lv_iconst (v := 1) hx hb dX3_goesForward_17 (by decide) ?_
      refine lv_goto (tgt := 22) hx hb dX3_goesForward_18 (by decide) ?_
      exact x_zret hx hb hr rfl hlocks hK () hP hD hS dX3_goesForward_22 (by simp (decide := true) [m_fwd, bI, c_2_1, eq_true c_8_2])
    -- 8 goes on
    · skip
      refine lv_iload_n hx hb dX3_goesForward_11 rfl (lv_at hl 0 rfl) ?_
      refine lv_bipush (v := 8) hx hb dX3_goesForward_12 (by decide) ?_
      refine lv_icmp_ne (tgt := 21) hx hb dX3_goesForward_14 (by decide) (fun c_14_3 => ?_) (fun c_14_3 => ?_)
      -- 14 jumps
      · skip
        refine lv_iconst (v := 0) hx hb dX3_goesForward_21 (by decide) ?_
        exact x_zret hx hb hr rfl hlocks hK () hP hD hS dX3_goesForward_22 (by simp (decide := true) [m_fwd, bI, c_2_1, c_8_2, c_14_3])
      -- 14 goes on
      · skip
        refine lv_iconst (v := 1) hx hb dX3_goesForward_17 (by decide) ?_
        refine lv_goto (tgt := 22) hx hb dX3_goesForward_18 (by decide) ?_
        exact x_zret hx hb hr rfl hlocks hK () hP hD hS dX3_goesForward_22 (by simp (decide := true) [m_fwd, bI, c_2_1, c_8_2, eq_true c_14_3])

set_option maxHeartbeats 4000000 in
set_option maxRecDepth 100000 in
theorem c_X3_lowestB (l : Launch) (D : va_G) (cA : Nat → ClassId) (ad : Nat → Nat) (tr : List (ClassId × FieldType)) (rest : va_W) (sz : Nat) (τ : Sg) (k n : Int32) : Met l yX3_lowestB wsX3_lowestB ({ frames := 1, cells := 0, slots := 0, locals := 20 }) (va_Pc [.int k, .int n] (inW D (tyB cA ++ tr) (wB cA ad τ ++ rest) sz)) (va_Qi (fun (r : Int32) (_ : Unit) => r = m_lowB k n) (fun _ : Unit => outW D (tyB cA ++ tr) (va_A (wB cA ad τ ++ rest) sz) (wB cA ad τ ++ rest)) (va_A (wB cA ad τ ++ rest) sz)) 0 0 (va_A (wB cA ad τ ++ rest) sz) := by
  refine Met.ofW (cc := cX3_lowestB) (maxL := 2) (ret := (some .int)) (by decide) rfl ?_
  intro p e s m args below meth c s₁ B hml hv
  obtain ⟨rfl, hsz, hP, hK, hD0⟩ := hv
  have hx := B.exec
  have hb := B.bytes
  have hr := B.returns
  have hts := atoms_spec (ws := wsX3_lowestB) B.pre
  have hown : s.vm.findClass RX3 = some m.cls := findClass_of_methodNamed B.named
  have hlocks := B.notSynchronized
  subst hsz
  have hD := hD0.self (sz := s.heap.size)
  clear hD0
  generalize hAe : va_A (wB cA ad τ ++ rest) s.heap.size = A at hD ⊢
  have hA : ∀ q : Nat, s.heap.size ≤ q → A q := fun q h => by rw [← hAe]; exact Or.inr h
  clear hAe
  have hS : va_S A s.heap s.heap [] := va_S.rf
  have hP : va_P D vwCl (wB cA ad τ ++ rest) s.heap := hP
  have hl := lv_entry ([.int k, .int n]) (n := 2) (Nat.le_of_ble_eq_true rfl)
  rw [lg_entry_eq]
  generalize (lg_sl ([.int k, .int n]) ++ List.replicate (2 - (lg_sl ([.int k, .int n])).length) Slot.unset).toArray = ls at hl ⊢
  have hl : lv_has ls 2 [(0, .int k), (1, .int n)] := hl
  refine lv_iload_n hx hb dX3_lowestB_0 rfl (lv_at hl 0 rfl) ?_
  refine x_Si (As := [.int k]) (rest0 := []) ⟨hx, hb, hml, hown, hts⟩ (c_X3_goesForward l D cA ad tr rest s.heap.size τ k) (va_cwS 1 hts gX3_lowestB_X3_goesForward rfl rfl rfl (by decide +kernel) ⟨Nat.le_of_ble_eq_true rfl, Nat.le_of_ble_eq_true rfl⟩) hK hP hD hS hA hl.1 rfl rfl (Nat.le_of_ble_eq_true rfl) ⟨Nat.zero_le _, Nat.zero_le _⟩ dX3_lowestB_1 (fun r1 _ H locs hw hP hD hS => ?_)
  have er1 := hw
  refine lv_if_eq (tgt := 13) hx hb dX3_lowestB_4 (by decide) (fun c_4_2 => ?_) (fun c_4_2 => ?_)
  -- 4 jumps
  · skip
    have dc_4_2 := bI_f er1 c_4_2
    refine lv_iconst (v := 0) hx hb dX3_lowestB_13 (by decide) ?_
    exact x_iret hx hb hr hlocks hK () hP hD hS dX3_lowestB_14 (by subst er1; simp (decide := true) [m_lowB, bI, dc_4_2])
  -- 4 goes on
  · skip
    have dc_4_2 := bI_t er1 c_4_2
    refine lv_iload_n hx hb dX3_lowestB_7 rfl (lv_at hl 1 rfl) ?_
    refine lv_iconst (v := 1) hx hb dX3_lowestB_8 (by decide) ?_
    refine lv_iadd hx hb dX3_lowestB_9 ?_
    refine lv_goto (tgt := 14) hx hb dX3_lowestB_10 (by decide) ?_
    exact x_iret hx hb hr hlocks hK () hP hD hS dX3_lowestB_14 (by subst er1; simp (decide := true) [m_lowB, bI, dc_4_2])

set_option maxHeartbeats 4000000 in
set_option maxRecDepth 100000 in
theorem c_X3_highestB (l : Launch) (D : va_G) (cA : Nat → ClassId) (ad : Nat → Nat) (tr : List (ClassId × FieldType)) (rest : va_W) (sz : Nat) (τ : Sg) (k n : Int32) : Met l yX3_highestB wsX3_highestB ({ frames := 1, cells := 0, slots := 0, locals := 20 }) (va_Pc [.int k, .int n] (inW D (tyB cA ++ tr) (wB cA ad τ ++ rest) sz)) (va_Qi (fun (r : Int32) (_ : Unit) => r = m_highB k n) (fun _ : Unit => outW D (tyB cA ++ tr) (va_A (wB cA ad τ ++ rest) sz) (wB cA ad τ ++ rest)) (va_A (wB cA ad τ ++ rest) sz)) 0 0 (va_A (wB cA ad τ ++ rest) sz) := by
  refine Met.ofW (cc := cX3_highestB) (maxL := 2) (ret := (some .int)) (by decide) rfl ?_
  intro p e s m args below meth c s₁ B hml hv
  obtain ⟨rfl, hsz, hP, hK, hD0⟩ := hv
  have hx := B.exec
  have hb := B.bytes
  have hr := B.returns
  have hts := atoms_spec (ws := wsX3_highestB) B.pre
  have hown : s.vm.findClass RX3 = some m.cls := findClass_of_methodNamed B.named
  have hlocks := B.notSynchronized
  subst hsz
  have hD := hD0.self (sz := s.heap.size)
  clear hD0
  generalize hAe : va_A (wB cA ad τ ++ rest) s.heap.size = A at hD ⊢
  have hA : ∀ q : Nat, s.heap.size ≤ q → A q := fun q h => by rw [← hAe]; exact Or.inr h
  clear hAe
  have hS : va_S A s.heap s.heap [] := va_S.rf
  have hP : va_P D vwCl (wB cA ad τ ++ rest) s.heap := hP
  have hl := lv_entry ([.int k, .int n]) (n := 2) (Nat.le_of_ble_eq_true rfl)
  rw [lg_entry_eq]
  generalize (lg_sl ([.int k, .int n]) ++ List.replicate (2 - (lg_sl ([.int k, .int n])).length) Slot.unset).toArray = ls at hl ⊢
  have hl : lv_has ls 2 [(0, .int k), (1, .int n)] := hl
  refine lv_iload_n hx hb dX3_highestB_0 rfl (lv_at hl 0 rfl) ?_
  refine x_Si (As := [.int k]) (rest0 := []) ⟨hx, hb, hml, hown, hts⟩ (c_X3_goesForward l D cA ad tr rest s.heap.size τ k) (va_cwS 1 hts gX3_highestB_X3_goesForward rfl rfl rfl (by decide +kernel) ⟨Nat.le_of_ble_eq_true rfl, Nat.le_of_ble_eq_true rfl⟩) hK hP hD hS hA hl.1 rfl rfl (Nat.le_of_ble_eq_true rfl) ⟨Nat.zero_le _, Nat.zero_le _⟩ dX3_highestB_1 (fun r1 _ H locs hw hP hD hS => ?_)
  have er1 := hw
  refine lv_if_eq (tgt := 10) hx hb dX3_highestB_4 (by decide) (fun c_4_2 => ?_) (fun c_4_2 => ?_)
  -- 4 jumps
  · skip
    have dc_4_2 := bI_f er1 c_4_2
    refine lv_iload_n hx hb dX3_highestB_10 rfl (lv_at hl 0 rfl) ?_
    refine lv_iconst (v := 3) hx hb dX3_highestB_11 (by decide) ?_
    refine lv_icmp_ne (tgt := 19) hx hb dX3_highestB_12 (by decide) (fun c_12_3 => ?_) (fun c_12_3 => ?_)
    -- 12 jumps
    · skip
      refine lv_iconst (v := 0) hx hb dX3_highestB_19 (by decide) ?_
      exact x_iret hx hb hr hlocks hK () hP hD hS dX3_highestB_20 (by subst er1; simp (decide := true) [m_highB, bI, dc_4_2, c_12_3])
    -- 12 goes on
    · skip
      refine lv_iload_n hx hb dX3_highestB_15 rfl (lv_at hl 1 rfl) ?_
      refine lv_goto (tgt := 20) hx hb dX3_highestB_16 (by decide) ?_
      exact x_iret hx hb hr hlocks hK () hP hD hS dX3_highestB_20 (by subst er1; simp (decide := true) [m_highB, bI, dc_4_2, eq_true c_12_3])
  -- 4 goes on
  · skip
    have dc_4_2 := bI_t er1 c_4_2
    refine lv_bipush (v := 12) hx hb dX3_highestB_7 (by decide) ?_
    exact x_iret hx hb hr hlocks hK () hP hD hS dX3_highestB_9 (by subst er1; simp (decide := true) [m_highB, bI, dc_4_2])

set_option maxHeartbeats 4000000 in
set_option maxRecDepth 100000 in
theorem c_X3_fits (l : Launch) (D : va_G) (cA : Nat → ClassId) (ad : Nat → Nat) (tr : List (ClassId × FieldType)) (rest : va_W) (sz : Nat) (τ : Sg) (k a b n : Int32) : Met l yX3_fits wsX3_fits ({ frames := 2, cells := 0, slots := 0, locals := 41 }) (va_Pc [.int k, .int a, .int b, .int n] (inW D (tyB cA ++ tr) (wB cA ad τ ++ rest) sz)) (va_Qi (fun (r : Int32) (_ : Unit) => r = bI (m_fits k a b n)) (fun _ : Unit => outW D (tyB cA ++ tr) (va_A (wB cA ad τ ++ rest) sz) (wB cA ad τ ++ rest)) (va_A (wB cA ad τ ++ rest) sz)) 0 0 (va_A (wB cA ad τ ++ rest) sz) := by
  refine Met.ofW (cc := cX3_fits) (maxL := 4) (ret := (some .boolean)) (by decide) rfl ?_
  intro p e s m args below meth c s₁ B hml hv
  obtain ⟨rfl, hsz, hP, hK, hD0⟩ := hv
  have hx := B.exec
  have hb := B.bytes
  have hr := B.returns
  have hts := atoms_spec (ws := wsX3_fits) B.pre
  have hown : s.vm.findClass RX3 = some m.cls := findClass_of_methodNamed B.named
  have hlocks := B.notSynchronized
  subst hsz
  have hD := hD0.self (sz := s.heap.size)
  clear hD0
  generalize hAe : va_A (wB cA ad τ ++ rest) s.heap.size = A at hD ⊢
  have hA : ∀ q : Nat, s.heap.size ≤ q → A q := fun q h => by rw [← hAe]; exact Or.inr h
  clear hAe
  have hS : va_S A s.heap s.heap [] := va_S.rf
  have hP : va_P D vwCl (wB cA ad τ ++ rest) s.heap := hP
  have hl := lv_entry ([.int k, .int a, .int b, .int n]) (n := 4) (Nat.le_of_ble_eq_true rfl)
  rw [lg_entry_eq]
  generalize (lg_sl ([.int k, .int a, .int b, .int n]) ++ List.replicate (4 - (lg_sl ([.int k, .int a, .int b, .int n])).length) Slot.unset).toArray = ls at hl ⊢
  have hl : lv_has ls 4 [(0, .int k), (1, .int a), (2, .int b), (3, .int n)] := hl
  refine lv_iload_n hx hb dX3_fits_0 rfl (lv_at hl 0 rfl) ?_
  refine lv_if_lt (tgt := 10) hx hb dX3_fits_1 (by decide) (fun c_1_1 => ?_) (fun c_1_1 => ?_)
  -- 1 jumps
  · skip
    refine lv_iconst (v := 0) hx hb dX3_fits_10 (by decide) ?_
    exact x_zret hx hb hr rfl hlocks hK () hP hD hS dX3_fits_11 (by simp (decide := true) [m_fits, bI, eq_true c_1_1])
  -- 1 goes on
  · skip
    refine lv_iload_n hx hb dX3_fits_4 rfl (lv_at hl 0 rfl) ?_
    refine lv_bipush (v := 18) hx hb dX3_fits_5 (by decide) ?_
    refine lv_icmp_le (tgt := 12) hx hb dX3_fits_7 (by decide) (fun c_7_2 => ?_) (fun c_7_2 => ?_)
    -- 7 jumps
    · skip
      refine lv_iload_n hx hb dX3_fits_12 rfl (lv_at hl 1 rfl) ?_
      refine lv_iload_n hx hb dX3_fits_13 rfl (lv_at hl 0 rfl) ?_
      refine x_Si (As := [.int k]) (rest0 := [.int a]) ⟨hx, hb, hml, hown, hts⟩ (c_X3_lowestA l D cA ad tr rest s.heap.size τ k) (va_cwS 1 hts gX3_fits_X3_lowestA rfl rfl rfl (by decide +kernel) ⟨Nat.le_of_ble_eq_true rfl, Nat.le_of_ble_eq_true rfl⟩) hK hP hD hS hA hl.1 rfl rfl (Nat.le_of_ble_eq_true rfl) ⟨Nat.zero_le _, Nat.zero_le _⟩ dX3_fits_14 (fun r3 _ H locs hw hP hD hS => ?_)
      have er3 := hw
      refine lv_icmp_lt (tgt := 50) hx hb dX3_fits_17 (by decide) (fun c_17_4 => ?_) (fun c_17_4 => ?_)
      -- 17 jumps
      · skip
        refine lv_iconst (v := 0) hx hb dX3_fits_50 (by decide) ?_
        exact x_zret hx hb hr rfl hlocks hK () hP hD hS dX3_fits_51 (by subst er3; simp (decide := true) [m_fits, bI, c_1_1, eq_true c_7_2, eq_true c_17_4])
      -- 17 goes on
      · skip
        refine lv_iload_n hx hb dX3_fits_20 rfl (lv_at hl 1 rfl) ?_
        refine lv_iload_n hx hb dX3_fits_21 rfl (lv_at hl 0 rfl) ?_
        refine x_Si (As := [.int k]) (rest0 := [.int a]) ⟨hx, hb, hml, hown, hts⟩ (c_X3_highestA l D cA ad tr rest H.size τ k) (va_cwS 1 hts gX3_fits_X3_highestA rfl rfl rfl (by decide +kernel) ⟨Nat.le_of_ble_eq_true rfl, Nat.le_of_ble_eq_true rfl⟩) hK hP hD hS hA hl.1 rfl rfl (Nat.le_of_ble_eq_true rfl) ⟨Nat.zero_le _, Nat.zero_le _⟩ dX3_fits_22 (fun r5 _ H locs hw hP hD hS => ?_)
        have er5 := hw
        refine lv_icmp_gt (tgt := 50) hx hb dX3_fits_25 (by decide) (fun c_25_6 => ?_) (fun c_25_6 => ?_)
        -- 25 jumps
        · skip
          refine lv_iconst (v := 0) hx hb dX3_fits_50 (by decide) ?_
          exact x_zret hx hb hr rfl hlocks hK () hP hD hS dX3_fits_51 (by subst er5 er3; simp (decide := true) [m_fits, bI, c_1_1, eq_true c_7_2, c_17_4, eq_true c_25_6])
        -- 25 goes on
        · skip
          refine lv_iload_n hx hb dX3_fits_28 rfl (lv_at hl 2 rfl) ?_
          refine lv_iload_n hx hb dX3_fits_29 rfl (lv_at hl 0 rfl) ?_
          refine lv_iload_n hx hb dX3_fits_30 rfl (lv_at hl 3 rfl) ?_
          refine x_Si (As := [.int k, .int n]) (rest0 := [.int b]) ⟨hx, hb, hml, hown, hts⟩ (c_X3_lowestB l D cA ad tr rest H.size τ k n) (va_cwS 2 hts gX3_fits_X3_lowestB rfl rfl rfl (by decide +kernel) ⟨Nat.le_of_ble_eq_true rfl, Nat.le_of_ble_eq_true rfl⟩) hK hP hD hS hA hl.1 rfl rfl (Nat.le_of_ble_eq_true rfl) ⟨Nat.zero_le _, Nat.zero_le _⟩ dX3_fits_31 (fun r7 _ H locs hw hP hD hS => ?_)
          have er7 := hw
          refine lv_icmp_lt (tgt := 50) hx hb dX3_fits_34 (by decide) (fun c_34_8 => ?_) (fun c_34_8 => ?_)
          -- 34 jumps
          · skip
            refine lv_iconst (v := 0) hx hb dX3_fits_50 (by decide) ?_
            exact x_zret hx hb hr rfl hlocks hK () hP hD hS dX3_fits_51 (by subst er7 er5 er3; simp (decide := true) [m_fits, bI, c_1_1, eq_true c_7_2, c_17_4, c_25_6, eq_true c_34_8])
          -- 34 goes on
          · skip
            refine lv_iload_n hx hb dX3_fits_37 rfl (lv_at hl 2 rfl) ?_
            refine lv_iload_n hx hb dX3_fits_38 rfl (lv_at hl 0 rfl) ?_
            refine lv_iload_n hx hb dX3_fits_39 rfl (lv_at hl 3 rfl) ?_
            refine x_Si (As := [.int k, .int n]) (rest0 := [.int b]) ⟨hx, hb, hml, hown, hts⟩ (c_X3_highestB l D cA ad tr rest H.size τ k n) (va_cwS 2 hts gX3_fits_X3_highestB rfl rfl rfl (by decide +kernel) ⟨Nat.le_of_ble_eq_true rfl, Nat.le_of_ble_eq_true rfl⟩) hK hP hD hS hA hl.1 rfl rfl (Nat.le_of_ble_eq_true rfl) ⟨Nat.zero_le _, Nat.zero_le _⟩ dX3_fits_40 (fun r9 _ H locs hw hP hD hS => ?_)
            have er9 := hw
            refine lv_icmp_gt (tgt := 50) hx hb dX3_fits_43 (by decide) (fun c_43_10 => ?_) (fun c_43_10 => ?_)
            -- 43 jumps
            · skip
              refine lv_iconst (v := 0) hx hb dX3_fits_50 (by decide) ?_
              exact x_zret hx hb hr rfl hlocks hK () hP hD hS dX3_fits_51 (by subst er9 er7 er5 er3; simp (decide := true) [m_fits, bI, c_1_1, eq_true c_7_2, c_17_4, c_25_6, c_34_8, eq_true c_43_10])
            -- 43 goes on
            · skip
              refine lv_iconst (v := 1) hx hb dX3_fits_46 (by decide) ?_
              refine lv_goto (tgt := 51) hx hb dX3_fits_47 (by decide) ?_
              exact x_zret hx hb hr rfl hlocks hK () hP hD hS dX3_fits_51 (by subst er9 er7 er5 er3; simp (decide := true) [m_fits, bI, c_1_1, eq_true c_7_2, c_17_4, c_25_6, c_34_8, c_43_10])
    -- 7 goes on
    · skip
      refine lv_iconst (v := 0) hx hb dX3_fits_10 (by decide) ?_
      exact x_zret hx hb hr rfl hlocks hK () hP hD hS dX3_fits_11 (by simp (decide := true) [m_fits, bI, c_1_1, c_7_2])
