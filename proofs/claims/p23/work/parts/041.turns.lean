/-! THE PROGRAM, and a turn. Its cells lie behind the State's: 0 the Program, 1 lengths, 2 kinds, 3 firsts, 4 seconds -/
def wPg (cA : Nat → ClassId) (ad pd : Nat → Nat) (π : Sg) : va_W := [(ad 102, .inr (3, [.int (π 0 0), .ref (pd 1), .ref (pd 2), .ref (pd 3), .ref (pd 4)])), (pd 1, .inl (cA 0, 8, .inl (π 1))), (pd 2, .inl (cA 0, 96, .inl (π 2))), (pd 3, .inl (cA 0, 96, .inl (π 3))), (pd 4, .inl (cA 0, 96, .inl (π 4)))]
theorem w_pg {cA ad τ pd π} {rest : va_W} : (wB cA ad τ ++ (wPg cA ad pd π ++ rest))[102]? = some (ad 102, .inr (3, [.int (π 0 0), .ref (pd 1), .ref (pd 2), .ref (pd 3), .ref (pd 4)])) := by rw [wB_rest (rest := wPg cA ad pd π ++ rest) 0]; rfl
theorem w_pa1 {cA ad τ pd π} {rest : va_W} : (wB cA ad τ ++ (wPg cA ad pd π ++ rest))[103]? = some (pd 1, .inl (cA 0, 8, .inl (π 1))) := by rw [wB_rest (rest := wPg cA ad pd π ++ rest) 1]; rfl
theorem w_pa2 {cA ad τ pd π} {rest : va_W} : (wB cA ad τ ++ (wPg cA ad pd π ++ rest))[104]? = some (pd 2, .inl (cA 0, 96, .inl (π 2))) := by rw [wB_rest (rest := wPg cA ad pd π ++ rest) 2]; rfl
theorem w_pa3 {cA ad τ pd π} {rest : va_W} : (wB cA ad τ ++ (wPg cA ad pd π ++ rest))[105]? = some (pd 3, .inl (cA 0, 96, .inl (π 3))) := by rw [wB_rest (rest := wPg cA ad pd π ++ rest) 3]; rfl
theorem w_pa4 {cA ad τ pd π} {rest : va_W} : (wB cA ad τ ++ (wPg cA ad pd π ++ rest))[106]? = some (pd 4, .inl (cA 0, 96, .inl (π 4))) := by rw [wB_rest (rest := wPg cA ad pd π ++ rest) 4]; rfl
section XPG
variable {p : Program} {l : Launch} {e : Env} {R : Room} {s : State} {m : MethodId} {args : Array Value} {below : List Frame} {meth : Method} {c : Code} {H : Heap} {locs : List Loc} {cells slots : Nat} {Q : State → Prop}
variable {cc : ByteArray} {pc : Nat} {ls : Array Slot} {st0 : List Value} {D : va_G} {cA : Nat → ClassId} {ad pd : Nat → Nat} {τ π : Sg} {rest : va_W} {tr : List (ClassId × FieldType)}
theorem l_pa1 (hx : p.tables.exec = Jvm.exec) (hb : c.code = cc) (hK : va_K D vwCl (tyB cA ++ tr) s) (hP : va_P D vwCl (wB cA ad τ ++ (wPg cA ad pd π ++ rest)) H) {k : Int32} {j : Nat} (hj : k.toNatClampNeg = j) (hin : vp_in k 8) (hdg : decode cc pc = .ok (.iaload, 1))
    (kk : W p l e R s m args below meth c H locs cells slots Q (F0 m (pc + 1) ls (.int (π 1 j) :: st0))) : W p l e R s m args below meth c H locs cells slots Q (F0 m pc ls (.int k :: .ref (pd 1) :: st0)) := by
  subst hj
  exact va_iald hx hb hK hP 103 0 w_pa1 rfl hin hdg kk
theorem l_pa2 (hx : p.tables.exec = Jvm.exec) (hb : c.code = cc) (hK : va_K D vwCl (tyB cA ++ tr) s) (hP : va_P D vwCl (wB cA ad τ ++ (wPg cA ad pd π ++ rest)) H) {k : Int32} {j : Nat} (hj : k.toNatClampNeg = j) (hin : vp_in k 96) (hdg : decode cc pc = .ok (.iaload, 1))
    (kk : W p l e R s m args below meth c H locs cells slots Q (F0 m (pc + 1) ls (.int (π 2 j) :: st0))) : W p l e R s m args below meth c H locs cells slots Q (F0 m pc ls (.int k :: .ref (pd 2) :: st0)) := by
  subst hj
  exact va_iald hx hb hK hP 104 0 w_pa2 rfl hin hdg kk
theorem l_pa3 (hx : p.tables.exec = Jvm.exec) (hb : c.code = cc) (hK : va_K D vwCl (tyB cA ++ tr) s) (hP : va_P D vwCl (wB cA ad τ ++ (wPg cA ad pd π ++ rest)) H) {k : Int32} {j : Nat} (hj : k.toNatClampNeg = j) (hin : vp_in k 96) (hdg : decode cc pc = .ok (.iaload, 1))
    (kk : W p l e R s m args below meth c H locs cells slots Q (F0 m (pc + 1) ls (.int (π 3 j) :: st0))) : W p l e R s m args below meth c H locs cells slots Q (F0 m pc ls (.int k :: .ref (pd 3) :: st0)) := by
  subst hj
  exact va_iald hx hb hK hP 105 0 w_pa3 rfl hin hdg kk
theorem l_pa4 (hx : p.tables.exec = Jvm.exec) (hb : c.code = cc) (hK : va_K D vwCl (tyB cA ++ tr) s) (hP : va_P D vwCl (wB cA ad τ ++ (wPg cA ad pd π ++ rest)) H) {k : Int32} {j : Nat} (hj : k.toNatClampNeg = j) (hin : vp_in k 96) (hdg : decode cc pc = .ok (.iaload, 1))
    (kk : W p l e R s m args below meth c H locs cells slots Q (F0 m (pc + 1) ls (.int (π 4 j) :: st0))) : W p l e R s m args below meth c H locs cells slots Q (F0 m pc ls (.int k :: .ref (pd 4) :: st0)) := by
  subst hj
  exact va_iald hx hb hK hP 106 0 w_pa4 rfl hin hdg kk
end XPG
def m_linesOf (π : Sg) (b : Int32) : Int32 := if b < 0 then 0 else if 8 ≤ b then 0 else π 1 b.toNatClampNeg
def m_placeOf (b x : Int32) : Int32 := if b < 0 then -1 else if 8 ≤ b then -1 else if x < 0 then -1 else if 12 ≤ x then -1 else b * 12 + x
theorem m_placeOf_in {b x : Int32} (h : ¬ m_placeOf b x = -1) : vp_in (m_placeOf b x) 96 := by
  unfold m_placeOf at h ⊢
  by_cases h1 : b < 0
  · rw [if_pos h1] at h; exact absurd rfl h
  by_cases h2 : 8 ≤ b
  · rw [if_neg h1, if_pos h2] at h; exact absurd rfl h
  by_cases h3 : x < 0
  · rw [if_neg h1, if_neg h2, if_pos h3] at h; exact absurd rfl h
  by_cases h4 : 12 ≤ x
  · rw [if_neg h1, if_neg h2, if_neg h3, if_pos h4] at h; exact absurd rfl h
  rw [if_neg h1, if_neg h2, if_neg h3, if_neg h4]
  obtain ⟨i, hi, rfl⟩ : ∃ i : Nat, i < 8 ∧ b = nI i := ⟨b.toNatClampNeg, in_lt (in_of h1 h2 (by decide)), nI_cl h1⟩
  obtain ⟨j, hj, rfl⟩ : ∃ j : Nat, j < 12 ∧ x = nI j := ⟨x.toNatClampNeg, in_lt (in_of h3 h4 (by decide)), nI_cl h3⟩
  have e : nI i * 12 + nI j = nI (i * 12 + j) := by
    show Int32.ofNat i * Int32.ofNat 12 + Int32.ofNat j = Int32.ofNat (i * 12 + j)
    rw [Int32.ofNat_add, Int32.ofNat_mul]
  rw [e]
  exact vp_in_nI (by omega) (by omega)
def m_isWait (x : Int32) : Bool := if x = 12 then true else if x = 13 then true else if x = 14 then false else if x = 15 then true else if x = 16 then true else if x = 17 then false else if x = 18 then true else false
def m_cap (x : Int32) : Int32 := if -9999 < (if x < 9999 then x else 9999) then (if x < 9999 then x else 9999) else -9999
def m_add (τ : Sg) (i : Nat) (a : Int32) : Sg := m_next (up2 τ (i + 6) 5 (m_cap (τ (i + 6) 5 + a))) i
def m_doLine (τ π : Sg) (i : Nat) (k a b : Int32) : Sg × Int32 :=
  if k = 0 then (m_add τ i a, 0) else if k = 1 then (m_get τ i a, 0) else if k = 2 then (m_put τ i a, 0) else if k = 3 then (m_loopR τ i a b, 0) else if k = 4 then (m_skip τ i b, 0)
  else if k = 5 then (τ, -2) else if k = 6 then (τ, a) else if k = 7 then m_opn τ i 0 (if a ≤ 0 then -1 else τ 0 8 + a) b else if k = 8 then m_opn τ i 1 (-1) b
  else if k = 9 then (τ, if τ (i + 6) 7 = -1 then 1 else -1) else if k = 10 then m_spawn τ π i a else if k = 11 then m_stop τ i else if k = 12 then (m_sleep τ i a, -4)
  else if k = 13 then m_lck τ i a else if k = 14 then m_fre τ i a else if k = 15 then m_send τ i a else if k = 16 then m_take τ i a else if k = 17 then m_nd τ i a else if k = 18 then m_pick τ i else (τ, -2)
def m_goLine (τ π : Sg) (i q : Nat) : Sg × Int32 := if m_isWait (π 2 q) = true then (if m_isHit τ i (-1) = true then (τ, -3) else m_doLine τ π i (π 2 q) (π 3 q) (π 4 q)) else m_doLine τ π i (π 2 q) (π 3 q) (π 4 q)
def m_goOn (τ π : Sg) (i : Nat) : Sg × Int32 :=
  if m_placeOf (τ (i + 6) 2) (τ (i + 6) 4) = -1 then (τ, -2) else if τ (i + 6) 4 < m_linesOf π (τ (i + 6) 2) then
    (if τ 100 2 < 100 then
      let τ1 := up2 τ 100 2 (τ 100 2 + 1)
      m_goLine (up2 τ1 0 10 (τ1 0 10 + 1)) π i (m_placeOf (τ (i + 6) 2) (τ (i + 6) 4)).toNatClampNeg
    else (τ, 7)) else (τ, -2)
def m_steps (π : Sg) (i : Nat) : Nat → Sg → Int32 → Sg
  | 0, τ, _ => τ
  | n + 1, τ, w => if w = -4 then τ else if w = 0 then m_steps π i n (m_goOn τ π i).1 (m_goOn τ π i).2 else m_steps π i n (m_leave τ i w).1 (m_leave τ i w).2
def m_turn (τ π : Sg) (i : Nat) : Sg :=
  let τ1 := up2 τ 0 9 (τ 0 9 + 1)
  let τ2 := up2 τ1 100 2 0
  m_steps π i 1000 (m_beginTurn τ2 i).1 (m_beginTurn τ2 i).2
def m_turns (π : Sg) : Nat → Nat → Sg → Sg × Nat
  | 0, k, τ => (τ, k)
  | n + 1, k, τ => match m_takeReady τ with
    | none => (m_takeReadyW τ, k)
    | some i => m_turns π n (k + 1) (m_turn (m_takeReadyW τ) π i)

set_option maxHeartbeats 4000000 in
set_option maxRecDepth 100000 in
theorem c_X4_isWait (l : Launch) (D : va_G) (cA : Nat → ClassId) (ad : Nat → Nat) (tr : List (ClassId × FieldType)) (rest : va_W) (sz : Nat) (τ : Sg) (x : Int32) : Met l yX4_isWait wsX4_isWait ({ frames := 0, cells := 0, slots := 0, locals := 0 }) (va_Pc [.int x] (inW D (tyB cA ++ tr) (wB cA ad τ ++ rest) sz)) (va_Qi (fun (r : Int32) (_ : Unit) => r = bI (m_isWait x)) (fun _ : Unit => outW D (tyB cA ++ tr) (va_A (wB cA ad τ ++ rest) sz) (wB cA ad τ ++ rest)) (va_A (wB cA ad τ ++ rest) sz)) 0 0 (va_A (wB cA ad τ ++ rest) sz) := by
  refine Met.ofW (cc := cX4_isWait) (maxL := 1) (ret := (some .boolean)) (by decide) rfl ?_
  intro p e s m args below meth c s₁ B hml hv
  obtain ⟨rfl, hsz, hP, hK, hD0⟩ := hv
  have hx := B.exec
  have hb := B.bytes
  have hr := B.returns
  have hts := atoms_spec (ws := wsX4_isWait) B.pre
  have hown : s.vm.findClass RX4 = some m.cls := findClass_of_methodNamed B.named
  have hlocks := B.notSynchronized
  subst hsz
  have hD := hD0.self (sz := s.heap.size)
  clear hD0
  generalize hAe : va_A (wB cA ad τ ++ rest) s.heap.size = A at hD ⊢
  have hA : ∀ q : Nat, s.heap.size ≤ q → A q := fun q h => by rw [← hAe]; exact Or.inr h
  clear hAe
  have hS : va_S A s.heap s.heap [] := va_S.rf
  have hP : va_P D vwCl (wB cA ad τ ++ rest) s.heap := hP
  have hl := lv_entry ([.int x]) (n := 1) (Nat.le_of_ble_eq_true rfl)
  rw [lg_entry_eq]
  generalize (lg_sl ([.int x]) ++ List.replicate (1 - (lg_sl ([.int x])).length) Slot.unset).toArray = ls at hl ⊢
  have hl : lv_has ls 1 [(0, .int x)] := hl
  refine lv_iload_n hx hb dX4_isWait_0 rfl (lv_at hl 0 rfl) ?_
  by_cases q_1_12 : x = 12
  · skip
    refine lv_tableIn (tgt := 44) (off := 43) hx hb dX4_isWait_1 (by rw [q_1_12]; decide) (by rw [q_1_12]; decide) (by rw [q_1_12]; decide) (by decide) ?_
    refine lv_iconst (v := 1) hx hb dX4_isWait_44 (by decide) ?_
    exact x_zret hx hb hr rfl hlocks hK () hP hD hS dX4_isWait_45 (by simp (decide := true) [m_isWait, bI, eq_true q_1_12])
  by_cases q_1_13 : x = 13
  · skip
    refine lv_tableIn (tgt := 44) (off := 43) hx hb dX4_isWait_1 (by rw [q_1_13]; decide) (by rw [q_1_13]; decide) (by rw [q_1_13]; decide) (by decide) ?_
    refine lv_iconst (v := 1) hx hb dX4_isWait_44 (by decide) ?_
    exact x_zret hx hb hr rfl hlocks hK () hP hD hS dX4_isWait_45 (by simp (decide := true) [m_isWait, bI, q_1_12, eq_true q_1_13])
  by_cases q_1_14 : x = 14
  · skip
    refine lv_tableIn (tgt := 46) (off := 45) hx hb dX4_isWait_1 (by rw [q_1_14]; decide) (by rw [q_1_14]; decide) (by rw [q_1_14]; decide) (by decide) ?_
    refine lv_iconst (v := 0) hx hb dX4_isWait_46 (by decide) ?_
    exact x_zret hx hb hr rfl hlocks hK () hP hD hS dX4_isWait_47 (by simp (decide := true) [m_isWait, bI, q_1_12, q_1_13, eq_true q_1_14])
  by_cases q_1_15 : x = 15
  · skip
    refine lv_tableIn (tgt := 44) (off := 43) hx hb dX4_isWait_1 (by rw [q_1_15]; decide) (by rw [q_1_15]; decide) (by rw [q_1_15]; decide) (by decide) ?_
    refine lv_iconst (v := 1) hx hb dX4_isWait_44 (by decide) ?_
    exact x_zret hx hb hr rfl hlocks hK () hP hD hS dX4_isWait_45 (by simp (decide := true) [m_isWait, bI, q_1_12, q_1_13, q_1_14, eq_true q_1_15])
  by_cases q_1_16 : x = 16
  · skip
    refine lv_tableIn (tgt := 44) (off := 43) hx hb dX4_isWait_1 (by rw [q_1_16]; decide) (by rw [q_1_16]; decide) (by rw [q_1_16]; decide) (by decide) ?_
    refine lv_iconst (v := 1) hx hb dX4_isWait_44 (by decide) ?_
    exact x_zret hx hb hr rfl hlocks hK () hP hD hS dX4_isWait_45 (by simp (decide := true) [m_isWait, bI, q_1_12, q_1_13, q_1_14, q_1_15, eq_true q_1_16])
  by_cases q_1_17 : x = 17
  · skip
    refine lv_tableIn (tgt := 46) (off := 45) hx hb dX4_isWait_1 (by rw [q_1_17]; decide) (by rw [q_1_17]; decide) (by rw [q_1_17]; decide) (by decide) ?_
    refine lv_iconst (v := 0) hx hb dX4_isWait_46 (by decide) ?_
    exact x_zret hx hb hr rfl hlocks hK () hP hD hS dX4_isWait_47 (by simp (decide := true) [m_isWait, bI, q_1_12, q_1_13, q_1_14, q_1_15, q_1_16, eq_true q_1_17])
  by_cases q_1_18 : x = 18
  · skip
    refine lv_tableIn (tgt := 44) (off := 43) hx hb dX4_isWait_1 (by rw [q_1_18]; decide) (by rw [q_1_18]; decide) (by rw [q_1_18]; decide) (by decide) ?_
    refine lv_iconst (v := 1) hx hb dX4_isWait_44 (by decide) ?_
    exact x_zret hx hb hr rfl hlocks hK () hP hD hS dX4_isWait_45 (by simp (decide := true) [m_isWait, bI, q_1_12, q_1_13, q_1_14, q_1_15, q_1_16, q_1_17, eq_true q_1_18])
  refine lv_tableOut (tgt := 46) hx hb dX4_isWait_1 (by have eq_1_12 : (x).toInt ≠ 12 := fun h => q_1_12 (Int32.toInt_inj.mp (h.trans (by decide))); have eq_1_13 : (x).toInt ≠ 13 := fun h => q_1_13 (Int32.toInt_inj.mp (h.trans (by decide))); have eq_1_14 : (x).toInt ≠ 14 := fun h => q_1_14 (Int32.toInt_inj.mp (h.trans (by decide))); have eq_1_15 : (x).toInt ≠ 15 := fun h => q_1_15 (Int32.toInt_inj.mp (h.trans (by decide))); have eq_1_16 : (x).toInt ≠ 16 := fun h => q_1_16 (Int32.toInt_inj.mp (h.trans (by decide))); have eq_1_17 : (x).toInt ≠ 17 := fun h => q_1_17 (Int32.toInt_inj.mp (h.trans (by decide))); have eq_1_18 : (x).toInt ≠ 18 := fun h => q_1_18 (Int32.toInt_inj.mp (h.trans (by decide))); omega) (by decide) ?_
  refine lv_iconst (v := 0) hx hb dX4_isWait_46 (by decide) ?_
  exact x_zret hx hb hr rfl hlocks hK () hP hD hS dX4_isWait_47 (by simp (decide := true) [m_isWait, bI, q_1_12, q_1_13, q_1_14, q_1_15, q_1_16, q_1_17, q_1_18])

set_option maxHeartbeats 4000000 in
set_option maxRecDepth 100000 in
theorem c_X3_linesOf (l : Launch) (D : va_G) (cA : Nat → ClassId) (ad : Nat → Nat) (tr : List (ClassId × FieldType)) (rest : va_W) (sz : Nat) (τ : Sg) (pd : Nat → Nat) (π : Sg) (b : Int32) : Met l yX3_linesOf wsX3_linesOf ({ frames := 0, cells := 0, slots := 0, locals := 0 }) (va_Pc [.ref (ad 102), .int b] (inW D (tyB cA ++ tr) (wB cA ad τ ++ (wPg cA ad pd π ++ rest)) sz)) (va_Qi (fun (r : Int32) (_ : Unit) => r = m_linesOf π b) (fun _ : Unit => outW D (tyB cA ++ tr) (va_A (wB cA ad τ ++ (wPg cA ad pd π ++ rest)) sz) (wB cA ad τ ++ (wPg cA ad pd π ++ rest))) (va_A (wB cA ad τ ++ (wPg cA ad pd π ++ rest)) sz)) 0 0 (va_A (wB cA ad τ ++ (wPg cA ad pd π ++ rest)) sz) := by
  refine Met.ofW (cc := cX3_linesOf) (maxL := 2) (ret := (some .int)) (by decide) rfl ?_
  intro p e s m args below meth c s₁ B hml hv
  obtain ⟨rfl, hsz, hP, hK, hD0⟩ := hv
  have hx := B.exec
  have hb := B.bytes
  have hr := B.returns
  have hts := atoms_spec (ws := wsX3_linesOf) B.pre
  have hown : s.vm.findClass RX3 = some m.cls := findClass_of_methodNamed B.named
  have hlocks := B.notSynchronized
  subst hsz
  have hD := hD0.self (sz := s.heap.size)
  clear hD0
  generalize hAe : va_A (wB cA ad τ ++ (wPg cA ad pd π ++ rest)) s.heap.size = A at hD ⊢
  have hA : ∀ q : Nat, s.heap.size ≤ q → A q := fun q h => by rw [← hAe]; exact Or.inr h
  clear hAe
  have hS : va_S A s.heap s.heap [] := va_S.rf
  have hP : va_P D vwCl (wB cA ad τ ++ (wPg cA ad pd π ++ rest)) s.heap := hP
  have hl := lv_entry ([.ref (ad 102), .int b]) (n := 2) (Nat.le_of_ble_eq_true rfl)
  rw [lg_entry_eq]
  generalize (lg_sl ([.ref (ad 102), .int b]) ++ List.replicate (2 - (lg_sl ([.ref (ad 102), .int b])).length) Slot.unset).toArray = ls at hl ⊢
  have hl : lv_has ls 2 [(0, .ref (ad 102)), (1, .int b)] := hl
  have nX3 : ∀ w ∈ u_ws RX3 TX3 5, w ∈ wsX3_linesOf := by decide +kernel
  have k9 := hts (.fieldLink RX3 9 "ScopeRow$Program" "lengths" "[I") (by decide +kernel)
  refine lv_iload_n hx hb dX3_linesOf_0 rfl (lv_at hl 1 rfl) ?_
  refine lv_if_lt (tgt := 22) hx hb dX3_linesOf_1 (by decide) (fun c_1_1 => ?_) (fun c_1_1 => ?_)
  -- 1 jumps
  · skip
    refine lv_iconst (v := 0) hx hb dX3_linesOf_22 (by decide) ?_
    exact x_iret hx hb hr hlocks hK () hP hD hS dX3_linesOf_23 (by simp [m_linesOf, n24, n40, n2, n27, n4, eq_true c_1_1])
  -- 1 goes on
  · skip
    refine lv_iload_n hx hb dX3_linesOf_4 rfl (lv_at hl 1 rfl) ?_
    refine lv_aload_n hx hb dX3_linesOf_5 rfl (lv_at hl 0 rfl) ?_
    refine va_get (D := D) (C := RX3) (T := TX3) (N := 5) (ci := 3) (v := .ref (pd 1)) hx hb hts nX3 hown hK hP 102 w_pg rfl 1 (by decide) k9 (fun _ h9 => h9) rfl dX3_linesOf_6 ?_
    refine va_alen (v := 8) hx hb hK hP 103 0 w_pa1 rfl rfl dX3_linesOf_9 ?_
    refine lv_icmp_ge (tgt := 22) hx hb dX3_linesOf_10 (by decide) (fun c_10_2 => ?_) (fun c_10_2 => ?_)
    -- 10 jumps
    · skip
      refine lv_iconst (v := 0) hx hb dX3_linesOf_22 (by decide) ?_
      exact x_iret hx hb hr hlocks hK () hP hD hS dX3_linesOf_23 (by simp [m_linesOf, n24, n40, n2, n27, n4, c_1_1, eq_true c_10_2])
    -- 10 goes on
    · skip
      refine lv_aload_n hx hb dX3_linesOf_13 rfl (lv_at hl 0 rfl) ?_
      refine va_get (D := D) (C := RX3) (T := TX3) (N := 5) (ci := 3) (v := .ref (pd 1)) hx hb hts nX3 hown hK hP 102 w_pg rfl 1 (by decide) k9 (fun _ h9 => h9) rfl dX3_linesOf_14 ?_
      refine lv_iload_n hx hb dX3_linesOf_17 rfl (lv_at hl 1 rfl) ?_
      refine l_pa1 hx hb hK hP (j := b.toNatClampNeg) rfl (in_of c_1_1 c_10_2 (by decide)) dX3_linesOf_18 ?_
      refine lv_goto (tgt := 23) hx hb dX3_linesOf_19 (by decide) ?_
      exact x_iret hx hb hr hlocks hK () hP hD hS dX3_linesOf_23 (by simp [m_linesOf, n24, n40, n2, n27, n4, c_1_1, c_10_2])

set_option maxHeartbeats 4000000 in
set_option maxRecDepth 100000 in
theorem c_X3_placeOf (l : Launch) (D : va_G) (cA : Nat → ClassId) (ad : Nat → Nat) (tr : List (ClassId × FieldType)) (rest : va_W) (sz : Nat) (τ : Sg) (pd : Nat → Nat) (π : Sg) (b x : Int32) : Met l yX3_placeOf wsX3_placeOf ({ frames := 0, cells := 0, slots := 0, locals := 0 }) (va_Pc [.ref (ad 102), .int b, .int x] (inW D (tyB cA ++ tr) (wB cA ad τ ++ (wPg cA ad pd π ++ rest)) sz)) (va_Qi (fun (r : Int32) (_ : Unit) => r = m_placeOf b x) (fun _ : Unit => outW D (tyB cA ++ tr) (va_A (wB cA ad τ ++ (wPg cA ad pd π ++ rest)) sz) (wB cA ad τ ++ (wPg cA ad pd π ++ rest))) (va_A (wB cA ad τ ++ (wPg cA ad pd π ++ rest)) sz)) 0 0 (va_A (wB cA ad τ ++ (wPg cA ad pd π ++ rest)) sz) := by
  refine Met.ofW (cc := cX3_placeOf) (maxL := 4) (ret := (some .int)) (by decide) rfl ?_
  intro p e s m args below meth c s₁ B hml hv
  obtain ⟨rfl, hsz, hP, hK, hD0⟩ := hv
  have hx := B.exec
  have hb := B.bytes
  have hr := B.returns
  have hts := atoms_spec (ws := wsX3_placeOf) B.pre
  have hown : s.vm.findClass RX3 = some m.cls := findClass_of_methodNamed B.named
  have hlocks := B.notSynchronized
  subst hsz
  have hD := hD0.self (sz := s.heap.size)
  clear hD0
  generalize hAe : va_A (wB cA ad τ ++ (wPg cA ad pd π ++ rest)) s.heap.size = A at hD ⊢
  have hA : ∀ q : Nat, s.heap.size ≤ q → A q := fun q h => by rw [← hAe]; exact Or.inr h
  clear hAe
  have hS : va_S A s.heap s.heap [] := va_S.rf
  have hP : va_P D vwCl (wB cA ad τ ++ (wPg cA ad pd π ++ rest)) s.heap := hP
  have hl := lv_entry ([.ref (ad 102), .int b, .int x]) (n := 4) (Nat.le_of_ble_eq_true rfl)
  rw [lg_entry_eq]
  generalize (lg_sl ([.ref (ad 102), .int b, .int x]) ++ List.replicate (4 - (lg_sl ([.ref (ad 102), .int b, .int x])).length) Slot.unset).toArray = ls at hl ⊢
  have hl : lv_has ls 4 [(0, .ref (ad 102)), (1, .int b), (2, .int x)] := hl
  refine lv_iload_n hx hb dX3_placeOf_0 rfl (lv_at hl 1 rfl) ?_
  refine lv_if_lt (tgt := 24) hx hb dX3_placeOf_1 (by decide) (fun c_1_1 => ?_) (fun c_1_1 => ?_)
  -- 1 jumps
  · skip
    refine lv_iconst (v := 0) hx hb dX3_placeOf_24 (by decide) ?_
    refine lv_istore_n (lv' := [(3, .int 0), (0, .ref (ad 102)), (1, .int b), (2, .int x)]) hx hb dX3_placeOf_25 rfl hl (by decide) rfl (fun ls hl => ?_)
    refine lv_iload_n hx hb dX3_placeOf_26 rfl (lv_at hl 0 rfl) ?_
    refine lv_if_eq (tgt := 39) hx hb dX3_placeOf_27 (by decide) (fun c_27_2 => ?_) (fun c_27_2 => ?_)
    -- 27 jumps
    · skip
      refine lv_iconst (v := (-1)) hx hb dX3_placeOf_39 (by decide) ?_
      exact x_iret hx hb hr hlocks hK () hP hD hS dX3_placeOf_40 (by simp [m_placeOf, n24, n40, n2, n27, n4, eq_true c_1_1])
    -- 27 goes on
    · exact absurd c_27_2 (by decide)
  -- 1 goes on
  · skip
    refine lv_iload_n hx hb dX3_placeOf_4 rfl (lv_at hl 1 rfl) ?_
    refine lv_bipush (v := 8) hx hb dX3_placeOf_5 (by decide) ?_
    refine lv_icmp_ge (tgt := 24) hx hb dX3_placeOf_7 (by decide) (fun c_7_3 => ?_) (fun c_7_3 => ?_)
    -- 7 jumps
    · skip
      refine lv_iconst (v := 0) hx hb dX3_placeOf_24 (by decide) ?_
      refine lv_istore_n (lv' := [(3, .int 0), (0, .ref (ad 102)), (1, .int b), (2, .int x)]) hx hb dX3_placeOf_25 rfl hl (by decide) rfl (fun ls hl => ?_)
      refine lv_iload_n hx hb dX3_placeOf_26 rfl (lv_at hl 0 rfl) ?_
      refine lv_if_eq (tgt := 39) hx hb dX3_placeOf_27 (by decide) (fun c_27_4 => ?_) (fun c_27_4 => ?_)
      -- 27 jumps
      · skip
        refine lv_iconst (v := (-1)) hx hb dX3_placeOf_39 (by decide) ?_
        exact x_iret hx hb hr hlocks hK () hP hD hS dX3_placeOf_40 (by simp [m_placeOf, n24, n40, n2, n27, n4, c_1_1, eq_true c_7_3])
      -- 27 goes on
      · exact absurd c_27_4 (by decide)
    -- 7 goes on
    · skip
      refine lv_iload_n hx hb dX3_placeOf_10 rfl (lv_at hl 2 rfl) ?_
      refine lv_if_lt (tgt := 24) hx hb dX3_placeOf_11 (by decide) (fun c_11_5 => ?_) (fun c_11_5 => ?_)
      -- 11 jumps
      · skip
        refine lv_iconst (v := 0) hx hb dX3_placeOf_24 (by decide) ?_
        refine lv_istore_n (lv' := [(3, .int 0), (0, .ref (ad 102)), (1, .int b), (2, .int x)]) hx hb dX3_placeOf_25 rfl hl (by decide) rfl (fun ls hl => ?_)
        refine lv_iload_n hx hb dX3_placeOf_26 rfl (lv_at hl 0 rfl) ?_
        refine lv_if_eq (tgt := 39) hx hb dX3_placeOf_27 (by decide) (fun c_27_6 => ?_) (fun c_27_6 => ?_)
        -- 27 jumps
        · skip
          refine lv_iconst (v := (-1)) hx hb dX3_placeOf_39 (by decide) ?_
          exact x_iret hx hb hr hlocks hK () hP hD hS dX3_placeOf_40 (by simp [m_placeOf, n24, n40, n2, n27, n4, c_1_1, c_7_3, eq_true c_11_5])
        -- 27 goes on
        · exact absurd c_27_6 (by decide)
      -- 11 goes on
      · skip
        refine lv_iload_n hx hb dX3_placeOf_14 rfl (lv_at hl 2 rfl) ?_
        refine lv_bipush (v := 12) hx hb dX3_placeOf_15 (by decide) ?_
        refine lv_icmp_ge (tgt := 24) hx hb dX3_placeOf_17 (by decide) (fun c_17_7 => ?_) (fun c_17_7 => ?_)
        -- 17 jumps
        · skip
          refine lv_iconst (v := 0) hx hb dX3_placeOf_24 (by decide) ?_
          refine lv_istore_n (lv' := [(3, .int 0), (0, .ref (ad 102)), (1, .int b), (2, .int x)]) hx hb dX3_placeOf_25 rfl hl (by decide) rfl (fun ls hl => ?_)
          refine lv_iload_n hx hb dX3_placeOf_26 rfl (lv_at hl 0 rfl) ?_
          refine lv_if_eq (tgt := 39) hx hb dX3_placeOf_27 (by decide) (fun c_27_8 => ?_) (fun c_27_8 => ?_)
          -- 27 jumps
          · skip
            refine lv_iconst (v := (-1)) hx hb dX3_placeOf_39 (by decide) ?_
            exact x_iret hx hb hr hlocks hK () hP hD hS dX3_placeOf_40 (by simp [m_placeOf, n24, n40, n2, n27, n4, c_1_1, c_7_3, c_11_5, eq_true c_17_7])
          -- 27 goes on
          · exact absurd c_27_8 (by decide)
        -- 17 goes on
        · skip
          refine lv_iconst (v := 1) hx hb dX3_placeOf_20 (by decide) ?_
          refine lv_goto (tgt := 25) hx hb dX3_placeOf_21 (by decide) ?_
          refine lv_istore_n (lv' := [(3, .int 1), (0, .ref (ad 102)), (1, .int b), (2, .int x)]) hx hb dX3_placeOf_25 rfl hl (by decide) rfl (fun ls hl => ?_)
          refine lv_iload_n hx hb dX3_placeOf_26 rfl (lv_at hl 0 rfl) ?_
          refine lv_if_eq (tgt := 39) hx hb dX3_placeOf_27 (by decide) (fun c_27_9 => ?_) (fun c_27_9 => ?_)
          -- 27 jumps
          · exact absurd c_27_9 (by decide)
          -- 27 goes on
          · skip
            refine lv_iload_n hx hb dX3_placeOf_30 rfl (lv_at hl 2 rfl) ?_
            refine lv_bipush (v := 12) hx hb dX3_placeOf_31 (by decide) ?_
            refine lv_imul hx hb dX3_placeOf_33 ?_
            refine lv_iload_n hx hb dX3_placeOf_34 rfl (lv_at hl 3 rfl) ?_
            refine lv_iadd hx hb dX3_placeOf_35 ?_
            refine lv_goto (tgt := 40) hx hb dX3_placeOf_36 (by decide) ?_
            exact x_iret hx hb hr hlocks hK () hP hD hS dX3_placeOf_40 (by simp [m_placeOf, n24, n40, n2, n27, n4, c_1_1, c_7_3, c_11_5, c_17_7])

set_option maxHeartbeats 4000000 in
set_option maxRecDepth 100000 in
theorem c_X4_add (l : Launch) (D : va_G) (cA : Nat → ClassId) (ad : Nat → Nat) (tr : List (ClassId × FieldType)) (rest : va_W) (sz : Nat) (τ : Sg) (i : Nat) (hi : i < 24) (a : Int32) : Met l yX4_add wsX4_add ({ frames := 1, cells := 0, slots := 0, locals := 21 }) (va_Pc [.ref (ad 100), .ref (ad (i + 6)), .int a] (inW D (tyB cA ++ tr) (wB cA ad τ ++ rest) sz)) (va_Qi (fun (r : Int32) (u : Sg) => r = 0 ∧ u = m_add τ i a) (fun u : Sg => outW D (tyB cA ++ tr) (va_A (wB cA ad τ ++ rest) sz) (wB cA ad u ++ rest)) (va_A (wB cA ad τ ++ rest) sz)) 0 0 (va_A (wB cA ad τ ++ rest) sz) := by
  refine Met.ofW (cc := cX4_add) (maxL := 3) (ret := (some .int)) (by decide) rfl ?_
  intro p e s m args below meth c s₁ B hml hv
  obtain ⟨rfl, hsz, hP, hK, hD0⟩ := hv
  have hx := B.exec
  have hb := B.bytes
  have hr := B.returns
  have hts := atoms_spec (ws := wsX4_add) B.pre
  have hown : s.vm.findClass RX4 = some m.cls := findClass_of_methodNamed B.named
  have hlocks := B.notSynchronized
  subst hsz
  have hD := hD0.self (sz := s.heap.size)
  clear hD0
  generalize hAe : va_A (wB cA ad τ ++ rest) s.heap.size = A at hD ⊢
  have hA : ∀ q : Nat, s.heap.size ≤ q → A q := fun q h => by rw [← hAe]; exact Or.inr h
  clear hAe
  have hS : va_S A s.heap s.heap [] := va_S.rf
  have hP : va_P D vwCl (wB cA ad τ ++ rest) s.heap := hP
  have hl := lv_entry ([.ref (ad 100), .ref (ad (i + 6)), .int a]) (n := 3) (Nat.le_of_ble_eq_true rfl)
  rw [lg_entry_eq]
  generalize (lg_sl ([.ref (ad 100), .ref (ad (i + 6)), .int a]) ++ List.replicate (3 - (lg_sl ([.ref (ad 100), .ref (ad (i + 6)), .int a])).length) Slot.unset).toArray = ls at hl ⊢
  have hl : lv_has ls 3 [(0, .ref (ad 100)), (1, .ref (ad (i + 6))), (2, .int a)] := hl
  have nX7 : ∀ w ∈ u_ws RX7 TX7 17, w ∈ wsX4_add := by decide +kernel
  have k65 := hts (.fieldLink RX4 65 "ScopeRow$Task" "there" "I") (by decide +kernel)
  refine lv_aload_n hx hb dX4_add_0 rfl (lv_at hl 1 rfl) ?_
  refine lv_sipush (v := (-9999)) hx hb dX4_add_1 (by decide) ?_
  refine lv_sipush (v := 9999) hx hb dX4_add_4 (by decide) ?_
  refine lv_aload_n hx hb dX4_add_7 rfl (lv_at hl 1 rfl) ?_
  refine va_get (D := D) (C := RX7) (T := TX7) (N := 17) (ci := 7) (v := .int (τ (i + 6) 5)) hx hb hts nX7 hown hK hP (i + 6) (w_tk hi) rfl 5 (by decide) k65 (fun _ h9 => h9) rfl dX4_add_8 ?_
  refine lv_iload_n hx hb dX4_add_11 rfl (lv_at hl 2 rfl) ?_
  refine lv_iadd hx hb dX4_add_12 ?_
  refine va_mmin (rest := [.int (-9999), .ref (ad (i + 6))]) hx hb (hml.trans hl.1.symm) hown (hts (.methodLink RX4 172 Lib.Math.min.name) (by decide +kernel)) (hts (.static Lib.Math.min.name) (by decide +kernel)) (hts (.initialized "java/lang/Math") (by decide +kernel)) (hts (.code Lib.Math.min.name Lib.Math.min.code 2 (some .int)) (by decide +kernel)) (Nat.le_of_ble_eq_true rfl) (Nat.le_of_ble_eq_true rfl) (Nat.zero_le _) (Nat.zero_le _) dX4_add_13 ?_
  refine va_mmax (rest := [.ref (ad (i + 6))]) hx hb (hml.trans hl.1.symm) hown (hts (.methodLink RX4 177 Lib.Math.max.name) (by decide +kernel)) (hts (.static Lib.Math.max.name) (by decide +kernel)) (hts (.initialized "java/lang/Math") (by decide +kernel)) (hts (.code Lib.Math.max.name Lib.Math.max.code 2 (some .int)) (by decide +kernel)) (Nat.le_of_ble_eq_true rfl) (Nat.le_of_ble_eq_true rfl) (Nat.zero_le _) (Nat.zero_le _) dX4_add_16 ?_
  refine p_tk hx hb hts nX7 hown hK hP hD hS hi 5 (by decide) (by decide) k65 (fun _ h9 => h9) rfl rfl rfl dX4_add_19 (fun τ1 H locs eτ1 hP hD hS => ?_)
  refine lv_aload_n hx hb dX4_add_22 rfl (lv_at hl 0 rfl) ?_
  refine lv_aload_n hx hb dX4_add_23 rfl (lv_at hl 1 rfl) ?_
  refine x_Vi (As := [.ref (ad (i + 6))]) (rest0 := []) ⟨hx, hb, hml, hown, hts⟩ (c_X4_next l D cA ad tr rest H.size τ1 i hi) (cwV 1 hts gX4_add_X4_next rfl rfl rfl (by decide +kernel) ⟨Nat.le_of_ble_eq_true rfl, Nat.le_of_ble_eq_true rfl⟩) hK hP hD hS hA 100 w_ru rfl hl.1 rfl rfl (Nat.le_of_ble_eq_true rfl) ⟨Nat.zero_le _, Nat.zero_le _⟩ dX4_add_24 (fun r2 τ3 H locs hw hP hD hS => ?_)
  obtain ⟨er2, eτ3⟩ := hw
  exact x_iret hx hb hr hlocks hK τ3 hP hD hS dX4_add_27 (by subst er2 eτ3 eτ1; simp [m_add, m_cap, n24, n40, n2, n27, n4])

set_option maxHeartbeats 4000000 in
set_option maxRecDepth 100000 in
theorem c_X4_spawn (l : Launch) (D : va_G) (cA : Nat → ClassId) (ad : Nat → Nat) (tr : List (ClassId × FieldType)) (rest : va_W) (sz : Nat) (τ : Sg) (pd : Nat → Nat) (π : Sg) (i : Nat) (hi : i < 24) (b : Int32) : Met l yX4_spawn wsX4_spawn ({ frames := 2, cells := 0, slots := 0, locals := 44 }) (va_Pc [.ref (ad 100), .ref (ad (i + 6)), .int b] (inW D (tyB cA ++ tr) (wB cA ad τ ++ (wPg cA ad pd π ++ rest)) sz)) (va_Qi (fun (r : Int32) (u : Sg) => r = (m_spawn τ π i b).2 ∧ u = (m_spawn τ π i b).1) (fun u : Sg => outW D (tyB cA ++ tr) (va_A (wB cA ad τ ++ (wPg cA ad pd π ++ rest)) sz) (wB cA ad u ++ (wPg cA ad pd π ++ rest))) (va_A (wB cA ad τ ++ (wPg cA ad pd π ++ rest)) sz)) 0 0 (va_A (wB cA ad τ ++ (wPg cA ad pd π ++ rest)) sz) := by
  refine Met.ofW (cc := cX4_spawn) (maxL := 5) (ret := (some .int)) (by decide) rfl ?_
  intro p e s m args below meth c s₁ B hml hv
  obtain ⟨rfl, hsz, hP, hK, hD0⟩ := hv
  have hx := B.exec
  have hb := B.bytes
  have hr := B.returns
  have hts := atoms_spec (ws := wsX4_spawn) B.pre
  have hown : s.vm.findClass RX4 = some m.cls := findClass_of_methodNamed B.named
  have hlocks := B.notSynchronized
  subst hsz
  have hD := hD0.self (sz := s.heap.size)
  clear hD0
  generalize hAe : va_A (wB cA ad τ ++ (wPg cA ad pd π ++ rest)) s.heap.size = A at hD ⊢
  have hA : ∀ q : Nat, s.heap.size ≤ q → A q := fun q h => by rw [← hAe]; exact Or.inr h
  clear hAe
  have hS : va_S A s.heap s.heap [] := va_S.rf
  have hP : va_P D vwCl (wB cA ad τ ++ (wPg cA ad pd π ++ rest)) s.heap := hP
  have hl := lv_entry ([.ref (ad 100), .ref (ad (i + 6)), .int b]) (n := 5) (Nat.le_of_ble_eq_true rfl)
  rw [lg_entry_eq]
  generalize (lg_sl ([.ref (ad 100), .ref (ad (i + 6)), .int b]) ++ List.replicate (5 - (lg_sl ([.ref (ad 100), .ref (ad (i + 6)), .int b])).length) Slot.unset).toArray = ls at hl ⊢
  have hl : lv_has ls 5 [(0, .ref (ad 100)), (1, .ref (ad (i + 6))), (2, .int b)] := hl
  have nX3 : ∀ w ∈ u_ws RX3 TX3 5, w ∈ wsX4_spawn := by decide +kernel
  have nX4 : ∀ w ∈ u_ws RX4 TX4 3, w ∈ wsX4_spawn := by decide +kernel
  have nX5 : ∀ w ∈ u_ws RX5 TX5 14, w ∈ wsX4_spawn := by decide +kernel
  have nX7 : ∀ w ∈ u_ws RX7 TX7 17, w ∈ wsX4_spawn := by decide +kernel
  have k15 := hts (.fieldLink RX4 15 "ScopeRow$Runner" "state" "LScopeRow$State;") (by decide +kernel)
  have k142 := hts (.fieldLink RX4 142 "ScopeRow$Task" "top" "I") (by decide +kernel)
  have k9 := hts (.fieldLink RX4 9 "ScopeRow$Runner" "program" "LScopeRow$Program;") (by decide +kernel)
  have k202 := hts (.fieldLink RX4 202 "ScopeRow$Program" "bodies" "I") (by decide +kernel)
  have k196 := hts (.fieldLink RX4 196 "ScopeRow$Scope" "number" "I") (by decide +kernel)
  have k208 := hts (.fieldLink RX4 208 "ScopeRow$Scope" "entered" "I") (by decide +kernel)
  have k65 := hts (.fieldLink RX4 65 "ScopeRow$Task" "there" "I") (by decide +kernel)
  refine lv_aload_n hx hb dX4_spawn_0 rfl (lv_at hl 0 rfl) ?_
  refine va_get (D := D) (C := RX4) (T := TX4) (N := 3) (ci := 4) (v := .ref (ad 0)) hx hb hts nX4 hown hK hP 100 w_ru rfl 1 (by decide) k15 (fun _ h9 => h9) rfl dX4_spawn_1 ?_
  refine lv_aload_n hx hb dX4_spawn_4 rfl (lv_at hl 1 rfl) ?_
  refine va_get (D := D) (C := RX7) (T := TX7) (N := 17) (ci := 7) (v := .int (τ (i + 6) 7)) hx hb hts nX7 hown hK hP (i + 6) (w_tk hi) rfl 7 (by decide) k142 (fun _ h9 => h9) rfl dX4_spawn_5 ?_
  refine x_Vq (As := [.int (τ (i + 6) 7)]) (rest0 := []) ⟨hx, hb, hml, hown, hts⟩ (c_X6_scopeAt l D cA ad tr (wPg cA ad pd π ++ rest) s.heap.size τ (τ (i + 6) 7)) (cwV 1 hts gX4_spawn_X6_scopeAt rfl rfl rfl (by decide +kernel) ⟨Nat.le_of_ble_eq_true rfl, Nat.le_of_ble_eq_true rfl⟩) hK hP hD hS hA 0 w_st rfl hl.1 rfl rfl (Nat.le_of_ble_eq_true rfl) ⟨Nat.zero_le _, Nat.zero_le _⟩ dX4_spawn_8 (fun r1 _ H locs hw hP hD hS => ?_)
  have er1 := hw
  subst er1
  rcases hi2 : m_at (τ (i + 6) 7) 40 with _ | i2
  · refine W.eq (g2 := F0 m 11 ls [.null]) rfl ?_
    refine lv_astore_nN (lv' := [(3, .null), (0, .ref (ad 100)), (1, .ref (ad (i + 6))), (2, .int b)]) hx hb dX4_spawn_11 rfl hl (by decide) rfl (fun ls hl => ?_)
    refine lv_aload_nN hx hb dX4_spawn_12 rfl (lv_at hl 0 rfl) ?_
    refine lv_ifnonnullN hx hb dX4_spawn_13 ?_
    refine lv_iconst (v := 1) hx hb dX4_spawn_16 (by decide) ?_
    exact x_iret hx hb hr hlocks hK τ hP hD hS dX4_spawn_17 (by simp [m_spawn, n24, n40, n2, n27, n4, hi2])
  · have bi2 := m_at_lt hi2 (by decide)
    refine W.eq (g2 := F0 m 11 ls [.ref (ad (i2 + 54))]) rfl ?_
    refine lv_astore_n (lv' := [(3, .ref (ad (i2 + 54))), (0, .ref (ad 100)), (1, .ref (ad (i + 6))), (2, .int b)]) hx hb dX4_spawn_11 rfl hl (by decide) rfl (fun ls hl => ?_)
    refine lv_aload_n hx hb dX4_spawn_12 rfl (lv_at hl 0 rfl) ?_
    refine lv_ifnonnull (tgt := 18) hx hb dX4_spawn_13 (by decide) ?_
    refine lv_iload_n hx hb dX4_spawn_18 rfl (lv_at hl 3 rfl) ?_
    refine lv_aload_n hx hb dX4_spawn_19 rfl (lv_at hl 1 rfl) ?_
    refine va_get (D := D) (C := RX4) (T := TX4) (N := 3) (ci := 4) (v := .ref (ad 102)) hx hb hts nX4 hown hK hP 100 w_ru rfl 0 (by decide) k9 (fun _ h9 => h9) rfl dX4_spawn_20 ?_
    refine va_get (D := D) (C := RX3) (T := TX3) (N := 5) (ci := 3) (v := .int (π 0 0)) hx hb hts nX3 hown hK hP 102 w_pg rfl 0 (by decide) k202 (fun _ h9 => h9) rfl dX4_spawn_23 ?_
    refine lv_icmp_ge (tgt := 44) hx hb dX4_spawn_26 (by decide) (fun c_26_3 => ?_) (fun c_26_3 => ?_)
    -- 26 jumps
    · skip
      refine lv_iconst (v := (-1)) hx hb dX4_spawn_44 (by decide) ?_
      refine lv_istore (lv' := [(4, .int (-1)), (3, .ref (ad (i2 + 54))), (0, .ref (ad 100)), (1, .ref (ad (i + 6))), (2, .int b)]) hx hb dX4_spawn_45 hl (by decide) rfl (fun ls hl => ?_)
      refine lv_iload hx hb dX4_spawn_47 (lv_at hl 0 rfl) ?_
      refine lv_iconst (v := (-1)) hx hb dX4_spawn_49 (by decide) ?_
      refine lv_icmp_ne (tgt := 55) hx hb dX4_spawn_50 (by decide) (fun c_50_4 => ?_) (fun c_50_4 => ?_)
      -- 50 jumps
      · exact absurd c_50_4 (by decide)
      -- 50 goes on
      · skip
        refine lv_iconst (v := 2) hx hb dX4_spawn_53 (by decide) ?_
        exact x_iret hx hb hr hlocks hK τ hP hD hS dX4_spawn_54 (by simp [m_spawn, n24, n40, n2, n27, n4, hi2, eq_true c_26_3])
    -- 26 goes on
    · skip
      refine lv_aload_n hx hb dX4_spawn_29 rfl (lv_at hl 1 rfl) ?_
      refine va_get (D := D) (C := RX4) (T := TX4) (N := 3) (ci := 4) (v := .ref (ad 0)) hx hb hts nX4 hown hK hP 100 w_ru rfl 1 (by decide) k15 (fun _ h9 => h9) rfl dX4_spawn_30 ?_
      refine lv_iload_n hx hb dX4_spawn_33 rfl (lv_at hl 3 rfl) ?_
      refine lv_aload_n hx hb dX4_spawn_34 rfl (lv_at hl 0 rfl) ?_
      refine va_get (D := D) (C := RX5) (T := TX5) (N := 14) (ci := 5) (v := .int (nI i2)) hx hb hts nX5 hown hK hP (i2 + 54) (w_sc bi2) rfl 0 (by decide) k196 (fun _ h9 => h9) rfl dX4_spawn_35 ?_
      refine x_Vi (As := [.int b, .int (nI i2)]) (rest0 := []) ⟨hx, hb, hml, hown, hts⟩ (c_X6_makeTask l D cA ad tr (wPg cA ad pd π ++ rest) H.size τ b (nI i2)) (cwV 2 hts gX4_spawn_X6_makeTask rfl rfl rfl (by decide +kernel) ⟨Nat.le_of_ble_eq_true rfl, Nat.le_of_ble_eq_true rfl⟩) hK hP hD hS hA 0 w_st rfl hl.1 rfl rfl (Nat.le_of_ble_eq_true rfl) ⟨Nat.zero_le _, Nat.zero_le _⟩ dX4_spawn_38 (fun r5 τ6 H locs hw hP hD hS => ?_)
      obtain ⟨er5, eτ6⟩ := hw
      refine lv_goto (tgt := 45) hx hb dX4_spawn_41 (by decide) ?_
      refine lv_istore (lv' := [(4, .int r5), (3, .ref (ad (i2 + 54))), (0, .ref (ad 100)), (1, .ref (ad (i + 6))), (2, .int b)]) hx hb dX4_spawn_45 hl (by decide) rfl (fun ls hl => ?_)
      refine lv_iload hx hb dX4_spawn_47 (lv_at hl 0 rfl) ?_
      refine lv_iconst (v := (-1)) hx hb dX4_spawn_49 (by decide) ?_
      refine lv_icmp_ne (tgt := 55) hx hb dX4_spawn_50 (by decide) (fun c_50_7 => ?_) (fun c_50_7 => ?_)
      -- 50 jumps
      · skip
        refine lv_aload_n hx hb dX4_spawn_55 rfl (lv_at hl 1 rfl) ?_
        refine lv_dup hx hb dX4_spawn_56 rfl ?_
        refine va_get (D := D) (C := RX5) (T := TX5) (N := 14) (ci := 5) (v := .int (τ6 (i2 + 54) 10)) hx hb hts nX5 hown hK hP (i2 + 54) (w_sc bi2) rfl 10 (by decide) k208 (fun _ h9 => h9) rfl dX4_spawn_57 ?_
        refine lv_iconst (v := 1) hx hb dX4_spawn_60 (by decide) ?_
        refine lv_iadd hx hb dX4_spawn_61 ?_
        refine p_sc hx hb hts nX5 hown hK hP hD hS bi2 10 (by decide) (by decide) k208 (fun _ h9 => h9) rfl rfl rfl dX4_spawn_62 (fun τ8 H locs eτ8 hP hD hS => ?_)
        refine lv_aload_n hx hb dX4_spawn_65 rfl (lv_at hl 3 rfl) ?_
        refine lv_iload hx hb dX4_spawn_66 (lv_at hl 0 rfl) ?_
        refine p_tk hx hb hts nX7 hown hK hP hD hS hi 5 (by decide) (by decide) k65 (fun _ h9 => h9) rfl rfl rfl dX4_spawn_68 (fun τ9 H locs eτ9 hP hD hS => ?_)
        refine lv_aload_n hx hb dX4_spawn_71 rfl (lv_at hl 2 rfl) ?_
        refine lv_aload_n hx hb dX4_spawn_72 rfl (lv_at hl 3 rfl) ?_
        refine x_Vi (As := [.ref (ad (i + 6))]) (rest0 := []) ⟨hx, hb, hml, hown, hts⟩ (c_X4_next l D cA ad tr (wPg cA ad pd π ++ rest) H.size τ9 i hi) (cwV 1 hts gX4_spawn_X4_next rfl rfl rfl (by decide +kernel) ⟨Nat.le_of_ble_eq_true rfl, Nat.le_of_ble_eq_true rfl⟩) hK hP hD hS hA 100 w_ru rfl hl.1 rfl rfl (Nat.le_of_ble_eq_true rfl) ⟨Nat.zero_le _, Nat.zero_le _⟩ dX4_spawn_73 (fun r10 τ11 H locs hw hP hD hS => ?_)
        obtain ⟨er10, eτ11⟩ := hw
        exact x_iret hx hb hr hlocks hK τ11 hP hD hS dX4_spawn_76 (by subst er10 eτ11 eτ9 eτ8 er5 eτ6; simp [m_spawn, n24, n40, n2, n27, n4, hi2, c_26_3, c_50_7])
      -- 50 goes on
      · skip
        refine lv_iconst (v := 2) hx hb dX4_spawn_53 (by decide) ?_
        exact x_iret hx hb hr hlocks hK τ6 hP hD hS dX4_spawn_54 (by subst er5 eτ6; simp [m_spawn, n24, n40, n2, n27, n4, hi2, c_26_3, eq_true c_50_7])

set_option maxHeartbeats 4000000 in
set_option maxRecDepth 100000 in
theorem c_X4_doLine (l : Launch) (D : va_G) (cA : Nat → ClassId) (ad : Nat → Nat) (tr : List (ClassId × FieldType)) (rest : va_W) (sz : Nat) (τ : Sg) (pd : Nat → Nat) (π : Sg) (i : Nat) (hi : i < 24) (k a b : Int32) : Met l yX4_doLine wsX4_doLine ({ frames := 3, cells := 0, slots := 0, locals := 76 }) (va_Pc [.ref (ad 100), .ref (ad (i + 6)), .int k, .int a, .int b] (inW D (tyB cA ++ tr) (wB cA ad τ ++ (wPg cA ad pd π ++ rest)) sz)) (va_Qi (fun (r : Int32) (u : Sg) => r = (m_doLine τ π i k a b).2 ∧ u = (m_doLine τ π i k a b).1) (fun u : Sg => outW D (tyB cA ++ tr) (va_A (wB cA ad τ ++ (wPg cA ad pd π ++ rest)) sz) (wB cA ad u ++ (wPg cA ad pd π ++ rest))) (va_A (wB cA ad τ ++ (wPg cA ad pd π ++ rest)) sz)) 0 0 (va_A (wB cA ad τ ++ (wPg cA ad pd π ++ rest)) sz) := by
  refine Met.ofW (cc := cX4_doLine) (maxL := 5) (ret := (some .int)) (by decide) rfl ?_
  intro p e s m args below meth c s₁ B hml hv
  obtain ⟨rfl, hsz, hP, hK, hD0⟩ := hv
  have hx := B.exec
  have hb := B.bytes
  have hr := B.returns
  have hts := atoms_spec (ws := wsX4_doLine) B.pre
  have hown : s.vm.findClass RX4 = some m.cls := findClass_of_methodNamed B.named
  have hlocks := B.notSynchronized
  subst hsz
  have hD := hD0.self (sz := s.heap.size)
  clear hD0
  generalize hAe : va_A (wB cA ad τ ++ (wPg cA ad pd π ++ rest)) s.heap.size = A at hD ⊢
  have hA : ∀ q : Nat, s.heap.size ≤ q → A q := fun q h => by rw [← hAe]; exact Or.inr h
  clear hAe
  have hS : va_S A s.heap s.heap [] := va_S.rf
  have hP : va_P D vwCl (wB cA ad τ ++ (wPg cA ad pd π ++ rest)) s.heap := hP
  have hl := lv_entry ([.ref (ad 100), .ref (ad (i + 6)), .int k, .int a, .int b]) (n := 5) (Nat.le_of_ble_eq_true rfl)
  rw [lg_entry_eq]
  generalize (lg_sl ([.ref (ad 100), .ref (ad (i + 6)), .int k, .int a, .int b]) ++ List.replicate (5 - (lg_sl ([.ref (ad 100), .ref (ad (i + 6)), .int k, .int a, .int b])).length) Slot.unset).toArray = ls at hl ⊢
  have hl : lv_has ls 5 [(0, .ref (ad 100)), (1, .ref (ad (i + 6))), (2, .int k), (3, .int a), (4, .int b)] := hl
  have nX4 : ∀ w ∈ u_ws RX4 TX4 3, w ∈ wsX4_doLine := by decide +kernel
  have nX6 : ∀ w ∈ u_ws RX6 TX6 12, w ∈ wsX4_doLine := by decide +kernel
  have nX7 : ∀ w ∈ u_ws RX7 TX7 17, w ∈ wsX4_doLine := by decide +kernel
  have k15 := hts (.fieldLink RX4 15 "ScopeRow$Runner" "state" "LScopeRow$State;") (by decide +kernel)
  have k135 := hts (.fieldLink RX4 135 "ScopeRow$State" "now" "I") (by decide +kernel)
  have k142 := hts (.fieldLink RX4 142 "ScopeRow$Task" "top" "I") (by decide +kernel)
  refine lv_iload_n hx hb dX4_doLine_0 rfl (lv_at hl 2 rfl) ?_
  by_cases q_1_0 : k = 0
  · skip
    refine lv_tableIn (tgt := 92) (off := 91) hx hb dX4_doLine_1 (by rw [q_1_0]; decide) (by rw [q_1_0]; decide) (by rw [q_1_0]; decide) (by decide) ?_
    refine lv_aload_n hx hb dX4_doLine_92 rfl (lv_at hl 0 rfl) ?_
    refine lv_aload_n hx hb dX4_doLine_93 rfl (lv_at hl 1 rfl) ?_
    refine lv_iload_n hx hb dX4_doLine_94 rfl (lv_at hl 3 rfl) ?_
    refine x_Vi (As := [.ref (ad (i + 6)), .int a]) (rest0 := []) ⟨hx, hb, hml, hown, hts⟩ (c_X4_add l D cA ad tr (wPg cA ad pd π ++ rest) s.heap.size τ i hi a) (cwV 2 hts gX4_doLine_X4_add rfl rfl rfl (by decide +kernel) ⟨Nat.le_of_ble_eq_true rfl, Nat.le_of_ble_eq_true rfl⟩) hK hP hD hS hA 100 w_ru rfl hl.1 rfl rfl (Nat.le_of_ble_eq_true rfl) ⟨Nat.zero_le _, Nat.zero_le _⟩ dX4_doLine_95 (fun r1 τ2 H locs hw hP hD hS => ?_)
    obtain ⟨er1, eτ2⟩ := hw
    exact x_iret hx hb hr hlocks hK τ2 hP hD hS dX4_doLine_98 (by subst er1 eτ2; simp (decide := true) [m_doLine, eq_true q_1_0])
  by_cases q_1_1 : k = 1
  · skip
    refine lv_tableIn (tgt := 99) (off := 98) hx hb dX4_doLine_1 (by rw [q_1_1]; decide) (by rw [q_1_1]; decide) (by rw [q_1_1]; decide) (by decide) ?_
    refine lv_aload_n hx hb dX4_doLine_99 rfl (lv_at hl 0 rfl) ?_
    refine lv_aload_n hx hb dX4_doLine_100 rfl (lv_at hl 1 rfl) ?_
    refine lv_iload_n hx hb dX4_doLine_101 rfl (lv_at hl 3 rfl) ?_
    refine x_Vi (As := [.ref (ad (i + 6)), .int a]) (rest0 := []) ⟨hx, hb, hml, hown, hts⟩ (c_X4_get l D cA ad tr (wPg cA ad pd π ++ rest) s.heap.size τ i hi a) (cwV 2 hts gX4_doLine_X4_get rfl rfl rfl (by decide +kernel) ⟨Nat.le_of_ble_eq_true rfl, Nat.le_of_ble_eq_true rfl⟩) hK hP hD hS hA 100 w_ru rfl hl.1 rfl rfl (Nat.le_of_ble_eq_true rfl) ⟨Nat.zero_le _, Nat.zero_le _⟩ dX4_doLine_102 (fun r3 τ4 H locs hw hP hD hS => ?_)
    obtain ⟨er3, eτ4⟩ := hw
    exact x_iret hx hb hr hlocks hK τ4 hP hD hS dX4_doLine_105 (by subst er3 eτ4; simp (decide := true) [m_doLine, q_1_0, eq_true q_1_1])
  by_cases q_1_2 : k = 2
  · skip
    refine lv_tableIn (tgt := 106) (off := 105) hx hb dX4_doLine_1 (by rw [q_1_2]; decide) (by rw [q_1_2]; decide) (by rw [q_1_2]; decide) (by decide) ?_
    refine lv_aload_n hx hb dX4_doLine_106 rfl (lv_at hl 0 rfl) ?_
    refine lv_aload_n hx hb dX4_doLine_107 rfl (lv_at hl 1 rfl) ?_
    refine lv_iload_n hx hb dX4_doLine_108 rfl (lv_at hl 3 rfl) ?_
    refine x_Vi (As := [.ref (ad (i + 6)), .int a]) (rest0 := []) ⟨hx, hb, hml, hown, hts⟩ (c_X4_put l D cA ad tr (wPg cA ad pd π ++ rest) s.heap.size τ i hi a) (cwV 2 hts gX4_doLine_X4_put rfl rfl rfl (by decide +kernel) ⟨Nat.le_of_ble_eq_true rfl, Nat.le_of_ble_eq_true rfl⟩) hK hP hD hS hA 100 w_ru rfl hl.1 rfl rfl (Nat.le_of_ble_eq_true rfl) ⟨Nat.zero_le _, Nat.zero_le _⟩ dX4_doLine_109 (fun r5 τ6 H locs hw hP hD hS => ?_)
    obtain ⟨er5, eτ6⟩ := hw
    exact x_iret hx hb hr hlocks hK τ6 hP hD hS dX4_doLine_112 (by subst er5 eτ6; simp (decide := true) [m_doLine, q_1_0, q_1_1, eq_true q_1_2])
  by_cases q_1_3 : k = 3
  · skip
    refine lv_tableIn (tgt := 113) (off := 112) hx hb dX4_doLine_1 (by rw [q_1_3]; decide) (by rw [q_1_3]; decide) (by rw [q_1_3]; decide) (by decide) ?_
    refine lv_aload_n hx hb dX4_doLine_113 rfl (lv_at hl 0 rfl) ?_
    refine lv_aload_n hx hb dX4_doLine_114 rfl (lv_at hl 1 rfl) ?_
    refine lv_iload_n hx hb dX4_doLine_115 rfl (lv_at hl 3 rfl) ?_
    refine lv_iload hx hb dX4_doLine_116 (lv_at hl 4 rfl) ?_
    refine x_Vi (As := [.ref (ad (i + 6)), .int a, .int b]) (rest0 := []) ⟨hx, hb, hml, hown, hts⟩ (c_X4_loop l D cA ad tr (wPg cA ad pd π ++ rest) s.heap.size τ i hi a b) (cwV 3 hts gX4_doLine_X4_loop rfl rfl rfl (by decide +kernel) ⟨Nat.le_of_ble_eq_true rfl, Nat.le_of_ble_eq_true rfl⟩) hK hP hD hS hA 100 w_ru rfl hl.1 rfl rfl (Nat.le_of_ble_eq_true rfl) ⟨Nat.zero_le _, Nat.zero_le _⟩ dX4_doLine_118 (fun r7 τ8 H locs hw hP hD hS => ?_)
    obtain ⟨er7, eτ8⟩ := hw
    exact x_iret hx hb hr hlocks hK τ8 hP hD hS dX4_doLine_121 (by subst er7 eτ8; simp (decide := true) [m_doLine, q_1_0, q_1_1, q_1_2, eq_true q_1_3])
  by_cases q_1_4 : k = 4
  · skip
    refine lv_tableIn (tgt := 122) (off := 121) hx hb dX4_doLine_1 (by rw [q_1_4]; decide) (by rw [q_1_4]; decide) (by rw [q_1_4]; decide) (by decide) ?_
    refine lv_aload_n hx hb dX4_doLine_122 rfl (lv_at hl 0 rfl) ?_
    refine lv_aload_n hx hb dX4_doLine_123 rfl (lv_at hl 1 rfl) ?_
    refine lv_iload hx hb dX4_doLine_124 (lv_at hl 4 rfl) ?_
    refine x_Vi (As := [.ref (ad (i + 6)), .int b]) (rest0 := []) ⟨hx, hb, hml, hown, hts⟩ (c_X4_skip l D cA ad tr (wPg cA ad pd π ++ rest) s.heap.size τ i hi b) (cwV 2 hts gX4_doLine_X4_skip rfl rfl rfl (by decide +kernel) ⟨Nat.le_of_ble_eq_true rfl, Nat.le_of_ble_eq_true rfl⟩) hK hP hD hS hA 100 w_ru rfl hl.1 rfl rfl (Nat.le_of_ble_eq_true rfl) ⟨Nat.zero_le _, Nat.zero_le _⟩ dX4_doLine_126 (fun r9 τ10 H locs hw hP hD hS => ?_)
    obtain ⟨er9, eτ10⟩ := hw
    exact x_iret hx hb hr hlocks hK τ10 hP hD hS dX4_doLine_129 (by subst er9 eτ10; simp (decide := true) [m_doLine, q_1_0, q_1_1, q_1_2, q_1_3, eq_true q_1_4])
  by_cases q_1_5 : k = 5
  · skip
    refine lv_tableIn (tgt := 130) (off := 129) hx hb dX4_doLine_1 (by rw [q_1_5]; decide) (by rw [q_1_5]; decide) (by rw [q_1_5]; decide) (by decide) ?_
    refine lv_bipush (v := (-2)) hx hb dX4_doLine_130 (by decide) ?_
    exact x_iret hx hb hr hlocks hK τ hP hD hS dX4_doLine_132 (by simp (decide := true) [m_doLine, q_1_0, q_1_1, q_1_2, q_1_3, q_1_4, eq_true q_1_5])
  by_cases q_1_6 : k = 6
  · skip
    refine lv_tableIn (tgt := 133) (off := 132) hx hb dX4_doLine_1 (by rw [q_1_6]; decide) (by rw [q_1_6]; decide) (by rw [q_1_6]; decide) (by decide) ?_
    refine lv_iload_n hx hb dX4_doLine_133 rfl (lv_at hl 3 rfl) ?_
    exact x_iret hx hb hr hlocks hK τ hP hD hS dX4_doLine_134 (by simp (decide := true) [m_doLine, q_1_0, q_1_1, q_1_2, q_1_3, q_1_4, q_1_5, eq_true q_1_6])
  by_cases q_1_7 : k = 7
  · skip
    refine lv_tableIn (tgt := 135) (off := 134) hx hb dX4_doLine_1 (by rw [q_1_7]; decide) (by rw [q_1_7]; decide) (by rw [q_1_7]; decide) (by decide) ?_
    refine lv_aload_n hx hb dX4_doLine_135 rfl (lv_at hl 0 rfl) ?_
    refine lv_aload_n hx hb dX4_doLine_136 rfl (lv_at hl 1 rfl) ?_
    refine lv_iconst (v := 0) hx hb dX4_doLine_137 (by decide) ?_
    refine lv_iload_n hx hb dX4_doLine_138 rfl (lv_at hl 3 rfl) ?_
    refine lv_if_le (tgt := 154) hx hb dX4_doLine_139 (by decide) (fun c_139_11 => ?_) (fun c_139_11 => ?_)
    -- 139 jumps
    · skip
      refine lv_iconst (v := (-1)) hx hb dX4_doLine_154 (by decide) ?_
      refine lv_iload hx hb dX4_doLine_155 (lv_at hl 4 rfl) ?_
      refine x_Vi (As := [.ref (ad (i + 6)), .int 0, .int (-1), .int b]) (rest0 := []) ⟨hx, hb, hml, hown, hts⟩ (c_X4_open l D cA ad tr (wPg cA ad pd π ++ rest) s.heap.size τ i hi 0 (-1) b (by decide)) (cwV 4 hts gX4_doLine_X4_open rfl rfl rfl (by decide +kernel) ⟨Nat.le_of_ble_eq_true rfl, Nat.le_of_ble_eq_true rfl⟩) hK hP hD hS hA 100 w_ru rfl hl.1 rfl rfl (Nat.le_of_ble_eq_true rfl) ⟨Nat.zero_le _, Nat.zero_le _⟩ dX4_doLine_157 (fun r12 τ13 H locs hw hP hD hS => ?_)
      obtain ⟨er12, eτ13⟩ := hw
      exact x_iret hx hb hr hlocks hK τ13 hP hD hS dX4_doLine_160 (by subst er12 eτ13; simp (decide := true) [m_doLine, q_1_0, q_1_1, q_1_2, q_1_3, q_1_4, q_1_5, q_1_6, eq_true q_1_7, eq_true c_139_11])
    -- 139 goes on
    · skip
      refine lv_aload_n hx hb dX4_doLine_142 rfl (lv_at hl 0 rfl) ?_
      refine va_get (D := D) (C := RX4) (T := TX4) (N := 3) (ci := 4) (v := .ref (ad 0)) hx hb hts nX4 hown hK hP 100 w_ru rfl 1 (by decide) k15 (fun _ h9 => h9) rfl dX4_doLine_143 ?_
      refine va_get (D := D) (C := RX6) (T := TX6) (N := 12) (ci := 6) (v := .int (τ 0 8)) hx hb hts nX6 hown hK hP 0 w_st rfl 8 (by decide) k135 (fun _ h9 => h9) rfl dX4_doLine_146 ?_
      refine lv_iload_n hx hb dX4_doLine_149 rfl (lv_at hl 3 rfl) ?_
      refine lv_iadd hx hb dX4_doLine_150 ?_
      refine lv_goto (tgt := 155) hx hb dX4_doLine_151 (by decide) ?_
      refine lv_iload hx hb dX4_doLine_155 (lv_at hl 4 rfl) ?_
      refine x_Vi (As := [.ref (ad (i + 6)), .int 0, .int ((τ 0 8) + a), .int b]) (rest0 := []) ⟨hx, hb, hml, hown, hts⟩ (c_X4_open l D cA ad tr (wPg cA ad pd π ++ rest) s.heap.size τ i hi 0 ((τ 0 8) + a) b (by decide)) (cwV 4 hts gX4_doLine_X4_open rfl rfl rfl (by decide +kernel) ⟨Nat.le_of_ble_eq_true rfl, Nat.le_of_ble_eq_true rfl⟩) hK hP hD hS hA 100 w_ru rfl hl.1 rfl rfl (Nat.le_of_ble_eq_true rfl) ⟨Nat.zero_le _, Nat.zero_le _⟩ dX4_doLine_157 (fun r14 τ15 H locs hw hP hD hS => ?_)
      obtain ⟨er14, eτ15⟩ := hw
      exact x_iret hx hb hr hlocks hK τ15 hP hD hS dX4_doLine_160 (by subst er14 eτ15; simp (decide := true) [m_doLine, q_1_0, q_1_1, q_1_2, q_1_3, q_1_4, q_1_5, q_1_6, eq_true q_1_7, c_139_11])
  by_cases q_1_8 : k = 8
  · skip
    refine lv_tableIn (tgt := 161) (off := 160) hx hb dX4_doLine_1 (by rw [q_1_8]; decide) (by rw [q_1_8]; decide) (by rw [q_1_8]; decide) (by decide) ?_
    refine lv_aload_n hx hb dX4_doLine_161 rfl (lv_at hl 0 rfl) ?_
    refine lv_aload_n hx hb dX4_doLine_162 rfl (lv_at hl 1 rfl) ?_
    refine lv_iconst (v := 1) hx hb dX4_doLine_163 (by decide) ?_
    refine lv_iconst (v := (-1)) hx hb dX4_doLine_164 (by decide) ?_
    refine lv_iload hx hb dX4_doLine_165 (lv_at hl 4 rfl) ?_
    refine x_Vi (As := [.ref (ad (i + 6)), .int 1, .int (-1), .int b]) (rest0 := []) ⟨hx, hb, hml, hown, hts⟩ (c_X4_open l D cA ad tr (wPg cA ad pd π ++ rest) s.heap.size τ i hi 1 (-1) b (by decide)) (cwV 4 hts gX4_doLine_X4_open rfl rfl rfl (by decide +kernel) ⟨Nat.le_of_ble_eq_true rfl, Nat.le_of_ble_eq_true rfl⟩) hK hP hD hS hA 100 w_ru rfl hl.1 rfl rfl (Nat.le_of_ble_eq_true rfl) ⟨Nat.zero_le _, Nat.zero_le _⟩ dX4_doLine_167 (fun r16 τ17 H locs hw hP hD hS => ?_)
    obtain ⟨er16, eτ17⟩ := hw
    exact x_iret hx hb hr hlocks hK τ17 hP hD hS dX4_doLine_170 (by subst er16 eτ17; simp (decide := true) [m_doLine, q_1_0, q_1_1, q_1_2, q_1_3, q_1_4, q_1_5, q_1_6, q_1_7, eq_true q_1_8])
  by_cases q_1_9 : k = 9
  · skip
    refine lv_tableIn (tgt := 171) (off := 170) hx hb dX4_doLine_1 (by rw [q_1_9]; decide) (by rw [q_1_9]; decide) (by rw [q_1_9]; decide) (by decide) ?_
    refine lv_aload_n hx hb dX4_doLine_171 rfl (lv_at hl 1 rfl) ?_
    refine va_get (D := D) (C := RX7) (T := TX7) (N := 17) (ci := 7) (v := .int (τ (i + 6) 7)) hx hb hts nX7 hown hK hP (i + 6) (w_tk hi) rfl 7 (by decide) k142 (fun _ h9 => h9) rfl dX4_doLine_172 ?_
    refine lv_iconst (v := (-1)) hx hb dX4_doLine_175 (by decide) ?_
    refine lv_icmp_ne (tgt := 183) hx hb dX4_doLine_176 (by decide) (fun c_176_18 => ?_) (fun c_176_18 => ?_)
    -- 176 jumps
    · skip
      refine lv_iconst (v := (-1)) hx hb dX4_doLine_183 (by decide) ?_
      exact x_iret hx hb hr hlocks hK τ hP hD hS dX4_doLine_184 (by simp (decide := true) [m_doLine, q_1_0, q_1_1, q_1_2, q_1_3, q_1_4, q_1_5, q_1_6, q_1_7, q_1_8, eq_true q_1_9, c_176_18])
    -- 176 goes on
    · skip
      refine lv_iconst (v := 1) hx hb dX4_doLine_179 (by decide) ?_
      refine lv_goto (tgt := 184) hx hb dX4_doLine_180 (by decide) ?_
      exact x_iret hx hb hr hlocks hK τ hP hD hS dX4_doLine_184 (by simp (decide := true) [m_doLine, q_1_0, q_1_1, q_1_2, q_1_3, q_1_4, q_1_5, q_1_6, q_1_7, q_1_8, eq_true q_1_9, eq_true c_176_18])
  by_cases q_1_10 : k = 10
  · skip
    refine lv_tableIn (tgt := 185) (off := 184) hx hb dX4_doLine_1 (by rw [q_1_10]; decide) (by rw [q_1_10]; decide) (by rw [q_1_10]; decide) (by decide) ?_
    refine lv_aload_n hx hb dX4_doLine_185 rfl (lv_at hl 0 rfl) ?_
    refine lv_aload_n hx hb dX4_doLine_186 rfl (lv_at hl 1 rfl) ?_
    refine lv_iload_n hx hb dX4_doLine_187 rfl (lv_at hl 3 rfl) ?_
    refine x_Vi (As := [.ref (ad (i + 6)), .int a]) (rest0 := []) ⟨hx, hb, hml, hown, hts⟩ (c_X4_spawn l D cA ad tr rest s.heap.size τ pd π i hi a) (cwV 2 hts gX4_doLine_X4_spawn rfl rfl rfl (by decide +kernel) ⟨Nat.le_of_ble_eq_true rfl, Nat.le_of_ble_eq_true rfl⟩) hK hP hD hS hA 100 w_ru rfl hl.1 rfl rfl (Nat.le_of_ble_eq_true rfl) ⟨Nat.zero_le _, Nat.zero_le _⟩ dX4_doLine_188 (fun r19 τ20 H locs hw hP hD hS => ?_)
    obtain ⟨er19, eτ20⟩ := hw
    exact x_iret hx hb hr hlocks hK τ20 hP hD hS dX4_doLine_191 (by subst er19 eτ20; simp (decide := true) [m_doLine, q_1_0, q_1_1, q_1_2, q_1_3, q_1_4, q_1_5, q_1_6, q_1_7, q_1_8, q_1_9, eq_true q_1_10])
  by_cases q_1_11 : k = 11
  · skip
    refine lv_tableIn (tgt := 192) (off := 191) hx hb dX4_doLine_1 (by rw [q_1_11]; decide) (by rw [q_1_11]; decide) (by rw [q_1_11]; decide) (by decide) ?_
    refine lv_aload_n hx hb dX4_doLine_192 rfl (lv_at hl 0 rfl) ?_
    refine lv_aload_n hx hb dX4_doLine_193 rfl (lv_at hl 1 rfl) ?_
    refine x_Vi (As := [.ref (ad (i + 6))]) (rest0 := []) ⟨hx, hb, hml, hown, hts⟩ (c_X4_stop l D cA ad tr (wPg cA ad pd π ++ rest) s.heap.size τ i hi) (cwV 1 hts gX4_doLine_X4_stop rfl rfl rfl (by decide +kernel) ⟨Nat.le_of_ble_eq_true rfl, Nat.le_of_ble_eq_true rfl⟩) hK hP hD hS hA 100 w_ru rfl hl.1 rfl rfl (Nat.le_of_ble_eq_true rfl) ⟨Nat.zero_le _, Nat.zero_le _⟩ dX4_doLine_194 (fun r21 τ22 H locs hw hP hD hS => ?_)
    obtain ⟨er21, eτ22⟩ := hw
    exact x_iret hx hb hr hlocks hK τ22 hP hD hS dX4_doLine_197 (by subst er21 eτ22; simp (decide := true) [m_doLine, q_1_0, q_1_1, q_1_2, q_1_3, q_1_4, q_1_5, q_1_6, q_1_7, q_1_8, q_1_9, q_1_10, eq_true q_1_11])
  by_cases q_1_12 : k = 12
  · skip
    refine lv_tableIn (tgt := 198) (off := 197) hx hb dX4_doLine_1 (by rw [q_1_12]; decide) (by rw [q_1_12]; decide) (by rw [q_1_12]; decide) (by decide) ?_
    refine lv_aload_n hx hb dX4_doLine_198 rfl (lv_at hl 0 rfl) ?_
    refine lv_aload_n hx hb dX4_doLine_199 rfl (lv_at hl 1 rfl) ?_
    refine lv_iload_n hx hb dX4_doLine_200 rfl (lv_at hl 3 rfl) ?_
    refine x_Vi (As := [.ref (ad (i + 6)), .int a]) (rest0 := []) ⟨hx, hb, hml, hown, hts⟩ (c_X4_sleep l D cA ad tr (wPg cA ad pd π ++ rest) s.heap.size τ i hi a) (cwV 2 hts gX4_doLine_X4_sleep rfl rfl rfl (by decide +kernel) ⟨Nat.le_of_ble_eq_true rfl, Nat.le_of_ble_eq_true rfl⟩) hK hP hD hS hA 100 w_ru rfl hl.1 rfl rfl (Nat.le_of_ble_eq_true rfl) ⟨Nat.zero_le _, Nat.zero_le _⟩ dX4_doLine_201 (fun r23 τ24 H locs hw hP hD hS => ?_)
    obtain ⟨er23, eτ24⟩ := hw
    exact x_iret hx hb hr hlocks hK τ24 hP hD hS dX4_doLine_204 (by subst er23 eτ24; simp (decide := true) [m_doLine, q_1_0, q_1_1, q_1_2, q_1_3, q_1_4, q_1_5, q_1_6, q_1_7, q_1_8, q_1_9, q_1_10, q_1_11, eq_true q_1_12])
  by_cases q_1_13 : k = 13
  · skip
    refine lv_tableIn (tgt := 205) (off := 204) hx hb dX4_doLine_1 (by rw [q_1_13]; decide) (by rw [q_1_13]; decide) (by rw [q_1_13]; decide) (by decide) ?_
    refine lv_aload_n hx hb dX4_doLine_205 rfl (lv_at hl 0 rfl) ?_
    refine lv_aload_n hx hb dX4_doLine_206 rfl (lv_at hl 1 rfl) ?_
    refine lv_iload_n hx hb dX4_doLine_207 rfl (lv_at hl 3 rfl) ?_
    refine x_Vi (As := [.ref (ad (i + 6)), .int a]) (rest0 := []) ⟨hx, hb, hml, hown, hts⟩ (c_X4_lock l D cA ad tr (wPg cA ad pd π ++ rest) s.heap.size τ i hi a) (cwV 2 hts gX4_doLine_X4_lock rfl rfl rfl (by decide +kernel) ⟨Nat.le_of_ble_eq_true rfl, Nat.le_of_ble_eq_true rfl⟩) hK hP hD hS hA 100 w_ru rfl hl.1 rfl rfl (Nat.le_of_ble_eq_true rfl) ⟨Nat.zero_le _, Nat.zero_le _⟩ dX4_doLine_208 (fun r25 τ26 H locs hw hP hD hS => ?_)
    obtain ⟨er25, eτ26⟩ := hw
    exact x_iret hx hb hr hlocks hK τ26 hP hD hS dX4_doLine_211 (by subst er25 eτ26; simp (decide := true) [m_doLine, q_1_0, q_1_1, q_1_2, q_1_3, q_1_4, q_1_5, q_1_6, q_1_7, q_1_8, q_1_9, q_1_10, q_1_11, q_1_12, eq_true q_1_13])
  by_cases q_1_14 : k = 14
  · skip
    refine lv_tableIn (tgt := 212) (off := 211) hx hb dX4_doLine_1 (by rw [q_1_14]; decide) (by rw [q_1_14]; decide) (by rw [q_1_14]; decide) (by decide) ?_
    refine lv_aload_n hx hb dX4_doLine_212 rfl (lv_at hl 0 rfl) ?_
    refine lv_aload_n hx hb dX4_doLine_213 rfl (lv_at hl 1 rfl) ?_
    refine lv_iload_n hx hb dX4_doLine_214 rfl (lv_at hl 3 rfl) ?_
    refine x_Vi (As := [.ref (ad (i + 6)), .int a]) (rest0 := []) ⟨hx, hb, hml, hown, hts⟩ (c_X4_free l D cA ad tr (wPg cA ad pd π ++ rest) s.heap.size τ i hi a) (cwV 2 hts gX4_doLine_X4_free rfl rfl rfl (by decide +kernel) ⟨Nat.le_of_ble_eq_true rfl, Nat.le_of_ble_eq_true rfl⟩) hK hP hD hS hA 100 w_ru rfl hl.1 rfl rfl (Nat.le_of_ble_eq_true rfl) ⟨Nat.zero_le _, Nat.zero_le _⟩ dX4_doLine_215 (fun r27 τ28 H locs hw hP hD hS => ?_)
    obtain ⟨er27, eτ28⟩ := hw
    exact x_iret hx hb hr hlocks hK τ28 hP hD hS dX4_doLine_218 (by subst er27 eτ28; simp (decide := true) [m_doLine, q_1_0, q_1_1, q_1_2, q_1_3, q_1_4, q_1_5, q_1_6, q_1_7, q_1_8, q_1_9, q_1_10, q_1_11, q_1_12, q_1_13, eq_true q_1_14])
  by_cases q_1_15 : k = 15
  · skip
    refine lv_tableIn (tgt := 219) (off := 218) hx hb dX4_doLine_1 (by rw [q_1_15]; decide) (by rw [q_1_15]; decide) (by rw [q_1_15]; decide) (by decide) ?_
    refine lv_aload_n hx hb dX4_doLine_219 rfl (lv_at hl 0 rfl) ?_
    refine lv_aload_n hx hb dX4_doLine_220 rfl (lv_at hl 1 rfl) ?_
    refine lv_iload_n hx hb dX4_doLine_221 rfl (lv_at hl 3 rfl) ?_
    refine x_Vi (As := [.ref (ad (i + 6)), .int a]) (rest0 := []) ⟨hx, hb, hml, hown, hts⟩ (c_X4_send l D cA ad tr (wPg cA ad pd π ++ rest) s.heap.size τ i hi a) (cwV 2 hts gX4_doLine_X4_send rfl rfl rfl (by decide +kernel) ⟨Nat.le_of_ble_eq_true rfl, Nat.le_of_ble_eq_true rfl⟩) hK hP hD hS hA 100 w_ru rfl hl.1 rfl rfl (Nat.le_of_ble_eq_true rfl) ⟨Nat.zero_le _, Nat.zero_le _⟩ dX4_doLine_222 (fun r29 τ30 H locs hw hP hD hS => ?_)
    obtain ⟨er29, eτ30⟩ := hw
    exact x_iret hx hb hr hlocks hK τ30 hP hD hS dX4_doLine_225 (by subst er29 eτ30; simp (decide := true) [m_doLine, q_1_0, q_1_1, q_1_2, q_1_3, q_1_4, q_1_5, q_1_6, q_1_7, q_1_8, q_1_9, q_1_10, q_1_11, q_1_12, q_1_13, q_1_14, eq_true q_1_15])
  by_cases q_1_16 : k = 16
  · skip
    refine lv_tableIn (tgt := 226) (off := 225) hx hb dX4_doLine_1 (by rw [q_1_16]; decide) (by rw [q_1_16]; decide) (by rw [q_1_16]; decide) (by decide) ?_
    refine lv_aload_n hx hb dX4_doLine_226 rfl (lv_at hl 0 rfl) ?_
    refine lv_aload_n hx hb dX4_doLine_227 rfl (lv_at hl 1 rfl) ?_
    refine lv_iload_n hx hb dX4_doLine_228 rfl (lv_at hl 3 rfl) ?_
    refine x_Vi (As := [.ref (ad (i + 6)), .int a]) (rest0 := []) ⟨hx, hb, hml, hown, hts⟩ (c_X4_take l D cA ad tr (wPg cA ad pd π ++ rest) s.heap.size τ i hi a) (cwV 2 hts gX4_doLine_X4_take rfl rfl rfl (by decide +kernel) ⟨Nat.le_of_ble_eq_true rfl, Nat.le_of_ble_eq_true rfl⟩) hK hP hD hS hA 100 w_ru rfl hl.1 rfl rfl (Nat.le_of_ble_eq_true rfl) ⟨Nat.zero_le _, Nat.zero_le _⟩ dX4_doLine_229 (fun r31 τ32 H locs hw hP hD hS => ?_)
    obtain ⟨er31, eτ32⟩ := hw
    exact x_iret hx hb hr hlocks hK τ32 hP hD hS dX4_doLine_232 (by subst er31 eτ32; simp (decide := true) [m_doLine, q_1_0, q_1_1, q_1_2, q_1_3, q_1_4, q_1_5, q_1_6, q_1_7, q_1_8, q_1_9, q_1_10, q_1_11, q_1_12, q_1_13, q_1_14, q_1_15, eq_true q_1_16])
  by_cases q_1_17 : k = 17
  · skip
    refine lv_tableIn (tgt := 233) (off := 232) hx hb dX4_doLine_1 (by rw [q_1_17]; decide) (by rw [q_1_17]; decide) (by rw [q_1_17]; decide) (by decide) ?_
    refine lv_aload_n hx hb dX4_doLine_233 rfl (lv_at hl 0 rfl) ?_
    refine lv_aload_n hx hb dX4_doLine_234 rfl (lv_at hl 1 rfl) ?_
    refine lv_iload_n hx hb dX4_doLine_235 rfl (lv_at hl 3 rfl) ?_
    refine x_Vi (As := [.ref (ad (i + 6)), .int a]) (rest0 := []) ⟨hx, hb, hml, hown, hts⟩ (c_X4_end l D cA ad tr (wPg cA ad pd π ++ rest) s.heap.size τ i hi a) (cwV 2 hts gX4_doLine_X4_end rfl rfl rfl (by decide +kernel) ⟨Nat.le_of_ble_eq_true rfl, Nat.le_of_ble_eq_true rfl⟩) hK hP hD hS hA 100 w_ru rfl hl.1 rfl rfl (Nat.le_of_ble_eq_true rfl) ⟨Nat.zero_le _, Nat.zero_le _⟩ dX4_doLine_236 (fun r33 τ34 H locs hw hP hD hS => ?_)
    obtain ⟨er33, eτ34⟩ := hw
    exact x_iret hx hb hr hlocks hK τ34 hP hD hS dX4_doLine_239 (by subst er33 eτ34; simp (decide := true) [m_doLine, q_1_0, q_1_1, q_1_2, q_1_3, q_1_4, q_1_5, q_1_6, q_1_7, q_1_8, q_1_9, q_1_10, q_1_11, q_1_12, q_1_13, q_1_14, q_1_15, q_1_16, eq_true q_1_17])
  by_cases q_1_18 : k = 18
  · skip
    refine lv_tableIn (tgt := 240) (off := 239) hx hb dX4_doLine_1 (by rw [q_1_18]; decide) (by rw [q_1_18]; decide) (by rw [q_1_18]; decide) (by decide) ?_
    refine lv_aload_n hx hb dX4_doLine_240 rfl (lv_at hl 0 rfl) ?_
    refine lv_aload_n hx hb dX4_doLine_241 rfl (lv_at hl 1 rfl) ?_
    refine x_Vi (As := [.ref (ad (i + 6))]) (rest0 := []) ⟨hx, hb, hml, hown, hts⟩ (c_X4_pick l D cA ad tr (wPg cA ad pd π ++ rest) s.heap.size τ i hi) (cwV 1 hts gX4_doLine_X4_pick rfl rfl rfl (by decide +kernel) ⟨Nat.le_of_ble_eq_true rfl, Nat.le_of_ble_eq_true rfl⟩) hK hP hD hS hA 100 w_ru rfl hl.1 rfl rfl (Nat.le_of_ble_eq_true rfl) ⟨Nat.zero_le _, Nat.zero_le _⟩ dX4_doLine_242 (fun r35 τ36 H locs hw hP hD hS => ?_)
    obtain ⟨er35, eτ36⟩ := hw
    exact x_iret hx hb hr hlocks hK τ36 hP hD hS dX4_doLine_245 (by subst er35 eτ36; simp (decide := true) [m_doLine, q_1_0, q_1_1, q_1_2, q_1_3, q_1_4, q_1_5, q_1_6, q_1_7, q_1_8, q_1_9, q_1_10, q_1_11, q_1_12, q_1_13, q_1_14, q_1_15, q_1_16, q_1_17, eq_true q_1_18])
  refine lv_tableOut (tgt := 246) hx hb dX4_doLine_1 (by have eq_1_0 : (k).toInt ≠ 0 := fun h => q_1_0 (Int32.toInt_inj.mp (h.trans (by decide))); have eq_1_1 : (k).toInt ≠ 1 := fun h => q_1_1 (Int32.toInt_inj.mp (h.trans (by decide))); have eq_1_2 : (k).toInt ≠ 2 := fun h => q_1_2 (Int32.toInt_inj.mp (h.trans (by decide))); have eq_1_3 : (k).toInt ≠ 3 := fun h => q_1_3 (Int32.toInt_inj.mp (h.trans (by decide))); have eq_1_4 : (k).toInt ≠ 4 := fun h => q_1_4 (Int32.toInt_inj.mp (h.trans (by decide))); have eq_1_5 : (k).toInt ≠ 5 := fun h => q_1_5 (Int32.toInt_inj.mp (h.trans (by decide))); have eq_1_6 : (k).toInt ≠ 6 := fun h => q_1_6 (Int32.toInt_inj.mp (h.trans (by decide))); have eq_1_7 : (k).toInt ≠ 7 := fun h => q_1_7 (Int32.toInt_inj.mp (h.trans (by decide))); have eq_1_8 : (k).toInt ≠ 8 := fun h => q_1_8 (Int32.toInt_inj.mp (h.trans (by decide))); have eq_1_9 : (k).toInt ≠ 9 := fun h => q_1_9 (Int32.toInt_inj.mp (h.trans (by decide))); have eq_1_10 : (k).toInt ≠ 10 := fun h => q_1_10 (Int32.toInt_inj.mp (h.trans (by decide))); have eq_1_11 : (k).toInt ≠ 11 := fun h => q_1_11 (Int32.toInt_inj.mp (h.trans (by decide))); have eq_1_12 : (k).toInt ≠ 12 := fun h => q_1_12 (Int32.toInt_inj.mp (h.trans (by decide))); have eq_1_13 : (k).toInt ≠ 13 := fun h => q_1_13 (Int32.toInt_inj.mp (h.trans (by decide))); have eq_1_14 : (k).toInt ≠ 14 := fun h => q_1_14 (Int32.toInt_inj.mp (h.trans (by decide))); have eq_1_15 : (k).toInt ≠ 15 := fun h => q_1_15 (Int32.toInt_inj.mp (h.trans (by decide))); have eq_1_16 : (k).toInt ≠ 16 := fun h => q_1_16 (Int32.toInt_inj.mp (h.trans (by decide))); have eq_1_17 : (k).toInt ≠ 17 := fun h => q_1_17 (Int32.toInt_inj.mp (h.trans (by decide))); have eq_1_18 : (k).toInt ≠ 18 := fun h => q_1_18 (Int32.toInt_inj.mp (h.trans (by decide))); omega) (by decide) ?_
  refine lv_bipush (v := (-2)) hx hb dX4_doLine_246 (by decide) ?_
  exact x_iret hx hb hr hlocks hK τ hP hD hS dX4_doLine_248 (by simp (decide := true) [m_doLine, q_1_0, q_1_1, q_1_2, q_1_3, q_1_4, q_1_5, q_1_6, q_1_7, q_1_8, q_1_9, q_1_10, q_1_11, q_1_12, q_1_13, q_1_14, q_1_15, q_1_16, q_1_17, q_1_18])

set_option maxHeartbeats 4000000 in
set_option maxRecDepth 100000 in
theorem c_X4_goOn (l : Launch) (D : va_G) (cA : Nat → ClassId) (ad : Nat → Nat) (tr : List (ClassId × FieldType)) (rest : va_W) (sz : Nat) (τ : Sg) (pd : Nat → Nat) (π : Sg) (i : Nat) (hi : i < 24) : Met l yX4_goOn wsX4_goOn ({ frames := 4, cells := 0, slots := 0, locals := 100 }) (va_Pc [.ref (ad 100), .ref (ad (i + 6))] (inW D (tyB cA ++ tr) (wB cA ad τ ++ (wPg cA ad pd π ++ rest)) sz)) (va_Qi (fun (r : Int32) (u : Sg) => r = (m_goOn τ π i).2 ∧ u = (m_goOn τ π i).1) (fun u : Sg => outW D (tyB cA ++ tr) (va_A (wB cA ad τ ++ (wPg cA ad pd π ++ rest)) sz) (wB cA ad u ++ (wPg cA ad pd π ++ rest))) (va_A (wB cA ad τ ++ (wPg cA ad pd π ++ rest)) sz)) 0 0 (va_A (wB cA ad τ ++ (wPg cA ad pd π ++ rest)) sz) := by
  refine Met.ofW (cc := cX4_goOn) (maxL := 4) (ret := (some .int)) (by decide) rfl ?_
  intro p e s m args below meth c s₁ B hml hv
  obtain ⟨rfl, hsz, hP, hK, hD0⟩ := hv
  have hx := B.exec
  have hb := B.bytes
  have hr := B.returns
  have hts := atoms_spec (ws := wsX4_goOn) B.pre
  have hown : s.vm.findClass RX4 = some m.cls := findClass_of_methodNamed B.named
  have hlocks := B.notSynchronized
  subst hsz
  have hD := hD0.self (sz := s.heap.size)
  clear hD0
  generalize hAe : va_A (wB cA ad τ ++ (wPg cA ad pd π ++ rest)) s.heap.size = A at hD ⊢
  have hA : ∀ q : Nat, s.heap.size ≤ q → A q := fun q h => by rw [← hAe]; exact Or.inr h
  clear hAe
  have hS : va_S A s.heap s.heap [] := va_S.rf
  have hP : va_P D vwCl (wB cA ad τ ++ (wPg cA ad pd π ++ rest)) s.heap := hP
  have hl := lv_entry ([.ref (ad 100), .ref (ad (i + 6))]) (n := 4) (Nat.le_of_ble_eq_true rfl)
  rw [lg_entry_eq]
  generalize (lg_sl ([.ref (ad 100), .ref (ad (i + 6))]) ++ List.replicate (4 - (lg_sl ([.ref (ad 100), .ref (ad (i + 6))])).length) Slot.unset).toArray = ls at hl ⊢
  have hl : lv_has ls 4 [(0, .ref (ad 100)), (1, .ref (ad (i + 6)))] := hl
  have nX3 : ∀ w ∈ u_ws RX3 TX3 5, w ∈ wsX4_goOn := by decide +kernel
  have nX4 : ∀ w ∈ u_ws RX4 TX4 3, w ∈ wsX4_goOn := by decide +kernel
  have nX6 : ∀ w ∈ u_ws RX6 TX6 12, w ∈ wsX4_goOn := by decide +kernel
  have nX7 : ∀ w ∈ u_ws RX7 TX7 17, w ∈ wsX4_goOn := by decide +kernel
  have k9 := hts (.fieldLink RX4 9 "ScopeRow$Runner" "program" "LScopeRow$Program;") (by decide +kernel)
  have k85 := hts (.fieldLink RX4 85 "ScopeRow$Task" "body" "I") (by decide +kernel)
  have k82 := hts (.fieldLink RX4 82 "ScopeRow$Task" "line" "I") (by decide +kernel)
  have k29 := hts (.fieldLink RX4 29 "ScopeRow$Runner" "linesOfTurn" "I") (by decide +kernel)
  have k15 := hts (.fieldLink RX4 15 "ScopeRow$Runner" "state" "LScopeRow$State;") (by decide +kernel)
  have k98 := hts (.fieldLink RX4 98 "ScopeRow$State" "lines" "I") (by decide +kernel)
  have k101 := hts (.fieldLink RX4 101 "ScopeRow$Program" "kinds" "[I") (by decide +kernel)
  have k109 := hts (.fieldLink RX4 109 "ScopeRow$Program" "firsts" "[I") (by decide +kernel)
  have k112 := hts (.fieldLink RX4 112 "ScopeRow$Program" "seconds" "[I") (by decide +kernel)
  refine lv_aload_n hx hb dX4_goOn_0 rfl (lv_at hl 0 rfl) ?_
  refine va_get (D := D) (C := RX4) (T := TX4) (N := 3) (ci := 4) (v := .ref (ad 102)) hx hb hts nX4 hown hK hP 100 w_ru rfl 0 (by decide) k9 (fun _ h9 => h9) rfl dX4_goOn_1 ?_
  refine lv_aload_n hx hb dX4_goOn_4 rfl (lv_at hl 1 rfl) ?_
  refine va_get (D := D) (C := RX7) (T := TX7) (N := 17) (ci := 7) (v := .int (τ (i + 6) 2)) hx hb hts nX7 hown hK hP (i + 6) (w_tk hi) rfl 2 (by decide) k85 (fun _ h9 => h9) rfl dX4_goOn_5 ?_
  refine lv_aload_n hx hb dX4_goOn_8 rfl (lv_at hl 1 rfl) ?_
  refine va_get (D := D) (C := RX7) (T := TX7) (N := 17) (ci := 7) (v := .int (τ (i + 6) 4)) hx hb hts nX7 hown hK hP (i + 6) (w_tk hi) rfl 4 (by decide) k82 (fun _ h9 => h9) rfl dX4_goOn_9 ?_
  refine x_Vi (As := [.int (τ (i + 6) 2), .int (τ (i + 6) 4)]) (rest0 := []) ⟨hx, hb, hml, hown, hts⟩ (c_X3_placeOf l D cA ad tr rest s.heap.size τ pd π (τ (i + 6) 2) (τ (i + 6) 4)) (cwV 2 hts gX4_goOn_X3_placeOf rfl rfl rfl (by decide +kernel) ⟨Nat.le_of_ble_eq_true rfl, Nat.le_of_ble_eq_true rfl⟩) hK hP hD hS hA 102 w_pg rfl hl.1 rfl rfl (Nat.le_of_ble_eq_true rfl) ⟨Nat.zero_le _, Nat.zero_le _⟩ dX4_goOn_12 (fun r1 _ H locs hw hP hD hS => ?_)
  have er1 := hw
  refine lv_istore_n (lv' := [(2, .int r1), (0, .ref (ad 100)), (1, .ref (ad (i + 6)))]) hx hb dX4_goOn_15 rfl hl (by decide) rfl (fun ls hl => ?_)
  refine lv_iload_n hx hb dX4_goOn_16 rfl (lv_at hl 0 rfl) ?_
  refine lv_iconst (v := (-1)) hx hb dX4_goOn_17 (by decide) ?_
  refine lv_icmp_eq (tgt := 39) hx hb dX4_goOn_18 (by decide) (fun c_18_2 => ?_) (fun c_18_2 => ?_)
  -- 18 jumps
  · skip
    refine lv_bipush (v := (-2)) hx hb dX4_goOn_39 (by decide) ?_
    exact x_iret hx hb hr hlocks hK τ hP hD hS dX4_goOn_41 (by subst er1; simp [m_goOn, m_goLine, eq_true c_18_2])
  -- 18 goes on
  · skip
    refine lv_aload_n hx hb dX4_goOn_21 rfl (lv_at hl 2 rfl) ?_
    refine va_get (D := D) (C := RX7) (T := TX7) (N := 17) (ci := 7) (v := .int (τ (i + 6) 4)) hx hb hts nX7 hown hK hP (i + 6) (w_tk hi) rfl 4 (by decide) k82 (fun _ h9 => h9) rfl dX4_goOn_22 ?_
    refine lv_aload_n hx hb dX4_goOn_25 rfl (lv_at hl 1 rfl) ?_
    refine va_get (D := D) (C := RX4) (T := TX4) (N := 3) (ci := 4) (v := .ref (ad 102)) hx hb hts nX4 hown hK hP 100 w_ru rfl 0 (by decide) k9 (fun _ h9 => h9) rfl dX4_goOn_26 ?_
    refine lv_aload_n hx hb dX4_goOn_29 rfl (lv_at hl 2 rfl) ?_
    refine va_get (D := D) (C := RX7) (T := TX7) (N := 17) (ci := 7) (v := .int (τ (i + 6) 2)) hx hb hts nX7 hown hK hP (i + 6) (w_tk hi) rfl 2 (by decide) k85 (fun _ h9 => h9) rfl dX4_goOn_30 ?_
    refine x_Vi (As := [.int (τ (i + 6) 2)]) (rest0 := [.int (τ (i + 6) 4)]) ⟨hx, hb, hml, hown, hts⟩ (c_X3_linesOf l D cA ad tr rest H.size τ pd π (τ (i + 6) 2)) (cwV 1 hts gX4_goOn_X3_linesOf rfl rfl rfl (by decide +kernel) ⟨Nat.le_of_ble_eq_true rfl, Nat.le_of_ble_eq_true rfl⟩) hK hP hD hS hA 102 w_pg rfl hl.1 rfl rfl (Nat.le_of_ble_eq_true rfl) ⟨Nat.zero_le _, Nat.zero_le _⟩ dX4_goOn_33 (fun r3 _ H locs hw hP hD hS => ?_)
    have er3 := hw
    refine lv_icmp_lt (tgt := 42) hx hb dX4_goOn_36 (by decide) (fun c_36_4 => ?_) (fun c_36_4 => ?_)
    -- 36 jumps
    · skip
      refine lv_aload_n hx hb dX4_goOn_42 rfl (lv_at hl 1 rfl) ?_
      refine va_get (D := D) (C := RX4) (T := TX4) (N := 3) (ci := 4) (v := .int (τ 100 2)) hx hb hts nX4 hown hK hP 100 w_ru rfl 2 (by decide) k29 (fun _ h9 => h9) rfl dX4_goOn_43 ?_
      refine lv_bipush (v := 100) hx hb dX4_goOn_46 (by decide) ?_
      refine lv_icmp_lt (tgt := 54) hx hb dX4_goOn_48 (by decide) (fun c_48_5 => ?_) (fun c_48_5 => ?_)
      -- 48 jumps
      · skip
        refine lv_aload_n hx hb dX4_goOn_54 rfl (lv_at hl 1 rfl) ?_
        refine lv_dup hx hb dX4_goOn_55 rfl ?_
        refine va_get (D := D) (C := RX4) (T := TX4) (N := 3) (ci := 4) (v := .int (τ 100 2)) hx hb hts nX4 hown hK hP 100 w_ru rfl 2 (by decide) k29 (fun _ h9 => h9) rfl dX4_goOn_56 ?_
        refine lv_iconst (v := 1) hx hb dX4_goOn_59 (by decide) ?_
        refine lv_iadd hx hb dX4_goOn_60 ?_
        refine p_ru hx hb hts nX4 hown hK hP hD hS 2 (by decide) (by decide) k29 (fun _ h9 => h9) rfl rfl rfl dX4_goOn_61 (fun τ6 H locs eτ6 hP hD hS => ?_)
        refine lv_aload_n hx hb dX4_goOn_64 rfl (lv_at hl 1 rfl) ?_
        refine va_get (D := D) (C := RX4) (T := TX4) (N := 3) (ci := 4) (v := .ref (ad 0)) hx hb hts nX4 hown hK hP 100 w_ru rfl 1 (by decide) k15 (fun _ h9 => h9) rfl dX4_goOn_65 ?_
        refine lv_dup hx hb dX4_goOn_68 rfl ?_
        refine va_get (D := D) (C := RX6) (T := TX6) (N := 12) (ci := 6) (v := .int (τ6 0 10)) hx hb hts nX6 hown hK hP 0 w_st rfl 10 (by decide) k98 (fun _ h9 => h9) rfl dX4_goOn_69 ?_
        refine lv_iconst (v := 1) hx hb dX4_goOn_72 (by decide) ?_
        refine lv_iadd hx hb dX4_goOn_73 ?_
        refine p_st hx hb hts nX6 hown hK hP hD hS 10 (by decide) (by decide) k98 (fun _ h9 => h9) rfl rfl rfl dX4_goOn_74 (fun τ7 H locs eτ7 hP hD hS => ?_)
        refine lv_aload_n hx hb dX4_goOn_77 rfl (lv_at hl 1 rfl) ?_
        refine va_get (D := D) (C := RX4) (T := TX4) (N := 3) (ci := 4) (v := .ref (ad 102)) hx hb hts nX4 hown hK hP 100 w_ru rfl 0 (by decide) k9 (fun _ h9 => h9) rfl dX4_goOn_78 ?_
        refine va_get (D := D) (C := RX3) (T := TX3) (N := 5) (ci := 3) (v := .ref (pd 2)) hx hb hts nX3 hown hK hP 102 w_pg rfl 2 (by decide) k101 (fun _ h9 => h9) rfl dX4_goOn_81 ?_
        refine lv_iload_n hx hb dX4_goOn_84 rfl (lv_at hl 0 rfl) ?_
        refine l_pa2 hx hb hK hP (j := (r1).toNatClampNeg) rfl (by rw [er1] at c_18_2 ⊢; exact m_placeOf_in c_18_2) dX4_goOn_85 ?_
        refine lv_topi (fun x8 ex8 => ?_)
        refine lv_istore_n (lv' := [(3, .int x8), (2, .int r1), (0, .ref (ad 100)), (1, .ref (ad (i + 6)))]) hx hb dX4_goOn_86 rfl hl (by decide) rfl (fun ls hl => ?_)
        refine lv_iload_n hx hb dX4_goOn_87 rfl (lv_at hl 0 rfl) ?_
        refine x_Si (As := [.int x8]) (rest0 := []) ⟨hx, hb, hml, hown, hts⟩ (c_X4_isWait l D cA ad tr (wPg cA ad pd π ++ rest) H.size τ7 x8) (va_cwS 1 hts gX4_goOn_X4_isWait rfl rfl rfl (by decide +kernel) ⟨Nat.le_of_ble_eq_true rfl, Nat.le_of_ble_eq_true rfl⟩) hK hP hD hS hA hl.1 rfl rfl (Nat.le_of_ble_eq_true rfl) ⟨Nat.zero_le _, Nat.zero_le _⟩ dX4_goOn_88 (fun r9 _ H locs hw hP hD hS => ?_)
        have er9 := hw
        refine lv_if_eq (tgt := 109) hx hb dX4_goOn_91 (by decide) (fun c_91_10 => ?_) (fun c_91_10 => ?_)
        -- 91 jumps
        · skip
          have dc_91_10 := bI_f er9 c_91_10
          refine lv_aload_n hx hb dX4_goOn_109 rfl (lv_at hl 2 rfl) ?_
          refine lv_aload_n hx hb dX4_goOn_110 rfl (lv_at hl 3 rfl) ?_
          refine lv_iload_n hx hb dX4_goOn_111 rfl (lv_at hl 0 rfl) ?_
          refine lv_aload_n hx hb dX4_goOn_112 rfl (lv_at hl 2 rfl) ?_
          refine va_get (D := D) (C := RX4) (T := TX4) (N := 3) (ci := 4) (v := .ref (ad 102)) hx hb hts nX4 hown hK hP 100 w_ru rfl 0 (by decide) k9 (fun _ h9 => h9) rfl dX4_goOn_113 ?_
          refine va_get (D := D) (C := RX3) (T := TX3) (N := 5) (ci := 3) (v := .ref (pd 3)) hx hb hts nX3 hown hK hP 102 w_pg rfl 3 (by decide) k109 (fun _ h9 => h9) rfl dX4_goOn_116 ?_
          refine lv_iload_n hx hb dX4_goOn_119 rfl (lv_at hl 1 rfl) ?_
          refine l_pa3 hx hb hK hP (j := (r1).toNatClampNeg) rfl (by rw [er1] at c_18_2 ⊢; exact m_placeOf_in c_18_2) dX4_goOn_120 ?_
          refine lv_aload_n hx hb dX4_goOn_121 rfl (lv_at hl 2 rfl) ?_
          refine va_get (D := D) (C := RX4) (T := TX4) (N := 3) (ci := 4) (v := .ref (ad 102)) hx hb hts nX4 hown hK hP 100 w_ru rfl 0 (by decide) k9 (fun _ h9 => h9) rfl dX4_goOn_122 ?_
          refine va_get (D := D) (C := RX3) (T := TX3) (N := 5) (ci := 3) (v := .ref (pd 4)) hx hb hts nX3 hown hK hP 102 w_pg rfl 4 (by decide) k112 (fun _ h9 => h9) rfl dX4_goOn_125 ?_
          refine lv_iload_n hx hb dX4_goOn_128 rfl (lv_at hl 1 rfl) ?_
          refine l_pa4 hx hb hK hP (j := (r1).toNatClampNeg) rfl (by rw [er1] at c_18_2 ⊢; exact m_placeOf_in c_18_2) dX4_goOn_129 ?_
          refine x_Vi (As := [.ref (ad (i + 6)), .int x8, .int (π 3 r1.toNatClampNeg), .int (π 4 r1.toNatClampNeg)]) (rest0 := []) ⟨hx, hb, hml, hown, hts⟩ (c_X4_doLine l D cA ad tr rest H.size τ7 pd π i hi x8 (π 3 r1.toNatClampNeg) (π 4 r1.toNatClampNeg)) (cwV 4 hts gX4_goOn_X4_doLine rfl rfl rfl (by decide +kernel) ⟨Nat.le_of_ble_eq_true rfl, Nat.le_of_ble_eq_true rfl⟩) hK hP hD hS hA 100 w_ru rfl hl.1 rfl rfl (Nat.le_of_ble_eq_true rfl) ⟨Nat.zero_le _, Nat.zero_le _⟩ dX4_goOn_130 (fun r11 τ12 H locs hw hP hD hS => ?_)
          obtain ⟨er11, eτ12⟩ := hw
          exact x_iret hx hb hr hlocks hK τ12 hP hD hS dX4_goOn_133 (by subst er11 eτ12 er9 ex8 eτ7 eτ6 er3 er1; simp [m_goOn, m_goLine, c_18_2, eq_true c_36_4, eq_true c_48_5, dc_91_10])
        -- 91 goes on
        · skip
          have dc_91_10 := bI_t er9 c_91_10
          refine lv_aload_n hx hb dX4_goOn_94 rfl (lv_at hl 2 rfl) ?_
          refine va_get (D := D) (C := RX4) (T := TX4) (N := 3) (ci := 4) (v := .ref (ad 0)) hx hb hts nX4 hown hK hP 100 w_ru rfl 1 (by decide) k15 (fun _ h9 => h9) rfl dX4_goOn_95 ?_
          refine lv_aload_n hx hb dX4_goOn_98 rfl (lv_at hl 3 rfl) ?_
          refine lv_iconst (v := (-1)) hx hb dX4_goOn_99 (by decide) ?_
          refine x_Vi (As := [.ref (ad (i + 6)), .int (-1)]) (rest0 := []) ⟨hx, hb, hml, hown, hts⟩ (c_X6_isHit l D cA ad tr (wPg cA ad pd π ++ rest) H.size τ7 i hi (-1)) (cwV 2 hts gX4_goOn_X6_isHit rfl rfl rfl (by decide +kernel) ⟨Nat.le_of_ble_eq_true rfl, Nat.le_of_ble_eq_true rfl⟩) hK hP hD hS hA 0 w_st rfl hl.1 rfl rfl (Nat.le_of_ble_eq_true rfl) ⟨Nat.zero_le _, Nat.zero_le _⟩ dX4_goOn_100 (fun r13 _ H locs hw hP hD hS => ?_)
          have er13 := hw
          refine lv_if_eq (tgt := 109) hx hb dX4_goOn_103 (by decide) (fun c_103_14 => ?_) (fun c_103_14 => ?_)
          -- 103 jumps
          · skip
            have dc_103_14 := bI_f er13 c_103_14
            refine lv_aload_n hx hb dX4_goOn_109 rfl (lv_at hl 2 rfl) ?_
            refine lv_aload_n hx hb dX4_goOn_110 rfl (lv_at hl 3 rfl) ?_
            refine lv_iload_n hx hb dX4_goOn_111 rfl (lv_at hl 0 rfl) ?_
            refine lv_aload_n hx hb dX4_goOn_112 rfl (lv_at hl 2 rfl) ?_
            refine va_get (D := D) (C := RX4) (T := TX4) (N := 3) (ci := 4) (v := .ref (ad 102)) hx hb hts nX4 hown hK hP 100 w_ru rfl 0 (by decide) k9 (fun _ h9 => h9) rfl dX4_goOn_113 ?_
            refine va_get (D := D) (C := RX3) (T := TX3) (N := 5) (ci := 3) (v := .ref (pd 3)) hx hb hts nX3 hown hK hP 102 w_pg rfl 3 (by decide) k109 (fun _ h9 => h9) rfl dX4_goOn_116 ?_
            refine lv_iload_n hx hb dX4_goOn_119 rfl (lv_at hl 1 rfl) ?_
            refine l_pa3 hx hb hK hP (j := (r1).toNatClampNeg) rfl (by rw [er1] at c_18_2 ⊢; exact m_placeOf_in c_18_2) dX4_goOn_120 ?_
            refine lv_aload_n hx hb dX4_goOn_121 rfl (lv_at hl 2 rfl) ?_
            refine va_get (D := D) (C := RX4) (T := TX4) (N := 3) (ci := 4) (v := .ref (ad 102)) hx hb hts nX4 hown hK hP 100 w_ru rfl 0 (by decide) k9 (fun _ h9 => h9) rfl dX4_goOn_122 ?_
            refine va_get (D := D) (C := RX3) (T := TX3) (N := 5) (ci := 3) (v := .ref (pd 4)) hx hb hts nX3 hown hK hP 102 w_pg rfl 4 (by decide) k112 (fun _ h9 => h9) rfl dX4_goOn_125 ?_
            refine lv_iload_n hx hb dX4_goOn_128 rfl (lv_at hl 1 rfl) ?_
            refine l_pa4 hx hb hK hP (j := (r1).toNatClampNeg) rfl (by rw [er1] at c_18_2 ⊢; exact m_placeOf_in c_18_2) dX4_goOn_129 ?_
            refine x_Vi (As := [.ref (ad (i + 6)), .int x8, .int (π 3 r1.toNatClampNeg), .int (π 4 r1.toNatClampNeg)]) (rest0 := []) ⟨hx, hb, hml, hown, hts⟩ (c_X4_doLine l D cA ad tr rest H.size τ7 pd π i hi x8 (π 3 r1.toNatClampNeg) (π 4 r1.toNatClampNeg)) (cwV 4 hts gX4_goOn_X4_doLine rfl rfl rfl (by decide +kernel) ⟨Nat.le_of_ble_eq_true rfl, Nat.le_of_ble_eq_true rfl⟩) hK hP hD hS hA 100 w_ru rfl hl.1 rfl rfl (Nat.le_of_ble_eq_true rfl) ⟨Nat.zero_le _, Nat.zero_le _⟩ dX4_goOn_130 (fun r15 τ16 H locs hw hP hD hS => ?_)
            obtain ⟨er15, eτ16⟩ := hw
            exact x_iret hx hb hr hlocks hK τ16 hP hD hS dX4_goOn_133 (by subst er15 eτ16 er13 er9 ex8 eτ7 eτ6 er3 er1; simp [m_goOn, m_goLine, c_18_2, eq_true c_36_4, eq_true c_48_5, dc_91_10, dc_103_14])
          -- 103 goes on
          · skip
            have dc_103_14 := bI_t er13 c_103_14
            refine lv_bipush (v := (-3)) hx hb dX4_goOn_106 (by decide) ?_
            exact x_iret hx hb hr hlocks hK τ7 hP hD hS dX4_goOn_108 (by subst er13 er9 ex8 eτ7 eτ6 er3 er1; simp [m_goOn, m_goLine, c_18_2, eq_true c_36_4, eq_true c_48_5, dc_91_10, dc_103_14])
      -- 48 goes on
      · skip
        refine lv_bipush (v := 7) hx hb dX4_goOn_51 (by decide) ?_
        exact x_iret hx hb hr hlocks hK τ hP hD hS dX4_goOn_53 (by subst er3 er1; simp [m_goOn, m_goLine, c_18_2, eq_true c_36_4, c_48_5])
    -- 36 goes on
    · skip
      refine lv_bipush (v := (-2)) hx hb dX4_goOn_39 (by decide) ?_
      exact x_iret hx hb hr hlocks hK τ hP hD hS dX4_goOn_41 (by subst er3 er1; simp [m_goOn, m_goLine, c_18_2, c_36_4])
