/-! THE ANSWERS, as functions of the ints -/
def m_cnt (f : Nat → Bool) : Nat → Nat → Nat → Nat
  | 0, _, c => c
  | n + 1, j, c => m_cnt f n (j + 1) (if f j = true then c + 1 else c)
def m_any (f : Nat → Bool) : Nat → Nat → Bool
  | 0, _ => false
  | n + 1, j => if f j = true then true else m_any f n (j + 1)
def m_isIn (τ : Sg) (x : Int32) (j : Nat) : Bool := if τ (j + 6) 3 = x then true else false
def m_countTasks (τ : Sg) (x : Int32) : Nat := m_cnt (m_isIn τ x) 24 0 0
def m_countOver (τ : Sg) : Nat := m_cnt (m_isOver τ) 24 0 0
def m_countLive (τ : Sg) : Nat := m_cnt (m_isLive τ) 40 0 0
def m_isCan (τ : Sg) (j : Nat) : Bool := if τ (j + 54) 1 = -1 then false else if τ (j + 54) 5 = 0 then false else true
def m_countCan (τ : Sg) : Nat := m_cnt (m_isCan τ) 40 0 0
def m_wf (τ : Sg) (what target : Int32) (j : Nat) : Bool := m_waitsFor τ j what target
def m_countWaiting (τ : Sg) (what target : Int32) : Nat := m_cnt (m_wf τ what target) 24 0 0
def m_nh (τ : Sg) (x : Int32) (j : Nat) : Bool := if τ (j + 6) 3 = 0 then (if m_isHit τ j (-1) = true then false else m_isHit τ j x) else if τ (j + 6) 3 = 1 then (if m_isHit τ j (-1) = true then false else m_isHit τ j x) else false
def m_newlyHit (τ : Sg) (x : Int32) : Nat := m_cnt (m_nh τ x) 24 0 0
def m_pir (τ : Sg) (i : Nat) : Nat → Nat → Int32
  | 0, _ => -1
  | n + 1, j => if τ 0 7 ≤ nI j then -1 else if τ 5 j = nI i then nI j else m_pir τ i n (j + 1)
def m_placeInRow (τ : Sg) (i : Nat) : Int32 := m_pir τ i 24 0
def m_isTimer (τ : Sg) (j : Nat) : Bool := if m_isLive τ j = true then (if τ (j + 54) 7 ≤ τ 0 8 then false else true) else false
def m_timer (τ : Sg) : Bool := m_any (m_isTimer τ) 40 0
def m_isBusy (τ : Sg) (j : Nat) : Bool := if τ (j + 6) 3 = 0 then true else m_waitsAt τ j 1
def m_busy (τ : Sg) : Bool := m_any (m_isBusy τ) 24 0
def m_countStuck (τ : Sg) : Int32 := if m_timer τ = true then 0 else if m_busy τ = true then 0 else nI (m_countTasks τ 1)
def m_aboutTask (τ : Sg) (x what : Int32) : Int32 := match m_at x 24 with
  | none => -1
  | some i => if what = 0 then τ (i + 6) 2 else if what = 1 then τ (i + 6) 3 else if what = 2 then (if m_isOver τ i = true then -1 else τ (i + 6) 4) else if what = 3 then τ (i + 6) 5
    else if what = 4 then τ (i + 6) 6 else if what = 5 then τ (i + 6) 8 else if what = 6 then m_placeInRow τ i else if what = 7 then (if m_isOver τ i = true then 0 else if m_isHit τ i (-1) = true then 1 else 0)
    else if τ (i + 6) 3 = 1 then τ (i + 6) 9 else 0
def m_aboutLocal (τ : Sg) (x p : Int32) : Int32 := match m_at x 24 with
  | none => -1
  | some i => m_localAt τ i p
def m_aboutScope (τ : Sg) (x what : Int32) : Int32 := match m_at x 40 with
  | none => -1
  | some i => if what = 0 then τ (i + 54) 2 else if what = 1 then τ (i + 54) 1 else if what = 2 then (if τ (i + 54) 5 = 0 then 0 else 1) else if what = 3 then τ (i + 54) 7
    else if what = 4 then (if τ (i + 54) 6 = 0 then 0 else 1) else if what = 5 then τ (i + 54) 10 else if what = 6 then τ (i + 54) 11 else if what = 7 then τ (i + 54) 12 else τ (i + 54) 13
def m_aboutLock (τ : Sg) (x what : Int32) : Int32 := match m_at x 2 with
  | none => -1
  | some i => if what = 0 then τ (i + 94) 1 else if what = 1 then nI (m_countWaiting τ 2 x) else if what = 2 then (match m_firstWaiting τ 2 x with
    | none => -1
    | some q => nI q) else τ (i + 94) 2
def m_aboutChannel (τ : Sg) (x what : Int32) : Int32 := match m_at x 2 with
  | none => -1
  | some i => if what = 0 then τ (i + 96) 0 else if what = 1 then τ (i + 96) 2 else if what = 2 then m_first τ i else if what = 3 then nI (m_countWaiting τ 3 x) else if what = 4 then nI (m_countWaiting τ 4 x)
    else if what = 5 then (if τ (i + 96) 3 = 0 then 0 else 1) else τ (i + 96) 4
def m_howMany (τ π : Sg) (what : Int32) : Int32 :=
  if what = 0 then π 0 0 else if what = 1 then τ 0 1 else if what = 2 then nI (m_countTasks τ 0) else if what = 3 then nI (m_countTasks τ 1) else if what = 4 then nI (m_countTasks τ 2) else if what = 5 then nI (m_countTasks τ 3)
  else if what = 6 then nI (m_countTasks τ 4) else if what = 7 then τ 0 3 else if what = 8 then nI (m_countLive τ) else if what = 9 then nI (m_countCan τ) else if what = 10 then τ 0 8 else if what = 11 then τ 0 9 else τ 0 10
def m_dg (f : Nat → Int32) : Nat → Nat → Int64 → Int64
  | 0, _, d => d
  | n + 1, j, d => m_dg f n (j + 1) (d * 31 + (f j).toInt64)
def m_fT (τ : Sg) (j w : Nat) : Int32 := m_aboutTask τ (nI j) (nI w)
def m_fL (τ : Sg) (j w : Nat) : Int32 := m_aboutLocal τ (nI j) (nI w)
def m_fS (τ : Sg) (j w : Nat) : Int32 := m_aboutScope τ (nI j) (nI w)
def m_dgT (τ : Sg) : Nat → Nat → Int64 → Int64
  | 0, _, d => d
  | n + 1, j, d => m_dgT τ n (j + 1) (m_dg (m_fL τ j) 4 0 (m_dg (m_fT τ j) 9 0 d))
def m_dgS (τ : Sg) : Nat → Nat → Int64 → Int64
  | 0, _, d => d
  | n + 1, j, d => m_dgS τ n (j + 1) (m_dg (m_fS τ j) 9 0 d * 31 + (nI (m_newlyHit τ (nI j))).toInt64)

set_option maxHeartbeats 4000000 in
set_option maxRecDepth 100000 in
theorem c_X0_countTasks (l : Launch) (D : va_G) (cA : Nat → ClassId) (ad : Nat → Nat) (tr : List (ClassId × FieldType)) (rest : va_W) (sz : Nat) (τ : Sg)  (x : Int32) : Met l yX0_countTasks wsX0_countTasks ({ frames := 0, cells := 0, slots := 0, locals := 0 }) (va_Pc [.ref (ad 101), .int x] (inW D (tyB cA ++ tr) (wB cA ad τ ++ rest) sz)) (va_Qi (fun (r : Int32) (_ : Unit) => r = nI (m_countTasks τ x)) (fun _ : Unit => outW D (tyB cA ++ tr) (va_A (wB cA ad τ ++ rest) sz) (wB cA ad τ ++ rest)) (va_A (wB cA ad τ ++ rest) sz)) 0 0 (va_A (wB cA ad τ ++ rest) sz) := by
  refine Met.ofW (cc := cX0_countTasks) (maxL := 7) (ret := (some .int)) (by decide) rfl ?_
  intro p e s m args below meth c s₁ B hml hv
  obtain ⟨rfl, hsz, hP, hK, hD0⟩ := hv
  have hx := B.exec
  have hb := B.bytes
  have hr := B.returns
  have hts := atoms_spec (ws := wsX0_countTasks) B.pre
  have hown : s.vm.findClass RX0 = some m.cls := findClass_of_methodNamed B.named
  have hlocks := B.notSynchronized
  subst hsz
  have hD := hD0.self (sz := s.heap.size)
  clear hD0
  generalize hAe : va_A (wB cA ad τ ++ rest) s.heap.size = A at hD ⊢
  have hA : ∀ q : Nat, s.heap.size ≤ q → A q := fun q h => by rw [← hAe]; exact Or.inr h
  clear hAe
  have hS : va_S A s.heap s.heap [] := va_S.rf
  have hP : va_P D vwCl (wB cA ad τ ++ rest) s.heap := hP
  have hl := lv_entry ([.ref (ad 101), .int x]) (n := 7) (Nat.le_of_ble_eq_true rfl)
  rw [lg_entry_eq]
  generalize (lg_sl ([.ref (ad 101), .int x]) ++ List.replicate (7 - (lg_sl ([.ref (ad 101), .int x])).length) Slot.unset).toArray = ls at hl ⊢
  have hl : lv_has ls 7 [(0, .ref (ad 101)), (1, .int x)] := hl
  have nX0 : ∀ w ∈ u_ws RX0 TX0 2, w ∈ wsX0_countTasks := by decide +kernel
  have nX6 : ∀ w ∈ u_ws RX6 TX6 12, w ∈ wsX0_countTasks := by decide +kernel
  have nX7 : ∀ w ∈ u_ws RX7 TX7 17, w ∈ wsX0_countTasks := by decide +kernel
  have k15 := hts (.fieldLink RX0 15 "ScopeRow$Answers" "state" "LScopeRow$State;") (by decide +kernel)
  have k148 := hts (.fieldLink RX0 148 "ScopeRow$State" "tasks" "[LScopeRow$Task;") (by decide +kernel)
  have k31 := hts (.fieldLink RX0 31 "ScopeRow$Task" "state" "I") (by decide +kernel)
  refine lv_iconst (v := 0) hx hb dX0_countTasks_0 (by decide) ?_
  refine lv_istore_n (lv' := [(2, .int 0), (0, .ref (ad 101)), (1, .int x)]) hx hb dX0_countTasks_1 rfl hl (by decide) rfl (fun ls hl => ?_)
  refine lv_aload_n hx hb dX0_countTasks_2 rfl (lv_at hl 1 rfl) ?_
  refine va_get (D := D) (C := RX0) (T := TX0) (N := 2) (ci := 0) (v := .ref (ad 0)) hx hb hts nX0 hown hK hP 101 w_an rfl 1 (by decide) k15 (fun _ h9 => h9) rfl dX0_countTasks_3 ?_
  refine va_get (D := D) (C := RX6) (T := TX6) (N := 12) (ci := 6) (v := .ref (ad 1)) hx hb hts nX6 hown hK hP 0 w_st rfl 0 (by decide) k148 (fun _ h9 => h9) rfl dX0_countTasks_6 ?_
  refine lv_astore_n (lv' := [(3, .ref (ad 1)), (2, .int 0), (0, .ref (ad 101)), (1, .int x)]) hx hb dX0_countTasks_9 rfl hl (by decide) rfl (fun ls hl => ?_)
  refine lv_aload_n hx hb dX0_countTasks_10 rfl (lv_at hl 0 rfl) ?_
  refine va_alen (v := 24) hx hb hK hP 1 1 w_a1 rfl rfl dX0_countTasks_11 ?_
  refine lv_istore (lv' := [(4, .int 24), (3, .ref (ad 1)), (2, .int 0), (0, .ref (ad 101)), (1, .int x)]) hx hb dX0_countTasks_12 hl (by decide) rfl (fun ls hl => ?_)
  refine lv_iconst (v := 0) hx hb dX0_countTasks_14 (by decide) ?_
  refine lv_istore (lv' := [(5, .int 0), (4, .int 24), (3, .ref (ad 1)), (2, .int 0), (0, .ref (ad 101)), (1, .int x)]) hx hb dX0_countTasks_15 hl (by decide) rfl (fun ls hl => ?_)
  refine W_meas (I := fun (n : Nat) (H : Heap) (locs : List Loc) (ls : Array Slot) => ∃ (j : Nat) (c0 : Nat), ((n + j = 24) ∧ (m_cnt (m_isIn τ x) n j c0 = m_countTasks τ x)) ∧ va_P D vwCl (wB cA ad τ ++ rest) H ∧ va_D A (wB cA ad τ ++ rest) ∧ va_S A s.heap H locs ∧ lv_has ls 7 [(0, .ref (ad 101)), (1, .int x), (3, .ref (ad 1)), (4, .int 24), (2, .int (nI c0)), (5, .int (nI j))]) 24 ⟨0, 0, ⟨by omega, rfl⟩, hP, hD, hS, lv_sub hl [4, 5, 2, 1, 3, 0] rfl⟩ ?_
  clear hP hD hS hl
  intro n ih H locs ls hI
  obtain ⟨j, c0, ⟨hn, hf⟩, hP, hD, hS, hl⟩ := hI
  refine lv_iload hx hb dX0_countTasks_17 (lv_at hl 5 rfl) ?_
  refine lv_iload hx hb dX0_countTasks_19 (lv_at hl 3 rfl) ?_
  refine lv_icmp_ge (tgt := 48) hx hb dX0_countTasks_21 (by decide) (fun c_21_1 => ?_) (fun c_21_1 => ?_)
  -- 21 jumps
  · skip
    obtain rfl : n = 0 := by have := ge_c c_21_1 (by omega); omega
    refine lv_iload_n hx hb dX0_countTasks_48 rfl (lv_at hl 4 rfl) ?_
    exact x_iret hx hb hr hlocks hK () hP hD hS dX0_countTasks_49 (by rw [← hf]; simp [m_cnt])
  -- 21 goes on
  · skip
    have hj : j < 24 := lt_c c_21_1 (by omega)
    obtain ⟨n, rfl⟩ : ∃ k, n = k + 1 := ⟨n - 1, by omega⟩
    refine lv_aload_n hx hb dX0_countTasks_24 rfl (lv_at hl 2 rfl) ?_
    refine lv_iload hx hb dX0_countTasks_25 (lv_at hl 5 rfl) ?_
    refine l_a1 hx hb hK hP (j := j) (nI_clamp (by omega)) (vp_in_nI hj (by omega)) dX0_countTasks_27 ?_
    refine lv_astore (lv' := [(6, .ref (ad (j + 6))), (0, .ref (ad 101)), (1, .int x), (3, .ref (ad 1)), (4, .int 24), (2, .int (nI c0)), (5, .int (nI j))]) hx hb dX0_countTasks_28 hl (by decide) rfl (fun ls hl => ?_)
    refine lv_aload hx hb dX0_countTasks_30 (lv_at hl 0 rfl) ?_
    refine va_get (D := D) (C := RX7) (T := TX7) (N := 17) (ci := 7) (v := .int (τ (j + 6) 3)) hx hb hts nX7 hown hK hP (j + 6) (w_tk hj) rfl 3 (by decide) k31 (fun _ h9 => h9) rfl dX0_countTasks_32 ?_
    refine lv_iload_n hx hb dX0_countTasks_35 rfl (lv_at hl 2 rfl) ?_
    refine lv_icmp_ne (tgt := 42) hx hb dX0_countTasks_36 (by decide) (fun c_36_2 => ?_) (fun c_36_2 => ?_)
    -- 36 jumps
    · skip
      refine lv_iinc (v := (nI (j + 1))) (lv' := [(5, .int (nI (j + 1))), (6, .ref (ad (j + 6))), (0, .ref (ad 101)), (1, .int x), (3, .ref (ad 1)), (4, .int 24), (2, .int (nI c0))]) hx hb dX0_countTasks_42 hl (k := 6) rfl (show nI j + 1 = nI (j + 1) from nI_1 j) (by decide) rfl (fun ls hl => ?_)
      refine lv_goto (tgt := 17) hx hb dX0_countTasks_45 (by decide) ?_
      exact ih n (Nat.lt_succ_self n) H locs ls ⟨(j + 1), c0, ⟨by omega, by rw [← hf]; simp [m_cnt, m_isIn, c_21_1, c_36_2]⟩, hP, hD, hS, lv_sub hl [2, 3, 4, 5, 6, 0] rfl⟩
    -- 36 goes on
    · skip
      refine lv_iinc (v := (nI (c0 + 1))) (lv' := [(2, .int (nI (c0 + 1))), (6, .ref (ad (j + 6))), (0, .ref (ad 101)), (1, .int x), (3, .ref (ad 1)), (4, .int 24), (5, .int (nI j))]) hx hb dX0_countTasks_39 hl (k := 5) rfl (show nI c0 + 1 = nI (c0 + 1) from nI_1 c0) (by decide) rfl (fun ls hl => ?_)
      refine lv_iinc (v := (nI (j + 1))) (lv' := [(5, .int (nI (j + 1))), (2, .int (nI (c0 + 1))), (6, .ref (ad (j + 6))), (0, .ref (ad 101)), (1, .int x), (3, .ref (ad 1)), (4, .int 24)]) hx hb dX0_countTasks_42 hl (k := 6) rfl (show nI j + 1 = nI (j + 1) from nI_1 j) (by decide) rfl (fun ls hl => ?_)
      refine lv_goto (tgt := 17) hx hb dX0_countTasks_45 (by decide) ?_
      exact ih n (Nat.lt_succ_self n) H locs ls ⟨(j + 1), (c0 + 1), ⟨by omega, by rw [← hf]; simp [m_cnt, m_isIn, c_21_1, eq_true c_36_2]⟩, hP, hD, hS, lv_sub hl [3, 4, 5, 6, 1, 0] rfl⟩

set_option maxHeartbeats 4000000 in
set_option maxRecDepth 100000 in
theorem c_X0_countOver (l : Launch) (D : va_G) (cA : Nat → ClassId) (ad : Nat → Nat) (tr : List (ClassId × FieldType)) (rest : va_W) (sz : Nat) (τ : Sg)  : Met l yX0_countOver wsX0_countOver ({ frames := 1, cells := 0, slots := 0, locals := 20 }) (va_Pc [.ref (ad 101)] (inW D (tyB cA ++ tr) (wB cA ad τ ++ rest) sz)) (va_Qi (fun (r : Int32) (_ : Unit) => r = nI (m_countOver τ)) (fun _ : Unit => outW D (tyB cA ++ tr) (va_A (wB cA ad τ ++ rest) sz) (wB cA ad τ ++ rest)) (va_A (wB cA ad τ ++ rest) sz)) 0 0 (va_A (wB cA ad τ ++ rest) sz) := by
  refine Met.ofW (cc := cX0_countOver) (maxL := 6) (ret := (some .int)) (by decide) rfl ?_
  intro p e s m args below meth c s₁ B hml hv
  obtain ⟨rfl, hsz, hP, hK, hD0⟩ := hv
  have hx := B.exec
  have hb := B.bytes
  have hr := B.returns
  have hts := atoms_spec (ws := wsX0_countOver) B.pre
  have hown : s.vm.findClass RX0 = some m.cls := findClass_of_methodNamed B.named
  have hlocks := B.notSynchronized
  subst hsz
  have hD := hD0.self (sz := s.heap.size)
  clear hD0
  generalize hAe : va_A (wB cA ad τ ++ rest) s.heap.size = A at hD ⊢
  have hA : ∀ q : Nat, s.heap.size ≤ q → A q := fun q h => by rw [← hAe]; exact Or.inr h
  clear hAe
  have hS : va_S A s.heap s.heap [] := va_S.rf
  have hP : va_P D vwCl (wB cA ad τ ++ rest) s.heap := hP
  have hl := lv_entry ([.ref (ad 101)]) (n := 6) (Nat.le_of_ble_eq_true rfl)
  rw [lg_entry_eq]
  generalize (lg_sl ([.ref (ad 101)]) ++ List.replicate (6 - (lg_sl ([.ref (ad 101)])).length) Slot.unset).toArray = ls at hl ⊢
  have hl : lv_has ls 6 [(0, .ref (ad 101))] := hl
  have nX0 : ∀ w ∈ u_ws RX0 TX0 2, w ∈ wsX0_countOver := by decide +kernel
  have nX6 : ∀ w ∈ u_ws RX6 TX6 12, w ∈ wsX0_countOver := by decide +kernel
  have k15 := hts (.fieldLink RX0 15 "ScopeRow$Answers" "state" "LScopeRow$State;") (by decide +kernel)
  have k148 := hts (.fieldLink RX0 148 "ScopeRow$State" "tasks" "[LScopeRow$Task;") (by decide +kernel)
  refine lv_iconst (v := 0) hx hb dX0_countOver_0 (by decide) ?_
  refine lv_istore_n (lv' := [(1, .int 0), (0, .ref (ad 101))]) hx hb dX0_countOver_1 rfl hl (by decide) rfl (fun ls hl => ?_)
  refine lv_aload_n hx hb dX0_countOver_2 rfl (lv_at hl 1 rfl) ?_
  refine va_get (D := D) (C := RX0) (T := TX0) (N := 2) (ci := 0) (v := .ref (ad 0)) hx hb hts nX0 hown hK hP 101 w_an rfl 1 (by decide) k15 (fun _ h9 => h9) rfl dX0_countOver_3 ?_
  refine va_get (D := D) (C := RX6) (T := TX6) (N := 12) (ci := 6) (v := .ref (ad 1)) hx hb hts nX6 hown hK hP 0 w_st rfl 0 (by decide) k148 (fun _ h9 => h9) rfl dX0_countOver_6 ?_
  refine lv_astore_n (lv' := [(2, .ref (ad 1)), (1, .int 0), (0, .ref (ad 101))]) hx hb dX0_countOver_9 rfl hl (by decide) rfl (fun ls hl => ?_)
  refine lv_aload_n hx hb dX0_countOver_10 rfl (lv_at hl 0 rfl) ?_
  refine va_alen (v := 24) hx hb hK hP 1 1 w_a1 rfl rfl dX0_countOver_11 ?_
  refine lv_istore_n (lv' := [(3, .int 24), (2, .ref (ad 1)), (1, .int 0), (0, .ref (ad 101))]) hx hb dX0_countOver_12 rfl hl (by decide) rfl (fun ls hl => ?_)
  refine lv_iconst (v := 0) hx hb dX0_countOver_13 (by decide) ?_
  refine lv_istore (lv' := [(4, .int 0), (3, .int 24), (2, .ref (ad 1)), (1, .int 0), (0, .ref (ad 101))]) hx hb dX0_countOver_14 hl (by decide) rfl (fun ls hl => ?_)
  refine W_meas (I := fun (n : Nat) (H : Heap) (locs : List Loc) (ls : Array Slot) => ∃ (j : Nat) (c0 : Nat), ((n + j = 24) ∧ (m_cnt (m_isOver τ) n j c0 = m_countOver τ)) ∧ va_P D vwCl (wB cA ad τ ++ rest) H ∧ va_D A (wB cA ad τ ++ rest) ∧ va_S A s.heap H locs ∧ lv_has ls 6 [(0, .ref (ad 101)), (2, .ref (ad 1)), (3, .int 24), (1, .int (nI c0)), (4, .int (nI j))]) 24 ⟨0, 0, ⟨by omega, rfl⟩, hP, hD, hS, lv_sub hl [4, 2, 1, 3, 0] rfl⟩ ?_
  clear hP hD hS hl
  intro n ih H locs ls hI
  obtain ⟨j, c0, ⟨hn, hf⟩, hP, hD, hS, hl⟩ := hI
  refine lv_iload hx hb dX0_countOver_16 (lv_at hl 4 rfl) ?_
  refine lv_iload_n hx hb dX0_countOver_18 rfl (lv_at hl 2 rfl) ?_
  refine lv_icmp_ge (tgt := 45) hx hb dX0_countOver_19 (by decide) (fun c_19_1 => ?_) (fun c_19_1 => ?_)
  -- 19 jumps
  · skip
    obtain rfl : n = 0 := by have := ge_c c_19_1 (by omega); omega
    refine lv_iload_n hx hb dX0_countOver_45 rfl (lv_at hl 3 rfl) ?_
    exact x_iret hx hb hr hlocks hK () hP hD hS dX0_countOver_46 (by rw [← hf]; simp [m_cnt])
  -- 19 goes on
  · skip
    have hj : j < 24 := lt_c c_19_1 (by omega)
    obtain ⟨n, rfl⟩ : ∃ k, n = k + 1 := ⟨n - 1, by omega⟩
    refine lv_aload_n hx hb dX0_countOver_22 rfl (lv_at hl 1 rfl) ?_
    refine lv_iload hx hb dX0_countOver_23 (lv_at hl 4 rfl) ?_
    refine l_a1 hx hb hK hP (j := j) (nI_clamp (by omega)) (vp_in_nI hj (by omega)) dX0_countOver_25 ?_
    refine lv_astore (lv' := [(5, .ref (ad (j + 6))), (0, .ref (ad 101)), (2, .ref (ad 1)), (3, .int 24), (1, .int (nI c0)), (4, .int (nI j))]) hx hb dX0_countOver_26 hl (by decide) rfl (fun ls hl => ?_)
    refine lv_aload hx hb dX0_countOver_28 (lv_at hl 0 rfl) ?_
    refine x_Vi (As := []) (rest0 := []) ⟨hx, hb, hml, hown, hts⟩ (c_X7_isOver l D cA ad tr rest H.size τ j hj) (cwV 0 hts gX0_countOver_X7_isOver rfl rfl rfl (by decide +kernel) ⟨Nat.le_of_ble_eq_true rfl, Nat.le_of_ble_eq_true rfl⟩) hK hP hD hS hA (j + 6) (w_tk hj) rfl hl.1 rfl rfl (Nat.le_of_ble_eq_true rfl) ⟨Nat.zero_le _, Nat.zero_le _⟩ dX0_countOver_30 (fun r2 _ H locs hw hP hD hS => ?_)
    have er2 := hw
    refine lv_if_eq (tgt := 39) hx hb dX0_countOver_33 (by decide) (fun c_33_3 => ?_) (fun c_33_3 => ?_)
    -- 33 jumps
    · skip
      have dc_33_3 := bI_f er2 c_33_3
      refine lv_iinc (v := (nI (j + 1))) (lv' := [(4, .int (nI (j + 1))), (5, .ref (ad (j + 6))), (0, .ref (ad 101)), (2, .ref (ad 1)), (3, .int 24), (1, .int (nI c0))]) hx hb dX0_countOver_39 hl (k := 5) rfl (show nI j + 1 = nI (j + 1) from nI_1 j) (by decide) rfl (fun ls hl => ?_)
      refine lv_goto (tgt := 16) hx hb dX0_countOver_42 (by decide) ?_
      exact ih n (Nat.lt_succ_self n) H locs ls ⟨(j + 1), c0, ⟨by omega, by rw [← hf]; simp [m_cnt, c_19_1, dc_33_3]⟩, hP, hD, hS, lv_sub hl [2, 3, 4, 5, 0] rfl⟩
    -- 33 goes on
    · skip
      have dc_33_3 := bI_t er2 c_33_3
      refine lv_iinc (v := (nI (c0 + 1))) (lv' := [(1, .int (nI (c0 + 1))), (5, .ref (ad (j + 6))), (0, .ref (ad 101)), (2, .ref (ad 1)), (3, .int 24), (4, .int (nI j))]) hx hb dX0_countOver_36 hl (k := 4) rfl (show nI c0 + 1 = nI (c0 + 1) from nI_1 c0) (by decide) rfl (fun ls hl => ?_)
      refine lv_iinc (v := (nI (j + 1))) (lv' := [(4, .int (nI (j + 1))), (1, .int (nI (c0 + 1))), (5, .ref (ad (j + 6))), (0, .ref (ad 101)), (2, .ref (ad 1)), (3, .int 24)]) hx hb dX0_countOver_39 hl (k := 5) rfl (show nI j + 1 = nI (j + 1) from nI_1 j) (by decide) rfl (fun ls hl => ?_)
      refine lv_goto (tgt := 16) hx hb dX0_countOver_42 (by decide) ?_
      exact ih n (Nat.lt_succ_self n) H locs ls ⟨(j + 1), (c0 + 1), ⟨by omega, by rw [← hf]; simp [m_cnt, c_19_1, dc_33_3]⟩, hP, hD, hS, lv_sub hl [3, 4, 5, 1, 0] rfl⟩

set_option maxHeartbeats 4000000 in
set_option maxRecDepth 100000 in
theorem c_X0_countLiveScopes (l : Launch) (D : va_G) (cA : Nat → ClassId) (ad : Nat → Nat) (tr : List (ClassId × FieldType)) (rest : va_W) (sz : Nat) (τ : Sg)  : Met l yX0_countLiveScopes wsX0_countLiveScopes ({ frames := 1, cells := 0, slots := 0, locals := 20 }) (va_Pc [.ref (ad 101)] (inW D (tyB cA ++ tr) (wB cA ad τ ++ rest) sz)) (va_Qi (fun (r : Int32) (_ : Unit) => r = nI (m_countLive τ)) (fun _ : Unit => outW D (tyB cA ++ tr) (va_A (wB cA ad τ ++ rest) sz) (wB cA ad τ ++ rest)) (va_A (wB cA ad τ ++ rest) sz)) 0 0 (va_A (wB cA ad τ ++ rest) sz) := by
  refine Met.ofW (cc := cX0_countLiveScopes) (maxL := 6) (ret := (some .int)) (by decide) rfl ?_
  intro p e s m args below meth c s₁ B hml hv
  obtain ⟨rfl, hsz, hP, hK, hD0⟩ := hv
  have hx := B.exec
  have hb := B.bytes
  have hr := B.returns
  have hts := atoms_spec (ws := wsX0_countLiveScopes) B.pre
  have hown : s.vm.findClass RX0 = some m.cls := findClass_of_methodNamed B.named
  have hlocks := B.notSynchronized
  subst hsz
  have hD := hD0.self (sz := s.heap.size)
  clear hD0
  generalize hAe : va_A (wB cA ad τ ++ rest) s.heap.size = A at hD ⊢
  have hA : ∀ q : Nat, s.heap.size ≤ q → A q := fun q h => by rw [← hAe]; exact Or.inr h
  clear hAe
  have hS : va_S A s.heap s.heap [] := va_S.rf
  have hP : va_P D vwCl (wB cA ad τ ++ rest) s.heap := hP
  have hl := lv_entry ([.ref (ad 101)]) (n := 6) (Nat.le_of_ble_eq_true rfl)
  rw [lg_entry_eq]
  generalize (lg_sl ([.ref (ad 101)]) ++ List.replicate (6 - (lg_sl ([.ref (ad 101)])).length) Slot.unset).toArray = ls at hl ⊢
  have hl : lv_has ls 6 [(0, .ref (ad 101))] := hl
  have nX0 : ∀ w ∈ u_ws RX0 TX0 2, w ∈ wsX0_countLiveScopes := by decide +kernel
  have nX6 : ∀ w ∈ u_ws RX6 TX6 12, w ∈ wsX0_countLiveScopes := by decide +kernel
  have k15 := hts (.fieldLink RX0 15 "ScopeRow$Answers" "state" "LScopeRow$State;") (by decide +kernel)
  have k185 := hts (.fieldLink RX0 185 "ScopeRow$State" "scopes" "[LScopeRow$Scope;") (by decide +kernel)
  refine lv_iconst (v := 0) hx hb dX0_countLiveScopes_0 (by decide) ?_
  refine lv_istore_n (lv' := [(1, .int 0), (0, .ref (ad 101))]) hx hb dX0_countLiveScopes_1 rfl hl (by decide) rfl (fun ls hl => ?_)
  refine lv_aload_n hx hb dX0_countLiveScopes_2 rfl (lv_at hl 1 rfl) ?_
  refine va_get (D := D) (C := RX0) (T := TX0) (N := 2) (ci := 0) (v := .ref (ad 0)) hx hb hts nX0 hown hK hP 101 w_an rfl 1 (by decide) k15 (fun _ h9 => h9) rfl dX0_countLiveScopes_3 ?_
  refine va_get (D := D) (C := RX6) (T := TX6) (N := 12) (ci := 6) (v := .ref (ad 2)) hx hb hts nX6 hown hK hP 0 w_st rfl 2 (by decide) k185 (fun _ h9 => h9) rfl dX0_countLiveScopes_6 ?_
  refine lv_astore_n (lv' := [(2, .ref (ad 2)), (1, .int 0), (0, .ref (ad 101))]) hx hb dX0_countLiveScopes_9 rfl hl (by decide) rfl (fun ls hl => ?_)
  refine lv_aload_n hx hb dX0_countLiveScopes_10 rfl (lv_at hl 0 rfl) ?_
  refine va_alen (v := 40) hx hb hK hP 2 2 w_a2 rfl rfl dX0_countLiveScopes_11 ?_
  refine lv_istore_n (lv' := [(3, .int 40), (2, .ref (ad 2)), (1, .int 0), (0, .ref (ad 101))]) hx hb dX0_countLiveScopes_12 rfl hl (by decide) rfl (fun ls hl => ?_)
  refine lv_iconst (v := 0) hx hb dX0_countLiveScopes_13 (by decide) ?_
  refine lv_istore (lv' := [(4, .int 0), (3, .int 40), (2, .ref (ad 2)), (1, .int 0), (0, .ref (ad 101))]) hx hb dX0_countLiveScopes_14 hl (by decide) rfl (fun ls hl => ?_)
  refine W_meas (I := fun (n : Nat) (H : Heap) (locs : List Loc) (ls : Array Slot) => ∃ (j : Nat) (c0 : Nat), ((n + j = 40) ∧ (m_cnt (m_isLive τ) n j c0 = m_countLive τ)) ∧ va_P D vwCl (wB cA ad τ ++ rest) H ∧ va_D A (wB cA ad τ ++ rest) ∧ va_S A s.heap H locs ∧ lv_has ls 6 [(0, .ref (ad 101)), (2, .ref (ad 2)), (3, .int 40), (1, .int (nI c0)), (4, .int (nI j))]) 40 ⟨0, 0, ⟨by omega, rfl⟩, hP, hD, hS, lv_sub hl [4, 2, 1, 3, 0] rfl⟩ ?_
  clear hP hD hS hl
  intro n ih H locs ls hI
  obtain ⟨j, c0, ⟨hn, hf⟩, hP, hD, hS, hl⟩ := hI
  refine lv_iload hx hb dX0_countLiveScopes_16 (lv_at hl 4 rfl) ?_
  refine lv_iload_n hx hb dX0_countLiveScopes_18 rfl (lv_at hl 2 rfl) ?_
  refine lv_icmp_ge (tgt := 45) hx hb dX0_countLiveScopes_19 (by decide) (fun c_19_1 => ?_) (fun c_19_1 => ?_)
  -- 19 jumps
  · skip
    obtain rfl : n = 0 := by have := ge_c40 c_19_1 (by omega); omega
    refine lv_iload_n hx hb dX0_countLiveScopes_45 rfl (lv_at hl 3 rfl) ?_
    exact x_iret hx hb hr hlocks hK () hP hD hS dX0_countLiveScopes_46 (by rw [← hf]; simp [m_cnt])
  -- 19 goes on
  · skip
    have hj : j < 40 := lt_c40 c_19_1 (by omega)
    obtain ⟨n, rfl⟩ : ∃ k, n = k + 1 := ⟨n - 1, by omega⟩
    refine lv_aload_n hx hb dX0_countLiveScopes_22 rfl (lv_at hl 1 rfl) ?_
    refine lv_iload hx hb dX0_countLiveScopes_23 (lv_at hl 4 rfl) ?_
    refine l_a2 hx hb hK hP (j := j) (nI_clamp (by omega)) (vp_in_nI hj (by omega)) dX0_countLiveScopes_25 ?_
    refine lv_astore (lv' := [(5, .ref (ad (j + 54))), (0, .ref (ad 101)), (2, .ref (ad 2)), (3, .int 40), (1, .int (nI c0)), (4, .int (nI j))]) hx hb dX0_countLiveScopes_26 hl (by decide) rfl (fun ls hl => ?_)
    refine lv_aload hx hb dX0_countLiveScopes_28 (lv_at hl 0 rfl) ?_
    refine x_Vi (As := []) (rest0 := []) ⟨hx, hb, hml, hown, hts⟩ (c_X5_isLive l D cA ad tr rest H.size τ j hj) (cwV 0 hts gX0_countLiveScopes_X5_isLive rfl rfl rfl (by decide +kernel) ⟨Nat.le_of_ble_eq_true rfl, Nat.le_of_ble_eq_true rfl⟩) hK hP hD hS hA (j + 54) (w_sc hj) rfl hl.1 rfl rfl (Nat.le_of_ble_eq_true rfl) ⟨Nat.zero_le _, Nat.zero_le _⟩ dX0_countLiveScopes_30 (fun r2 _ H locs hw hP hD hS => ?_)
    have er2 := hw
    refine lv_if_eq (tgt := 39) hx hb dX0_countLiveScopes_33 (by decide) (fun c_33_3 => ?_) (fun c_33_3 => ?_)
    -- 33 jumps
    · skip
      have dc_33_3 := bI_f er2 c_33_3
      refine lv_iinc (v := (nI (j + 1))) (lv' := [(4, .int (nI (j + 1))), (5, .ref (ad (j + 54))), (0, .ref (ad 101)), (2, .ref (ad 2)), (3, .int 40), (1, .int (nI c0))]) hx hb dX0_countLiveScopes_39 hl (k := 5) rfl (show nI j + 1 = nI (j + 1) from nI_1 j) (by decide) rfl (fun ls hl => ?_)
      refine lv_goto (tgt := 16) hx hb dX0_countLiveScopes_42 (by decide) ?_
      exact ih n (Nat.lt_succ_self n) H locs ls ⟨(j + 1), c0, ⟨by omega, by rw [← hf]; simp [m_cnt, c_19_1, dc_33_3]⟩, hP, hD, hS, lv_sub hl [2, 3, 4, 5, 0] rfl⟩
    -- 33 goes on
    · skip
      have dc_33_3 := bI_t er2 c_33_3
      refine lv_iinc (v := (nI (c0 + 1))) (lv' := [(1, .int (nI (c0 + 1))), (5, .ref (ad (j + 54))), (0, .ref (ad 101)), (2, .ref (ad 2)), (3, .int 40), (4, .int (nI j))]) hx hb dX0_countLiveScopes_36 hl (k := 4) rfl (show nI c0 + 1 = nI (c0 + 1) from nI_1 c0) (by decide) rfl (fun ls hl => ?_)
      refine lv_iinc (v := (nI (j + 1))) (lv' := [(4, .int (nI (j + 1))), (1, .int (nI (c0 + 1))), (5, .ref (ad (j + 54))), (0, .ref (ad 101)), (2, .ref (ad 2)), (3, .int 40)]) hx hb dX0_countLiveScopes_39 hl (k := 5) rfl (show nI j + 1 = nI (j + 1) from nI_1 j) (by decide) rfl (fun ls hl => ?_)
      refine lv_goto (tgt := 16) hx hb dX0_countLiveScopes_42 (by decide) ?_
      exact ih n (Nat.lt_succ_self n) H locs ls ⟨(j + 1), (c0 + 1), ⟨by omega, by rw [← hf]; simp [m_cnt, c_19_1, dc_33_3]⟩, hP, hD, hS, lv_sub hl [3, 4, 5, 1, 0] rfl⟩

set_option maxHeartbeats 4000000 in
set_option maxRecDepth 100000 in
theorem c_X0_countCancelledScopes (l : Launch) (D : va_G) (cA : Nat → ClassId) (ad : Nat → Nat) (tr : List (ClassId × FieldType)) (rest : va_W) (sz : Nat) (τ : Sg)  : Met l yX0_countCancelledScopes wsX0_countCancelledScopes ({ frames := 0, cells := 0, slots := 0, locals := 0 }) (va_Pc [.ref (ad 101)] (inW D (tyB cA ++ tr) (wB cA ad τ ++ rest) sz)) (va_Qi (fun (r : Int32) (_ : Unit) => r = nI (m_countCan τ)) (fun _ : Unit => outW D (tyB cA ++ tr) (va_A (wB cA ad τ ++ rest) sz) (wB cA ad τ ++ rest)) (va_A (wB cA ad τ ++ rest) sz)) 0 0 (va_A (wB cA ad τ ++ rest) sz) := by
  refine Met.ofW (cc := cX0_countCancelledScopes) (maxL := 6) (ret := (some .int)) (by decide) rfl ?_
  intro p e s m args below meth c s₁ B hml hv
  obtain ⟨rfl, hsz, hP, hK, hD0⟩ := hv
  have hx := B.exec
  have hb := B.bytes
  have hr := B.returns
  have hts := atoms_spec (ws := wsX0_countCancelledScopes) B.pre
  have hown : s.vm.findClass RX0 = some m.cls := findClass_of_methodNamed B.named
  have hlocks := B.notSynchronized
  subst hsz
  have hD := hD0.self (sz := s.heap.size)
  clear hD0
  generalize hAe : va_A (wB cA ad τ ++ rest) s.heap.size = A at hD ⊢
  have hA : ∀ q : Nat, s.heap.size ≤ q → A q := fun q h => by rw [← hAe]; exact Or.inr h
  clear hAe
  have hS : va_S A s.heap s.heap [] := va_S.rf
  have hP : va_P D vwCl (wB cA ad τ ++ rest) s.heap := hP
  have hl := lv_entry ([.ref (ad 101)]) (n := 6) (Nat.le_of_ble_eq_true rfl)
  rw [lg_entry_eq]
  generalize (lg_sl ([.ref (ad 101)]) ++ List.replicate (6 - (lg_sl ([.ref (ad 101)])).length) Slot.unset).toArray = ls at hl ⊢
  have hl : lv_has ls 6 [(0, .ref (ad 101))] := hl
  have nX0 : ∀ w ∈ u_ws RX0 TX0 2, w ∈ wsX0_countCancelledScopes := by decide +kernel
  have nX5 : ∀ w ∈ u_ws RX5 TX5 14, w ∈ wsX0_countCancelledScopes := by decide +kernel
  have nX6 : ∀ w ∈ u_ws RX6 TX6 12, w ∈ wsX0_countCancelledScopes := by decide +kernel
  have k15 := hts (.fieldLink RX0 15 "ScopeRow$Answers" "state" "LScopeRow$State;") (by decide +kernel)
  have k185 := hts (.fieldLink RX0 185 "ScopeRow$State" "scopes" "[LScopeRow$Scope;") (by decide +kernel)
  have k83 := hts (.fieldLink RX0 83 "ScopeRow$Scope" "state" "I") (by decide +kernel)
  have k84 := hts (.fieldLink RX0 84 "ScopeRow$Scope" "cancelled" "Z") (by decide +kernel)
  refine lv_iconst (v := 0) hx hb dX0_countCancelledScopes_0 (by decide) ?_
  refine lv_istore_n (lv' := [(1, .int 0), (0, .ref (ad 101))]) hx hb dX0_countCancelledScopes_1 rfl hl (by decide) rfl (fun ls hl => ?_)
  refine lv_aload_n hx hb dX0_countCancelledScopes_2 rfl (lv_at hl 1 rfl) ?_
  refine va_get (D := D) (C := RX0) (T := TX0) (N := 2) (ci := 0) (v := .ref (ad 0)) hx hb hts nX0 hown hK hP 101 w_an rfl 1 (by decide) k15 (fun _ h9 => h9) rfl dX0_countCancelledScopes_3 ?_
  refine va_get (D := D) (C := RX6) (T := TX6) (N := 12) (ci := 6) (v := .ref (ad 2)) hx hb hts nX6 hown hK hP 0 w_st rfl 2 (by decide) k185 (fun _ h9 => h9) rfl dX0_countCancelledScopes_6 ?_
  refine lv_astore_n (lv' := [(2, .ref (ad 2)), (1, .int 0), (0, .ref (ad 101))]) hx hb dX0_countCancelledScopes_9 rfl hl (by decide) rfl (fun ls hl => ?_)
  refine lv_aload_n hx hb dX0_countCancelledScopes_10 rfl (lv_at hl 0 rfl) ?_
  refine va_alen (v := 40) hx hb hK hP 2 2 w_a2 rfl rfl dX0_countCancelledScopes_11 ?_
  refine lv_istore_n (lv' := [(3, .int 40), (2, .ref (ad 2)), (1, .int 0), (0, .ref (ad 101))]) hx hb dX0_countCancelledScopes_12 rfl hl (by decide) rfl (fun ls hl => ?_)
  refine lv_iconst (v := 0) hx hb dX0_countCancelledScopes_13 (by decide) ?_
  refine lv_istore (lv' := [(4, .int 0), (3, .int 40), (2, .ref (ad 2)), (1, .int 0), (0, .ref (ad 101))]) hx hb dX0_countCancelledScopes_14 hl (by decide) rfl (fun ls hl => ?_)
  refine W_meas (I := fun (n : Nat) (H : Heap) (locs : List Loc) (ls : Array Slot) => ∃ (j : Nat) (c0 : Nat), ((n + j = 40) ∧ (m_cnt (m_isCan τ) n j c0 = m_countCan τ)) ∧ va_P D vwCl (wB cA ad τ ++ rest) H ∧ va_D A (wB cA ad τ ++ rest) ∧ va_S A s.heap H locs ∧ lv_has ls 6 [(0, .ref (ad 101)), (2, .ref (ad 2)), (3, .int 40), (1, .int (nI c0)), (4, .int (nI j))]) 40 ⟨0, 0, ⟨by omega, rfl⟩, hP, hD, hS, lv_sub hl [4, 2, 1, 3, 0] rfl⟩ ?_
  clear hP hD hS hl
  intro n ih H locs ls hI
  obtain ⟨j, c0, ⟨hn, hf⟩, hP, hD, hS, hl⟩ := hI
  refine lv_iload hx hb dX0_countCancelledScopes_16 (lv_at hl 4 rfl) ?_
  refine lv_iload_n hx hb dX0_countCancelledScopes_18 rfl (lv_at hl 2 rfl) ?_
  refine lv_icmp_ge (tgt := 54) hx hb dX0_countCancelledScopes_19 (by decide) (fun c_19_1 => ?_) (fun c_19_1 => ?_)
  -- 19 jumps
  · skip
    obtain rfl : n = 0 := by have := ge_c40 c_19_1 (by omega); omega
    refine lv_iload_n hx hb dX0_countCancelledScopes_54 rfl (lv_at hl 3 rfl) ?_
    exact x_iret hx hb hr hlocks hK () hP hD hS dX0_countCancelledScopes_55 (by rw [← hf]; simp [m_cnt])
  -- 19 goes on
  · skip
    have hj : j < 40 := lt_c40 c_19_1 (by omega)
    obtain ⟨n, rfl⟩ : ∃ k, n = k + 1 := ⟨n - 1, by omega⟩
    refine lv_aload_n hx hb dX0_countCancelledScopes_22 rfl (lv_at hl 1 rfl) ?_
    refine lv_iload hx hb dX0_countCancelledScopes_23 (lv_at hl 4 rfl) ?_
    refine l_a2 hx hb hK hP (j := j) (nI_clamp (by omega)) (vp_in_nI hj (by omega)) dX0_countCancelledScopes_25 ?_
    refine lv_astore (lv' := [(5, .ref (ad (j + 54))), (0, .ref (ad 101)), (2, .ref (ad 2)), (3, .int 40), (1, .int (nI c0)), (4, .int (nI j))]) hx hb dX0_countCancelledScopes_26 hl (by decide) rfl (fun ls hl => ?_)
    refine lv_aload hx hb dX0_countCancelledScopes_28 (lv_at hl 0 rfl) ?_
    refine va_get (D := D) (C := RX5) (T := TX5) (N := 14) (ci := 5) (v := .int (τ (j + 54) 1)) hx hb hts nX5 hown hK hP (j + 54) (w_sc hj) rfl 1 (by decide) k83 (fun _ h9 => h9) rfl dX0_countCancelledScopes_30 ?_
    refine lv_iconst (v := (-1)) hx hb dX0_countCancelledScopes_33 (by decide) ?_
    refine lv_icmp_eq (tgt := 48) hx hb dX0_countCancelledScopes_34 (by decide) (fun c_34_2 => ?_) (fun c_34_2 => ?_)
    -- 34 jumps
    · skip
      refine lv_iinc (v := (nI (j + 1))) (lv' := [(4, .int (nI (j + 1))), (5, .ref (ad (j + 54))), (0, .ref (ad 101)), (2, .ref (ad 2)), (3, .int 40), (1, .int (nI c0))]) hx hb dX0_countCancelledScopes_48 hl (k := 5) rfl (show nI j + 1 = nI (j + 1) from nI_1 j) (by decide) rfl (fun ls hl => ?_)
      refine lv_goto (tgt := 16) hx hb dX0_countCancelledScopes_51 (by decide) ?_
      exact ih n (Nat.lt_succ_self n) H locs ls ⟨(j + 1), c0, ⟨by omega, by rw [← hf]; simp [m_cnt, m_isCan, c_19_1, eq_true c_34_2]⟩, hP, hD, hS, lv_sub hl [2, 3, 4, 5, 0] rfl⟩
    -- 34 goes on
    · skip
      refine lv_aload hx hb dX0_countCancelledScopes_37 (lv_at hl 0 rfl) ?_
      refine va_get (D := D) (C := RX5) (T := TX5) (N := 14) (ci := 5) (v := .int (τ (j + 54) 5)) hx hb hts nX5 hown hK hP (j + 54) (w_sc hj) rfl 5 (by decide) k84 (fun _ h9 => h9) rfl dX0_countCancelledScopes_39 ?_
      refine lv_if_eq (tgt := 48) hx hb dX0_countCancelledScopes_42 (by decide) (fun c_42_3 => ?_) (fun c_42_3 => ?_)
      -- 42 jumps
      · skip
        refine lv_iinc (v := (nI (j + 1))) (lv' := [(4, .int (nI (j + 1))), (5, .ref (ad (j + 54))), (0, .ref (ad 101)), (2, .ref (ad 2)), (3, .int 40), (1, .int (nI c0))]) hx hb dX0_countCancelledScopes_48 hl (k := 5) rfl (show nI j + 1 = nI (j + 1) from nI_1 j) (by decide) rfl (fun ls hl => ?_)
        refine lv_goto (tgt := 16) hx hb dX0_countCancelledScopes_51 (by decide) ?_
        exact ih n (Nat.lt_succ_self n) H locs ls ⟨(j + 1), c0, ⟨by omega, by rw [← hf]; simp [m_cnt, m_isCan, c_19_1, c_34_2, eq_true c_42_3]⟩, hP, hD, hS, lv_sub hl [2, 3, 4, 5, 0] rfl⟩
      -- 42 goes on
      · skip
        refine lv_iinc (v := (nI (c0 + 1))) (lv' := [(1, .int (nI (c0 + 1))), (5, .ref (ad (j + 54))), (0, .ref (ad 101)), (2, .ref (ad 2)), (3, .int 40), (4, .int (nI j))]) hx hb dX0_countCancelledScopes_45 hl (k := 4) rfl (show nI c0 + 1 = nI (c0 + 1) from nI_1 c0) (by decide) rfl (fun ls hl => ?_)
        refine lv_iinc (v := (nI (j + 1))) (lv' := [(4, .int (nI (j + 1))), (1, .int (nI (c0 + 1))), (5, .ref (ad (j + 54))), (0, .ref (ad 101)), (2, .ref (ad 2)), (3, .int 40)]) hx hb dX0_countCancelledScopes_48 hl (k := 5) rfl (show nI j + 1 = nI (j + 1) from nI_1 j) (by decide) rfl (fun ls hl => ?_)
        refine lv_goto (tgt := 16) hx hb dX0_countCancelledScopes_51 (by decide) ?_
        exact ih n (Nat.lt_succ_self n) H locs ls ⟨(j + 1), (c0 + 1), ⟨by omega, by rw [← hf]; simp [m_cnt, m_isCan, c_19_1, c_34_2, c_42_3]⟩, hP, hD, hS, lv_sub hl [3, 4, 5, 1, 0] rfl⟩

set_option maxHeartbeats 4000000 in
set_option maxRecDepth 100000 in
theorem c_X0_countWaiting (l : Launch) (D : va_G) (cA : Nat → ClassId) (ad : Nat → Nat) (tr : List (ClassId × FieldType)) (rest : va_W) (sz : Nat) (τ : Sg)  (what target : Int32) : Met l yX0_countWaiting wsX0_countWaiting ({ frames := 2, cells := 0, slots := 0, locals := 44 }) (va_Pc [.ref (ad 101), .int what, .int target] (inW D (tyB cA ++ tr) (wB cA ad τ ++ rest) sz)) (va_Qi (fun (r : Int32) (_ : Unit) => r = nI (m_countWaiting τ what target)) (fun _ : Unit => outW D (tyB cA ++ tr) (va_A (wB cA ad τ ++ rest) sz) (wB cA ad τ ++ rest)) (va_A (wB cA ad τ ++ rest) sz)) 0 0 (va_A (wB cA ad τ ++ rest) sz) := by
  refine Met.ofW (cc := cX0_countWaiting) (maxL := 8) (ret := (some .int)) (by decide) rfl ?_
  intro p e s m args below meth c s₁ B hml hv
  obtain ⟨rfl, hsz, hP, hK, hD0⟩ := hv
  have hx := B.exec
  have hb := B.bytes
  have hr := B.returns
  have hts := atoms_spec (ws := wsX0_countWaiting) B.pre
  have hown : s.vm.findClass RX0 = some m.cls := findClass_of_methodNamed B.named
  have hlocks := B.notSynchronized
  subst hsz
  have hD := hD0.self (sz := s.heap.size)
  clear hD0
  generalize hAe : va_A (wB cA ad τ ++ rest) s.heap.size = A at hD ⊢
  have hA : ∀ q : Nat, s.heap.size ≤ q → A q := fun q h => by rw [← hAe]; exact Or.inr h
  clear hAe
  have hS : va_S A s.heap s.heap [] := va_S.rf
  have hP : va_P D vwCl (wB cA ad τ ++ rest) s.heap := hP
  have hl := lv_entry ([.ref (ad 101), .int what, .int target]) (n := 8) (Nat.le_of_ble_eq_true rfl)
  rw [lg_entry_eq]
  generalize (lg_sl ([.ref (ad 101), .int what, .int target]) ++ List.replicate (8 - (lg_sl ([.ref (ad 101), .int what, .int target])).length) Slot.unset).toArray = ls at hl ⊢
  have hl : lv_has ls 8 [(0, .ref (ad 101)), (1, .int what), (2, .int target)] := hl
  have nX0 : ∀ w ∈ u_ws RX0 TX0 2, w ∈ wsX0_countWaiting := by decide +kernel
  have nX6 : ∀ w ∈ u_ws RX6 TX6 12, w ∈ wsX0_countWaiting := by decide +kernel
  have k15 := hts (.fieldLink RX0 15 "ScopeRow$Answers" "state" "LScopeRow$State;") (by decide +kernel)
  have k148 := hts (.fieldLink RX0 148 "ScopeRow$State" "tasks" "[LScopeRow$Task;") (by decide +kernel)
  refine lv_iconst (v := 0) hx hb dX0_countWaiting_0 (by decide) ?_
  refine lv_istore_n (lv' := [(3, .int 0), (0, .ref (ad 101)), (1, .int what), (2, .int target)]) hx hb dX0_countWaiting_1 rfl hl (by decide) rfl (fun ls hl => ?_)
  refine lv_aload_n hx hb dX0_countWaiting_2 rfl (lv_at hl 1 rfl) ?_
  refine va_get (D := D) (C := RX0) (T := TX0) (N := 2) (ci := 0) (v := .ref (ad 0)) hx hb hts nX0 hown hK hP 101 w_an rfl 1 (by decide) k15 (fun _ h9 => h9) rfl dX0_countWaiting_3 ?_
  refine va_get (D := D) (C := RX6) (T := TX6) (N := 12) (ci := 6) (v := .ref (ad 1)) hx hb hts nX6 hown hK hP 0 w_st rfl 0 (by decide) k148 (fun _ h9 => h9) rfl dX0_countWaiting_6 ?_
  refine lv_astore (lv' := [(4, .ref (ad 1)), (3, .int 0), (0, .ref (ad 101)), (1, .int what), (2, .int target)]) hx hb dX0_countWaiting_9 hl (by decide) rfl (fun ls hl => ?_)
  refine lv_aload hx hb dX0_countWaiting_11 (lv_at hl 0 rfl) ?_
  refine va_alen (v := 24) hx hb hK hP 1 1 w_a1 rfl rfl dX0_countWaiting_13 ?_
  refine lv_istore (lv' := [(5, .int 24), (4, .ref (ad 1)), (3, .int 0), (0, .ref (ad 101)), (1, .int what), (2, .int target)]) hx hb dX0_countWaiting_14 hl (by decide) rfl (fun ls hl => ?_)
  refine lv_iconst (v := 0) hx hb dX0_countWaiting_16 (by decide) ?_
  refine lv_istore (lv' := [(6, .int 0), (5, .int 24), (4, .ref (ad 1)), (3, .int 0), (0, .ref (ad 101)), (1, .int what), (2, .int target)]) hx hb dX0_countWaiting_17 hl (by decide) rfl (fun ls hl => ?_)
  refine W_meas (I := fun (n : Nat) (H : Heap) (locs : List Loc) (ls : Array Slot) => ∃ (j : Nat) (c0 : Nat), ((n + j = 24) ∧ (m_cnt (m_wf τ what target) n j c0 = m_countWaiting τ what target)) ∧ va_P D vwCl (wB cA ad τ ++ rest) H ∧ va_D A (wB cA ad τ ++ rest) ∧ va_S A s.heap H locs ∧ lv_has ls 8 [(0, .ref (ad 101)), (1, .int what), (2, .int target), (4, .ref (ad 1)), (5, .int 24), (3, .int (nI c0)), (6, .int (nI j))]) 24 ⟨0, 0, ⟨by omega, rfl⟩, hP, hD, hS, lv_sub hl [4, 5, 6, 2, 1, 3, 0] rfl⟩ ?_
  clear hP hD hS hl
  intro n ih H locs ls hI
  obtain ⟨j, c0, ⟨hn, hf⟩, hP, hD, hS, hl⟩ := hI
  refine lv_iload hx hb dX0_countWaiting_19 (lv_at hl 6 rfl) ?_
  refine lv_iload hx hb dX0_countWaiting_21 (lv_at hl 4 rfl) ?_
  refine lv_icmp_ge (tgt := 56) hx hb dX0_countWaiting_23 (by decide) (fun c_23_1 => ?_) (fun c_23_1 => ?_)
  -- 23 jumps
  · skip
    obtain rfl : n = 0 := by have := ge_c c_23_1 (by omega); omega
    refine lv_iload_n hx hb dX0_countWaiting_56 rfl (lv_at hl 5 rfl) ?_
    exact x_iret hx hb hr hlocks hK () hP hD hS dX0_countWaiting_57 (by rw [← hf]; simp [m_cnt])
  -- 23 goes on
  · skip
    have hj : j < 24 := lt_c c_23_1 (by omega)
    obtain ⟨n, rfl⟩ : ∃ k, n = k + 1 := ⟨n - 1, by omega⟩
    refine lv_aload hx hb dX0_countWaiting_26 (lv_at hl 3 rfl) ?_
    refine lv_iload hx hb dX0_countWaiting_28 (lv_at hl 6 rfl) ?_
    refine l_a1 hx hb hK hP (j := j) (nI_clamp (by omega)) (vp_in_nI hj (by omega)) dX0_countWaiting_30 ?_
    refine lv_astore (lv' := [(7, .ref (ad (j + 6))), (0, .ref (ad 101)), (1, .int what), (2, .int target), (4, .ref (ad 1)), (5, .int 24), (3, .int (nI c0)), (6, .int (nI j))]) hx hb dX0_countWaiting_31 hl (by decide) rfl (fun ls hl => ?_)
    refine lv_aload_n hx hb dX0_countWaiting_33 rfl (lv_at hl 1 rfl) ?_
    refine va_get (D := D) (C := RX0) (T := TX0) (N := 2) (ci := 0) (v := .ref (ad 0)) hx hb hts nX0 hown hK hP 101 w_an rfl 1 (by decide) k15 (fun _ h9 => h9) rfl dX0_countWaiting_34 ?_
    refine lv_aload hx hb dX0_countWaiting_37 (lv_at hl 0 rfl) ?_
    refine lv_iload_n hx hb dX0_countWaiting_39 rfl (lv_at hl 2 rfl) ?_
    refine lv_iload_n hx hb dX0_countWaiting_40 rfl (lv_at hl 3 rfl) ?_
    refine x_Vi (As := [.ref (ad (j + 6)), .int what, .int target]) (rest0 := []) ⟨hx, hb, hml, hown, hts⟩ (c_X6_waitsFor l D cA ad tr rest H.size τ j hj what target) (cwV 3 hts gX0_countWaiting_X6_waitsFor rfl rfl rfl (by decide +kernel) ⟨Nat.le_of_ble_eq_true rfl, Nat.le_of_ble_eq_true rfl⟩) hK hP hD hS hA 0 w_st rfl hl.1 rfl rfl (Nat.le_of_ble_eq_true rfl) ⟨Nat.zero_le _, Nat.zero_le _⟩ dX0_countWaiting_41 (fun r2 _ H locs hw hP hD hS => ?_)
    have er2 := hw
    refine lv_if_eq (tgt := 50) hx hb dX0_countWaiting_44 (by decide) (fun c_44_3 => ?_) (fun c_44_3 => ?_)
    -- 44 jumps
    · skip
      have dc_44_3 := bI_f er2 c_44_3
      refine lv_iinc (v := (nI (j + 1))) (lv' := [(6, .int (nI (j + 1))), (7, .ref (ad (j + 6))), (0, .ref (ad 101)), (1, .int what), (2, .int target), (4, .ref (ad 1)), (5, .int 24), (3, .int (nI c0))]) hx hb dX0_countWaiting_50 hl (k := 7) rfl (show nI j + 1 = nI (j + 1) from nI_1 j) (by decide) rfl (fun ls hl => ?_)
      refine lv_goto (tgt := 19) hx hb dX0_countWaiting_53 (by decide) ?_
      exact ih n (Nat.lt_succ_self n) H locs ls ⟨(j + 1), c0, ⟨by omega, by rw [← hf]; simp [m_cnt, m_wf, c_23_1, dc_44_3]⟩, hP, hD, hS, lv_sub hl [2, 3, 4, 5, 6, 7, 0] rfl⟩
    -- 44 goes on
    · skip
      have dc_44_3 := bI_t er2 c_44_3
      refine lv_iinc (v := (nI (c0 + 1))) (lv' := [(3, .int (nI (c0 + 1))), (7, .ref (ad (j + 6))), (0, .ref (ad 101)), (1, .int what), (2, .int target), (4, .ref (ad 1)), (5, .int 24), (6, .int (nI j))]) hx hb dX0_countWaiting_47 hl (k := 6) rfl (show nI c0 + 1 = nI (c0 + 1) from nI_1 c0) (by decide) rfl (fun ls hl => ?_)
      refine lv_iinc (v := (nI (j + 1))) (lv' := [(6, .int (nI (j + 1))), (3, .int (nI (c0 + 1))), (7, .ref (ad (j + 6))), (0, .ref (ad 101)), (1, .int what), (2, .int target), (4, .ref (ad 1)), (5, .int 24)]) hx hb dX0_countWaiting_50 hl (k := 7) rfl (show nI j + 1 = nI (j + 1) from nI_1 j) (by decide) rfl (fun ls hl => ?_)
      refine lv_goto (tgt := 19) hx hb dX0_countWaiting_53 (by decide) ?_
      exact ih n (Nat.lt_succ_self n) H locs ls ⟨(j + 1), (c0 + 1), ⟨by omega, by rw [← hf]; simp [m_cnt, m_wf, c_23_1, dc_44_3]⟩, hP, hD, hS, lv_sub hl [3, 4, 5, 6, 7, 1, 0] rfl⟩

set_option maxHeartbeats 4000000 in
set_option maxRecDepth 100000 in
theorem c_X0_countNewlyHit (l : Launch) (D : va_G) (cA : Nat → ClassId) (ad : Nat → Nat) (tr : List (ClassId × FieldType)) (rest : va_W) (sz : Nat) (τ : Sg)  (x : Int32) : Met l yX0_countNewlyHit wsX0_countNewlyHit ({ frames := 1, cells := 0, slots := 0, locals := 25 }) (va_Pc [.ref (ad 101), .int x] (inW D (tyB cA ++ tr) (wB cA ad τ ++ rest) sz)) (va_Qi (fun (r : Int32) (_ : Unit) => r = nI (m_newlyHit τ x)) (fun _ : Unit => outW D (tyB cA ++ tr) (va_A (wB cA ad τ ++ rest) sz) (wB cA ad τ ++ rest)) (va_A (wB cA ad τ ++ rest) sz)) 0 0 (va_A (wB cA ad τ ++ rest) sz) := by
  refine Met.ofW (cc := cX0_countNewlyHit) (maxL := 8) (ret := (some .int)) (by decide) rfl ?_
  intro p e s m args below meth c s₁ B hml hv
  obtain ⟨rfl, hsz, hP, hK, hD0⟩ := hv
  have hx := B.exec
  have hb := B.bytes
  have hr := B.returns
  have hts := atoms_spec (ws := wsX0_countNewlyHit) B.pre
  have hown : s.vm.findClass RX0 = some m.cls := findClass_of_methodNamed B.named
  have hlocks := B.notSynchronized
  subst hsz
  have hD := hD0.self (sz := s.heap.size)
  clear hD0
  generalize hAe : va_A (wB cA ad τ ++ rest) s.heap.size = A at hD ⊢
  have hA : ∀ q : Nat, s.heap.size ≤ q → A q := fun q h => by rw [← hAe]; exact Or.inr h
  clear hAe
  have hS : va_S A s.heap s.heap [] := va_S.rf
  have hP : va_P D vwCl (wB cA ad τ ++ rest) s.heap := hP
  have hl := lv_entry ([.ref (ad 101), .int x]) (n := 8) (Nat.le_of_ble_eq_true rfl)
  rw [lg_entry_eq]
  generalize (lg_sl ([.ref (ad 101), .int x]) ++ List.replicate (8 - (lg_sl ([.ref (ad 101), .int x])).length) Slot.unset).toArray = ls at hl ⊢
  have hl : lv_has ls 8 [(0, .ref (ad 101)), (1, .int x)] := hl
  have nX0 : ∀ w ∈ u_ws RX0 TX0 2, w ∈ wsX0_countNewlyHit := by decide +kernel
  have nX6 : ∀ w ∈ u_ws RX6 TX6 12, w ∈ wsX0_countNewlyHit := by decide +kernel
  have nX7 : ∀ w ∈ u_ws RX7 TX7 17, w ∈ wsX0_countNewlyHit := by decide +kernel
  have k15 := hts (.fieldLink RX0 15 "ScopeRow$Answers" "state" "LScopeRow$State;") (by decide +kernel)
  have k148 := hts (.fieldLink RX0 148 "ScopeRow$State" "tasks" "[LScopeRow$Task;") (by decide +kernel)
  have k31 := hts (.fieldLink RX0 31 "ScopeRow$Task" "state" "I") (by decide +kernel)
  refine lv_iconst (v := 0) hx hb dX0_countNewlyHit_0 (by decide) ?_
  refine lv_istore_n (lv' := [(2, .int 0), (0, .ref (ad 101)), (1, .int x)]) hx hb dX0_countNewlyHit_1 rfl hl (by decide) rfl (fun ls hl => ?_)
  refine lv_aload_n hx hb dX0_countNewlyHit_2 rfl (lv_at hl 1 rfl) ?_
  refine va_get (D := D) (C := RX0) (T := TX0) (N := 2) (ci := 0) (v := .ref (ad 0)) hx hb hts nX0 hown hK hP 101 w_an rfl 1 (by decide) k15 (fun _ h9 => h9) rfl dX0_countNewlyHit_3 ?_
  refine va_get (D := D) (C := RX6) (T := TX6) (N := 12) (ci := 6) (v := .ref (ad 1)) hx hb hts nX6 hown hK hP 0 w_st rfl 0 (by decide) k148 (fun _ h9 => h9) rfl dX0_countNewlyHit_6 ?_
  refine lv_astore_n (lv' := [(3, .ref (ad 1)), (2, .int 0), (0, .ref (ad 101)), (1, .int x)]) hx hb dX0_countNewlyHit_9 rfl hl (by decide) rfl (fun ls hl => ?_)
  refine lv_aload_n hx hb dX0_countNewlyHit_10 rfl (lv_at hl 0 rfl) ?_
  refine va_alen (v := 24) hx hb hK hP 1 1 w_a1 rfl rfl dX0_countNewlyHit_11 ?_
  refine lv_istore (lv' := [(4, .int 24), (3, .ref (ad 1)), (2, .int 0), (0, .ref (ad 101)), (1, .int x)]) hx hb dX0_countNewlyHit_12 hl (by decide) rfl (fun ls hl => ?_)
  refine lv_iconst (v := 0) hx hb dX0_countNewlyHit_14 (by decide) ?_
  refine lv_istore (lv' := [(5, .int 0), (4, .int 24), (3, .ref (ad 1)), (2, .int 0), (0, .ref (ad 101)), (1, .int x)]) hx hb dX0_countNewlyHit_15 hl (by decide) rfl (fun ls hl => ?_)
  refine W_meas (I := fun (n : Nat) (H : Heap) (locs : List Loc) (ls : Array Slot) => ∃ (j : Nat) (c0 : Nat), ((n + j = 24) ∧ (m_cnt (m_nh τ x) n j c0 = m_newlyHit τ x)) ∧ va_P D vwCl (wB cA ad τ ++ rest) H ∧ va_D A (wB cA ad τ ++ rest) ∧ va_S A s.heap H locs ∧ lv_has ls 8 [(0, .ref (ad 101)), (1, .int x), (3, .ref (ad 1)), (4, .int 24), (2, .int (nI c0)), (5, .int (nI j))]) 24 ⟨0, 0, ⟨by omega, rfl⟩, hP, hD, hS, lv_sub hl [4, 5, 2, 1, 3, 0] rfl⟩ ?_
  clear hP hD hS hl
  intro n ih H locs ls hI
  obtain ⟨j, c0, ⟨hn, hf⟩, hP, hD, hS, hl⟩ := hI
  refine lv_iload hx hb dX0_countNewlyHit_17 (lv_at hl 5 rfl) ?_
  refine lv_iload hx hb dX0_countNewlyHit_19 (lv_at hl 3 rfl) ?_
  refine lv_icmp_ge (tgt := 94) hx hb dX0_countNewlyHit_21 (by decide) (fun c_21_1 => ?_) (fun c_21_1 => ?_)
  -- 21 jumps
  · skip
    obtain rfl : n = 0 := by have := ge_c c_21_1 (by omega); omega
    refine lv_iload_n hx hb dX0_countNewlyHit_94 rfl (lv_at hl 4 rfl) ?_
    exact x_iret hx hb hr hlocks hK () hP hD hS dX0_countNewlyHit_95 (by rw [← hf]; simp [m_cnt])
  -- 21 goes on
  · skip
    have hj : j < 24 := lt_c c_21_1 (by omega)
    obtain ⟨n, rfl⟩ : ∃ k, n = k + 1 := ⟨n - 1, by omega⟩
    refine lv_aload_n hx hb dX0_countNewlyHit_24 rfl (lv_at hl 2 rfl) ?_
    refine lv_iload hx hb dX0_countNewlyHit_25 (lv_at hl 5 rfl) ?_
    refine l_a1 hx hb hK hP (j := j) (nI_clamp (by omega)) (vp_in_nI hj (by omega)) dX0_countNewlyHit_27 ?_
    refine lv_astore (lv' := [(6, .ref (ad (j + 6))), (0, .ref (ad 101)), (1, .int x), (3, .ref (ad 1)), (4, .int 24), (2, .int (nI c0)), (5, .int (nI j))]) hx hb dX0_countNewlyHit_28 hl (by decide) rfl (fun ls hl => ?_)
    refine lv_aload hx hb dX0_countNewlyHit_30 (lv_at hl 0 rfl) ?_
    refine va_get (D := D) (C := RX7) (T := TX7) (N := 17) (ci := 7) (v := .int (τ (j + 6) 3)) hx hb hts nX7 hown hK hP (j + 6) (w_tk hj) rfl 3 (by decide) k31 (fun _ h9 => h9) rfl dX0_countNewlyHit_32 ?_
    refine lv_if_eq (tgt := 47) hx hb dX0_countNewlyHit_35 (by decide) (fun c_35_2 => ?_) (fun c_35_2 => ?_)
    -- 35 jumps
    · skip
      refine lv_iconst (v := 1) hx hb dX0_countNewlyHit_47 (by decide) ?_
      refine lv_goto (tgt := 52) hx hb dX0_countNewlyHit_48 (by decide) ?_
      refine lv_istore (lv' := [(7, .int 1), (6, .ref (ad (j + 6))), (0, .ref (ad 101)), (1, .int x), (3, .ref (ad 1)), (4, .int 24), (2, .int (nI c0)), (5, .int (nI j))]) hx hb dX0_countNewlyHit_52 hl (by decide) rfl (fun ls hl => ?_)
      refine lv_iload hx hb dX0_countNewlyHit_54 (lv_at hl 0 rfl) ?_
      refine lv_if_eq (tgt := 88) hx hb dX0_countNewlyHit_56 (by decide) (fun c_56_3 => ?_) (fun c_56_3 => ?_)
      -- 56 jumps
      · exact absurd c_56_3 (by decide)
      -- 56 goes on
      · skip
        refine lv_aload_n hx hb dX0_countNewlyHit_59 rfl (lv_at hl 2 rfl) ?_
        refine va_get (D := D) (C := RX0) (T := TX0) (N := 2) (ci := 0) (v := .ref (ad 0)) hx hb hts nX0 hown hK hP 101 w_an rfl 1 (by decide) k15 (fun _ h9 => h9) rfl dX0_countNewlyHit_60 ?_
        refine lv_aload hx hb dX0_countNewlyHit_63 (lv_at hl 1 rfl) ?_
        refine lv_iconst (v := (-1)) hx hb dX0_countNewlyHit_65 (by decide) ?_
        refine x_Vi (As := [.ref (ad (j + 6)), .int (-1)]) (rest0 := []) ⟨hx, hb, hml, hown, hts⟩ (c_X6_isHit l D cA ad tr rest H.size τ j hj (-1)) (cwV 2 hts gX0_countNewlyHit_X6_isHit rfl rfl rfl (by decide +kernel) ⟨Nat.le_of_ble_eq_true rfl, Nat.le_of_ble_eq_true rfl⟩) hK hP hD hS hA 0 w_st rfl hl.1 rfl rfl (Nat.le_of_ble_eq_true rfl) ⟨Nat.zero_le _, Nat.zero_le _⟩ dX0_countNewlyHit_66 (fun r4 _ H locs hw hP hD hS => ?_)
        have er4 := hw
        refine lv_if_ne (tgt := 88) hx hb dX0_countNewlyHit_69 (by decide) (fun c_69_5 => ?_) (fun c_69_5 => ?_)
        -- 69 jumps
        · skip
          have dc_69_5 := bI_t er4 c_69_5
          refine lv_iinc (v := (nI (j + 1))) (lv' := [(5, .int (nI (j + 1))), (7, .int 1), (6, .ref (ad (j + 6))), (0, .ref (ad 101)), (1, .int x), (3, .ref (ad 1)), (4, .int 24), (2, .int (nI c0))]) hx hb dX0_countNewlyHit_88 hl (k := 7) rfl (show nI j + 1 = nI (j + 1) from nI_1 j) (by decide) rfl (fun ls hl => ?_)
          refine lv_goto (tgt := 17) hx hb dX0_countNewlyHit_91 (by decide) ?_
          exact ih n (Nat.lt_succ_self n) H locs ls ⟨(j + 1), c0, ⟨by omega, by rw [← hf]; simp [m_cnt, m_nh, c_21_1, eq_true c_35_2, dc_69_5]⟩, hP, hD, hS, lv_sub hl [3, 4, 5, 6, 7, 0] rfl⟩
        -- 69 goes on
        · skip
          have dc_69_5 := bI_f er4 c_69_5
          refine lv_aload_n hx hb dX0_countNewlyHit_72 rfl (lv_at hl 2 rfl) ?_
          refine va_get (D := D) (C := RX0) (T := TX0) (N := 2) (ci := 0) (v := .ref (ad 0)) hx hb hts nX0 hown hK hP 101 w_an rfl 1 (by decide) k15 (fun _ h9 => h9) rfl dX0_countNewlyHit_73 ?_
          refine lv_aload hx hb dX0_countNewlyHit_76 (lv_at hl 1 rfl) ?_
          refine lv_iload_n hx hb dX0_countNewlyHit_78 rfl (lv_at hl 3 rfl) ?_
          refine x_Vi (As := [.ref (ad (j + 6)), .int x]) (rest0 := []) ⟨hx, hb, hml, hown, hts⟩ (c_X6_isHit l D cA ad tr rest H.size τ j hj x) (cwV 2 hts gX0_countNewlyHit_X6_isHit rfl rfl rfl (by decide +kernel) ⟨Nat.le_of_ble_eq_true rfl, Nat.le_of_ble_eq_true rfl⟩) hK hP hD hS hA 0 w_st rfl hl.1 rfl rfl (Nat.le_of_ble_eq_true rfl) ⟨Nat.zero_le _, Nat.zero_le _⟩ dX0_countNewlyHit_79 (fun r6 _ H locs hw hP hD hS => ?_)
          have er6 := hw
          refine lv_if_eq (tgt := 88) hx hb dX0_countNewlyHit_82 (by decide) (fun c_82_7 => ?_) (fun c_82_7 => ?_)
          -- 82 jumps
          · skip
            have dc_82_7 := bI_f er6 c_82_7
            refine lv_iinc (v := (nI (j + 1))) (lv' := [(5, .int (nI (j + 1))), (7, .int 1), (6, .ref (ad (j + 6))), (0, .ref (ad 101)), (1, .int x), (3, .ref (ad 1)), (4, .int 24), (2, .int (nI c0))]) hx hb dX0_countNewlyHit_88 hl (k := 7) rfl (show nI j + 1 = nI (j + 1) from nI_1 j) (by decide) rfl (fun ls hl => ?_)
            refine lv_goto (tgt := 17) hx hb dX0_countNewlyHit_91 (by decide) ?_
            exact ih n (Nat.lt_succ_self n) H locs ls ⟨(j + 1), c0, ⟨by omega, by rw [← hf]; simp [m_cnt, m_nh, c_21_1, eq_true c_35_2, dc_69_5, dc_82_7]⟩, hP, hD, hS, lv_sub hl [3, 4, 5, 6, 7, 0] rfl⟩
          -- 82 goes on
          · skip
            have dc_82_7 := bI_t er6 c_82_7
            refine lv_iinc (v := (nI (c0 + 1))) (lv' := [(2, .int (nI (c0 + 1))), (7, .int 1), (6, .ref (ad (j + 6))), (0, .ref (ad 101)), (1, .int x), (3, .ref (ad 1)), (4, .int 24), (5, .int (nI j))]) hx hb dX0_countNewlyHit_85 hl (k := 6) rfl (show nI c0 + 1 = nI (c0 + 1) from nI_1 c0) (by decide) rfl (fun ls hl => ?_)
            refine lv_iinc (v := (nI (j + 1))) (lv' := [(5, .int (nI (j + 1))), (2, .int (nI (c0 + 1))), (7, .int 1), (6, .ref (ad (j + 6))), (0, .ref (ad 101)), (1, .int x), (3, .ref (ad 1)), (4, .int 24)]) hx hb dX0_countNewlyHit_88 hl (k := 7) rfl (show nI j + 1 = nI (j + 1) from nI_1 j) (by decide) rfl (fun ls hl => ?_)
            refine lv_goto (tgt := 17) hx hb dX0_countNewlyHit_91 (by decide) ?_
            exact ih n (Nat.lt_succ_self n) H locs ls ⟨(j + 1), (c0 + 1), ⟨by omega, by rw [← hf]; simp [m_cnt, m_nh, c_21_1, eq_true c_35_2, dc_69_5, dc_82_7]⟩, hP, hD, hS, lv_sub hl [4, 5, 6, 7, 1, 0] rfl⟩
    -- 35 goes on
    · skip
      refine lv_aload hx hb dX0_countNewlyHit_38 (lv_at hl 0 rfl) ?_
      refine va_get (D := D) (C := RX7) (T := TX7) (N := 17) (ci := 7) (v := .int (τ (j + 6) 3)) hx hb hts nX7 hown hK hP (j + 6) (w_tk hj) rfl 3 (by decide) k31 (fun _ h9 => h9) rfl dX0_countNewlyHit_40 ?_
      refine lv_iconst (v := 1) hx hb dX0_countNewlyHit_43 (by decide) ?_
      refine lv_icmp_ne (tgt := 51) hx hb dX0_countNewlyHit_44 (by decide) (fun c_44_8 => ?_) (fun c_44_8 => ?_)
      -- 44 jumps
      · skip
        refine lv_iconst (v := 0) hx hb dX0_countNewlyHit_51 (by decide) ?_
        refine lv_istore (lv' := [(7, .int 0), (6, .ref (ad (j + 6))), (0, .ref (ad 101)), (1, .int x), (3, .ref (ad 1)), (4, .int 24), (2, .int (nI c0)), (5, .int (nI j))]) hx hb dX0_countNewlyHit_52 hl (by decide) rfl (fun ls hl => ?_)
        refine lv_iload hx hb dX0_countNewlyHit_54 (lv_at hl 0 rfl) ?_
        refine lv_if_eq (tgt := 88) hx hb dX0_countNewlyHit_56 (by decide) (fun c_56_9 => ?_) (fun c_56_9 => ?_)
        -- 56 jumps
        · skip
          refine lv_iinc (v := (nI (j + 1))) (lv' := [(5, .int (nI (j + 1))), (7, .int 0), (6, .ref (ad (j + 6))), (0, .ref (ad 101)), (1, .int x), (3, .ref (ad 1)), (4, .int 24), (2, .int (nI c0))]) hx hb dX0_countNewlyHit_88 hl (k := 7) rfl (show nI j + 1 = nI (j + 1) from nI_1 j) (by decide) rfl (fun ls hl => ?_)
          refine lv_goto (tgt := 17) hx hb dX0_countNewlyHit_91 (by decide) ?_
          exact ih n (Nat.lt_succ_self n) H locs ls ⟨(j + 1), c0, ⟨by omega, by rw [← hf]; simp [m_cnt, m_nh, c_21_1, c_35_2, c_44_8]⟩, hP, hD, hS, lv_sub hl [3, 4, 5, 6, 7, 0] rfl⟩
        -- 56 goes on
        · exact absurd c_56_9 (by decide)
      -- 44 goes on
      · skip
        refine lv_iconst (v := 1) hx hb dX0_countNewlyHit_47 (by decide) ?_
        refine lv_goto (tgt := 52) hx hb dX0_countNewlyHit_48 (by decide) ?_
        refine lv_istore (lv' := [(7, .int 1), (6, .ref (ad (j + 6))), (0, .ref (ad 101)), (1, .int x), (3, .ref (ad 1)), (4, .int 24), (2, .int (nI c0)), (5, .int (nI j))]) hx hb dX0_countNewlyHit_52 hl (by decide) rfl (fun ls hl => ?_)
        refine lv_iload hx hb dX0_countNewlyHit_54 (lv_at hl 0 rfl) ?_
        refine lv_if_eq (tgt := 88) hx hb dX0_countNewlyHit_56 (by decide) (fun c_56_10 => ?_) (fun c_56_10 => ?_)
        -- 56 jumps
        · exact absurd c_56_10 (by decide)
        -- 56 goes on
        · skip
          refine lv_aload_n hx hb dX0_countNewlyHit_59 rfl (lv_at hl 2 rfl) ?_
          refine va_get (D := D) (C := RX0) (T := TX0) (N := 2) (ci := 0) (v := .ref (ad 0)) hx hb hts nX0 hown hK hP 101 w_an rfl 1 (by decide) k15 (fun _ h9 => h9) rfl dX0_countNewlyHit_60 ?_
          refine lv_aload hx hb dX0_countNewlyHit_63 (lv_at hl 1 rfl) ?_
          refine lv_iconst (v := (-1)) hx hb dX0_countNewlyHit_65 (by decide) ?_
          refine x_Vi (As := [.ref (ad (j + 6)), .int (-1)]) (rest0 := []) ⟨hx, hb, hml, hown, hts⟩ (c_X6_isHit l D cA ad tr rest H.size τ j hj (-1)) (cwV 2 hts gX0_countNewlyHit_X6_isHit rfl rfl rfl (by decide +kernel) ⟨Nat.le_of_ble_eq_true rfl, Nat.le_of_ble_eq_true rfl⟩) hK hP hD hS hA 0 w_st rfl hl.1 rfl rfl (Nat.le_of_ble_eq_true rfl) ⟨Nat.zero_le _, Nat.zero_le _⟩ dX0_countNewlyHit_66 (fun r11 _ H locs hw hP hD hS => ?_)
          have er11 := hw
          refine lv_if_ne (tgt := 88) hx hb dX0_countNewlyHit_69 (by decide) (fun c_69_12 => ?_) (fun c_69_12 => ?_)
          -- 69 jumps
          · skip
            have dc_69_12 := bI_t er11 c_69_12
            refine lv_iinc (v := (nI (j + 1))) (lv' := [(5, .int (nI (j + 1))), (7, .int 1), (6, .ref (ad (j + 6))), (0, .ref (ad 101)), (1, .int x), (3, .ref (ad 1)), (4, .int 24), (2, .int (nI c0))]) hx hb dX0_countNewlyHit_88 hl (k := 7) rfl (show nI j + 1 = nI (j + 1) from nI_1 j) (by decide) rfl (fun ls hl => ?_)
            refine lv_goto (tgt := 17) hx hb dX0_countNewlyHit_91 (by decide) ?_
            exact ih n (Nat.lt_succ_self n) H locs ls ⟨(j + 1), c0, ⟨by omega, by rw [← hf]; simp [m_cnt, m_nh, c_21_1, c_35_2, eq_true c_44_8, dc_69_12]⟩, hP, hD, hS, lv_sub hl [3, 4, 5, 6, 7, 0] rfl⟩
          -- 69 goes on
          · skip
            have dc_69_12 := bI_f er11 c_69_12
            refine lv_aload_n hx hb dX0_countNewlyHit_72 rfl (lv_at hl 2 rfl) ?_
            refine va_get (D := D) (C := RX0) (T := TX0) (N := 2) (ci := 0) (v := .ref (ad 0)) hx hb hts nX0 hown hK hP 101 w_an rfl 1 (by decide) k15 (fun _ h9 => h9) rfl dX0_countNewlyHit_73 ?_
            refine lv_aload hx hb dX0_countNewlyHit_76 (lv_at hl 1 rfl) ?_
            refine lv_iload_n hx hb dX0_countNewlyHit_78 rfl (lv_at hl 3 rfl) ?_
            refine x_Vi (As := [.ref (ad (j + 6)), .int x]) (rest0 := []) ⟨hx, hb, hml, hown, hts⟩ (c_X6_isHit l D cA ad tr rest H.size τ j hj x) (cwV 2 hts gX0_countNewlyHit_X6_isHit rfl rfl rfl (by decide +kernel) ⟨Nat.le_of_ble_eq_true rfl, Nat.le_of_ble_eq_true rfl⟩) hK hP hD hS hA 0 w_st rfl hl.1 rfl rfl (Nat.le_of_ble_eq_true rfl) ⟨Nat.zero_le _, Nat.zero_le _⟩ dX0_countNewlyHit_79 (fun r13 _ H locs hw hP hD hS => ?_)
            have er13 := hw
            refine lv_if_eq (tgt := 88) hx hb dX0_countNewlyHit_82 (by decide) (fun c_82_14 => ?_) (fun c_82_14 => ?_)
            -- 82 jumps
            · skip
              have dc_82_14 := bI_f er13 c_82_14
              refine lv_iinc (v := (nI (j + 1))) (lv' := [(5, .int (nI (j + 1))), (7, .int 1), (6, .ref (ad (j + 6))), (0, .ref (ad 101)), (1, .int x), (3, .ref (ad 1)), (4, .int 24), (2, .int (nI c0))]) hx hb dX0_countNewlyHit_88 hl (k := 7) rfl (show nI j + 1 = nI (j + 1) from nI_1 j) (by decide) rfl (fun ls hl => ?_)
              refine lv_goto (tgt := 17) hx hb dX0_countNewlyHit_91 (by decide) ?_
              exact ih n (Nat.lt_succ_self n) H locs ls ⟨(j + 1), c0, ⟨by omega, by rw [← hf]; simp [m_cnt, m_nh, c_21_1, c_35_2, eq_true c_44_8, dc_69_12, dc_82_14]⟩, hP, hD, hS, lv_sub hl [3, 4, 5, 6, 7, 0] rfl⟩
            -- 82 goes on
            · skip
              have dc_82_14 := bI_t er13 c_82_14
              refine lv_iinc (v := (nI (c0 + 1))) (lv' := [(2, .int (nI (c0 + 1))), (7, .int 1), (6, .ref (ad (j + 6))), (0, .ref (ad 101)), (1, .int x), (3, .ref (ad 1)), (4, .int 24), (5, .int (nI j))]) hx hb dX0_countNewlyHit_85 hl (k := 6) rfl (show nI c0 + 1 = nI (c0 + 1) from nI_1 c0) (by decide) rfl (fun ls hl => ?_)
              refine lv_iinc (v := (nI (j + 1))) (lv' := [(5, .int (nI (j + 1))), (2, .int (nI (c0 + 1))), (7, .int 1), (6, .ref (ad (j + 6))), (0, .ref (ad 101)), (1, .int x), (3, .ref (ad 1)), (4, .int 24)]) hx hb dX0_countNewlyHit_88 hl (k := 7) rfl (show nI j + 1 = nI (j + 1) from nI_1 j) (by decide) rfl (fun ls hl => ?_)
              refine lv_goto (tgt := 17) hx hb dX0_countNewlyHit_91 (by decide) ?_
              exact ih n (Nat.lt_succ_self n) H locs ls ⟨(j + 1), (c0 + 1), ⟨by omega, by rw [← hf]; simp [m_cnt, m_nh, c_21_1, c_35_2, eq_true c_44_8, dc_69_12, dc_82_14]⟩, hP, hD, hS, lv_sub hl [4, 5, 6, 7, 1, 0] rfl⟩

set_option maxHeartbeats 4000000 in
set_option maxRecDepth 100000 in
theorem c_X0_placeInRow (l : Launch) (D : va_G) (cA : Nat → ClassId) (ad : Nat → Nat) (tr : List (ClassId × FieldType)) (rest : va_W) (sz : Nat) (τ : Sg) (i : Nat) (hi : i < 24) : Met l yX0_placeInRow wsX0_placeInRow ({ frames := 0, cells := 0, slots := 0, locals := 0 }) (va_Pc [.ref (ad 101), .ref (ad (i + 6))] (inW D (tyB cA ++ tr) (wB cA ad τ ++ rest) sz)) (va_Qi (fun (r : Int32) (_ : Unit) => r = m_placeInRow τ i) (fun _ : Unit => outW D (tyB cA ++ tr) (va_A (wB cA ad τ ++ rest) sz) (wB cA ad τ ++ rest)) (va_A (wB cA ad τ ++ rest) sz)) 0 0 (va_A (wB cA ad τ ++ rest) sz) := by
  refine Met.ofW (cc := cX0_placeInRow) (maxL := 3) (ret := (some .int)) (by decide) rfl ?_
  intro p e s m args below meth c s₁ B hml hv
  obtain ⟨rfl, hsz, hP, hK, hD0⟩ := hv
  have hx := B.exec
  have hb := B.bytes
  have hr := B.returns
  have hts := atoms_spec (ws := wsX0_placeInRow) B.pre
  have hown : s.vm.findClass RX0 = some m.cls := findClass_of_methodNamed B.named
  have hlocks := B.notSynchronized
  subst hsz
  have hD := hD0.self (sz := s.heap.size)
  clear hD0
  generalize hAe : va_A (wB cA ad τ ++ rest) s.heap.size = A at hD ⊢
  have hA : ∀ q : Nat, s.heap.size ≤ q → A q := fun q h => by rw [← hAe]; exact Or.inr h
  clear hAe
  have hS : va_S A s.heap s.heap [] := va_S.rf
  have hP : va_P D vwCl (wB cA ad τ ++ rest) s.heap := hP
  have hl := lv_entry ([.ref (ad 101), .ref (ad (i + 6))]) (n := 3) (Nat.le_of_ble_eq_true rfl)
  rw [lg_entry_eq]
  generalize (lg_sl ([.ref (ad 101), .ref (ad (i + 6))]) ++ List.replicate (3 - (lg_sl ([.ref (ad 101), .ref (ad (i + 6))])).length) Slot.unset).toArray = ls at hl ⊢
  have hl : lv_has ls 3 [(0, .ref (ad 101)), (1, .ref (ad (i + 6)))] := hl
  have nX0 : ∀ w ∈ u_ws RX0 TX0 2, w ∈ wsX0_placeInRow := by decide +kernel
  have nX6 : ∀ w ∈ u_ws RX6 TX6 12, w ∈ wsX0_placeInRow := by decide +kernel
  have nX7 : ∀ w ∈ u_ws RX7 TX7 17, w ∈ wsX0_placeInRow := by decide +kernel
  have k15 := hts (.fieldLink RX0 15 "ScopeRow$Answers" "state" "LScopeRow$State;") (by decide +kernel)
  have k60 := hts (.fieldLink RX0 60 "ScopeRow$State" "rowCount" "I") (by decide +kernel)
  have k63 := hts (.fieldLink RX0 63 "ScopeRow$State" "row" "[I") (by decide +kernel)
  have k67 := hts (.fieldLink RX0 67 "ScopeRow$Task" "number" "I") (by decide +kernel)
  refine lv_iconst (v := 0) hx hb dX0_placeInRow_0 (by decide) ?_
  refine lv_istore_n (lv' := [(2, .int 0), (0, .ref (ad 101)), (1, .ref (ad (i + 6)))]) hx hb dX0_placeInRow_1 rfl hl (by decide) rfl (fun ls hl => ?_)
  refine W_meas (I := fun (n : Nat) (H : Heap) (locs : List Loc) (ls : Array Slot) => ∃ (j : Nat), ((n + j = 24) ∧ (m_pir τ i n j = m_placeInRow τ i)) ∧ va_P D vwCl (wB cA ad τ ++ rest) H ∧ va_D A (wB cA ad τ ++ rest) ∧ va_S A s.heap H locs ∧ lv_has ls 3 [(0, .ref (ad 101)), (1, .ref (ad (i + 6))), (2, .int (nI j))]) 24 ⟨0, ⟨by omega, rfl⟩, hP, hD, hS, lv_sub hl [1, 2, 0] rfl⟩ ?_
  clear hP hD hS hl
  intro n ih H locs ls hI
  obtain ⟨j, ⟨hn, hf⟩, hP, hD, hS, hl⟩ := hI
  refine lv_iload_n hx hb dX0_placeInRow_2 rfl (lv_at hl 2 rfl) ?_
  refine lv_aload_n hx hb dX0_placeInRow_3 rfl (lv_at hl 0 rfl) ?_
  refine va_get (D := D) (C := RX0) (T := TX0) (N := 2) (ci := 0) (v := .ref (ad 0)) hx hb hts nX0 hown hK hP 101 w_an rfl 1 (by decide) k15 (fun _ h9 => h9) rfl dX0_placeInRow_4 ?_
  refine va_get (D := D) (C := RX6) (T := TX6) (N := 12) (ci := 6) (v := .int (τ 0 7)) hx hb hts nX6 hown hK hP 0 w_st rfl 7 (by decide) k60 (fun _ h9 => h9) rfl dX0_placeInRow_7 ?_
  refine lv_icmp_ge (tgt := 43) hx hb dX0_placeInRow_10 (by decide) (fun c_10_1 => ?_) (fun c_10_1 => ?_)
  -- 10 jumps
  · skip
    refine lv_iconst (v := (-1)) hx hb dX0_placeInRow_43 (by decide) ?_
    exact x_iret hx hb hr hlocks hK () hP hD hS dX0_placeInRow_44 (by rw [← hf]; cases n <;> simp [m_pir, eq_true c_10_1])
  -- 10 goes on
  · skip
    refine lv_iload_n hx hb dX0_placeInRow_13 rfl (lv_at hl 2 rfl) ?_
    refine lv_bipush (v := 24) hx hb dX0_placeInRow_14 (by decide) ?_
    refine lv_icmp_ge (tgt := 43) hx hb dX0_placeInRow_16 (by decide) (fun c_16_2 => ?_) (fun c_16_2 => ?_)
    -- 16 jumps
    · skip
      obtain rfl : n = 0 := by have := ge_c c_16_2 (by omega); omega
      refine lv_iconst (v := (-1)) hx hb dX0_placeInRow_43 (by decide) ?_
      exact x_iret hx hb hr hlocks hK () hP hD hS dX0_placeInRow_44 (by rw [← hf]; simp [m_pir, c_10_1, eq_true c_16_2])
    -- 16 goes on
    · skip
      have hj : j < 24 := lt_c c_16_2 (by omega)
      obtain ⟨n, rfl⟩ : ∃ k, n = k + 1 := ⟨n - 1, by omega⟩
      refine lv_aload_n hx hb dX0_placeInRow_19 rfl (lv_at hl 0 rfl) ?_
      refine va_get (D := D) (C := RX0) (T := TX0) (N := 2) (ci := 0) (v := .ref (ad 0)) hx hb hts nX0 hown hK hP 101 w_an rfl 1 (by decide) k15 (fun _ h9 => h9) rfl dX0_placeInRow_20 ?_
      refine va_get (D := D) (C := RX6) (T := TX6) (N := 12) (ci := 6) (v := .ref (ad 5)) hx hb hts nX6 hown hK hP 0 w_st rfl 6 (by decide) k63 (fun _ h9 => h9) rfl dX0_placeInRow_23 ?_
      refine lv_iload_n hx hb dX0_placeInRow_26 rfl (lv_at hl 2 rfl) ?_
      refine l_a5 hx hb hK hP (j := j) (nI_clamp (by omega)) (vp_in_nI hj (by omega)) dX0_placeInRow_27 ?_
      refine lv_aload_n hx hb dX0_placeInRow_28 rfl (lv_at hl 1 rfl) ?_
      refine va_get (D := D) (C := RX7) (T := TX7) (N := 17) (ci := 7) (v := .int (nI i)) hx hb hts nX7 hown hK hP (i + 6) (w_tk hi) rfl 0 (by decide) k67 (fun _ h9 => h9) rfl dX0_placeInRow_29 ?_
      refine lv_icmp_ne (tgt := 37) hx hb dX0_placeInRow_32 (by decide) (fun c_32_3 => ?_) (fun c_32_3 => ?_)
      -- 32 jumps
      · skip
        refine lv_iinc (v := (nI (j + 1))) (lv' := [(2, .int (nI (j + 1))), (0, .ref (ad 101)), (1, .ref (ad (i + 6)))]) hx hb dX0_placeInRow_37 hl (k := 2) rfl (show nI j + 1 = nI (j + 1) from nI_1 j) (by decide) rfl (fun ls hl => ?_)
        refine lv_goto (tgt := 2) hx hb dX0_placeInRow_40 (by decide) ?_
        exact ih n (Nat.lt_succ_self n) H locs ls ⟨(j + 1), ⟨by omega, by rw [← hf]; simp [m_pir, c_10_1, c_16_2, c_32_3]⟩, hP, hD, hS, lv_sub hl [1, 2, 0] rfl⟩
      -- 32 goes on
      · skip
        refine lv_iload_n hx hb dX0_placeInRow_35 rfl (lv_at hl 2 rfl) ?_
        exact x_iret hx hb hr hlocks hK () hP hD hS dX0_placeInRow_36 (by rw [← hf]; simp [m_pir, c_10_1, c_16_2, eq_true c_32_3])

set_option maxHeartbeats 4000000 in
set_option maxRecDepth 100000 in
theorem c_X0_aboutTask (l : Launch) (D : va_G) (cA : Nat → ClassId) (ad : Nat → Nat) (tr : List (ClassId × FieldType)) (rest : va_W) (sz : Nat) (τ : Sg)  (x what : Int32) : Met l yX0_aboutTask wsX0_aboutTask ({ frames := 1, cells := 0, slots := 0, locals := 25 }) (va_Pc [.ref (ad 101), .int x, .int what] (inW D (tyB cA ++ tr) (wB cA ad τ ++ rest) sz)) (va_Qi (fun (r : Int32) (_ : Unit) => r = m_aboutTask τ x what) (fun _ : Unit => outW D (tyB cA ++ tr) (va_A (wB cA ad τ ++ rest) sz) (wB cA ad τ ++ rest)) (va_A (wB cA ad τ ++ rest) sz)) 0 0 (va_A (wB cA ad τ ++ rest) sz) := by
  refine Met.ofW (cc := cX0_aboutTask) (maxL := 4) (ret := (some .int)) (by decide) rfl ?_
  intro p e s m args below meth c s₁ B hml hv
  obtain ⟨rfl, hsz, hP, hK, hD0⟩ := hv
  have hx := B.exec
  have hb := B.bytes
  have hr := B.returns
  have hts := atoms_spec (ws := wsX0_aboutTask) B.pre
  have hown : s.vm.findClass RX0 = some m.cls := findClass_of_methodNamed B.named
  have hlocks := B.notSynchronized
  subst hsz
  have hD := hD0.self (sz := s.heap.size)
  clear hD0
  generalize hAe : va_A (wB cA ad τ ++ rest) s.heap.size = A at hD ⊢
  have hA : ∀ q : Nat, s.heap.size ≤ q → A q := fun q h => by rw [← hAe]; exact Or.inr h
  clear hAe
  have hS : va_S A s.heap s.heap [] := va_S.rf
  have hP : va_P D vwCl (wB cA ad τ ++ rest) s.heap := hP
  have hl := lv_entry ([.ref (ad 101), .int x, .int what]) (n := 4) (Nat.le_of_ble_eq_true rfl)
  rw [lg_entry_eq]
  generalize (lg_sl ([.ref (ad 101), .int x, .int what]) ++ List.replicate (4 - (lg_sl ([.ref (ad 101), .int x, .int what])).length) Slot.unset).toArray = ls at hl ⊢
  have hl : lv_has ls 4 [(0, .ref (ad 101)), (1, .int x), (2, .int what)] := hl
  have nX0 : ∀ w ∈ u_ws RX0 TX0 2, w ∈ wsX0_aboutTask := by decide +kernel
  have nX7 : ∀ w ∈ u_ws RX7 TX7 17, w ∈ wsX0_aboutTask := by decide +kernel
  have k15 := hts (.fieldLink RX0 15 "ScopeRow$Answers" "state" "LScopeRow$State;") (by decide +kernel)
  have k25 := hts (.fieldLink RX0 25 "ScopeRow$Task" "body" "I") (by decide +kernel)
  have k31 := hts (.fieldLink RX0 31 "ScopeRow$Task" "state" "I") (by decide +kernel)
  have k37 := hts (.fieldLink RX0 37 "ScopeRow$Task" "line" "I") (by decide +kernel)
  have k40 := hts (.fieldLink RX0 40 "ScopeRow$Task" "there" "I") (by decide +kernel)
  have k43 := hts (.fieldLink RX0 43 "ScopeRow$Task" "in" "I") (by decide +kernel)
  have k46 := hts (.fieldLink RX0 46 "ScopeRow$Task" "depth" "I") (by decide +kernel)
  have k57 := hts (.fieldLink RX0 57 "ScopeRow$Task" "behind" "I") (by decide +kernel)
  refine lv_aload_n hx hb dX0_aboutTask_0 rfl (lv_at hl 0 rfl) ?_
  refine va_get (D := D) (C := RX0) (T := TX0) (N := 2) (ci := 0) (v := .ref (ad 0)) hx hb hts nX0 hown hK hP 101 w_an rfl 1 (by decide) k15 (fun _ h9 => h9) rfl dX0_aboutTask_1 ?_
  refine lv_iload_n hx hb dX0_aboutTask_4 rfl (lv_at hl 1 rfl) ?_
  refine x_Vq (As := [.int x]) (rest0 := []) ⟨hx, hb, hml, hown, hts⟩ (c_X6_taskAt l D cA ad tr rest s.heap.size τ x) (cwV 1 hts gX0_aboutTask_X6_taskAt rfl rfl rfl (by decide +kernel) ⟨Nat.le_of_ble_eq_true rfl, Nat.le_of_ble_eq_true rfl⟩) hK hP hD hS hA 0 w_st rfl hl.1 rfl rfl (Nat.le_of_ble_eq_true rfl) ⟨Nat.zero_le _, Nat.zero_le _⟩ dX0_aboutTask_5 (fun r1 _ H locs hw hP hD hS => ?_)
  have er1 := hw
  subst er1
  rcases hi2 : m_at x 24 with _ | i2
  · refine W.eq (g2 := F0 m 8 ls [.null]) rfl ?_
    refine lv_astore_nN (lv' := [(3, .null), (0, .ref (ad 101)), (1, .int x), (2, .int what)]) hx hb dX0_aboutTask_8 rfl hl (by decide) rfl (fun ls hl => ?_)
    refine lv_aload_nN hx hb dX0_aboutTask_9 rfl (lv_at hl 0 rfl) ?_
    refine lv_ifnonnullN hx hb dX0_aboutTask_10 ?_
    refine lv_iconst (v := (-1)) hx hb dX0_aboutTask_13 (by decide) ?_
    exact x_iret hx hb hr hlocks hK () hP hD hS dX0_aboutTask_14 (by simp (decide := true) [m_aboutTask, n24, n40, n2, n27, n4, hi2])
  · have bi2 := m_at_lt hi2 (by decide)
    refine W.eq (g2 := F0 m 8 ls [.ref (ad (i2 + 6))]) rfl ?_
    refine lv_astore_n (lv' := [(3, .ref (ad (i2 + 6))), (0, .ref (ad 101)), (1, .int x), (2, .int what)]) hx hb dX0_aboutTask_8 rfl hl (by decide) rfl (fun ls hl => ?_)
    refine lv_aload_n hx hb dX0_aboutTask_9 rfl (lv_at hl 0 rfl) ?_
    refine lv_ifnonnull (tgt := 15) hx hb dX0_aboutTask_10 (by decide) ?_
    refine lv_iload_n hx hb dX0_aboutTask_15 rfl (lv_at hl 3 rfl) ?_
    by_cases q_16_0 : what = 0
    · skip
      refine lv_tableIn (tgt := 64) (off := 48) hx hb dX0_aboutTask_16 (by rw [q_16_0]; decide) (by rw [q_16_0]; decide) (by rw [q_16_0]; decide) (by decide) ?_
      refine lv_aload_n hx hb dX0_aboutTask_64 rfl (lv_at hl 0 rfl) ?_
      refine va_get (D := D) (C := RX7) (T := TX7) (N := 17) (ci := 7) (v := .int (τ (i2 + 6) 2)) hx hb hts nX7 hown hK hP (i2 + 6) (w_tk bi2) rfl 2 (by decide) k25 (fun _ h9 => h9) rfl dX0_aboutTask_65 ?_
      exact x_iret hx hb hr hlocks hK () hP hD hS dX0_aboutTask_68 (by simp (decide := true) [m_aboutTask, n24, n40, n2, n27, n4, hi2, eq_true q_16_0])
    by_cases q_16_1 : what = 1
    · skip
      refine lv_tableIn (tgt := 69) (off := 53) hx hb dX0_aboutTask_16 (by rw [q_16_1]; decide) (by rw [q_16_1]; decide) (by rw [q_16_1]; decide) (by decide) ?_
      refine lv_aload_n hx hb dX0_aboutTask_69 rfl (lv_at hl 0 rfl) ?_
      refine va_get (D := D) (C := RX7) (T := TX7) (N := 17) (ci := 7) (v := .int (τ (i2 + 6) 3)) hx hb hts nX7 hown hK hP (i2 + 6) (w_tk bi2) rfl 3 (by decide) k31 (fun _ h9 => h9) rfl dX0_aboutTask_70 ?_
      exact x_iret hx hb hr hlocks hK () hP hD hS dX0_aboutTask_73 (by simp (decide := true) [m_aboutTask, n24, n40, n2, n27, n4, hi2, q_16_0, eq_true q_16_1])
    by_cases q_16_2 : what = 2
    · skip
      refine lv_tableIn (tgt := 74) (off := 58) hx hb dX0_aboutTask_16 (by rw [q_16_2]; decide) (by rw [q_16_2]; decide) (by rw [q_16_2]; decide) (by decide) ?_
      refine lv_aload_n hx hb dX0_aboutTask_74 rfl (lv_at hl 0 rfl) ?_
      refine x_Vi (As := []) (rest0 := []) ⟨hx, hb, hml, hown, hts⟩ (c_X7_isOver l D cA ad tr rest H.size τ i2 bi2) (cwV 0 hts gX0_aboutTask_X7_isOver rfl rfl rfl (by decide +kernel) ⟨Nat.le_of_ble_eq_true rfl, Nat.le_of_ble_eq_true rfl⟩) hK hP hD hS hA (i2 + 6) (w_tk bi2) rfl hl.1 rfl rfl (Nat.le_of_ble_eq_true rfl) ⟨Nat.zero_le _, Nat.zero_le _⟩ dX0_aboutTask_75 (fun r3 _ H locs hw hP hD hS => ?_)
      have er3 := hw
      refine lv_if_eq (tgt := 85) hx hb dX0_aboutTask_78 (by decide) (fun c_78_4 => ?_) (fun c_78_4 => ?_)
      -- 78 jumps
      · skip
        have dc_78_4 := bI_f er3 c_78_4
        refine lv_aload_n hx hb dX0_aboutTask_85 rfl (lv_at hl 0 rfl) ?_
        refine va_get (D := D) (C := RX7) (T := TX7) (N := 17) (ci := 7) (v := .int (τ (i2 + 6) 4)) hx hb hts nX7 hown hK hP (i2 + 6) (w_tk bi2) rfl 4 (by decide) k37 (fun _ h9 => h9) rfl dX0_aboutTask_86 ?_
        exact x_iret hx hb hr hlocks hK () hP hD hS dX0_aboutTask_89 (by subst er3; simp (decide := true) [m_aboutTask, n24, n40, n2, n27, n4, hi2, q_16_0, q_16_1, eq_true q_16_2, dc_78_4])
      -- 78 goes on
      · skip
        have dc_78_4 := bI_t er3 c_78_4
        refine lv_iconst (v := (-1)) hx hb dX0_aboutTask_81 (by decide) ?_
        refine lv_goto (tgt := 89) hx hb dX0_aboutTask_82 (by decide) ?_
        exact x_iret hx hb hr hlocks hK () hP hD hS dX0_aboutTask_89 (by subst er3; simp (decide := true) [m_aboutTask, n24, n40, n2, n27, n4, hi2, q_16_0, q_16_1, eq_true q_16_2, dc_78_4])
    by_cases q_16_3 : what = 3
    · skip
      refine lv_tableIn (tgt := 90) (off := 74) hx hb dX0_aboutTask_16 (by rw [q_16_3]; decide) (by rw [q_16_3]; decide) (by rw [q_16_3]; decide) (by decide) ?_
      refine lv_aload_n hx hb dX0_aboutTask_90 rfl (lv_at hl 0 rfl) ?_
      refine va_get (D := D) (C := RX7) (T := TX7) (N := 17) (ci := 7) (v := .int (τ (i2 + 6) 5)) hx hb hts nX7 hown hK hP (i2 + 6) (w_tk bi2) rfl 5 (by decide) k40 (fun _ h9 => h9) rfl dX0_aboutTask_91 ?_
      exact x_iret hx hb hr hlocks hK () hP hD hS dX0_aboutTask_94 (by simp (decide := true) [m_aboutTask, n24, n40, n2, n27, n4, hi2, q_16_0, q_16_1, q_16_2, eq_true q_16_3])
    by_cases q_16_4 : what = 4
    · skip
      refine lv_tableIn (tgt := 95) (off := 79) hx hb dX0_aboutTask_16 (by rw [q_16_4]; decide) (by rw [q_16_4]; decide) (by rw [q_16_4]; decide) (by decide) ?_
      refine lv_aload_n hx hb dX0_aboutTask_95 rfl (lv_at hl 0 rfl) ?_
      refine va_get (D := D) (C := RX7) (T := TX7) (N := 17) (ci := 7) (v := .int (τ (i2 + 6) 6)) hx hb hts nX7 hown hK hP (i2 + 6) (w_tk bi2) rfl 6 (by decide) k43 (fun _ h9 => h9) rfl dX0_aboutTask_96 ?_
      exact x_iret hx hb hr hlocks hK () hP hD hS dX0_aboutTask_99 (by simp (decide := true) [m_aboutTask, n24, n40, n2, n27, n4, hi2, q_16_0, q_16_1, q_16_2, q_16_3, eq_true q_16_4])
    by_cases q_16_5 : what = 5
    · skip
      refine lv_tableIn (tgt := 100) (off := 84) hx hb dX0_aboutTask_16 (by rw [q_16_5]; decide) (by rw [q_16_5]; decide) (by rw [q_16_5]; decide) (by decide) ?_
      refine lv_aload_n hx hb dX0_aboutTask_100 rfl (lv_at hl 0 rfl) ?_
      refine va_get (D := D) (C := RX7) (T := TX7) (N := 17) (ci := 7) (v := .int (τ (i2 + 6) 8)) hx hb hts nX7 hown hK hP (i2 + 6) (w_tk bi2) rfl 8 (by decide) k46 (fun _ h9 => h9) rfl dX0_aboutTask_101 ?_
      exact x_iret hx hb hr hlocks hK () hP hD hS dX0_aboutTask_104 (by simp (decide := true) [m_aboutTask, n24, n40, n2, n27, n4, hi2, q_16_0, q_16_1, q_16_2, q_16_3, q_16_4, eq_true q_16_5])
    by_cases q_16_6 : what = 6
    · skip
      refine lv_tableIn (tgt := 105) (off := 89) hx hb dX0_aboutTask_16 (by rw [q_16_6]; decide) (by rw [q_16_6]; decide) (by rw [q_16_6]; decide) (by decide) ?_
      refine lv_aload_n hx hb dX0_aboutTask_105 rfl (lv_at hl 1 rfl) ?_
      refine lv_aload_n hx hb dX0_aboutTask_106 rfl (lv_at hl 0 rfl) ?_
      refine x_Vi (As := [.ref (ad (i2 + 6))]) (rest0 := []) ⟨hx, hb, hml, hown, hts⟩ (c_X0_placeInRow l D cA ad tr rest H.size τ i2 bi2) (cwV 1 hts gX0_aboutTask_X0_placeInRow rfl rfl rfl (by decide +kernel) ⟨Nat.le_of_ble_eq_true rfl, Nat.le_of_ble_eq_true rfl⟩) hK hP hD hS hA 101 w_an rfl hl.1 rfl rfl (Nat.le_of_ble_eq_true rfl) ⟨Nat.zero_le _, Nat.zero_le _⟩ dX0_aboutTask_107 (fun r5 _ H locs hw hP hD hS => ?_)
      have er5 := hw
      exact x_iret hx hb hr hlocks hK () hP hD hS dX0_aboutTask_110 (by subst er5; simp (decide := true) [m_aboutTask, n24, n40, n2, n27, n4, hi2, q_16_0, q_16_1, q_16_2, q_16_3, q_16_4, q_16_5, eq_true q_16_6])
    by_cases q_16_7 : what = 7
    · skip
      refine lv_tableIn (tgt := 111) (off := 95) hx hb dX0_aboutTask_16 (by rw [q_16_7]; decide) (by rw [q_16_7]; decide) (by rw [q_16_7]; decide) (by decide) ?_
      refine lv_aload_n hx hb dX0_aboutTask_111 rfl (lv_at hl 0 rfl) ?_
      refine x_Vi (As := []) (rest0 := []) ⟨hx, hb, hml, hown, hts⟩ (c_X7_isOver l D cA ad tr rest H.size τ i2 bi2) (cwV 0 hts gX0_aboutTask_X7_isOver rfl rfl rfl (by decide +kernel) ⟨Nat.le_of_ble_eq_true rfl, Nat.le_of_ble_eq_true rfl⟩) hK hP hD hS hA (i2 + 6) (w_tk bi2) rfl hl.1 rfl rfl (Nat.le_of_ble_eq_true rfl) ⟨Nat.zero_le _, Nat.zero_le _⟩ dX0_aboutTask_112 (fun r6 _ H locs hw hP hD hS => ?_)
      have er6 := hw
      refine lv_if_ne (tgt := 134) hx hb dX0_aboutTask_115 (by decide) (fun c_115_7 => ?_) (fun c_115_7 => ?_)
      -- 115 jumps
      · skip
        have dc_115_7 := bI_t er6 c_115_7
        refine lv_iconst (v := 0) hx hb dX0_aboutTask_134 (by decide) ?_
        exact x_iret hx hb hr hlocks hK () hP hD hS dX0_aboutTask_135 (by subst er6; simp (decide := true) [m_aboutTask, n24, n40, n2, n27, n4, hi2, q_16_0, q_16_1, q_16_2, q_16_3, q_16_4, q_16_5, q_16_6, eq_true q_16_7, dc_115_7])
      -- 115 goes on
      · skip
        have dc_115_7 := bI_f er6 c_115_7
        refine lv_aload_n hx hb dX0_aboutTask_118 rfl (lv_at hl 1 rfl) ?_
        refine va_get (D := D) (C := RX0) (T := TX0) (N := 2) (ci := 0) (v := .ref (ad 0)) hx hb hts nX0 hown hK hP 101 w_an rfl 1 (by decide) k15 (fun _ h9 => h9) rfl dX0_aboutTask_119 ?_
        refine lv_aload_n hx hb dX0_aboutTask_122 rfl (lv_at hl 0 rfl) ?_
        refine lv_iconst (v := (-1)) hx hb dX0_aboutTask_123 (by decide) ?_
        refine x_Vi (As := [.ref (ad (i2 + 6)), .int (-1)]) (rest0 := []) ⟨hx, hb, hml, hown, hts⟩ (c_X6_isHit l D cA ad tr rest H.size τ i2 bi2 (-1)) (cwV 2 hts gX0_aboutTask_X6_isHit rfl rfl rfl (by decide +kernel) ⟨Nat.le_of_ble_eq_true rfl, Nat.le_of_ble_eq_true rfl⟩) hK hP hD hS hA 0 w_st rfl hl.1 rfl rfl (Nat.le_of_ble_eq_true rfl) ⟨Nat.zero_le _, Nat.zero_le _⟩ dX0_aboutTask_124 (fun r8 _ H locs hw hP hD hS => ?_)
        have er8 := hw
        refine lv_if_eq (tgt := 134) hx hb dX0_aboutTask_127 (by decide) (fun c_127_9 => ?_) (fun c_127_9 => ?_)
        -- 127 jumps
        · skip
          have dc_127_9 := bI_f er8 c_127_9
          refine lv_iconst (v := 0) hx hb dX0_aboutTask_134 (by decide) ?_
          exact x_iret hx hb hr hlocks hK () hP hD hS dX0_aboutTask_135 (by subst er8 er6; simp (decide := true) [m_aboutTask, n24, n40, n2, n27, n4, hi2, q_16_0, q_16_1, q_16_2, q_16_3, q_16_4, q_16_5, q_16_6, eq_true q_16_7, dc_115_7, dc_127_9])
        -- 127 goes on
        · skip
          have dc_127_9 := bI_t er8 c_127_9
          refine lv_iconst (v := 1) hx hb dX0_aboutTask_130 (by decide) ?_
          refine lv_goto (tgt := 135) hx hb dX0_aboutTask_131 (by decide) ?_
          exact x_iret hx hb hr hlocks hK () hP hD hS dX0_aboutTask_135 (by subst er8 er6; simp (decide := true) [m_aboutTask, n24, n40, n2, n27, n4, hi2, q_16_0, q_16_1, q_16_2, q_16_3, q_16_4, q_16_5, q_16_6, eq_true q_16_7, dc_115_7, dc_127_9])
    refine lv_tableOut (tgt := 136) hx hb dX0_aboutTask_16 (by have eq_16_0 : (what).toInt ≠ 0 := fun h => q_16_0 (Int32.toInt_inj.mp (h.trans (by decide))); have eq_16_1 : (what).toInt ≠ 1 := fun h => q_16_1 (Int32.toInt_inj.mp (h.trans (by decide))); have eq_16_2 : (what).toInt ≠ 2 := fun h => q_16_2 (Int32.toInt_inj.mp (h.trans (by decide))); have eq_16_3 : (what).toInt ≠ 3 := fun h => q_16_3 (Int32.toInt_inj.mp (h.trans (by decide))); have eq_16_4 : (what).toInt ≠ 4 := fun h => q_16_4 (Int32.toInt_inj.mp (h.trans (by decide))); have eq_16_5 : (what).toInt ≠ 5 := fun h => q_16_5 (Int32.toInt_inj.mp (h.trans (by decide))); have eq_16_6 : (what).toInt ≠ 6 := fun h => q_16_6 (Int32.toInt_inj.mp (h.trans (by decide))); have eq_16_7 : (what).toInt ≠ 7 := fun h => q_16_7 (Int32.toInt_inj.mp (h.trans (by decide))); omega) (by decide) ?_
    refine lv_aload_n hx hb dX0_aboutTask_136 rfl (lv_at hl 0 rfl) ?_
    refine va_get (D := D) (C := RX7) (T := TX7) (N := 17) (ci := 7) (v := .int (τ (i2 + 6) 3)) hx hb hts nX7 hown hK hP (i2 + 6) (w_tk bi2) rfl 3 (by decide) k31 (fun _ h9 => h9) rfl dX0_aboutTask_137 ?_
    refine lv_iconst (v := 1) hx hb dX0_aboutTask_140 (by decide) ?_
    refine lv_icmp_ne (tgt := 151) hx hb dX0_aboutTask_141 (by decide) (fun c_141_10 => ?_) (fun c_141_10 => ?_)
    -- 141 jumps
    · skip
      refine lv_iconst (v := 0) hx hb dX0_aboutTask_151 (by decide) ?_
      exact x_iret hx hb hr hlocks hK () hP hD hS dX0_aboutTask_152 (by simp (decide := true) [m_aboutTask, n24, n40, n2, n27, n4, hi2, q_16_0, q_16_1, q_16_2, q_16_3, q_16_4, q_16_5, q_16_6, q_16_7, c_141_10])
    -- 141 goes on
    · skip
      refine lv_aload_n hx hb dX0_aboutTask_144 rfl (lv_at hl 0 rfl) ?_
      refine va_get (D := D) (C := RX7) (T := TX7) (N := 17) (ci := 7) (v := .int (τ (i2 + 6) 9)) hx hb hts nX7 hown hK hP (i2 + 6) (w_tk bi2) rfl 9 (by decide) k57 (fun _ h9 => h9) rfl dX0_aboutTask_145 ?_
      refine lv_goto (tgt := 152) hx hb dX0_aboutTask_148 (by decide) ?_
      exact x_iret hx hb hr hlocks hK () hP hD hS dX0_aboutTask_152 (by simp (decide := true) [m_aboutTask, n24, n40, n2, n27, n4, hi2, q_16_0, q_16_1, q_16_2, q_16_3, q_16_4, q_16_5, q_16_6, q_16_7, eq_true c_141_10])

set_option maxHeartbeats 4000000 in
set_option maxRecDepth 100000 in
theorem c_X0_aboutLocal (l : Launch) (D : va_G) (cA : Nat → ClassId) (ad : Nat → Nat) (tr : List (ClassId × FieldType)) (rest : va_W) (sz : Nat) (τ : Sg)  (x p0 : Int32) : Met l yX0_aboutLocal wsX0_aboutLocal ({ frames := 1, cells := 0, slots := 0, locals := 21 }) (va_Pc [.ref (ad 101), .int x, .int p0] (inW D (tyB cA ++ tr) (wB cA ad τ ++ rest) sz)) (va_Qi (fun (r : Int32) (_ : Unit) => r = m_aboutLocal τ x p0) (fun _ : Unit => outW D (tyB cA ++ tr) (va_A (wB cA ad τ ++ rest) sz) (wB cA ad τ ++ rest)) (va_A (wB cA ad τ ++ rest) sz)) 0 0 (va_A (wB cA ad τ ++ rest) sz) := by
  refine Met.ofW (cc := cX0_aboutLocal) (maxL := 4) (ret := (some .int)) (by decide) rfl ?_
  intro p e s m args below meth c s₁ B hml hv
  obtain ⟨rfl, hsz, hP, hK, hD0⟩ := hv
  have hx := B.exec
  have hb := B.bytes
  have hr := B.returns
  have hts := atoms_spec (ws := wsX0_aboutLocal) B.pre
  have hown : s.vm.findClass RX0 = some m.cls := findClass_of_methodNamed B.named
  have hlocks := B.notSynchronized
  subst hsz
  have hD := hD0.self (sz := s.heap.size)
  clear hD0
  generalize hAe : va_A (wB cA ad τ ++ rest) s.heap.size = A at hD ⊢
  have hA : ∀ q : Nat, s.heap.size ≤ q → A q := fun q h => by rw [← hAe]; exact Or.inr h
  clear hAe
  have hS : va_S A s.heap s.heap [] := va_S.rf
  have hP : va_P D vwCl (wB cA ad τ ++ rest) s.heap := hP
  have hl := lv_entry ([.ref (ad 101), .int x, .int p0]) (n := 4) (Nat.le_of_ble_eq_true rfl)
  rw [lg_entry_eq]
  generalize (lg_sl ([.ref (ad 101), .int x, .int p0]) ++ List.replicate (4 - (lg_sl ([.ref (ad 101), .int x, .int p0])).length) Slot.unset).toArray = ls at hl ⊢
  have hl : lv_has ls 4 [(0, .ref (ad 101)), (1, .int x), (2, .int p0)] := hl
  have nX0 : ∀ w ∈ u_ws RX0 TX0 2, w ∈ wsX0_aboutLocal := by decide +kernel
  have k15 := hts (.fieldLink RX0 15 "ScopeRow$Answers" "state" "LScopeRow$State;") (by decide +kernel)
  refine lv_aload_n hx hb dX0_aboutLocal_0 rfl (lv_at hl 0 rfl) ?_
  refine va_get (D := D) (C := RX0) (T := TX0) (N := 2) (ci := 0) (v := .ref (ad 0)) hx hb hts nX0 hown hK hP 101 w_an rfl 1 (by decide) k15 (fun _ h9 => h9) rfl dX0_aboutLocal_1 ?_
  refine lv_iload_n hx hb dX0_aboutLocal_4 rfl (lv_at hl 1 rfl) ?_
  refine x_Vq (As := [.int x]) (rest0 := []) ⟨hx, hb, hml, hown, hts⟩ (c_X6_taskAt l D cA ad tr rest s.heap.size τ x) (cwV 1 hts gX0_aboutLocal_X6_taskAt rfl rfl rfl (by decide +kernel) ⟨Nat.le_of_ble_eq_true rfl, Nat.le_of_ble_eq_true rfl⟩) hK hP hD hS hA 0 w_st rfl hl.1 rfl rfl (Nat.le_of_ble_eq_true rfl) ⟨Nat.zero_le _, Nat.zero_le _⟩ dX0_aboutLocal_5 (fun r1 _ H locs hw hP hD hS => ?_)
  have er1 := hw
  subst er1
  rcases hi2 : m_at x 24 with _ | i2
  · refine W.eq (g2 := F0 m 8 ls [.null]) rfl ?_
    refine lv_astore_nN (lv' := [(3, .null), (0, .ref (ad 101)), (1, .int x), (2, .int p0)]) hx hb dX0_aboutLocal_8 rfl hl (by decide) rfl (fun ls hl => ?_)
    refine lv_aload_nN hx hb dX0_aboutLocal_9 rfl (lv_at hl 0 rfl) ?_
    refine lv_ifnullN (tgt := 21) hx hb dX0_aboutLocal_10 (by decide) ?_
    refine lv_iconst (v := (-1)) hx hb dX0_aboutLocal_21 (by decide) ?_
    exact x_iret hx hb hr hlocks hK () hP hD hS dX0_aboutLocal_22 (by simp [m_aboutLocal, n24, n40, n2, n27, n4, hi2])
  · have bi2 := m_at_lt hi2 (by decide)
    refine W.eq (g2 := F0 m 8 ls [.ref (ad (i2 + 6))]) rfl ?_
    refine lv_astore_n (lv' := [(3, .ref (ad (i2 + 6))), (0, .ref (ad 101)), (1, .int x), (2, .int p0)]) hx hb dX0_aboutLocal_8 rfl hl (by decide) rfl (fun ls hl => ?_)
    refine lv_aload_n hx hb dX0_aboutLocal_9 rfl (lv_at hl 0 rfl) ?_
    refine lv_ifnull hx hb dX0_aboutLocal_10 ?_
    refine lv_aload_n hx hb dX0_aboutLocal_13 rfl (lv_at hl 0 rfl) ?_
    refine lv_iload_n hx hb dX0_aboutLocal_14 rfl (lv_at hl 3 rfl) ?_
    refine x_Vi (As := [.int p0]) (rest0 := []) ⟨hx, hb, hml, hown, hts⟩ (c_X7_localAt l D cA ad tr rest H.size τ i2 bi2 p0) (cwV 1 hts gX0_aboutLocal_X7_localAt rfl rfl rfl (by decide +kernel) ⟨Nat.le_of_ble_eq_true rfl, Nat.le_of_ble_eq_true rfl⟩) hK hP hD hS hA (i2 + 6) (w_tk bi2) rfl hl.1 rfl rfl (Nat.le_of_ble_eq_true rfl) ⟨Nat.zero_le _, Nat.zero_le _⟩ dX0_aboutLocal_15 (fun r3 _ H locs hw hP hD hS => ?_)
    have er3 := hw
    refine lv_goto (tgt := 22) hx hb dX0_aboutLocal_18 (by decide) ?_
    exact x_iret hx hb hr hlocks hK () hP hD hS dX0_aboutLocal_22 (by subst er3; simp [m_aboutLocal, n24, n40, n2, n27, n4, hi2])

set_option maxHeartbeats 4000000 in
set_option maxRecDepth 100000 in
theorem c_X0_aboutScope (l : Launch) (D : va_G) (cA : Nat → ClassId) (ad : Nat → Nat) (tr : List (ClassId × FieldType)) (rest : va_W) (sz : Nat) (τ : Sg)  (x what : Int32) : Met l yX0_aboutScope wsX0_aboutScope ({ frames := 1, cells := 0, slots := 0, locals := 21 }) (va_Pc [.ref (ad 101), .int x, .int what] (inW D (tyB cA ++ tr) (wB cA ad τ ++ rest) sz)) (va_Qi (fun (r : Int32) (_ : Unit) => r = m_aboutScope τ x what) (fun _ : Unit => outW D (tyB cA ++ tr) (va_A (wB cA ad τ ++ rest) sz) (wB cA ad τ ++ rest)) (va_A (wB cA ad τ ++ rest) sz)) 0 0 (va_A (wB cA ad τ ++ rest) sz) := by
  refine Met.ofW (cc := cX0_aboutScope) (maxL := 4) (ret := (some .int)) (by decide) rfl ?_
  intro p e s m args below meth c s₁ B hml hv
  obtain ⟨rfl, hsz, hP, hK, hD0⟩ := hv
  have hx := B.exec
  have hb := B.bytes
  have hr := B.returns
  have hts := atoms_spec (ws := wsX0_aboutScope) B.pre
  have hown : s.vm.findClass RX0 = some m.cls := findClass_of_methodNamed B.named
  have hlocks := B.notSynchronized
  subst hsz
  have hD := hD0.self (sz := s.heap.size)
  clear hD0
  generalize hAe : va_A (wB cA ad τ ++ rest) s.heap.size = A at hD ⊢
  have hA : ∀ q : Nat, s.heap.size ≤ q → A q := fun q h => by rw [← hAe]; exact Or.inr h
  clear hAe
  have hS : va_S A s.heap s.heap [] := va_S.rf
  have hP : va_P D vwCl (wB cA ad τ ++ rest) s.heap := hP
  have hl := lv_entry ([.ref (ad 101), .int x, .int what]) (n := 4) (Nat.le_of_ble_eq_true rfl)
  rw [lg_entry_eq]
  generalize (lg_sl ([.ref (ad 101), .int x, .int what]) ++ List.replicate (4 - (lg_sl ([.ref (ad 101), .int x, .int what])).length) Slot.unset).toArray = ls at hl ⊢
  have hl : lv_has ls 4 [(0, .ref (ad 101)), (1, .int x), (2, .int what)] := hl
  have nX0 : ∀ w ∈ u_ws RX0 TX0 2, w ∈ wsX0_aboutScope := by decide +kernel
  have nX5 : ∀ w ∈ u_ws RX5 TX5 14, w ∈ wsX0_aboutScope := by decide +kernel
  have k15 := hts (.fieldLink RX0 15 "ScopeRow$Answers" "state" "LScopeRow$State;") (by decide +kernel)
  have k78 := hts (.fieldLink RX0 78 "ScopeRow$Scope" "opener" "I") (by decide +kernel)
  have k83 := hts (.fieldLink RX0 83 "ScopeRow$Scope" "state" "I") (by decide +kernel)
  have k84 := hts (.fieldLink RX0 84 "ScopeRow$Scope" "cancelled" "Z") (by decide +kernel)
  have k88 := hts (.fieldLink RX0 88 "ScopeRow$Scope" "deadline" "I") (by decide +kernel)
  have k91 := hts (.fieldLink RX0 91 "ScopeRow$Scope" "shield" "Z") (by decide +kernel)
  have k94 := hts (.fieldLink RX0 94 "ScopeRow$Scope" "entered" "I") (by decide +kernel)
  have k97 := hts (.fieldLink RX0 97 "ScopeRow$Scope" "over" "I") (by decide +kernel)
  have k100 := hts (.fieldLink RX0 100 "ScopeRow$Scope" "failed" "I") (by decide +kernel)
  have k103 := hts (.fieldLink RX0 103 "ScopeRow$Scope" "firstFailed" "I") (by decide +kernel)
  refine lv_aload_n hx hb dX0_aboutScope_0 rfl (lv_at hl 0 rfl) ?_
  refine va_get (D := D) (C := RX0) (T := TX0) (N := 2) (ci := 0) (v := .ref (ad 0)) hx hb hts nX0 hown hK hP 101 w_an rfl 1 (by decide) k15 (fun _ h9 => h9) rfl dX0_aboutScope_1 ?_
  refine lv_iload_n hx hb dX0_aboutScope_4 rfl (lv_at hl 1 rfl) ?_
  refine x_Vq (As := [.int x]) (rest0 := []) ⟨hx, hb, hml, hown, hts⟩ (c_X6_scopeAt l D cA ad tr rest s.heap.size τ x) (cwV 1 hts gX0_aboutScope_X6_scopeAt rfl rfl rfl (by decide +kernel) ⟨Nat.le_of_ble_eq_true rfl, Nat.le_of_ble_eq_true rfl⟩) hK hP hD hS hA 0 w_st rfl hl.1 rfl rfl (Nat.le_of_ble_eq_true rfl) ⟨Nat.zero_le _, Nat.zero_le _⟩ dX0_aboutScope_5 (fun r1 _ H locs hw hP hD hS => ?_)
  have er1 := hw
  subst er1
  rcases hi2 : m_at x 40 with _ | i2
  · refine W.eq (g2 := F0 m 8 ls [.null]) rfl ?_
    refine lv_astore_nN (lv' := [(3, .null), (0, .ref (ad 101)), (1, .int x), (2, .int what)]) hx hb dX0_aboutScope_8 rfl hl (by decide) rfl (fun ls hl => ?_)
    refine lv_aload_nN hx hb dX0_aboutScope_9 rfl (lv_at hl 0 rfl) ?_
    refine lv_ifnonnullN hx hb dX0_aboutScope_10 ?_
    refine lv_iconst (v := (-1)) hx hb dX0_aboutScope_13 (by decide) ?_
    exact x_iret hx hb hr hlocks hK () hP hD hS dX0_aboutScope_14 (by simp (decide := true) [m_aboutScope, n24, n40, n2, n27, n4, hi2])
  · have bi2 := m_at_lt hi2 (by decide)
    refine W.eq (g2 := F0 m 8 ls [.ref (ad (i2 + 54))]) rfl ?_
    refine lv_astore_n (lv' := [(3, .ref (ad (i2 + 54))), (0, .ref (ad 101)), (1, .int x), (2, .int what)]) hx hb dX0_aboutScope_8 rfl hl (by decide) rfl (fun ls hl => ?_)
    refine lv_aload_n hx hb dX0_aboutScope_9 rfl (lv_at hl 0 rfl) ?_
    refine lv_ifnonnull (tgt := 15) hx hb dX0_aboutScope_10 (by decide) ?_
    refine lv_iload_n hx hb dX0_aboutScope_15 rfl (lv_at hl 3 rfl) ?_
    by_cases q_16_0 : what = 0
    · skip
      refine lv_tableIn (tgt := 64) (off := 48) hx hb dX0_aboutScope_16 (by rw [q_16_0]; decide) (by rw [q_16_0]; decide) (by rw [q_16_0]; decide) (by decide) ?_
      refine lv_aload_n hx hb dX0_aboutScope_64 rfl (lv_at hl 0 rfl) ?_
      refine va_get (D := D) (C := RX5) (T := TX5) (N := 14) (ci := 5) (v := .int (τ (i2 + 54) 2)) hx hb hts nX5 hown hK hP (i2 + 54) (w_sc bi2) rfl 2 (by decide) k78 (fun _ h9 => h9) rfl dX0_aboutScope_65 ?_
      exact x_iret hx hb hr hlocks hK () hP hD hS dX0_aboutScope_68 (by simp (decide := true) [m_aboutScope, n24, n40, n2, n27, n4, hi2, eq_true q_16_0])
    by_cases q_16_1 : what = 1
    · skip
      refine lv_tableIn (tgt := 69) (off := 53) hx hb dX0_aboutScope_16 (by rw [q_16_1]; decide) (by rw [q_16_1]; decide) (by rw [q_16_1]; decide) (by decide) ?_
      refine lv_aload_n hx hb dX0_aboutScope_69 rfl (lv_at hl 0 rfl) ?_
      refine va_get (D := D) (C := RX5) (T := TX5) (N := 14) (ci := 5) (v := .int (τ (i2 + 54) 1)) hx hb hts nX5 hown hK hP (i2 + 54) (w_sc bi2) rfl 1 (by decide) k83 (fun _ h9 => h9) rfl dX0_aboutScope_70 ?_
      exact x_iret hx hb hr hlocks hK () hP hD hS dX0_aboutScope_73 (by simp (decide := true) [m_aboutScope, n24, n40, n2, n27, n4, hi2, q_16_0, eq_true q_16_1])
    by_cases q_16_2 : what = 2
    · skip
      refine lv_tableIn (tgt := 74) (off := 58) hx hb dX0_aboutScope_16 (by rw [q_16_2]; decide) (by rw [q_16_2]; decide) (by rw [q_16_2]; decide) (by decide) ?_
      refine lv_aload_n hx hb dX0_aboutScope_74 rfl (lv_at hl 0 rfl) ?_
      refine va_get (D := D) (C := RX5) (T := TX5) (N := 14) (ci := 5) (v := .int (τ (i2 + 54) 5)) hx hb hts nX5 hown hK hP (i2 + 54) (w_sc bi2) rfl 5 (by decide) k84 (fun _ h9 => h9) rfl dX0_aboutScope_75 ?_
      refine lv_if_eq (tgt := 85) hx hb dX0_aboutScope_78 (by decide) (fun c_78_3 => ?_) (fun c_78_3 => ?_)
      -- 78 jumps
      · skip
        refine lv_iconst (v := 0) hx hb dX0_aboutScope_85 (by decide) ?_
        exact x_iret hx hb hr hlocks hK () hP hD hS dX0_aboutScope_86 (by simp (decide := true) [m_aboutScope, n24, n40, n2, n27, n4, hi2, q_16_0, q_16_1, eq_true q_16_2, eq_true c_78_3])
      -- 78 goes on
      · skip
        refine lv_iconst (v := 1) hx hb dX0_aboutScope_81 (by decide) ?_
        refine lv_goto (tgt := 86) hx hb dX0_aboutScope_82 (by decide) ?_
        exact x_iret hx hb hr hlocks hK () hP hD hS dX0_aboutScope_86 (by simp (decide := true) [m_aboutScope, n24, n40, n2, n27, n4, hi2, q_16_0, q_16_1, eq_true q_16_2, c_78_3])
    by_cases q_16_3 : what = 3
    · skip
      refine lv_tableIn (tgt := 87) (off := 71) hx hb dX0_aboutScope_16 (by rw [q_16_3]; decide) (by rw [q_16_3]; decide) (by rw [q_16_3]; decide) (by decide) ?_
      refine lv_aload_n hx hb dX0_aboutScope_87 rfl (lv_at hl 0 rfl) ?_
      refine va_get (D := D) (C := RX5) (T := TX5) (N := 14) (ci := 5) (v := .int (τ (i2 + 54) 7)) hx hb hts nX5 hown hK hP (i2 + 54) (w_sc bi2) rfl 7 (by decide) k88 (fun _ h9 => h9) rfl dX0_aboutScope_88 ?_
      exact x_iret hx hb hr hlocks hK () hP hD hS dX0_aboutScope_91 (by simp (decide := true) [m_aboutScope, n24, n40, n2, n27, n4, hi2, q_16_0, q_16_1, q_16_2, eq_true q_16_3])
    by_cases q_16_4 : what = 4
    · skip
      refine lv_tableIn (tgt := 92) (off := 76) hx hb dX0_aboutScope_16 (by rw [q_16_4]; decide) (by rw [q_16_4]; decide) (by rw [q_16_4]; decide) (by decide) ?_
      refine lv_aload_n hx hb dX0_aboutScope_92 rfl (lv_at hl 0 rfl) ?_
      refine va_get (D := D) (C := RX5) (T := TX5) (N := 14) (ci := 5) (v := .int (τ (i2 + 54) 6)) hx hb hts nX5 hown hK hP (i2 + 54) (w_sc bi2) rfl 6 (by decide) k91 (fun _ h9 => h9) rfl dX0_aboutScope_93 ?_
      refine lv_if_eq (tgt := 103) hx hb dX0_aboutScope_96 (by decide) (fun c_96_4 => ?_) (fun c_96_4 => ?_)
      -- 96 jumps
      · skip
        refine lv_iconst (v := 0) hx hb dX0_aboutScope_103 (by decide) ?_
        exact x_iret hx hb hr hlocks hK () hP hD hS dX0_aboutScope_104 (by simp (decide := true) [m_aboutScope, n24, n40, n2, n27, n4, hi2, q_16_0, q_16_1, q_16_2, q_16_3, eq_true q_16_4, eq_true c_96_4])
      -- 96 goes on
      · skip
        refine lv_iconst (v := 1) hx hb dX0_aboutScope_99 (by decide) ?_
        refine lv_goto (tgt := 104) hx hb dX0_aboutScope_100 (by decide) ?_
        exact x_iret hx hb hr hlocks hK () hP hD hS dX0_aboutScope_104 (by simp (decide := true) [m_aboutScope, n24, n40, n2, n27, n4, hi2, q_16_0, q_16_1, q_16_2, q_16_3, eq_true q_16_4, c_96_4])
    by_cases q_16_5 : what = 5
    · skip
      refine lv_tableIn (tgt := 105) (off := 89) hx hb dX0_aboutScope_16 (by rw [q_16_5]; decide) (by rw [q_16_5]; decide) (by rw [q_16_5]; decide) (by decide) ?_
      refine lv_aload_n hx hb dX0_aboutScope_105 rfl (lv_at hl 0 rfl) ?_
      refine va_get (D := D) (C := RX5) (T := TX5) (N := 14) (ci := 5) (v := .int (τ (i2 + 54) 10)) hx hb hts nX5 hown hK hP (i2 + 54) (w_sc bi2) rfl 10 (by decide) k94 (fun _ h9 => h9) rfl dX0_aboutScope_106 ?_
      exact x_iret hx hb hr hlocks hK () hP hD hS dX0_aboutScope_109 (by simp (decide := true) [m_aboutScope, n24, n40, n2, n27, n4, hi2, q_16_0, q_16_1, q_16_2, q_16_3, q_16_4, eq_true q_16_5])
    by_cases q_16_6 : what = 6
    · skip
      refine lv_tableIn (tgt := 110) (off := 94) hx hb dX0_aboutScope_16 (by rw [q_16_6]; decide) (by rw [q_16_6]; decide) (by rw [q_16_6]; decide) (by decide) ?_
      refine lv_aload_n hx hb dX0_aboutScope_110 rfl (lv_at hl 0 rfl) ?_
      refine va_get (D := D) (C := RX5) (T := TX5) (N := 14) (ci := 5) (v := .int (τ (i2 + 54) 11)) hx hb hts nX5 hown hK hP (i2 + 54) (w_sc bi2) rfl 11 (by decide) k97 (fun _ h9 => h9) rfl dX0_aboutScope_111 ?_
      exact x_iret hx hb hr hlocks hK () hP hD hS dX0_aboutScope_114 (by simp (decide := true) [m_aboutScope, n24, n40, n2, n27, n4, hi2, q_16_0, q_16_1, q_16_2, q_16_3, q_16_4, q_16_5, eq_true q_16_6])
    by_cases q_16_7 : what = 7
    · skip
      refine lv_tableIn (tgt := 115) (off := 99) hx hb dX0_aboutScope_16 (by rw [q_16_7]; decide) (by rw [q_16_7]; decide) (by rw [q_16_7]; decide) (by decide) ?_
      refine lv_aload_n hx hb dX0_aboutScope_115 rfl (lv_at hl 0 rfl) ?_
      refine va_get (D := D) (C := RX5) (T := TX5) (N := 14) (ci := 5) (v := .int (τ (i2 + 54) 12)) hx hb hts nX5 hown hK hP (i2 + 54) (w_sc bi2) rfl 12 (by decide) k100 (fun _ h9 => h9) rfl dX0_aboutScope_116 ?_
      exact x_iret hx hb hr hlocks hK () hP hD hS dX0_aboutScope_119 (by simp (decide := true) [m_aboutScope, n24, n40, n2, n27, n4, hi2, q_16_0, q_16_1, q_16_2, q_16_3, q_16_4, q_16_5, q_16_6, eq_true q_16_7])
    refine lv_tableOut (tgt := 120) hx hb dX0_aboutScope_16 (by have eq_16_0 : (what).toInt ≠ 0 := fun h => q_16_0 (Int32.toInt_inj.mp (h.trans (by decide))); have eq_16_1 : (what).toInt ≠ 1 := fun h => q_16_1 (Int32.toInt_inj.mp (h.trans (by decide))); have eq_16_2 : (what).toInt ≠ 2 := fun h => q_16_2 (Int32.toInt_inj.mp (h.trans (by decide))); have eq_16_3 : (what).toInt ≠ 3 := fun h => q_16_3 (Int32.toInt_inj.mp (h.trans (by decide))); have eq_16_4 : (what).toInt ≠ 4 := fun h => q_16_4 (Int32.toInt_inj.mp (h.trans (by decide))); have eq_16_5 : (what).toInt ≠ 5 := fun h => q_16_5 (Int32.toInt_inj.mp (h.trans (by decide))); have eq_16_6 : (what).toInt ≠ 6 := fun h => q_16_6 (Int32.toInt_inj.mp (h.trans (by decide))); have eq_16_7 : (what).toInt ≠ 7 := fun h => q_16_7 (Int32.toInt_inj.mp (h.trans (by decide))); omega) (by decide) ?_
    refine lv_aload_n hx hb dX0_aboutScope_120 rfl (lv_at hl 0 rfl) ?_
    refine va_get (D := D) (C := RX5) (T := TX5) (N := 14) (ci := 5) (v := .int (τ (i2 + 54) 13)) hx hb hts nX5 hown hK hP (i2 + 54) (w_sc bi2) rfl 13 (by decide) k103 (fun _ h9 => h9) rfl dX0_aboutScope_121 ?_
    exact x_iret hx hb hr hlocks hK () hP hD hS dX0_aboutScope_124 (by simp (decide := true) [m_aboutScope, n24, n40, n2, n27, n4, hi2, q_16_0, q_16_1, q_16_2, q_16_3, q_16_4, q_16_5, q_16_6, q_16_7])

set_option maxHeartbeats 4000000 in
set_option maxRecDepth 100000 in
theorem c_X0_aboutLock (l : Launch) (D : va_G) (cA : Nat → ClassId) (ad : Nat → Nat) (tr : List (ClassId × FieldType)) (rest : va_W) (sz : Nat) (τ : Sg)  (x what : Int32) : Met l yX0_aboutLock wsX0_aboutLock ({ frames := 3, cells := 0, slots := 0, locals := 71 }) (va_Pc [.ref (ad 101), .int x, .int what] (inW D (tyB cA ++ tr) (wB cA ad τ ++ rest) sz)) (va_Qi (fun (r : Int32) (_ : Unit) => r = m_aboutLock τ x what) (fun _ : Unit => outW D (tyB cA ++ tr) (va_A (wB cA ad τ ++ rest) sz) (wB cA ad τ ++ rest)) (va_A (wB cA ad τ ++ rest) sz)) 0 0 (va_A (wB cA ad τ ++ rest) sz) := by
  refine Met.ofW (cc := cX0_aboutLock) (maxL := 5) (ret := (some .int)) (by decide) rfl ?_
  intro p e s m args below meth c s₁ B hml hv
  obtain ⟨rfl, hsz, hP, hK, hD0⟩ := hv
  have hx := B.exec
  have hb := B.bytes
  have hr := B.returns
  have hts := atoms_spec (ws := wsX0_aboutLock) B.pre
  have hown : s.vm.findClass RX0 = some m.cls := findClass_of_methodNamed B.named
  have hlocks := B.notSynchronized
  subst hsz
  have hD := hD0.self (sz := s.heap.size)
  clear hD0
  generalize hAe : va_A (wB cA ad τ ++ rest) s.heap.size = A at hD ⊢
  have hA : ∀ q : Nat, s.heap.size ≤ q → A q := fun q h => by rw [← hAe]; exact Or.inr h
  clear hAe
  have hS : va_S A s.heap s.heap [] := va_S.rf
  have hP : va_P D vwCl (wB cA ad τ ++ rest) s.heap := hP
  have hl := lv_entry ([.ref (ad 101), .int x, .int what]) (n := 5) (Nat.le_of_ble_eq_true rfl)
  rw [lg_entry_eq]
  generalize (lg_sl ([.ref (ad 101), .int x, .int what]) ++ List.replicate (5 - (lg_sl ([.ref (ad 101), .int x, .int what])).length) Slot.unset).toArray = ls at hl ⊢
  have hl : lv_has ls 5 [(0, .ref (ad 101)), (1, .int x), (2, .int what)] := hl
  have nX0 : ∀ w ∈ u_ws RX0 TX0 2, w ∈ wsX0_aboutLock := by decide +kernel
  have nX2 : ∀ w ∈ u_ws RX2 TX2 3, w ∈ wsX0_aboutLock := by decide +kernel
  have nX7 : ∀ w ∈ u_ws RX7 TX7 17, w ∈ wsX0_aboutLock := by decide +kernel
  have k15 := hts (.fieldLink RX0 15 "ScopeRow$Answers" "state" "LScopeRow$State;") (by decide +kernel)
  have k114 := hts (.fieldLink RX0 114 "ScopeRow$Lock" "holder" "I") (by decide +kernel)
  have k123 := hts (.fieldLink RX0 123 "ScopeRow$Lock" "heldEver" "I") (by decide +kernel)
  have k67 := hts (.fieldLink RX0 67 "ScopeRow$Task" "number" "I") (by decide +kernel)
  refine lv_aload_n hx hb dX0_aboutLock_0 rfl (lv_at hl 0 rfl) ?_
  refine va_get (D := D) (C := RX0) (T := TX0) (N := 2) (ci := 0) (v := .ref (ad 0)) hx hb hts nX0 hown hK hP 101 w_an rfl 1 (by decide) k15 (fun _ h9 => h9) rfl dX0_aboutLock_1 ?_
  refine lv_iload_n hx hb dX0_aboutLock_4 rfl (lv_at hl 1 rfl) ?_
  refine x_Vq (As := [.int x]) (rest0 := []) ⟨hx, hb, hml, hown, hts⟩ (c_X6_lockAt l D cA ad tr rest s.heap.size τ x) (cwV 1 hts gX0_aboutLock_X6_lockAt rfl rfl rfl (by decide +kernel) ⟨Nat.le_of_ble_eq_true rfl, Nat.le_of_ble_eq_true rfl⟩) hK hP hD hS hA 0 w_st rfl hl.1 rfl rfl (Nat.le_of_ble_eq_true rfl) ⟨Nat.zero_le _, Nat.zero_le _⟩ dX0_aboutLock_5 (fun r1 _ H locs hw hP hD hS => ?_)
  have er1 := hw
  subst er1
  rcases hi2 : m_at x 2 with _ | i2
  · refine W.eq (g2 := F0 m 8 ls [.null]) rfl ?_
    refine lv_astore_nN (lv' := [(3, .null), (0, .ref (ad 101)), (1, .int x), (2, .int what)]) hx hb dX0_aboutLock_8 rfl hl (by decide) rfl (fun ls hl => ?_)
    refine lv_aload_nN hx hb dX0_aboutLock_9 rfl (lv_at hl 0 rfl) ?_
    refine lv_ifnonnullN hx hb dX0_aboutLock_10 ?_
    refine lv_iconst (v := (-1)) hx hb dX0_aboutLock_13 (by decide) ?_
    exact x_iret hx hb hr hlocks hK () hP hD hS dX0_aboutLock_14 (by simp (decide := true) [m_aboutLock, n24, n40, n2, n27, n4, hi2])
  · have bi2 := m_at_lt hi2 (by decide)
    refine W.eq (g2 := F0 m 8 ls [.ref (ad (i2 + 94))]) rfl ?_
    refine lv_astore_n (lv' := [(3, .ref (ad (i2 + 94))), (0, .ref (ad 101)), (1, .int x), (2, .int what)]) hx hb dX0_aboutLock_8 rfl hl (by decide) rfl (fun ls hl => ?_)
    refine lv_aload_n hx hb dX0_aboutLock_9 rfl (lv_at hl 0 rfl) ?_
    refine lv_ifnonnull (tgt := 15) hx hb dX0_aboutLock_10 (by decide) ?_
    refine lv_aload_n hx hb dX0_aboutLock_15 rfl (lv_at hl 1 rfl) ?_
    refine va_get (D := D) (C := RX0) (T := TX0) (N := 2) (ci := 0) (v := .ref (ad 0)) hx hb hts nX0 hown hK hP 101 w_an rfl 1 (by decide) k15 (fun _ h9 => h9) rfl dX0_aboutLock_16 ?_
    refine lv_iconst (v := 2) hx hb dX0_aboutLock_19 (by decide) ?_
    refine lv_iload_n hx hb dX0_aboutLock_20 rfl (lv_at hl 2 rfl) ?_
    refine x_Vq (As := [.int 2, .int x]) (rest0 := []) ⟨hx, hb, hml, hown, hts⟩ (c_X6_firstWaiting l D cA ad tr rest H.size τ 2 x) (cwV 2 hts gX0_aboutLock_X6_firstWaiting rfl rfl rfl (by decide +kernel) ⟨Nat.le_of_ble_eq_true rfl, Nat.le_of_ble_eq_true rfl⟩) hK hP hD hS hA 0 w_st rfl hl.1 rfl rfl (Nat.le_of_ble_eq_true rfl) ⟨Nat.zero_le _, Nat.zero_le _⟩ dX0_aboutLock_21 (fun r3 _ H locs hw hP hD hS => ?_)
    have er3 := hw
    subst er3
    rcases hi4 : m_firstWaiting τ 2 x with _ | i4
    · refine W.eq (g2 := F0 m 24 ls [.null]) rfl ?_
      refine lv_astoreN (lv' := [(4, .null), (3, .ref (ad (i2 + 94))), (0, .ref (ad 101)), (1, .int x), (2, .int what)]) hx hb dX0_aboutLock_24 hl (by decide) rfl (fun ls hl => ?_)
      refine lv_iload_n hx hb dX0_aboutLock_26 rfl (lv_at hl 4 rfl) ?_
      by_cases q_27_0 : what = 0
      · skip
        refine lv_tableIn (tgt := 52) (off := 25) hx hb dX0_aboutLock_27 (by rw [q_27_0]; decide) (by rw [q_27_0]; decide) (by rw [q_27_0]; decide) (by decide) ?_
        refine lv_aload_n hx hb dX0_aboutLock_52 rfl (lv_at hl 1 rfl) ?_
        refine va_get (D := D) (C := RX2) (T := TX2) (N := 3) (ci := 2) (v := .int (τ (i2 + 94) 1)) hx hb hts nX2 hown hK hP (i2 + 94) (w_lk bi2) rfl 1 (by decide) k114 (fun _ h9 => h9) rfl dX0_aboutLock_53 ?_
        exact x_iret hx hb hr hlocks hK () hP hD hS dX0_aboutLock_56 (by simp (decide := true) [m_aboutLock, n24, n40, n2, n27, n4, hi2, hi4, eq_true q_27_0])
      by_cases q_27_1 : what = 1
      · skip
        refine lv_tableIn (tgt := 57) (off := 30) hx hb dX0_aboutLock_27 (by rw [q_27_1]; decide) (by rw [q_27_1]; decide) (by rw [q_27_1]; decide) (by decide) ?_
        refine lv_aload_n hx hb dX0_aboutLock_57 rfl (lv_at hl 2 rfl) ?_
        refine lv_iconst (v := 2) hx hb dX0_aboutLock_58 (by decide) ?_
        refine lv_iload_n hx hb dX0_aboutLock_59 rfl (lv_at hl 3 rfl) ?_
        refine x_Vi (As := [.int 2, .int x]) (rest0 := []) ⟨hx, hb, hml, hown, hts⟩ (c_X0_countWaiting l D cA ad tr rest H.size τ 2 x) (cwV 2 hts gX0_aboutLock_X0_countWaiting rfl rfl rfl (by decide +kernel) ⟨Nat.le_of_ble_eq_true rfl, Nat.le_of_ble_eq_true rfl⟩) hK hP hD hS hA 101 w_an rfl hl.1 rfl rfl (Nat.le_of_ble_eq_true rfl) ⟨Nat.zero_le _, Nat.zero_le _⟩ dX0_aboutLock_60 (fun r5 _ H locs hw hP hD hS => ?_)
        have er5 := hw
        exact x_iret hx hb hr hlocks hK () hP hD hS dX0_aboutLock_63 (by subst er5; simp (decide := true) [m_aboutLock, n24, n40, n2, n27, n4, hi2, hi4, q_27_0, eq_true q_27_1])
      by_cases q_27_2 : what = 2
      · skip
        refine lv_tableIn (tgt := 64) (off := 37) hx hb dX0_aboutLock_27 (by rw [q_27_2]; decide) (by rw [q_27_2]; decide) (by rw [q_27_2]; decide) (by decide) ?_
        refine lv_aloadN hx hb dX0_aboutLock_64 (lv_at hl 0 rfl) ?_
        refine lv_ifnullN (tgt := 77) hx hb dX0_aboutLock_66 (by decide) ?_
        refine lv_iconst (v := (-1)) hx hb dX0_aboutLock_77 (by decide) ?_
        exact x_iret hx hb hr hlocks hK () hP hD hS dX0_aboutLock_78 (by simp (decide := true) [m_aboutLock, n24, n40, n2, n27, n4, hi2, hi4, q_27_0, q_27_1, eq_true q_27_2])
      refine lv_tableOut (tgt := 79) hx hb dX0_aboutLock_27 (by have eq_27_0 : (what).toInt ≠ 0 := fun h => q_27_0 (Int32.toInt_inj.mp (h.trans (by decide))); have eq_27_1 : (what).toInt ≠ 1 := fun h => q_27_1 (Int32.toInt_inj.mp (h.trans (by decide))); have eq_27_2 : (what).toInt ≠ 2 := fun h => q_27_2 (Int32.toInt_inj.mp (h.trans (by decide))); omega) (by decide) ?_
      refine lv_aload_n hx hb dX0_aboutLock_79 rfl (lv_at hl 1 rfl) ?_
      refine va_get (D := D) (C := RX2) (T := TX2) (N := 3) (ci := 2) (v := .int (τ (i2 + 94) 2)) hx hb hts nX2 hown hK hP (i2 + 94) (w_lk bi2) rfl 2 (by decide) k123 (fun _ h9 => h9) rfl dX0_aboutLock_80 ?_
      exact x_iret hx hb hr hlocks hK () hP hD hS dX0_aboutLock_83 (by simp (decide := true) [m_aboutLock, n24, n40, n2, n27, n4, hi2, hi4, q_27_0, q_27_1, q_27_2])
    · have bi4 := m_firstWaiting_lt hi4
      refine W.eq (g2 := F0 m 24 ls [.ref (ad (i4 + 6))]) rfl ?_
      refine lv_astore (lv' := [(4, .ref (ad (i4 + 6))), (3, .ref (ad (i2 + 94))), (0, .ref (ad 101)), (1, .int x), (2, .int what)]) hx hb dX0_aboutLock_24 hl (by decide) rfl (fun ls hl => ?_)
      refine lv_iload_n hx hb dX0_aboutLock_26 rfl (lv_at hl 4 rfl) ?_
      by_cases q_27_0 : what = 0
      · skip
        refine lv_tableIn (tgt := 52) (off := 25) hx hb dX0_aboutLock_27 (by rw [q_27_0]; decide) (by rw [q_27_0]; decide) (by rw [q_27_0]; decide) (by decide) ?_
        refine lv_aload_n hx hb dX0_aboutLock_52 rfl (lv_at hl 1 rfl) ?_
        refine va_get (D := D) (C := RX2) (T := TX2) (N := 3) (ci := 2) (v := .int (τ (i2 + 94) 1)) hx hb hts nX2 hown hK hP (i2 + 94) (w_lk bi2) rfl 1 (by decide) k114 (fun _ h9 => h9) rfl dX0_aboutLock_53 ?_
        exact x_iret hx hb hr hlocks hK () hP hD hS dX0_aboutLock_56 (by simp (decide := true) [m_aboutLock, n24, n40, n2, n27, n4, hi2, hi4, eq_true q_27_0])
      by_cases q_27_1 : what = 1
      · skip
        refine lv_tableIn (tgt := 57) (off := 30) hx hb dX0_aboutLock_27 (by rw [q_27_1]; decide) (by rw [q_27_1]; decide) (by rw [q_27_1]; decide) (by decide) ?_
        refine lv_aload_n hx hb dX0_aboutLock_57 rfl (lv_at hl 2 rfl) ?_
        refine lv_iconst (v := 2) hx hb dX0_aboutLock_58 (by decide) ?_
        refine lv_iload_n hx hb dX0_aboutLock_59 rfl (lv_at hl 3 rfl) ?_
        refine x_Vi (As := [.int 2, .int x]) (rest0 := []) ⟨hx, hb, hml, hown, hts⟩ (c_X0_countWaiting l D cA ad tr rest H.size τ 2 x) (cwV 2 hts gX0_aboutLock_X0_countWaiting rfl rfl rfl (by decide +kernel) ⟨Nat.le_of_ble_eq_true rfl, Nat.le_of_ble_eq_true rfl⟩) hK hP hD hS hA 101 w_an rfl hl.1 rfl rfl (Nat.le_of_ble_eq_true rfl) ⟨Nat.zero_le _, Nat.zero_le _⟩ dX0_aboutLock_60 (fun r6 _ H locs hw hP hD hS => ?_)
        have er6 := hw
        exact x_iret hx hb hr hlocks hK () hP hD hS dX0_aboutLock_63 (by subst er6; simp (decide := true) [m_aboutLock, n24, n40, n2, n27, n4, hi2, hi4, q_27_0, eq_true q_27_1])
      by_cases q_27_2 : what = 2
      · skip
        refine lv_tableIn (tgt := 64) (off := 37) hx hb dX0_aboutLock_27 (by rw [q_27_2]; decide) (by rw [q_27_2]; decide) (by rw [q_27_2]; decide) (by decide) ?_
        refine lv_aload hx hb dX0_aboutLock_64 (lv_at hl 0 rfl) ?_
        refine lv_ifnull hx hb dX0_aboutLock_66 ?_
        refine lv_aload hx hb dX0_aboutLock_69 (lv_at hl 0 rfl) ?_
        refine va_get (D := D) (C := RX7) (T := TX7) (N := 17) (ci := 7) (v := .int (nI i4)) hx hb hts nX7 hown hK hP (i4 + 6) (w_tk bi4) rfl 0 (by decide) k67 (fun _ h9 => h9) rfl dX0_aboutLock_71 ?_
        refine lv_goto (tgt := 78) hx hb dX0_aboutLock_74 (by decide) ?_
        exact x_iret hx hb hr hlocks hK () hP hD hS dX0_aboutLock_78 (by simp (decide := true) [m_aboutLock, n24, n40, n2, n27, n4, hi2, hi4, q_27_0, q_27_1, eq_true q_27_2])
      refine lv_tableOut (tgt := 79) hx hb dX0_aboutLock_27 (by have eq_27_0 : (what).toInt ≠ 0 := fun h => q_27_0 (Int32.toInt_inj.mp (h.trans (by decide))); have eq_27_1 : (what).toInt ≠ 1 := fun h => q_27_1 (Int32.toInt_inj.mp (h.trans (by decide))); have eq_27_2 : (what).toInt ≠ 2 := fun h => q_27_2 (Int32.toInt_inj.mp (h.trans (by decide))); omega) (by decide) ?_
      refine lv_aload_n hx hb dX0_aboutLock_79 rfl (lv_at hl 1 rfl) ?_
      refine va_get (D := D) (C := RX2) (T := TX2) (N := 3) (ci := 2) (v := .int (τ (i2 + 94) 2)) hx hb hts nX2 hown hK hP (i2 + 94) (w_lk bi2) rfl 2 (by decide) k123 (fun _ h9 => h9) rfl dX0_aboutLock_80 ?_
      exact x_iret hx hb hr hlocks hK () hP hD hS dX0_aboutLock_83 (by simp (decide := true) [m_aboutLock, n24, n40, n2, n27, n4, hi2, hi4, q_27_0, q_27_1, q_27_2])

set_option maxHeartbeats 4000000 in
set_option maxRecDepth 100000 in
theorem c_X0_aboutChannel (l : Launch) (D : va_G) (cA : Nat → ClassId) (ad : Nat → Nat) (tr : List (ClassId × FieldType)) (rest : va_W) (sz : Nat) (τ : Sg)  (x what : Int32) : Met l yX0_aboutChannel wsX0_aboutChannel ({ frames := 3, cells := 0, slots := 0, locals := 71 }) (va_Pc [.ref (ad 101), .int x, .int what] (inW D (tyB cA ++ tr) (wB cA ad τ ++ rest) sz)) (va_Qi (fun (r : Int32) (_ : Unit) => r = m_aboutChannel τ x what) (fun _ : Unit => outW D (tyB cA ++ tr) (va_A (wB cA ad τ ++ rest) sz) (wB cA ad τ ++ rest)) (va_A (wB cA ad τ ++ rest) sz)) 0 0 (va_A (wB cA ad τ ++ rest) sz) := by
  refine Met.ofW (cc := cX0_aboutChannel) (maxL := 4) (ret := (some .int)) (by decide) rfl ?_
  intro p e s m args below meth c s₁ B hml hv
  obtain ⟨rfl, hsz, hP, hK, hD0⟩ := hv
  have hx := B.exec
  have hb := B.bytes
  have hr := B.returns
  have hts := atoms_spec (ws := wsX0_aboutChannel) B.pre
  have hown : s.vm.findClass RX0 = some m.cls := findClass_of_methodNamed B.named
  have hlocks := B.notSynchronized
  subst hsz
  have hD := hD0.self (sz := s.heap.size)
  clear hD0
  generalize hAe : va_A (wB cA ad τ ++ rest) s.heap.size = A at hD ⊢
  have hA : ∀ q : Nat, s.heap.size ≤ q → A q := fun q h => by rw [← hAe]; exact Or.inr h
  clear hAe
  have hS : va_S A s.heap s.heap [] := va_S.rf
  have hP : va_P D vwCl (wB cA ad τ ++ rest) s.heap := hP
  have hl := lv_entry ([.ref (ad 101), .int x, .int what]) (n := 4) (Nat.le_of_ble_eq_true rfl)
  rw [lg_entry_eq]
  generalize (lg_sl ([.ref (ad 101), .int x, .int what]) ++ List.replicate (4 - (lg_sl ([.ref (ad 101), .int x, .int what])).length) Slot.unset).toArray = ls at hl ⊢
  have hl : lv_has ls 4 [(0, .ref (ad 101)), (1, .int x), (2, .int what)] := hl
  have nX0 : ∀ w ∈ u_ws RX0 TX0 2, w ∈ wsX0_aboutChannel := by decide +kernel
  have nX1 : ∀ w ∈ u_ws RX1 TX1 5, w ∈ wsX0_aboutChannel := by decide +kernel
  have k15 := hts (.fieldLink RX0 15 "ScopeRow$Answers" "state" "LScopeRow$State;") (by decide +kernel)
  have k130 := hts (.fieldLink RX0 130 "ScopeRow$Channel" "room" "I") (by decide +kernel)
  have k135 := hts (.fieldLink RX0 135 "ScopeRow$Channel" "count" "I") (by decide +kernel)
  have k142 := hts (.fieldLink RX0 142 "ScopeRow$Channel" "ended" "Z") (by decide +kernel)
  have k145 := hts (.fieldLink RX0 145 "ScopeRow$Channel" "taken" "I") (by decide +kernel)
  refine lv_aload_n hx hb dX0_aboutChannel_0 rfl (lv_at hl 0 rfl) ?_
  refine va_get (D := D) (C := RX0) (T := TX0) (N := 2) (ci := 0) (v := .ref (ad 0)) hx hb hts nX0 hown hK hP 101 w_an rfl 1 (by decide) k15 (fun _ h9 => h9) rfl dX0_aboutChannel_1 ?_
  refine lv_iload_n hx hb dX0_aboutChannel_4 rfl (lv_at hl 1 rfl) ?_
  refine x_Vq (As := [.int x]) (rest0 := []) ⟨hx, hb, hml, hown, hts⟩ (c_X6_channelAt l D cA ad tr rest s.heap.size τ x) (cwV 1 hts gX0_aboutChannel_X6_channelAt rfl rfl rfl (by decide +kernel) ⟨Nat.le_of_ble_eq_true rfl, Nat.le_of_ble_eq_true rfl⟩) hK hP hD hS hA 0 w_st rfl hl.1 rfl rfl (Nat.le_of_ble_eq_true rfl) ⟨Nat.zero_le _, Nat.zero_le _⟩ dX0_aboutChannel_5 (fun r1 _ H locs hw hP hD hS => ?_)
  have er1 := hw
  subst er1
  rcases hi2 : m_at x 2 with _ | i2
  · refine W.eq (g2 := F0 m 8 ls [.null]) rfl ?_
    refine lv_astore_nN (lv' := [(3, .null), (0, .ref (ad 101)), (1, .int x), (2, .int what)]) hx hb dX0_aboutChannel_8 rfl hl (by decide) rfl (fun ls hl => ?_)
    refine lv_aload_nN hx hb dX0_aboutChannel_9 rfl (lv_at hl 0 rfl) ?_
    refine lv_ifnonnullN hx hb dX0_aboutChannel_10 ?_
    refine lv_iconst (v := (-1)) hx hb dX0_aboutChannel_13 (by decide) ?_
    exact x_iret hx hb hr hlocks hK () hP hD hS dX0_aboutChannel_14 (by simp (decide := true) [m_aboutChannel, n24, n40, n2, n27, n4, hi2])
  · have bi2 := m_at_lt hi2 (by decide)
    refine W.eq (g2 := F0 m 8 ls [.ref (ad (i2 + 96))]) rfl ?_
    refine lv_astore_n (lv' := [(3, .ref (ad (i2 + 96))), (0, .ref (ad 101)), (1, .int x), (2, .int what)]) hx hb dX0_aboutChannel_8 rfl hl (by decide) rfl (fun ls hl => ?_)
    refine lv_aload_n hx hb dX0_aboutChannel_9 rfl (lv_at hl 0 rfl) ?_
    refine lv_ifnonnull (tgt := 15) hx hb dX0_aboutChannel_10 (by decide) ?_
    refine lv_iload_n hx hb dX0_aboutChannel_15 rfl (lv_at hl 3 rfl) ?_
    by_cases q_16_0 : what = 0
    · skip
      refine lv_tableIn (tgt := 56) (off := 40) hx hb dX0_aboutChannel_16 (by rw [q_16_0]; decide) (by rw [q_16_0]; decide) (by rw [q_16_0]; decide) (by decide) ?_
      refine lv_aload_n hx hb dX0_aboutChannel_56 rfl (lv_at hl 0 rfl) ?_
      refine va_get (D := D) (C := RX1) (T := TX1) (N := 5) (ci := 1) (v := .int (τ (i2 + 96) 0)) hx hb hts nX1 hown hK hP (i2 + 96) (w_ch bi2) rfl 0 (by decide) k130 (fun _ h9 => h9) rfl dX0_aboutChannel_57 ?_
      exact x_iret hx hb hr hlocks hK () hP hD hS dX0_aboutChannel_60 (by simp (decide := true) [m_aboutChannel, n24, n40, n2, n27, n4, hi2, eq_true q_16_0])
    by_cases q_16_1 : what = 1
    · skip
      refine lv_tableIn (tgt := 61) (off := 45) hx hb dX0_aboutChannel_16 (by rw [q_16_1]; decide) (by rw [q_16_1]; decide) (by rw [q_16_1]; decide) (by decide) ?_
      refine lv_aload_n hx hb dX0_aboutChannel_61 rfl (lv_at hl 0 rfl) ?_
      refine va_get (D := D) (C := RX1) (T := TX1) (N := 5) (ci := 1) (v := .int (τ (i2 + 96) 2)) hx hb hts nX1 hown hK hP (i2 + 96) (w_ch bi2) rfl 2 (by decide) k135 (fun _ h9 => h9) rfl dX0_aboutChannel_62 ?_
      exact x_iret hx hb hr hlocks hK () hP hD hS dX0_aboutChannel_65 (by simp (decide := true) [m_aboutChannel, n24, n40, n2, n27, n4, hi2, q_16_0, eq_true q_16_1])
    by_cases q_16_2 : what = 2
    · skip
      refine lv_tableIn (tgt := 66) (off := 50) hx hb dX0_aboutChannel_16 (by rw [q_16_2]; decide) (by rw [q_16_2]; decide) (by rw [q_16_2]; decide) (by decide) ?_
      refine lv_aload_n hx hb dX0_aboutChannel_66 rfl (lv_at hl 0 rfl) ?_
      refine x_Vi (As := []) (rest0 := []) ⟨hx, hb, hml, hown, hts⟩ (c_X1_first l D cA ad tr rest H.size τ i2 bi2) (cwV 0 hts gX0_aboutChannel_X1_first rfl rfl rfl (by decide +kernel) ⟨Nat.le_of_ble_eq_true rfl, Nat.le_of_ble_eq_true rfl⟩) hK hP hD hS hA (i2 + 96) (w_ch bi2) rfl hl.1 rfl rfl (Nat.le_of_ble_eq_true rfl) ⟨Nat.zero_le _, Nat.zero_le _⟩ dX0_aboutChannel_67 (fun r3 _ H locs hw hP hD hS => ?_)
      have er3 := hw
      exact x_iret hx hb hr hlocks hK () hP hD hS dX0_aboutChannel_70 (by subst er3; simp (decide := true) [m_aboutChannel, n24, n40, n2, n27, n4, hi2, q_16_0, q_16_1, eq_true q_16_2])
    by_cases q_16_3 : what = 3
    · skip
      refine lv_tableIn (tgt := 71) (off := 55) hx hb dX0_aboutChannel_16 (by rw [q_16_3]; decide) (by rw [q_16_3]; decide) (by rw [q_16_3]; decide) (by decide) ?_
      refine lv_aload_n hx hb dX0_aboutChannel_71 rfl (lv_at hl 1 rfl) ?_
      refine lv_iconst (v := 3) hx hb dX0_aboutChannel_72 (by decide) ?_
      refine lv_iload_n hx hb dX0_aboutChannel_73 rfl (lv_at hl 2 rfl) ?_
      refine x_Vi (As := [.int 3, .int x]) (rest0 := []) ⟨hx, hb, hml, hown, hts⟩ (c_X0_countWaiting l D cA ad tr rest H.size τ 3 x) (cwV 2 hts gX0_aboutChannel_X0_countWaiting rfl rfl rfl (by decide +kernel) ⟨Nat.le_of_ble_eq_true rfl, Nat.le_of_ble_eq_true rfl⟩) hK hP hD hS hA 101 w_an rfl hl.1 rfl rfl (Nat.le_of_ble_eq_true rfl) ⟨Nat.zero_le _, Nat.zero_le _⟩ dX0_aboutChannel_74 (fun r4 _ H locs hw hP hD hS => ?_)
      have er4 := hw
      exact x_iret hx hb hr hlocks hK () hP hD hS dX0_aboutChannel_77 (by subst er4; simp (decide := true) [m_aboutChannel, n24, n40, n2, n27, n4, hi2, q_16_0, q_16_1, q_16_2, eq_true q_16_3])
    by_cases q_16_4 : what = 4
    · skip
      refine lv_tableIn (tgt := 78) (off := 62) hx hb dX0_aboutChannel_16 (by rw [q_16_4]; decide) (by rw [q_16_4]; decide) (by rw [q_16_4]; decide) (by decide) ?_
      refine lv_aload_n hx hb dX0_aboutChannel_78 rfl (lv_at hl 1 rfl) ?_
      refine lv_iconst (v := 4) hx hb dX0_aboutChannel_79 (by decide) ?_
      refine lv_iload_n hx hb dX0_aboutChannel_80 rfl (lv_at hl 2 rfl) ?_
      refine x_Vi (As := [.int 4, .int x]) (rest0 := []) ⟨hx, hb, hml, hown, hts⟩ (c_X0_countWaiting l D cA ad tr rest H.size τ 4 x) (cwV 2 hts gX0_aboutChannel_X0_countWaiting rfl rfl rfl (by decide +kernel) ⟨Nat.le_of_ble_eq_true rfl, Nat.le_of_ble_eq_true rfl⟩) hK hP hD hS hA 101 w_an rfl hl.1 rfl rfl (Nat.le_of_ble_eq_true rfl) ⟨Nat.zero_le _, Nat.zero_le _⟩ dX0_aboutChannel_81 (fun r5 _ H locs hw hP hD hS => ?_)
      have er5 := hw
      exact x_iret hx hb hr hlocks hK () hP hD hS dX0_aboutChannel_84 (by subst er5; simp (decide := true) [m_aboutChannel, n24, n40, n2, n27, n4, hi2, q_16_0, q_16_1, q_16_2, q_16_3, eq_true q_16_4])
    by_cases q_16_5 : what = 5
    · skip
      refine lv_tableIn (tgt := 85) (off := 69) hx hb dX0_aboutChannel_16 (by rw [q_16_5]; decide) (by rw [q_16_5]; decide) (by rw [q_16_5]; decide) (by decide) ?_
      refine lv_aload_n hx hb dX0_aboutChannel_85 rfl (lv_at hl 0 rfl) ?_
      refine va_get (D := D) (C := RX1) (T := TX1) (N := 5) (ci := 1) (v := .int (τ (i2 + 96) 3)) hx hb hts nX1 hown hK hP (i2 + 96) (w_ch bi2) rfl 3 (by decide) k142 (fun _ h9 => h9) rfl dX0_aboutChannel_86 ?_
      refine lv_if_eq (tgt := 96) hx hb dX0_aboutChannel_89 (by decide) (fun c_89_6 => ?_) (fun c_89_6 => ?_)
      -- 89 jumps
      · skip
        refine lv_iconst (v := 0) hx hb dX0_aboutChannel_96 (by decide) ?_
        exact x_iret hx hb hr hlocks hK () hP hD hS dX0_aboutChannel_97 (by simp (decide := true) [m_aboutChannel, n24, n40, n2, n27, n4, hi2, q_16_0, q_16_1, q_16_2, q_16_3, q_16_4, eq_true q_16_5, eq_true c_89_6])
      -- 89 goes on
      · skip
        refine lv_iconst (v := 1) hx hb dX0_aboutChannel_92 (by decide) ?_
        refine lv_goto (tgt := 97) hx hb dX0_aboutChannel_93 (by decide) ?_
        exact x_iret hx hb hr hlocks hK () hP hD hS dX0_aboutChannel_97 (by simp (decide := true) [m_aboutChannel, n24, n40, n2, n27, n4, hi2, q_16_0, q_16_1, q_16_2, q_16_3, q_16_4, eq_true q_16_5, c_89_6])
    refine lv_tableOut (tgt := 98) hx hb dX0_aboutChannel_16 (by have eq_16_0 : (what).toInt ≠ 0 := fun h => q_16_0 (Int32.toInt_inj.mp (h.trans (by decide))); have eq_16_1 : (what).toInt ≠ 1 := fun h => q_16_1 (Int32.toInt_inj.mp (h.trans (by decide))); have eq_16_2 : (what).toInt ≠ 2 := fun h => q_16_2 (Int32.toInt_inj.mp (h.trans (by decide))); have eq_16_3 : (what).toInt ≠ 3 := fun h => q_16_3 (Int32.toInt_inj.mp (h.trans (by decide))); have eq_16_4 : (what).toInt ≠ 4 := fun h => q_16_4 (Int32.toInt_inj.mp (h.trans (by decide))); have eq_16_5 : (what).toInt ≠ 5 := fun h => q_16_5 (Int32.toInt_inj.mp (h.trans (by decide))); omega) (by decide) ?_
    refine lv_aload_n hx hb dX0_aboutChannel_98 rfl (lv_at hl 0 rfl) ?_
    refine va_get (D := D) (C := RX1) (T := TX1) (N := 5) (ci := 1) (v := .int (τ (i2 + 96) 4)) hx hb hts nX1 hown hK hP (i2 + 96) (w_ch bi2) rfl 4 (by decide) k145 (fun _ h9 => h9) rfl dX0_aboutChannel_99 ?_
    exact x_iret hx hb hr hlocks hK () hP hD hS dX0_aboutChannel_102 (by simp (decide := true) [m_aboutChannel, n24, n40, n2, n27, n4, hi2, q_16_0, q_16_1, q_16_2, q_16_3, q_16_4, q_16_5])

set_option maxHeartbeats 4000000 in
set_option maxRecDepth 100000 in
theorem c_X0_howMany (l : Launch) (D : va_G) (cA : Nat → ClassId) (ad : Nat → Nat) (tr : List (ClassId × FieldType)) (rest : va_W) (sz : Nat) (τ : Sg) (pd : Nat → Nat) (π : Sg)  (what : Int32) : Met l yX0_howMany wsX0_howMany ({ frames := 2, cells := 0, slots := 0, locals := 45 }) (va_Pc [.ref (ad 101), .int what] (inW D (tyB cA ++ tr) (wB cA ad τ ++ (wPg cA ad pd π ++ rest)) sz)) (va_Qi (fun (r : Int32) (_ : Unit) => r = m_howMany τ π what) (fun _ : Unit => outW D (tyB cA ++ tr) (va_A (wB cA ad τ ++ (wPg cA ad pd π ++ rest)) sz) (wB cA ad τ ++ (wPg cA ad pd π ++ rest))) (va_A (wB cA ad τ ++ (wPg cA ad pd π ++ rest)) sz)) 0 0 (va_A (wB cA ad τ ++ (wPg cA ad pd π ++ rest)) sz) := by
  refine Met.ofW (cc := cX0_howMany) (maxL := 2) (ret := (some .int)) (by decide) rfl ?_
  intro p e s m args below meth c s₁ B hml hv
  obtain ⟨rfl, hsz, hP, hK, hD0⟩ := hv
  have hx := B.exec
  have hb := B.bytes
  have hr := B.returns
  have hts := atoms_spec (ws := wsX0_howMany) B.pre
  have hown : s.vm.findClass RX0 = some m.cls := findClass_of_methodNamed B.named
  have hlocks := B.notSynchronized
  subst hsz
  have hD := hD0.self (sz := s.heap.size)
  clear hD0
  generalize hAe : va_A (wB cA ad τ ++ (wPg cA ad pd π ++ rest)) s.heap.size = A at hD ⊢
  have hA : ∀ q : Nat, s.heap.size ≤ q → A q := fun q h => by rw [← hAe]; exact Or.inr h
  clear hAe
  have hS : va_S A s.heap s.heap [] := va_S.rf
  have hP : va_P D vwCl (wB cA ad τ ++ (wPg cA ad pd π ++ rest)) s.heap := hP
  have hl := lv_entry ([.ref (ad 101), .int what]) (n := 2) (Nat.le_of_ble_eq_true rfl)
  rw [lg_entry_eq]
  generalize (lg_sl ([.ref (ad 101), .int what]) ++ List.replicate (2 - (lg_sl ([.ref (ad 101), .int what])).length) Slot.unset).toArray = ls at hl ⊢
  have hl : lv_has ls 2 [(0, .ref (ad 101)), (1, .int what)] := hl
  have nX0 : ∀ w ∈ u_ws RX0 TX0 2, w ∈ wsX0_howMany := by decide +kernel
  have nX3 : ∀ w ∈ u_ws RX3 TX3 5, w ∈ wsX0_howMany := by decide +kernel
  have nX6 : ∀ w ∈ u_ws RX6 TX6 12, w ∈ wsX0_howMany := by decide +kernel
  have k9 := hts (.fieldLink RX0 9 "ScopeRow$Answers" "program" "LScopeRow$Program;") (by decide +kernel)
  have k156 := hts (.fieldLink RX0 156 "ScopeRow$Program" "bodies" "I") (by decide +kernel)
  have k15 := hts (.fieldLink RX0 15 "ScopeRow$Answers" "state" "LScopeRow$State;") (by decide +kernel)
  have k161 := hts (.fieldLink RX0 161 "ScopeRow$State" "taskCount" "I") (by decide +kernel)
  have k167 := hts (.fieldLink RX0 167 "ScopeRow$State" "scopeCount" "I") (by decide +kernel)
  have k176 := hts (.fieldLink RX0 176 "ScopeRow$State" "now" "I") (by decide +kernel)
  have k179 := hts (.fieldLink RX0 179 "ScopeRow$State" "turns" "I") (by decide +kernel)
  have k182 := hts (.fieldLink RX0 182 "ScopeRow$State" "lines" "I") (by decide +kernel)
  refine lv_iload_n hx hb dX0_howMany_0 rfl (lv_at hl 1 rfl) ?_
  by_cases q_1_0 : what = 0
  · skip
    refine lv_tableIn (tgt := 64) (off := 63) hx hb dX0_howMany_1 (by rw [q_1_0]; decide) (by rw [q_1_0]; decide) (by rw [q_1_0]; decide) (by decide) ?_
    refine lv_aload_n hx hb dX0_howMany_64 rfl (lv_at hl 0 rfl) ?_
    refine va_get (D := D) (C := RX0) (T := TX0) (N := 2) (ci := 0) (v := .ref (ad 102)) hx hb hts nX0 hown hK hP 101 w_an rfl 0 (by decide) k9 (fun _ h9 => h9) rfl dX0_howMany_65 ?_
    refine va_get (D := D) (C := RX3) (T := TX3) (N := 5) (ci := 3) (v := .int (π 0 0)) hx hb hts nX3 hown hK hP 102 w_pg rfl 0 (by decide) k156 (fun _ h9 => h9) rfl dX0_howMany_68 ?_
    exact x_iret hx hb hr hlocks hK () hP hD hS dX0_howMany_71 (by simp (decide := true) [m_howMany, n24, n40, n2, n27, n4, eq_true q_1_0])
  by_cases q_1_1 : what = 1
  · skip
    refine lv_tableIn (tgt := 72) (off := 71) hx hb dX0_howMany_1 (by rw [q_1_1]; decide) (by rw [q_1_1]; decide) (by rw [q_1_1]; decide) (by decide) ?_
    refine lv_aload_n hx hb dX0_howMany_72 rfl (lv_at hl 0 rfl) ?_
    refine va_get (D := D) (C := RX0) (T := TX0) (N := 2) (ci := 0) (v := .ref (ad 0)) hx hb hts nX0 hown hK hP 101 w_an rfl 1 (by decide) k15 (fun _ h9 => h9) rfl dX0_howMany_73 ?_
    refine va_get (D := D) (C := RX6) (T := TX6) (N := 12) (ci := 6) (v := .int (τ 0 1)) hx hb hts nX6 hown hK hP 0 w_st rfl 1 (by decide) k161 (fun _ h9 => h9) rfl dX0_howMany_76 ?_
    exact x_iret hx hb hr hlocks hK () hP hD hS dX0_howMany_79 (by simp (decide := true) [m_howMany, n24, n40, n2, n27, n4, q_1_0, eq_true q_1_1])
  by_cases q_1_2 : what = 2
  · skip
    refine lv_tableIn (tgt := 80) (off := 79) hx hb dX0_howMany_1 (by rw [q_1_2]; decide) (by rw [q_1_2]; decide) (by rw [q_1_2]; decide) (by decide) ?_
    refine lv_aload_n hx hb dX0_howMany_80 rfl (lv_at hl 0 rfl) ?_
    refine lv_iconst (v := 0) hx hb dX0_howMany_81 (by decide) ?_
    refine x_Vi (As := [.int 0]) (rest0 := []) ⟨hx, hb, hml, hown, hts⟩ (c_X0_countTasks l D cA ad tr (wPg cA ad pd π ++ rest) s.heap.size τ 0) (cwV 1 hts gX0_howMany_X0_countTasks rfl rfl rfl (by decide +kernel) ⟨Nat.le_of_ble_eq_true rfl, Nat.le_of_ble_eq_true rfl⟩) hK hP hD hS hA 101 w_an rfl hl.1 rfl rfl (Nat.le_of_ble_eq_true rfl) ⟨Nat.zero_le _, Nat.zero_le _⟩ dX0_howMany_82 (fun r1 _ H locs hw hP hD hS => ?_)
    have er1 := hw
    exact x_iret hx hb hr hlocks hK () hP hD hS dX0_howMany_85 (by subst er1; simp (decide := true) [m_howMany, n24, n40, n2, n27, n4, q_1_0, q_1_1, eq_true q_1_2])
  by_cases q_1_3 : what = 3
  · skip
    refine lv_tableIn (tgt := 86) (off := 85) hx hb dX0_howMany_1 (by rw [q_1_3]; decide) (by rw [q_1_3]; decide) (by rw [q_1_3]; decide) (by decide) ?_
    refine lv_aload_n hx hb dX0_howMany_86 rfl (lv_at hl 0 rfl) ?_
    refine lv_iconst (v := 1) hx hb dX0_howMany_87 (by decide) ?_
    refine x_Vi (As := [.int 1]) (rest0 := []) ⟨hx, hb, hml, hown, hts⟩ (c_X0_countTasks l D cA ad tr (wPg cA ad pd π ++ rest) s.heap.size τ 1) (cwV 1 hts gX0_howMany_X0_countTasks rfl rfl rfl (by decide +kernel) ⟨Nat.le_of_ble_eq_true rfl, Nat.le_of_ble_eq_true rfl⟩) hK hP hD hS hA 101 w_an rfl hl.1 rfl rfl (Nat.le_of_ble_eq_true rfl) ⟨Nat.zero_le _, Nat.zero_le _⟩ dX0_howMany_88 (fun r2 _ H locs hw hP hD hS => ?_)
    have er2 := hw
    exact x_iret hx hb hr hlocks hK () hP hD hS dX0_howMany_91 (by subst er2; simp (decide := true) [m_howMany, n24, n40, n2, n27, n4, q_1_0, q_1_1, q_1_2, eq_true q_1_3])
  by_cases q_1_4 : what = 4
  · skip
    refine lv_tableIn (tgt := 92) (off := 91) hx hb dX0_howMany_1 (by rw [q_1_4]; decide) (by rw [q_1_4]; decide) (by rw [q_1_4]; decide) (by decide) ?_
    refine lv_aload_n hx hb dX0_howMany_92 rfl (lv_at hl 0 rfl) ?_
    refine lv_iconst (v := 2) hx hb dX0_howMany_93 (by decide) ?_
    refine x_Vi (As := [.int 2]) (rest0 := []) ⟨hx, hb, hml, hown, hts⟩ (c_X0_countTasks l D cA ad tr (wPg cA ad pd π ++ rest) s.heap.size τ 2) (cwV 1 hts gX0_howMany_X0_countTasks rfl rfl rfl (by decide +kernel) ⟨Nat.le_of_ble_eq_true rfl, Nat.le_of_ble_eq_true rfl⟩) hK hP hD hS hA 101 w_an rfl hl.1 rfl rfl (Nat.le_of_ble_eq_true rfl) ⟨Nat.zero_le _, Nat.zero_le _⟩ dX0_howMany_94 (fun r3 _ H locs hw hP hD hS => ?_)
    have er3 := hw
    exact x_iret hx hb hr hlocks hK () hP hD hS dX0_howMany_97 (by subst er3; simp (decide := true) [m_howMany, n24, n40, n2, n27, n4, q_1_0, q_1_1, q_1_2, q_1_3, eq_true q_1_4])
  by_cases q_1_5 : what = 5
  · skip
    refine lv_tableIn (tgt := 98) (off := 97) hx hb dX0_howMany_1 (by rw [q_1_5]; decide) (by rw [q_1_5]; decide) (by rw [q_1_5]; decide) (by decide) ?_
    refine lv_aload_n hx hb dX0_howMany_98 rfl (lv_at hl 0 rfl) ?_
    refine lv_iconst (v := 3) hx hb dX0_howMany_99 (by decide) ?_
    refine x_Vi (As := [.int 3]) (rest0 := []) ⟨hx, hb, hml, hown, hts⟩ (c_X0_countTasks l D cA ad tr (wPg cA ad pd π ++ rest) s.heap.size τ 3) (cwV 1 hts gX0_howMany_X0_countTasks rfl rfl rfl (by decide +kernel) ⟨Nat.le_of_ble_eq_true rfl, Nat.le_of_ble_eq_true rfl⟩) hK hP hD hS hA 101 w_an rfl hl.1 rfl rfl (Nat.le_of_ble_eq_true rfl) ⟨Nat.zero_le _, Nat.zero_le _⟩ dX0_howMany_100 (fun r4 _ H locs hw hP hD hS => ?_)
    have er4 := hw
    exact x_iret hx hb hr hlocks hK () hP hD hS dX0_howMany_103 (by subst er4; simp (decide := true) [m_howMany, n24, n40, n2, n27, n4, q_1_0, q_1_1, q_1_2, q_1_3, q_1_4, eq_true q_1_5])
  by_cases q_1_6 : what = 6
  · skip
    refine lv_tableIn (tgt := 104) (off := 103) hx hb dX0_howMany_1 (by rw [q_1_6]; decide) (by rw [q_1_6]; decide) (by rw [q_1_6]; decide) (by decide) ?_
    refine lv_aload_n hx hb dX0_howMany_104 rfl (lv_at hl 0 rfl) ?_
    refine lv_iconst (v := 4) hx hb dX0_howMany_105 (by decide) ?_
    refine x_Vi (As := [.int 4]) (rest0 := []) ⟨hx, hb, hml, hown, hts⟩ (c_X0_countTasks l D cA ad tr (wPg cA ad pd π ++ rest) s.heap.size τ 4) (cwV 1 hts gX0_howMany_X0_countTasks rfl rfl rfl (by decide +kernel) ⟨Nat.le_of_ble_eq_true rfl, Nat.le_of_ble_eq_true rfl⟩) hK hP hD hS hA 101 w_an rfl hl.1 rfl rfl (Nat.le_of_ble_eq_true rfl) ⟨Nat.zero_le _, Nat.zero_le _⟩ dX0_howMany_106 (fun r5 _ H locs hw hP hD hS => ?_)
    have er5 := hw
    exact x_iret hx hb hr hlocks hK () hP hD hS dX0_howMany_109 (by subst er5; simp (decide := true) [m_howMany, n24, n40, n2, n27, n4, q_1_0, q_1_1, q_1_2, q_1_3, q_1_4, q_1_5, eq_true q_1_6])
  by_cases q_1_7 : what = 7
  · skip
    refine lv_tableIn (tgt := 110) (off := 109) hx hb dX0_howMany_1 (by rw [q_1_7]; decide) (by rw [q_1_7]; decide) (by rw [q_1_7]; decide) (by decide) ?_
    refine lv_aload_n hx hb dX0_howMany_110 rfl (lv_at hl 0 rfl) ?_
    refine va_get (D := D) (C := RX0) (T := TX0) (N := 2) (ci := 0) (v := .ref (ad 0)) hx hb hts nX0 hown hK hP 101 w_an rfl 1 (by decide) k15 (fun _ h9 => h9) rfl dX0_howMany_111 ?_
    refine va_get (D := D) (C := RX6) (T := TX6) (N := 12) (ci := 6) (v := .int (τ 0 3)) hx hb hts nX6 hown hK hP 0 w_st rfl 3 (by decide) k167 (fun _ h9 => h9) rfl dX0_howMany_114 ?_
    exact x_iret hx hb hr hlocks hK () hP hD hS dX0_howMany_117 (by simp (decide := true) [m_howMany, n24, n40, n2, n27, n4, q_1_0, q_1_1, q_1_2, q_1_3, q_1_4, q_1_5, q_1_6, eq_true q_1_7])
  by_cases q_1_8 : what = 8
  · skip
    refine lv_tableIn (tgt := 118) (off := 117) hx hb dX0_howMany_1 (by rw [q_1_8]; decide) (by rw [q_1_8]; decide) (by rw [q_1_8]; decide) (by decide) ?_
    refine lv_aload_n hx hb dX0_howMany_118 rfl (lv_at hl 0 rfl) ?_
    refine x_Vi (As := []) (rest0 := []) ⟨hx, hb, hml, hown, hts⟩ (c_X0_countLiveScopes l D cA ad tr (wPg cA ad pd π ++ rest) s.heap.size τ ) (cwV 0 hts gX0_howMany_X0_countLiveScopes rfl rfl rfl (by decide +kernel) ⟨Nat.le_of_ble_eq_true rfl, Nat.le_of_ble_eq_true rfl⟩) hK hP hD hS hA 101 w_an rfl hl.1 rfl rfl (Nat.le_of_ble_eq_true rfl) ⟨Nat.zero_le _, Nat.zero_le _⟩ dX0_howMany_119 (fun r6 _ H locs hw hP hD hS => ?_)
    have er6 := hw
    exact x_iret hx hb hr hlocks hK () hP hD hS dX0_howMany_122 (by subst er6; simp (decide := true) [m_howMany, n24, n40, n2, n27, n4, q_1_0, q_1_1, q_1_2, q_1_3, q_1_4, q_1_5, q_1_6, q_1_7, eq_true q_1_8])
  by_cases q_1_9 : what = 9
  · skip
    refine lv_tableIn (tgt := 123) (off := 122) hx hb dX0_howMany_1 (by rw [q_1_9]; decide) (by rw [q_1_9]; decide) (by rw [q_1_9]; decide) (by decide) ?_
    refine lv_aload_n hx hb dX0_howMany_123 rfl (lv_at hl 0 rfl) ?_
    refine x_Vi (As := []) (rest0 := []) ⟨hx, hb, hml, hown, hts⟩ (c_X0_countCancelledScopes l D cA ad tr (wPg cA ad pd π ++ rest) s.heap.size τ ) (cwV 0 hts gX0_howMany_X0_countCancelledScopes rfl rfl rfl (by decide +kernel) ⟨Nat.le_of_ble_eq_true rfl, Nat.le_of_ble_eq_true rfl⟩) hK hP hD hS hA 101 w_an rfl hl.1 rfl rfl (Nat.le_of_ble_eq_true rfl) ⟨Nat.zero_le _, Nat.zero_le _⟩ dX0_howMany_124 (fun r7 _ H locs hw hP hD hS => ?_)
    have er7 := hw
    exact x_iret hx hb hr hlocks hK () hP hD hS dX0_howMany_127 (by subst er7; simp (decide := true) [m_howMany, n24, n40, n2, n27, n4, q_1_0, q_1_1, q_1_2, q_1_3, q_1_4, q_1_5, q_1_6, q_1_7, q_1_8, eq_true q_1_9])
  by_cases q_1_10 : what = 10
  · skip
    refine lv_tableIn (tgt := 128) (off := 127) hx hb dX0_howMany_1 (by rw [q_1_10]; decide) (by rw [q_1_10]; decide) (by rw [q_1_10]; decide) (by decide) ?_
    refine lv_aload_n hx hb dX0_howMany_128 rfl (lv_at hl 0 rfl) ?_
    refine va_get (D := D) (C := RX0) (T := TX0) (N := 2) (ci := 0) (v := .ref (ad 0)) hx hb hts nX0 hown hK hP 101 w_an rfl 1 (by decide) k15 (fun _ h9 => h9) rfl dX0_howMany_129 ?_
    refine va_get (D := D) (C := RX6) (T := TX6) (N := 12) (ci := 6) (v := .int (τ 0 8)) hx hb hts nX6 hown hK hP 0 w_st rfl 8 (by decide) k176 (fun _ h9 => h9) rfl dX0_howMany_132 ?_
    exact x_iret hx hb hr hlocks hK () hP hD hS dX0_howMany_135 (by simp (decide := true) [m_howMany, n24, n40, n2, n27, n4, q_1_0, q_1_1, q_1_2, q_1_3, q_1_4, q_1_5, q_1_6, q_1_7, q_1_8, q_1_9, eq_true q_1_10])
  by_cases q_1_11 : what = 11
  · skip
    refine lv_tableIn (tgt := 136) (off := 135) hx hb dX0_howMany_1 (by rw [q_1_11]; decide) (by rw [q_1_11]; decide) (by rw [q_1_11]; decide) (by decide) ?_
    refine lv_aload_n hx hb dX0_howMany_136 rfl (lv_at hl 0 rfl) ?_
    refine va_get (D := D) (C := RX0) (T := TX0) (N := 2) (ci := 0) (v := .ref (ad 0)) hx hb hts nX0 hown hK hP 101 w_an rfl 1 (by decide) k15 (fun _ h9 => h9) rfl dX0_howMany_137 ?_
    refine va_get (D := D) (C := RX6) (T := TX6) (N := 12) (ci := 6) (v := .int (τ 0 9)) hx hb hts nX6 hown hK hP 0 w_st rfl 9 (by decide) k179 (fun _ h9 => h9) rfl dX0_howMany_140 ?_
    exact x_iret hx hb hr hlocks hK () hP hD hS dX0_howMany_143 (by simp (decide := true) [m_howMany, n24, n40, n2, n27, n4, q_1_0, q_1_1, q_1_2, q_1_3, q_1_4, q_1_5, q_1_6, q_1_7, q_1_8, q_1_9, q_1_10, eq_true q_1_11])
  refine lv_tableOut (tgt := 144) hx hb dX0_howMany_1 (by have eq_1_0 : (what).toInt ≠ 0 := fun h => q_1_0 (Int32.toInt_inj.mp (h.trans (by decide))); have eq_1_1 : (what).toInt ≠ 1 := fun h => q_1_1 (Int32.toInt_inj.mp (h.trans (by decide))); have eq_1_2 : (what).toInt ≠ 2 := fun h => q_1_2 (Int32.toInt_inj.mp (h.trans (by decide))); have eq_1_3 : (what).toInt ≠ 3 := fun h => q_1_3 (Int32.toInt_inj.mp (h.trans (by decide))); have eq_1_4 : (what).toInt ≠ 4 := fun h => q_1_4 (Int32.toInt_inj.mp (h.trans (by decide))); have eq_1_5 : (what).toInt ≠ 5 := fun h => q_1_5 (Int32.toInt_inj.mp (h.trans (by decide))); have eq_1_6 : (what).toInt ≠ 6 := fun h => q_1_6 (Int32.toInt_inj.mp (h.trans (by decide))); have eq_1_7 : (what).toInt ≠ 7 := fun h => q_1_7 (Int32.toInt_inj.mp (h.trans (by decide))); have eq_1_8 : (what).toInt ≠ 8 := fun h => q_1_8 (Int32.toInt_inj.mp (h.trans (by decide))); have eq_1_9 : (what).toInt ≠ 9 := fun h => q_1_9 (Int32.toInt_inj.mp (h.trans (by decide))); have eq_1_10 : (what).toInt ≠ 10 := fun h => q_1_10 (Int32.toInt_inj.mp (h.trans (by decide))); have eq_1_11 : (what).toInt ≠ 11 := fun h => q_1_11 (Int32.toInt_inj.mp (h.trans (by decide))); omega) (by decide) ?_
  refine lv_aload_n hx hb dX0_howMany_144 rfl (lv_at hl 0 rfl) ?_
  refine va_get (D := D) (C := RX0) (T := TX0) (N := 2) (ci := 0) (v := .ref (ad 0)) hx hb hts nX0 hown hK hP 101 w_an rfl 1 (by decide) k15 (fun _ h9 => h9) rfl dX0_howMany_145 ?_
  refine va_get (D := D) (C := RX6) (T := TX6) (N := 12) (ci := 6) (v := .int (τ 0 10)) hx hb hts nX6 hown hK hP 0 w_st rfl 10 (by decide) k182 (fun _ h9 => h9) rfl dX0_howMany_148 ?_
  exact x_iret hx hb hr hlocks hK () hP hD hS dX0_howMany_151 (by simp (decide := true) [m_howMany, n24, n40, n2, n27, n4, q_1_0, q_1_1, q_1_2, q_1_3, q_1_4, q_1_5, q_1_6, q_1_7, q_1_8, q_1_9, q_1_10, q_1_11])

set_option maxHeartbeats 4000000 in
set_option maxRecDepth 100000 in
theorem c_X0_countStuck (l : Launch) (D : va_G) (cA : Nat → ClassId) (ad : Nat → Nat) (tr : List (ClassId × FieldType)) (rest : va_W) (sz : Nat) (τ : Sg)  : Met l yX0_countStuck wsX0_countStuck ({ frames := 1, cells := 0, slots := 0, locals := 26 }) (va_Pc [.ref (ad 101)] (inW D (tyB cA ++ tr) (wB cA ad τ ++ rest) sz)) (va_Qi (fun (r : Int32) (_ : Unit) => r = m_countStuck τ) (fun _ : Unit => outW D (tyB cA ++ tr) (va_A (wB cA ad τ ++ rest) sz) (wB cA ad τ ++ rest)) (va_A (wB cA ad τ ++ rest) sz)) 0 0 (va_A (wB cA ad τ ++ rest) sz) := by
  refine Met.ofW (cc := cX0_countStuck) (maxL := 5) (ret := (some .int)) (by decide) rfl ?_
  intro p e s m args below meth c s₁ B hml hv
  obtain ⟨rfl, hsz, hP, hK, hD0⟩ := hv
  have hx := B.exec
  have hb := B.bytes
  have hr := B.returns
  have hts := atoms_spec (ws := wsX0_countStuck) B.pre
  have hown : s.vm.findClass RX0 = some m.cls := findClass_of_methodNamed B.named
  have hlocks := B.notSynchronized
  subst hsz
  have hD := hD0.self (sz := s.heap.size)
  clear hD0
  generalize hAe : va_A (wB cA ad τ ++ rest) s.heap.size = A at hD ⊢
  have hA : ∀ q : Nat, s.heap.size ≤ q → A q := fun q h => by rw [← hAe]; exact Or.inr h
  clear hAe
  have hS : va_S A s.heap s.heap [] := va_S.rf
  have hP : va_P D vwCl (wB cA ad τ ++ rest) s.heap := hP
  have hl := lv_entry ([.ref (ad 101)]) (n := 5) (Nat.le_of_ble_eq_true rfl)
  rw [lg_entry_eq]
  generalize (lg_sl ([.ref (ad 101)]) ++ List.replicate (5 - (lg_sl ([.ref (ad 101)])).length) Slot.unset).toArray = ls at hl ⊢
  have hl : lv_has ls 5 [(0, .ref (ad 101))] := hl
  have nX0 : ∀ w ∈ u_ws RX0 TX0 2, w ∈ wsX0_countStuck := by decide +kernel
  have nX5 : ∀ w ∈ u_ws RX5 TX5 14, w ∈ wsX0_countStuck := by decide +kernel
  have nX6 : ∀ w ∈ u_ws RX6 TX6 12, w ∈ wsX0_countStuck := by decide +kernel
  have nX7 : ∀ w ∈ u_ws RX7 TX7 17, w ∈ wsX0_countStuck := by decide +kernel
  have k15 := hts (.fieldLink RX0 15 "ScopeRow$Answers" "state" "LScopeRow$State;") (by decide +kernel)
  have k185 := hts (.fieldLink RX0 185 "ScopeRow$State" "scopes" "[LScopeRow$Scope;") (by decide +kernel)
  have k148 := hts (.fieldLink RX0 148 "ScopeRow$State" "tasks" "[LScopeRow$Task;") (by decide +kernel)
  have k31 := hts (.fieldLink RX0 31 "ScopeRow$Task" "state" "I") (by decide +kernel)
  have k88 := hts (.fieldLink RX0 88 "ScopeRow$Scope" "deadline" "I") (by decide +kernel)
  have k176 := hts (.fieldLink RX0 176 "ScopeRow$State" "now" "I") (by decide +kernel)
  refine lv_aload_n hx hb dX0_countStuck_0 rfl (lv_at hl 0 rfl) ?_
  refine va_get (D := D) (C := RX0) (T := TX0) (N := 2) (ci := 0) (v := .ref (ad 0)) hx hb hts nX0 hown hK hP 101 w_an rfl 1 (by decide) k15 (fun _ h9 => h9) rfl dX0_countStuck_1 ?_
  refine va_get (D := D) (C := RX6) (T := TX6) (N := 12) (ci := 6) (v := .ref (ad 2)) hx hb hts nX6 hown hK hP 0 w_st rfl 2 (by decide) k185 (fun _ h9 => h9) rfl dX0_countStuck_4 ?_
  refine lv_astore_n (lv' := [(1, .ref (ad 2)), (0, .ref (ad 101))]) hx hb dX0_countStuck_7 rfl hl (by decide) rfl (fun ls hl => ?_)
  refine lv_aload_n hx hb dX0_countStuck_8 rfl (lv_at hl 0 rfl) ?_
  refine va_alen (v := 40) hx hb hK hP 2 2 w_a2 rfl rfl dX0_countStuck_9 ?_
  refine lv_istore_n (lv' := [(2, .int 40), (1, .ref (ad 2)), (0, .ref (ad 101))]) hx hb dX0_countStuck_10 rfl hl (by decide) rfl (fun ls hl => ?_)
  refine lv_iconst (v := 0) hx hb dX0_countStuck_11 (by decide) ?_
  refine lv_istore_n (lv' := [(3, .int 0), (2, .int 40), (1, .ref (ad 2)), (0, .ref (ad 101))]) hx hb dX0_countStuck_12 rfl hl (by decide) rfl (fun ls hl => ?_)
  refine W_meas (I := fun (n : Nat) (H : Heap) (locs : List Loc) (ls : Array Slot) => ∃ (j : Nat), ((n + j = 40) ∧ (m_any (m_isTimer τ) n j = m_timer τ)) ∧ va_P D vwCl (wB cA ad τ ++ rest) H ∧ va_D A (wB cA ad τ ++ rest) ∧ va_S A s.heap H locs ∧ lv_has ls 5 [(0, .ref (ad 101)), (1, .ref (ad 2)), (2, .int 40), (3, .int (nI j))]) 40 ⟨0, ⟨by omega, rfl⟩, hP, hD, hS, lv_sub hl [3, 2, 1, 0] rfl⟩ ?_
  clear hP hD hS hl
  intro n ih H locs ls hI
  obtain ⟨j, ⟨hn, hf⟩, hP, hD, hS, hl⟩ := hI
  refine lv_iload_n hx hb dX0_countStuck_13 rfl (lv_at hl 3 rfl) ?_
  refine lv_iload_n hx hb dX0_countStuck_14 rfl (lv_at hl 2 rfl) ?_
  refine lv_icmp_ge (tgt := 54) hx hb dX0_countStuck_15 (by decide) (fun c_15_1 => ?_) (fun c_15_1 => ?_)
  -- 15 jumps
  · skip
    obtain rfl : n = 0 := by have := ge_c40 c_15_1 (by omega); omega
    have h40 : m_timer τ = false := hf.symm
    refine lv_aload_n hx hb dX0_countStuck_54 rfl (lv_at hl 0 rfl) ?_
    refine va_get (D := D) (C := RX0) (T := TX0) (N := 2) (ci := 0) (v := .ref (ad 0)) hx hb hts nX0 hown hK hP 101 w_an rfl 1 (by decide) k15 (fun _ h9 => h9) rfl dX0_countStuck_55 ?_
    refine va_get (D := D) (C := RX6) (T := TX6) (N := 12) (ci := 6) (v := .ref (ad 1)) hx hb hts nX6 hown hK hP 0 w_st rfl 0 (by decide) k148 (fun _ h9 => h9) rfl dX0_countStuck_58 ?_
    refine lv_astore_n (lv' := [(1, .ref (ad 1)), (0, .ref (ad 101)), (2, .int 40), (3, .int (nI j))]) hx hb dX0_countStuck_61 rfl hl (by decide) rfl (fun ls hl => ?_)
    refine lv_aload_n hx hb dX0_countStuck_62 rfl (lv_at hl 0 rfl) ?_
    refine va_alen (v := 24) hx hb hK hP 1 1 w_a1 rfl rfl dX0_countStuck_63 ?_
    refine lv_istore_n (lv' := [(2, .int 24), (1, .ref (ad 1)), (0, .ref (ad 101)), (3, .int (nI j))]) hx hb dX0_countStuck_64 rfl hl (by decide) rfl (fun ls hl => ?_)
    refine lv_iconst (v := 0) hx hb dX0_countStuck_65 (by decide) ?_
    refine lv_istore_n (lv' := [(3, .int 0), (2, .int 24), (1, .ref (ad 1)), (0, .ref (ad 101))]) hx hb dX0_countStuck_66 rfl hl (by decide) rfl (fun ls hl => ?_)
    refine W_meas (I := fun (n : Nat) (H : Heap) (locs : List Loc) (ls : Array Slot) => ∃ (j2 : Nat), ((n + j2 = 24) ∧ (m_any (m_isBusy τ) n j2 = m_busy τ)) ∧ va_P D vwCl (wB cA ad τ ++ rest) H ∧ va_D A (wB cA ad τ ++ rest) ∧ va_S A s.heap H locs ∧ lv_has ls 5 [(0, .ref (ad 101)), (1, .ref (ad 1)), (2, .int 24), (3, .int (nI j2))]) 24 ⟨0, ⟨by omega, rfl⟩, hP, hD, hS, lv_sub hl [3, 2, 1, 0] rfl⟩ ?_
    clear hP hD hS hl
    intro n ih H locs ls hI
    obtain ⟨j2, ⟨hn2, hf2⟩, hP, hD, hS, hl⟩ := hI
    refine lv_iload_n hx hb dX0_countStuck_67 rfl (lv_at hl 3 rfl) ?_
    refine lv_iload_n hx hb dX0_countStuck_68 rfl (lv_at hl 2 rfl) ?_
    refine lv_icmp_ge (tgt := 102) hx hb dX0_countStuck_69 (by decide) (fun c_69_2 => ?_) (fun c_69_2 => ?_)
    -- 69 jumps
    · skip
      obtain rfl : n = 0 := by have := ge_c c_69_2 (by omega); omega
      have h24 : m_busy τ = false := hf2.symm
      refine lv_aload_n hx hb dX0_countStuck_102 rfl (lv_at hl 0 rfl) ?_
      refine lv_iconst (v := 1) hx hb dX0_countStuck_103 (by decide) ?_
      refine x_Vi (As := [.int 1]) (rest0 := []) ⟨hx, hb, hml, hown, hts⟩ (c_X0_countTasks l D cA ad tr rest H.size τ 1) (cwV 1 hts gX0_countStuck_X0_countTasks rfl rfl rfl (by decide +kernel) ⟨Nat.le_of_ble_eq_true rfl, Nat.le_of_ble_eq_true rfl⟩) hK hP hD hS hA 101 w_an rfl hl.1 rfl rfl (Nat.le_of_ble_eq_true rfl) ⟨Nat.zero_le _, Nat.zero_le _⟩ dX0_countStuck_104 (fun r3 _ H locs hw hP hD hS => ?_)
      have er3 := hw
      exact x_iret hx hb hr hlocks hK () hP hD hS dX0_countStuck_107 (by subst er3; simp [m_countStuck, h40, h24])
    -- 69 goes on
    · skip
      have hj2 : j2 < 24 := lt_c c_69_2 (by omega)
      obtain ⟨n, rfl⟩ : ∃ k, n = k + 1 := ⟨n - 1, by omega⟩
      refine lv_aload_n hx hb dX0_countStuck_72 rfl (lv_at hl 1 rfl) ?_
      refine lv_iload_n hx hb dX0_countStuck_73 rfl (lv_at hl 3 rfl) ?_
      refine l_a1 hx hb hK hP (j := j2) (nI_clamp (by omega)) (vp_in_nI hj2 (by omega)) dX0_countStuck_74 ?_
      refine lv_astore (lv' := [(4, .ref (ad (j2 + 6))), (0, .ref (ad 101)), (1, .ref (ad 1)), (2, .int 24), (3, .int (nI j2))]) hx hb dX0_countStuck_75 hl (by decide) rfl (fun ls hl => ?_)
      refine lv_aload hx hb dX0_countStuck_77 (lv_at hl 0 rfl) ?_
      refine va_get (D := D) (C := RX7) (T := TX7) (N := 17) (ci := 7) (v := .int (τ (j2 + 6) 3)) hx hb hts nX7 hown hK hP (j2 + 6) (w_tk hj2) rfl 3 (by decide) k31 (fun _ h9 => h9) rfl dX0_countStuck_79 ?_
      refine lv_if_eq (tgt := 94) hx hb dX0_countStuck_82 (by decide) (fun c_82_4 => ?_) (fun c_82_4 => ?_)
      -- 82 jumps
      · skip
        refine lv_iconst (v := 0) hx hb dX0_countStuck_94 (by decide) ?_
        exact x_iret hx hb hr hlocks hK () hP hD hS dX0_countStuck_95 (by have e : m_busy τ = true := (by rw [← hf2]; simp [m_any, m_isBusy, c_69_2, eq_true c_82_4]); simp [m_countStuck, h40, e])
      -- 82 goes on
      · skip
        refine lv_aload hx hb dX0_countStuck_85 (lv_at hl 0 rfl) ?_
        refine lv_iconst (v := 1) hx hb dX0_countStuck_87 (by decide) ?_
        refine x_Vi (As := [.int 1]) (rest0 := []) ⟨hx, hb, hml, hown, hts⟩ (c_X7_waitsAt l D cA ad tr rest H.size τ j2 hj2 1) (cwV 1 hts gX0_countStuck_X7_waitsAt rfl rfl rfl (by decide +kernel) ⟨Nat.le_of_ble_eq_true rfl, Nat.le_of_ble_eq_true rfl⟩) hK hP hD hS hA (j2 + 6) (w_tk hj2) rfl hl.1 rfl rfl (Nat.le_of_ble_eq_true rfl) ⟨Nat.zero_le _, Nat.zero_le _⟩ dX0_countStuck_88 (fun r5 _ H locs hw hP hD hS => ?_)
        have er5 := hw
        refine lv_if_eq (tgt := 96) hx hb dX0_countStuck_91 (by decide) (fun c_91_6 => ?_) (fun c_91_6 => ?_)
        -- 91 jumps
        · skip
          have dc_91_6 := bI_f er5 c_91_6
          refine lv_iinc (v := (nI (j2 + 1))) (lv' := [(3, .int (nI (j2 + 1))), (4, .ref (ad (j2 + 6))), (0, .ref (ad 101)), (1, .ref (ad 1)), (2, .int 24)]) hx hb dX0_countStuck_96 hl (k := 4) rfl (show nI j2 + 1 = nI (j2 + 1) from nI_1 j2) (by decide) rfl (fun ls hl => ?_)
          refine lv_goto (tgt := 67) hx hb dX0_countStuck_99 (by decide) ?_
          exact ih n (Nat.lt_succ_self n) H locs ls ⟨(j2 + 1), ⟨by omega, by rw [← hf2]; simp [m_any, m_isTimer, m_isBusy, c_69_2, c_82_4, dc_91_6]⟩, hP, hD, hS, lv_sub hl [2, 3, 4, 0] rfl⟩
        -- 91 goes on
        · skip
          have dc_91_6 := bI_t er5 c_91_6
          refine lv_iconst (v := 0) hx hb dX0_countStuck_94 (by decide) ?_
          exact x_iret hx hb hr hlocks hK () hP hD hS dX0_countStuck_95 (by have e : m_busy τ = true := (by rw [← hf2]; simp [m_any, m_isBusy, c_69_2, c_82_4, dc_91_6]); simp [m_countStuck, h40, e])
  -- 15 goes on
  · skip
    have hj : j < 40 := lt_c40 c_15_1 (by omega)
    obtain ⟨n, rfl⟩ : ∃ k, n = k + 1 := ⟨n - 1, by omega⟩
    refine lv_aload_n hx hb dX0_countStuck_18 rfl (lv_at hl 1 rfl) ?_
    refine lv_iload_n hx hb dX0_countStuck_19 rfl (lv_at hl 3 rfl) ?_
    refine l_a2 hx hb hK hP (j := j) (nI_clamp (by omega)) (vp_in_nI hj (by omega)) dX0_countStuck_20 ?_
    refine lv_astore (lv' := [(4, .ref (ad (j + 54))), (0, .ref (ad 101)), (1, .ref (ad 2)), (2, .int 40), (3, .int (nI j))]) hx hb dX0_countStuck_21 hl (by decide) rfl (fun ls hl => ?_)
    refine lv_aload hx hb dX0_countStuck_23 (lv_at hl 0 rfl) ?_
    refine x_Vi (As := []) (rest0 := []) ⟨hx, hb, hml, hown, hts⟩ (c_X5_isLive l D cA ad tr rest H.size τ j hj) (cwV 0 hts gX0_countStuck_X5_isLive rfl rfl rfl (by decide +kernel) ⟨Nat.le_of_ble_eq_true rfl, Nat.le_of_ble_eq_true rfl⟩) hK hP hD hS hA (j + 54) (w_sc hj) rfl hl.1 rfl rfl (Nat.le_of_ble_eq_true rfl) ⟨Nat.zero_le _, Nat.zero_le _⟩ dX0_countStuck_25 (fun r7 _ H locs hw hP hD hS => ?_)
    have er7 := hw
    refine lv_if_eq (tgt := 48) hx hb dX0_countStuck_28 (by decide) (fun c_28_8 => ?_) (fun c_28_8 => ?_)
    -- 28 jumps
    · skip
      have dc_28_8 := bI_f er7 c_28_8
      refine lv_iinc (v := (nI (j + 1))) (lv' := [(3, .int (nI (j + 1))), (4, .ref (ad (j + 54))), (0, .ref (ad 101)), (1, .ref (ad 2)), (2, .int 40)]) hx hb dX0_countStuck_48 hl (k := 4) rfl (show nI j + 1 = nI (j + 1) from nI_1 j) (by decide) rfl (fun ls hl => ?_)
      refine lv_goto (tgt := 13) hx hb dX0_countStuck_51 (by decide) ?_
      exact ih n (Nat.lt_succ_self n) H locs ls ⟨(j + 1), ⟨by omega, by rw [← hf]; simp [m_any, m_isTimer, m_isBusy, c_15_1, dc_28_8]⟩, hP, hD, hS, lv_sub hl [2, 3, 4, 0] rfl⟩
    -- 28 goes on
    · skip
      have dc_28_8 := bI_t er7 c_28_8
      refine lv_aload hx hb dX0_countStuck_31 (lv_at hl 0 rfl) ?_
      refine va_get (D := D) (C := RX5) (T := TX5) (N := 14) (ci := 5) (v := .int (τ (j + 54) 7)) hx hb hts nX5 hown hK hP (j + 54) (w_sc hj) rfl 7 (by decide) k88 (fun _ h9 => h9) rfl dX0_countStuck_33 ?_
      refine lv_aload_n hx hb dX0_countStuck_36 rfl (lv_at hl 1 rfl) ?_
      refine va_get (D := D) (C := RX0) (T := TX0) (N := 2) (ci := 0) (v := .ref (ad 0)) hx hb hts nX0 hown hK hP 101 w_an rfl 1 (by decide) k15 (fun _ h9 => h9) rfl dX0_countStuck_37 ?_
      refine va_get (D := D) (C := RX6) (T := TX6) (N := 12) (ci := 6) (v := .int (τ 0 8)) hx hb hts nX6 hown hK hP 0 w_st rfl 8 (by decide) k176 (fun _ h9 => h9) rfl dX0_countStuck_40 ?_
      refine lv_icmp_le (tgt := 48) hx hb dX0_countStuck_43 (by decide) (fun c_43_9 => ?_) (fun c_43_9 => ?_)
      -- 43 jumps
      · skip
        refine lv_iinc (v := (nI (j + 1))) (lv' := [(3, .int (nI (j + 1))), (4, .ref (ad (j + 54))), (0, .ref (ad 101)), (1, .ref (ad 2)), (2, .int 40)]) hx hb dX0_countStuck_48 hl (k := 4) rfl (show nI j + 1 = nI (j + 1) from nI_1 j) (by decide) rfl (fun ls hl => ?_)
        refine lv_goto (tgt := 13) hx hb dX0_countStuck_51 (by decide) ?_
        exact ih n (Nat.lt_succ_self n) H locs ls ⟨(j + 1), ⟨by omega, by rw [← hf]; simp [m_any, m_isTimer, m_isBusy, c_15_1, dc_28_8, eq_true c_43_9]⟩, hP, hD, hS, lv_sub hl [2, 3, 4, 0] rfl⟩
      -- 43 goes on
      · skip
        refine lv_iconst (v := 0) hx hb dX0_countStuck_46 (by decide) ?_
        exact x_iret hx hb hr hlocks hK () hP hD hS dX0_countStuck_47 (by have e : m_timer τ = true := (by rw [← hf]; simp [m_any, m_isTimer, c_15_1, dc_28_8, c_43_9]); simp [m_countStuck, e])
