/-! THE RUNNER: what each LINE does: the new ints, and the way behind it -/
def m_next (τ : Sg) (i : Nat) : Sg := up2 τ (i + 6) 4 (τ (i + 6) 4 + 1)
def m_get (τ : Sg) (i : Nat) (a : Int32) : Sg := m_next (up2 τ (i + 6) 5 (m_localAt τ i a)) i
def m_put (τ : Sg) (i : Nat) (a : Int32) : Sg := m_next (m_putLocal τ i a (τ (i + 6) 5)) i
def m_loopR (τ : Sg) (i : Nat) (a b : Int32) : Sg := if 0 < m_localAt τ i a then up2 (m_putLocal τ i a (m_localAt τ i a - 1)) (i + 6) 4 b else m_next τ i
def m_skip (τ : Sg) (i : Nat) (b : Int32) : Sg := if τ (i + 6) 5 ≤ 0 then up2 τ (i + 6) 4 b else m_next τ i
def m_opn (τ : Sg) (i : Nat) (shield dl line : Int32) : Sg × Int32 := match m_at (τ 0 3) 40 with
  | none => (τ, 3)
  | some k =>
    let τ1 := m_begin τ k i shield dl line
    let τ2 := up2 τ1 0 3 (τ1 0 3 + 1)
    let τ3 := up2 τ2 (i + 6) 7 (nI k)
    (m_next (up2 τ3 (i + 6) 8 (τ3 (i + 6) 8 + 1)) i, 0)
def m_spawn (τ π : Sg) (i : Nat) (body : Int32) : Sg × Int32 := match m_at (τ (i + 6) 7) 40 with
  | none => (τ, 1)
  | some k => if π 0 0 ≤ body then (τ, 2) else
    let τ1 := m_makeTaskW τ body (nI k)
    if m_makeTask τ = -1 then (τ1, 2) else
    let τ2 := up2 τ1 (k + 54) 10 (τ1 (k + 54) 10 + 1)
    (m_next (up2 τ2 (i + 6) 5 (m_makeTask τ)) i, 0)
def m_stop (τ : Sg) (i : Nat) : Sg × Int32 := match m_at (τ (i + 6) 7) 40 with
  | none => (τ, 1)
  | some k => (m_next (m_cancelScope τ k) i, 0)
def m_sleep (τ : Sg) (i : Nat) (a : Int32) : Sg :=
  let τ1 := m_beginWait τ i 1 (-1)
  up2 τ1 (i + 6) 12 (τ1 0 8 + a)
def m_lck (τ : Sg) (i : Nat) (x : Int32) : Sg × Int32 := match m_at x 2 with
  | none => (τ, 4)
  | some k => if τ (k + 94) 1 = nI i then (τ, 4) else if τ (k + 94) 1 = -1 then (m_next (m_giveTo τ k i) i, 0) else (m_beginWait τ i 2 x, -4)
def m_fre (τ : Sg) (i : Nat) (x : Int32) : Sg × Int32 := match m_at x 2 with
  | none => (τ, 4)
  | some k => if τ (k + 94) 1 = nI i then (m_next (m_freeLock τ k) i, 0) else (τ, 4)
def m_send (τ : Sg) (i : Nat) (x : Int32) : Sg × Int32 := match m_at x 2 with
  | none => (τ, 5)
  | some k => if τ (k + 96) 3 = 0 then (match m_firstWaiting τ 4 x with
    | some q => (m_next (m_giveValue τ q x (τ (i + 6) 5)) i, 0)
    | none => if τ (k + 96) 0 ≤ τ (k + 96) 2 then
        (let τ1 := m_beginWait τ i 3 x
        (up2 τ1 (i + 6) 13 (τ1 (i + 6) 5), -4))
      else (m_next (m_addLast τ k (τ (i + 6) 5)) i, 0)) else (τ, 5)
def m_take (τ : Sg) (i : Nat) (x : Int32) : Sg × Int32 := if m_hasValue τ x = true then (m_next (up2 (m_takeValueW τ x) (i + 6) 5 (m_takeValue τ x)) i, 0) else
  match m_at x 2 with
  | none => (τ, 6)
  | some k => if τ (k + 96) 3 = 0 then (m_beginWait τ i 4 x, -4) else (τ, 6)
def m_pick1 (τ : Sg) (i : Nat) (x : Int32) : Sg := m_next (m_putLocal (up2 (m_takeValueW τ x) (i + 6) 5 (m_takeValue τ x)) i 3 x) i
def m_pick (τ : Sg) (i : Nat) : Sg × Int32 := if m_hasValue τ 0 = true then (m_pick1 τ i 0, 0) else if m_hasValue τ 1 = true then (m_pick1 τ i 1, 0) else
  if m_allEnded τ = true then (τ, 6) else (up2 (m_beginWait τ i 4 (-1)) (i + 6) 11 1, -4)
def m_nd (τ : Sg) (i : Nat) (x : Int32) : Sg × Int32 := match m_at x 2 with
  | none => (τ, 5)
  | some k => if τ (k + 96) 3 = 0 then (m_next (m_putEnd τ x) i, 0) else (τ, 5)
/-- a SCOPE is done with: the TASK goes on behind it -/
def m_goesOn (τ : Sg) (i k : Nat) : Sg :=
  let τ1 := up2 τ (i + 6) 5 (if τ (k + 54) 5 = 0 then 0 else 1)
  up2 τ1 (i + 6) 4 (τ1 (k + 54) 8)
def m_wayOut (τ : Sg) (i k : Nat) : Sg × Int32 := if τ (k + 54) 9 = -1 then (m_goesOn τ i k, 0) else if τ (k + 54) 9 = -3 then (if τ (k + 54) 5 = 0 then (τ, τ (k + 54) 9) else (m_goesOn τ i k, 0)) else (τ, τ (k + 54) 9)
def m_takeOff (τ : Sg) (i : Nat) : Sg × Int32 := match m_at (τ (i + 6) 7) 40 with
  | none => (τ, -2)
  | some k =>
    let τ1 := up2 τ (i + 6) 7 (τ (k + 54) 3)
    let τ2 := up2 τ1 (i + 6) 8 (τ1 (i + 6) 8 - 1)
    if 0 < τ2 (k + 54) 9 then m_wayOut τ2 i k else
    match m_at (τ2 (k + 54) 13) 24 with
    | some q => (τ2, τ2 (q + 6) 5)
    | none => m_wayOut τ2 i k
def m_tellFail (τ : Sg) (i k : Nat) : Sg := if τ (i + 6) 3 = 3 then
    (let τ1 := up2 τ (k + 54) 12 (τ (k + 54) 12 + 1)
    m_cancelScope (if τ1 (k + 54) 13 = -1 then up2 τ1 (k + 54) 13 (nI i) else τ1) k) else τ
def m_tellClose (τ : Sg) (k : Nat) : Sg := if τ (k + 54) 1 = 1 then (if τ (k + 54) 11 < τ (k + 54) 10 then τ else
    let τ1 := up2 τ (k + 54) 1 2
    match m_at (τ1 (k + 54) 2) 24 with
    | none => τ1
    | some q => if m_waitsAt τ1 q 5 = true then m_makeReady τ1 q else τ1) else τ
def m_tellOver (τ : Sg) (i k : Nat) : Sg := m_tellClose (m_tellFail (up2 τ (k + 54) 11 (τ (k + 54) 11 + 1)) i k) k
def m_freeOf (τ : Sg) (i k : Nat) : Sg := if τ (k + 94) 1 = nI i then m_freeLock τ k else τ
def m_endWay (τ : Sg) (i : Nat) (way : Int32) : Sg :=
  let τ1 := up2 τ (i + 6) 3 (if way ≤ 0 then (if way = -3 then 4 else 2) else 3)
  if way ≤ 0 then τ1 else up2 τ1 (i + 6) 5 way
def m_endLast (τ : Sg) (i : Nat) : Sg := match m_at (τ (i + 6) 6) 40 with
  | none => τ
  | some k => m_tellOver τ i k
def m_endTask (τ : Sg) (i : Nat) (way : Int32) : Sg := m_endLast (m_freeOf (m_freeOf (m_endWay τ i way) i 0) i 1) i
def m_leave (τ : Sg) (i : Nat) (way : Int32) : Sg × Int32 := match m_at (τ (i + 6) 7) 40 with
  | none => (m_endTask τ i way, -4)
  | some k =>
    let τ1 := if way ≤ 0 then τ else m_cancelScope τ k
    let τ2 := up2 τ1 (k + 54) 1 1
    let τ3 := up2 τ2 (k + 54) 9 way
    if τ3 (k + 54) 10 ≤ τ3 (k + 54) 11 then m_takeOff (up2 τ3 (k + 54) 1 2) i else (m_beginWait τ3 i 5 (nI k), -4)
def m_beginTurn (τ : Sg) (i : Nat) : Sg × Int32 := if τ (i + 6) 9 = 0 then (τ, 0) else if τ (i + 6) 9 = 5 then m_takeOff τ i else
  if m_isHit τ i (-1) = true then (m_giveBack τ i (τ (i + 6) 9), -3) else
  if τ (i + 6) 15 ≤ 0 then
    (if τ (i + 6) 9 = 4 then
      (let τ1 := up2 τ (i + 6) 5 (τ (i + 6) 13)
      (m_next (if τ1 (i + 6) 11 = 0 then τ1 else m_putLocal τ1 i 3 (τ1 (i + 6) 10)) i, 0)) else (m_next τ i, 0))
  else (τ, τ (i + 6) 15)

set_option maxHeartbeats 4000000 in
set_option maxRecDepth 100000 in
theorem c_X4_next (l : Launch) (D : va_G) (cA : Nat → ClassId) (ad : Nat → Nat) (tr : List (ClassId × FieldType)) (rest : va_W) (sz : Nat) (τ : Sg) (i : Nat) (hi : i < 24) : Met l yX4_next wsX4_next ({ frames := 0, cells := 0, slots := 0, locals := 0 }) (va_Pc [.ref (ad 100), .ref (ad (i + 6))] (inW D (tyB cA ++ tr) (wB cA ad τ ++ rest) sz)) (va_Qi (fun (r : Int32) (u : Sg) => r = 0 ∧ u = m_next τ i) (fun u : Sg => outW D (tyB cA ++ tr) (va_A (wB cA ad τ ++ rest) sz) (wB cA ad u ++ rest)) (va_A (wB cA ad τ ++ rest) sz)) 0 0 (va_A (wB cA ad τ ++ rest) sz) := by
  refine Met.ofW (cc := cX4_next) (maxL := 2) (ret := (some .int)) (by decide) rfl ?_
  intro p e s m args below meth c s₁ B hml hv
  obtain ⟨rfl, hsz, hP, hK, hD0⟩ := hv
  have hx := B.exec
  have hb := B.bytes
  have hr := B.returns
  have hts := atoms_spec (ws := wsX4_next) B.pre
  have hown : s.vm.findClass RX4 = some m.cls := findClass_of_methodNamed B.named
  have hlocks := B.notSynchronized
  subst hsz
  have hD := hD0.self (sz := s.heap.size)
  clear hD0
  generalize hAe : va_A (wB cA ad τ ++ rest) s.heap.size = A at hD ⊢
  have hA : ∀ q : Nat, s.heap.size ≤ q → A q := fun q h => by rw [← hAe]; exact Or.inr h
  clear hAe
  have hS : va_S A s.heap s.heap [] := va_S.rf
  have hP : va_P D vwCl (wB cA ad τ ++ rest) s.heap := hP
  have hl := lv_entry ([.ref (ad 100), .ref (ad (i + 6))]) (n := 2) (Nat.le_of_ble_eq_true rfl)
  rw [lg_entry_eq]
  generalize (lg_sl ([.ref (ad 100), .ref (ad (i + 6))]) ++ List.replicate (2 - (lg_sl ([.ref (ad 100), .ref (ad (i + 6))])).length) Slot.unset).toArray = ls at hl ⊢
  have hl : lv_has ls 2 [(0, .ref (ad 100)), (1, .ref (ad (i + 6)))] := hl
  have nX7 : ∀ w ∈ u_ws RX7 TX7 17, w ∈ wsX4_next := by decide +kernel
  have k82 := hts (.fieldLink RX4 82 "ScopeRow$Task" "line" "I") (by decide +kernel)
  refine lv_aload_n hx hb dX4_next_0 rfl (lv_at hl 1 rfl) ?_
  refine lv_dup hx hb dX4_next_1 rfl ?_
  refine va_get (D := D) (C := RX7) (T := TX7) (N := 17) (ci := 7) (v := .int (τ (i + 6) 4)) hx hb hts nX7 hown hK hP (i + 6) (w_tk hi) rfl 4 (by decide) k82 (fun _ h9 => h9) rfl dX4_next_2 ?_
  refine lv_iconst (v := 1) hx hb dX4_next_5 (by decide) ?_
  refine lv_iadd hx hb dX4_next_6 ?_
  refine p_tk hx hb hts nX7 hown hK hP hD hS hi 4 (by decide) (by decide) k82 (fun _ h9 => h9) rfl rfl rfl dX4_next_7 (fun τ1 H locs eτ1 hP hD hS => ?_)
  refine lv_iconst (v := 0) hx hb dX4_next_10 (by decide) ?_
  exact x_iret hx hb hr hlocks hK τ1 hP hD hS dX4_next_11 (by subst eτ1; simp [m_next, n24, n40, n2, n27, n4])

set_option maxHeartbeats 4000000 in
set_option maxRecDepth 100000 in
theorem c_X4_get (l : Launch) (D : va_G) (cA : Nat → ClassId) (ad : Nat → Nat) (tr : List (ClassId × FieldType)) (rest : va_W) (sz : Nat) (τ : Sg) (i : Nat) (hi : i < 24) (a : Int32) : Met l yX4_get wsX4_get ({ frames := 1, cells := 0, slots := 0, locals := 21 }) (va_Pc [.ref (ad 100), .ref (ad (i + 6)), .int a] (inW D (tyB cA ++ tr) (wB cA ad τ ++ rest) sz)) (va_Qi (fun (r : Int32) (u : Sg) => r = 0 ∧ u = m_get τ i a) (fun u : Sg => outW D (tyB cA ++ tr) (va_A (wB cA ad τ ++ rest) sz) (wB cA ad u ++ rest)) (va_A (wB cA ad τ ++ rest) sz)) 0 0 (va_A (wB cA ad τ ++ rest) sz) := by
  refine Met.ofW (cc := cX4_get) (maxL := 3) (ret := (some .int)) (by decide) rfl ?_
  intro p e s m args below meth c s₁ B hml hv
  obtain ⟨rfl, hsz, hP, hK, hD0⟩ := hv
  have hx := B.exec
  have hb := B.bytes
  have hr := B.returns
  have hts := atoms_spec (ws := wsX4_get) B.pre
  have hown : s.vm.findClass RX4 = some m.cls := findClass_of_methodNamed B.named
  have hlocks := B.notSynchronized
  subst hsz
  have hD := hD0.self (sz := s.heap.size)
  clear hD0
  generalize hAe : va_A (wB cA ad τ ++ rest) s.heap.size = A at hD ⊢
  have hA : ∀ q : Nat, s.heap.size ≤ q → A q := fun q h => by rw [← hAe]; exact Or.inr h
  clear hAe
  have hS : va_S A s.heap s.heap [] := va_S.rf
  have hP : va_P D vwCl (wB cA ad τ ++ rest) s.heap := hP
  have hl := lv_entry ([.ref (ad 100), .ref (ad (i + 6)), .int a]) (n := 3) (Nat.le_of_ble_eq_true rfl)
  rw [lg_entry_eq]
  generalize (lg_sl ([.ref (ad 100), .ref (ad (i + 6)), .int a]) ++ List.replicate (3 - (lg_sl ([.ref (ad 100), .ref (ad (i + 6)), .int a])).length) Slot.unset).toArray = ls at hl ⊢
  have hl : lv_has ls 3 [(0, .ref (ad 100)), (1, .ref (ad (i + 6))), (2, .int a)] := hl
  have nX7 : ∀ w ∈ u_ws RX7 TX7 17, w ∈ wsX4_get := by decide +kernel
  have k65 := hts (.fieldLink RX4 65 "ScopeRow$Task" "there" "I") (by decide +kernel)
  refine lv_aload_n hx hb dX4_get_0 rfl (lv_at hl 1 rfl) ?_
  refine lv_aload_n hx hb dX4_get_1 rfl (lv_at hl 1 rfl) ?_
  refine lv_iload_n hx hb dX4_get_2 rfl (lv_at hl 2 rfl) ?_
  refine x_Vi (As := [.int a]) (rest0 := [.ref (ad (i + 6))]) ⟨hx, hb, hml, hown, hts⟩ (c_X7_localAt l D cA ad tr rest s.heap.size τ i hi a) (cwV 1 hts gX4_get_X7_localAt rfl rfl rfl (by decide +kernel) ⟨Nat.le_of_ble_eq_true rfl, Nat.le_of_ble_eq_true rfl⟩) hK hP hD hS hA (i + 6) (w_tk hi) rfl hl.1 rfl rfl (Nat.le_of_ble_eq_true rfl) ⟨Nat.zero_le _, Nat.zero_le _⟩ dX4_get_3 (fun r1 _ H locs hw hP hD hS => ?_)
  have er1 := hw
  refine p_tk hx hb hts nX7 hown hK hP hD hS hi 5 (by decide) (by decide) k65 (fun _ h9 => h9) rfl rfl rfl dX4_get_6 (fun τ2 H locs eτ2 hP hD hS => ?_)
  refine lv_aload_n hx hb dX4_get_9 rfl (lv_at hl 0 rfl) ?_
  refine lv_aload_n hx hb dX4_get_10 rfl (lv_at hl 1 rfl) ?_
  refine x_Vi (As := [.ref (ad (i + 6))]) (rest0 := []) ⟨hx, hb, hml, hown, hts⟩ (c_X4_next l D cA ad tr rest H.size τ2 i hi) (cwV 1 hts gX4_get_X4_next rfl rfl rfl (by decide +kernel) ⟨Nat.le_of_ble_eq_true rfl, Nat.le_of_ble_eq_true rfl⟩) hK hP hD hS hA 100 w_ru rfl hl.1 rfl rfl (Nat.le_of_ble_eq_true rfl) ⟨Nat.zero_le _, Nat.zero_le _⟩ dX4_get_11 (fun r3 τ4 H locs hw hP hD hS => ?_)
  obtain ⟨er3, eτ4⟩ := hw
  exact x_iret hx hb hr hlocks hK τ4 hP hD hS dX4_get_14 (by subst er3 eτ4 eτ2 er1; simp [m_get, n24, n40, n2, n27, n4])

set_option maxHeartbeats 4000000 in
set_option maxRecDepth 100000 in
theorem c_X4_put (l : Launch) (D : va_G) (cA : Nat → ClassId) (ad : Nat → Nat) (tr : List (ClassId × FieldType)) (rest : va_W) (sz : Nat) (τ : Sg) (i : Nat) (hi : i < 24) (a : Int32) : Met l yX4_put wsX4_put ({ frames := 1, cells := 0, slots := 0, locals := 22 }) (va_Pc [.ref (ad 100), .ref (ad (i + 6)), .int a] (inW D (tyB cA ++ tr) (wB cA ad τ ++ rest) sz)) (va_Qi (fun (r : Int32) (u : Sg) => r = 0 ∧ u = m_put τ i a) (fun u : Sg => outW D (tyB cA ++ tr) (va_A (wB cA ad τ ++ rest) sz) (wB cA ad u ++ rest)) (va_A (wB cA ad τ ++ rest) sz)) 0 0 (va_A (wB cA ad τ ++ rest) sz) := by
  refine Met.ofW (cc := cX4_put) (maxL := 3) (ret := (some .int)) (by decide) rfl ?_
  intro p e s m args below meth c s₁ B hml hv
  obtain ⟨rfl, hsz, hP, hK, hD0⟩ := hv
  have hx := B.exec
  have hb := B.bytes
  have hr := B.returns
  have hts := atoms_spec (ws := wsX4_put) B.pre
  have hown : s.vm.findClass RX4 = some m.cls := findClass_of_methodNamed B.named
  have hlocks := B.notSynchronized
  subst hsz
  have hD := hD0.self (sz := s.heap.size)
  clear hD0
  generalize hAe : va_A (wB cA ad τ ++ rest) s.heap.size = A at hD ⊢
  have hA : ∀ q : Nat, s.heap.size ≤ q → A q := fun q h => by rw [← hAe]; exact Or.inr h
  clear hAe
  have hS : va_S A s.heap s.heap [] := va_S.rf
  have hP : va_P D vwCl (wB cA ad τ ++ rest) s.heap := hP
  have hl := lv_entry ([.ref (ad 100), .ref (ad (i + 6)), .int a]) (n := 3) (Nat.le_of_ble_eq_true rfl)
  rw [lg_entry_eq]
  generalize (lg_sl ([.ref (ad 100), .ref (ad (i + 6)), .int a]) ++ List.replicate (3 - (lg_sl ([.ref (ad 100), .ref (ad (i + 6)), .int a])).length) Slot.unset).toArray = ls at hl ⊢
  have hl : lv_has ls 3 [(0, .ref (ad 100)), (1, .ref (ad (i + 6))), (2, .int a)] := hl
  have nX7 : ∀ w ∈ u_ws RX7 TX7 17, w ∈ wsX4_put := by decide +kernel
  have k65 := hts (.fieldLink RX4 65 "ScopeRow$Task" "there" "I") (by decide +kernel)
  refine lv_aload_n hx hb dX4_put_0 rfl (lv_at hl 1 rfl) ?_
  refine lv_iload_n hx hb dX4_put_1 rfl (lv_at hl 2 rfl) ?_
  refine lv_aload_n hx hb dX4_put_2 rfl (lv_at hl 1 rfl) ?_
  refine va_get (D := D) (C := RX7) (T := TX7) (N := 17) (ci := 7) (v := .int (τ (i + 6) 5)) hx hb hts nX7 hown hK hP (i + 6) (w_tk hi) rfl 5 (by decide) k65 (fun _ h9 => h9) rfl dX4_put_3 ?_
  refine x_Vv (As := [.int a, .int (τ (i + 6) 5)]) (rest0 := []) ⟨hx, hb, hml, hown, hts⟩ (c_X7_putLocal l D cA ad tr rest s.heap.size τ i hi a (τ (i + 6) 5)) (cwV 2 hts gX4_put_X7_putLocal rfl rfl rfl (by decide +kernel) ⟨Nat.le_of_ble_eq_true rfl, Nat.le_of_ble_eq_true rfl⟩) hK hP hD hS hA (i + 6) (w_tk hi) rfl hl.1 rfl rfl (Nat.le_of_ble_eq_true rfl) ⟨Nat.zero_le _, Nat.zero_le _⟩ dX4_put_6 (fun τ1 H locs hw hP hD hS => ?_)
  have eτ1 := hw
  refine lv_aload_n hx hb dX4_put_9 rfl (lv_at hl 0 rfl) ?_
  refine lv_aload_n hx hb dX4_put_10 rfl (lv_at hl 1 rfl) ?_
  refine x_Vi (As := [.ref (ad (i + 6))]) (rest0 := []) ⟨hx, hb, hml, hown, hts⟩ (c_X4_next l D cA ad tr rest H.size τ1 i hi) (cwV 1 hts gX4_put_X4_next rfl rfl rfl (by decide +kernel) ⟨Nat.le_of_ble_eq_true rfl, Nat.le_of_ble_eq_true rfl⟩) hK hP hD hS hA 100 w_ru rfl hl.1 rfl rfl (Nat.le_of_ble_eq_true rfl) ⟨Nat.zero_le _, Nat.zero_le _⟩ dX4_put_11 (fun r2 τ3 H locs hw hP hD hS => ?_)
  obtain ⟨er2, eτ3⟩ := hw
  exact x_iret hx hb hr hlocks hK τ3 hP hD hS dX4_put_14 (by subst er2 eτ3 eτ1; simp [m_put, n24, n40, n2, n27, n4])

set_option maxHeartbeats 4000000 in
set_option maxRecDepth 100000 in
theorem c_X4_loop (l : Launch) (D : va_G) (cA : Nat → ClassId) (ad : Nat → Nat) (tr : List (ClassId × FieldType)) (rest : va_W) (sz : Nat) (τ : Sg) (i : Nat) (hi : i < 24) (a b : Int32) : Met l yX4_loop wsX4_loop ({ frames := 1, cells := 0, slots := 0, locals := 22 }) (va_Pc [.ref (ad 100), .ref (ad (i + 6)), .int a, .int b] (inW D (tyB cA ++ tr) (wB cA ad τ ++ rest) sz)) (va_Qi (fun (r : Int32) (u : Sg) => r = 0 ∧ u = m_loopR τ i a b) (fun u : Sg => outW D (tyB cA ++ tr) (va_A (wB cA ad τ ++ rest) sz) (wB cA ad u ++ rest)) (va_A (wB cA ad τ ++ rest) sz)) 0 0 (va_A (wB cA ad τ ++ rest) sz) := by
  refine Met.ofW (cc := cX4_loop) (maxL := 5) (ret := (some .int)) (by decide) rfl ?_
  intro p e s m args below meth c s₁ B hml hv
  obtain ⟨rfl, hsz, hP, hK, hD0⟩ := hv
  have hx := B.exec
  have hb := B.bytes
  have hr := B.returns
  have hts := atoms_spec (ws := wsX4_loop) B.pre
  have hown : s.vm.findClass RX4 = some m.cls := findClass_of_methodNamed B.named
  have hlocks := B.notSynchronized
  subst hsz
  have hD := hD0.self (sz := s.heap.size)
  clear hD0
  generalize hAe : va_A (wB cA ad τ ++ rest) s.heap.size = A at hD ⊢
  have hA : ∀ q : Nat, s.heap.size ≤ q → A q := fun q h => by rw [← hAe]; exact Or.inr h
  clear hAe
  have hS : va_S A s.heap s.heap [] := va_S.rf
  have hP : va_P D vwCl (wB cA ad τ ++ rest) s.heap := hP
  have hl := lv_entry ([.ref (ad 100), .ref (ad (i + 6)), .int a, .int b]) (n := 5) (Nat.le_of_ble_eq_true rfl)
  rw [lg_entry_eq]
  generalize (lg_sl ([.ref (ad 100), .ref (ad (i + 6)), .int a, .int b]) ++ List.replicate (5 - (lg_sl ([.ref (ad 100), .ref (ad (i + 6)), .int a, .int b])).length) Slot.unset).toArray = ls at hl ⊢
  have hl : lv_has ls 5 [(0, .ref (ad 100)), (1, .ref (ad (i + 6))), (2, .int a), (3, .int b)] := hl
  have nX7 : ∀ w ∈ u_ws RX7 TX7 17, w ∈ wsX4_loop := by decide +kernel
  have k82 := hts (.fieldLink RX4 82 "ScopeRow$Task" "line" "I") (by decide +kernel)
  refine lv_aload_n hx hb dX4_loop_0 rfl (lv_at hl 1 rfl) ?_
  refine lv_iload_n hx hb dX4_loop_1 rfl (lv_at hl 2 rfl) ?_
  refine x_Vi (As := [.int a]) (rest0 := []) ⟨hx, hb, hml, hown, hts⟩ (c_X7_localAt l D cA ad tr rest s.heap.size τ i hi a) (cwV 1 hts gX4_loop_X7_localAt rfl rfl rfl (by decide +kernel) ⟨Nat.le_of_ble_eq_true rfl, Nat.le_of_ble_eq_true rfl⟩) hK hP hD hS hA (i + 6) (w_tk hi) rfl hl.1 rfl rfl (Nat.le_of_ble_eq_true rfl) ⟨Nat.zero_le _, Nat.zero_le _⟩ dX4_loop_2 (fun r1 _ H locs hw hP hD hS => ?_)
  have er1 := hw
  refine lv_istore (lv' := [(4, .int r1), (0, .ref (ad 100)), (1, .ref (ad (i + 6))), (2, .int a), (3, .int b)]) hx hb dX4_loop_5 hl (by decide) rfl (fun ls hl => ?_)
  refine lv_iload hx hb dX4_loop_7 (lv_at hl 0 rfl) ?_
  refine lv_if_gt (tgt := 18) hx hb dX4_loop_9 (by decide) (fun c_9_2 => ?_) (fun c_9_2 => ?_)
  -- 9 jumps
  · skip
    refine lv_aload_n hx hb dX4_loop_18 rfl (lv_at hl 2 rfl) ?_
    refine lv_iload_n hx hb dX4_loop_19 rfl (lv_at hl 3 rfl) ?_
    refine lv_iload hx hb dX4_loop_20 (lv_at hl 0 rfl) ?_
    refine lv_iconst (v := 1) hx hb dX4_loop_22 (by decide) ?_
    refine lv_isub hx hb dX4_loop_23 ?_
    refine x_Vv (As := [.int a, .int (r1 - 1)]) (rest0 := []) ⟨hx, hb, hml, hown, hts⟩ (c_X7_putLocal l D cA ad tr rest H.size τ i hi a (r1 - 1)) (cwV 2 hts gX4_loop_X7_putLocal rfl rfl rfl (by decide +kernel) ⟨Nat.le_of_ble_eq_true rfl, Nat.le_of_ble_eq_true rfl⟩) hK hP hD hS hA (i + 6) (w_tk hi) rfl hl.1 rfl rfl (Nat.le_of_ble_eq_true rfl) ⟨Nat.zero_le _, Nat.zero_le _⟩ dX4_loop_24 (fun τ3 H locs hw hP hD hS => ?_)
    have eτ3 := hw
    refine lv_aload_n hx hb dX4_loop_27 rfl (lv_at hl 2 rfl) ?_
    refine lv_iload_n hx hb dX4_loop_28 rfl (lv_at hl 4 rfl) ?_
    refine p_tk hx hb hts nX7 hown hK hP hD hS hi 4 (by decide) (by decide) k82 (fun _ h9 => h9) rfl rfl rfl dX4_loop_29 (fun τ4 H locs eτ4 hP hD hS => ?_)
    refine lv_iconst (v := 0) hx hb dX4_loop_32 (by decide) ?_
    exact x_iret hx hb hr hlocks hK τ4 hP hD hS dX4_loop_33 (by subst eτ4 eτ3 er1; simp [m_loopR, n24, n40, n2, n27, n4, eq_true c_9_2])
  -- 9 goes on
  · skip
    refine lv_aload_n hx hb dX4_loop_12 rfl (lv_at hl 1 rfl) ?_
    refine lv_aload_n hx hb dX4_loop_13 rfl (lv_at hl 2 rfl) ?_
    refine x_Vi (As := [.ref (ad (i + 6))]) (rest0 := []) ⟨hx, hb, hml, hown, hts⟩ (c_X4_next l D cA ad tr rest H.size τ i hi) (cwV 1 hts gX4_loop_X4_next rfl rfl rfl (by decide +kernel) ⟨Nat.le_of_ble_eq_true rfl, Nat.le_of_ble_eq_true rfl⟩) hK hP hD hS hA 100 w_ru rfl hl.1 rfl rfl (Nat.le_of_ble_eq_true rfl) ⟨Nat.zero_le _, Nat.zero_le _⟩ dX4_loop_14 (fun r5 τ6 H locs hw hP hD hS => ?_)
    obtain ⟨er5, eτ6⟩ := hw
    exact x_iret hx hb hr hlocks hK τ6 hP hD hS dX4_loop_17 (by subst er5 eτ6 er1; simp [m_loopR, n24, n40, n2, n27, n4, c_9_2])

set_option maxHeartbeats 4000000 in
set_option maxRecDepth 100000 in
theorem c_X4_skip (l : Launch) (D : va_G) (cA : Nat → ClassId) (ad : Nat → Nat) (tr : List (ClassId × FieldType)) (rest : va_W) (sz : Nat) (τ : Sg) (i : Nat) (hi : i < 24) (b : Int32) : Met l yX4_skip wsX4_skip ({ frames := 1, cells := 0, slots := 0, locals := 21 }) (va_Pc [.ref (ad 100), .ref (ad (i + 6)), .int b] (inW D (tyB cA ++ tr) (wB cA ad τ ++ rest) sz)) (va_Qi (fun (r : Int32) (u : Sg) => r = 0 ∧ u = m_skip τ i b) (fun u : Sg => outW D (tyB cA ++ tr) (va_A (wB cA ad τ ++ rest) sz) (wB cA ad u ++ rest)) (va_A (wB cA ad τ ++ rest) sz)) 0 0 (va_A (wB cA ad τ ++ rest) sz) := by
  refine Met.ofW (cc := cX4_skip) (maxL := 3) (ret := (some .int)) (by decide) rfl ?_
  intro p e s m args below meth c s₁ B hml hv
  obtain ⟨rfl, hsz, hP, hK, hD0⟩ := hv
  have hx := B.exec
  have hb := B.bytes
  have hr := B.returns
  have hts := atoms_spec (ws := wsX4_skip) B.pre
  have hown : s.vm.findClass RX4 = some m.cls := findClass_of_methodNamed B.named
  have hlocks := B.notSynchronized
  subst hsz
  have hD := hD0.self (sz := s.heap.size)
  clear hD0
  generalize hAe : va_A (wB cA ad τ ++ rest) s.heap.size = A at hD ⊢
  have hA : ∀ q : Nat, s.heap.size ≤ q → A q := fun q h => by rw [← hAe]; exact Or.inr h
  clear hAe
  have hS : va_S A s.heap s.heap [] := va_S.rf
  have hP : va_P D vwCl (wB cA ad τ ++ rest) s.heap := hP
  have hl := lv_entry ([.ref (ad 100), .ref (ad (i + 6)), .int b]) (n := 3) (Nat.le_of_ble_eq_true rfl)
  rw [lg_entry_eq]
  generalize (lg_sl ([.ref (ad 100), .ref (ad (i + 6)), .int b]) ++ List.replicate (3 - (lg_sl ([.ref (ad 100), .ref (ad (i + 6)), .int b])).length) Slot.unset).toArray = ls at hl ⊢
  have hl : lv_has ls 3 [(0, .ref (ad 100)), (1, .ref (ad (i + 6))), (2, .int b)] := hl
  have nX7 : ∀ w ∈ u_ws RX7 TX7 17, w ∈ wsX4_skip := by decide +kernel
  have k65 := hts (.fieldLink RX4 65 "ScopeRow$Task" "there" "I") (by decide +kernel)
  have k82 := hts (.fieldLink RX4 82 "ScopeRow$Task" "line" "I") (by decide +kernel)
  refine lv_aload_n hx hb dX4_skip_0 rfl (lv_at hl 1 rfl) ?_
  refine va_get (D := D) (C := RX7) (T := TX7) (N := 17) (ci := 7) (v := .int (τ (i + 6) 5)) hx hb hts nX7 hown hK hP (i + 6) (w_tk hi) rfl 5 (by decide) k65 (fun _ h9 => h9) rfl dX4_skip_1 ?_
  refine lv_if_le (tgt := 13) hx hb dX4_skip_4 (by decide) (fun c_4_1 => ?_) (fun c_4_1 => ?_)
  -- 4 jumps
  · skip
    refine lv_aload_n hx hb dX4_skip_13 rfl (lv_at hl 1 rfl) ?_
    refine lv_iload_n hx hb dX4_skip_14 rfl (lv_at hl 2 rfl) ?_
    refine p_tk hx hb hts nX7 hown hK hP hD hS hi 4 (by decide) (by decide) k82 (fun _ h9 => h9) rfl rfl rfl dX4_skip_15 (fun τ2 H locs eτ2 hP hD hS => ?_)
    refine lv_iconst (v := 0) hx hb dX4_skip_18 (by decide) ?_
    exact x_iret hx hb hr hlocks hK τ2 hP hD hS dX4_skip_19 (by subst eτ2; simp [m_skip, n24, n40, n2, n27, n4, eq_true c_4_1])
  -- 4 goes on
  · skip
    refine lv_aload_n hx hb dX4_skip_7 rfl (lv_at hl 0 rfl) ?_
    refine lv_aload_n hx hb dX4_skip_8 rfl (lv_at hl 1 rfl) ?_
    refine x_Vi (As := [.ref (ad (i + 6))]) (rest0 := []) ⟨hx, hb, hml, hown, hts⟩ (c_X4_next l D cA ad tr rest s.heap.size τ i hi) (cwV 1 hts gX4_skip_X4_next rfl rfl rfl (by decide +kernel) ⟨Nat.le_of_ble_eq_true rfl, Nat.le_of_ble_eq_true rfl⟩) hK hP hD hS hA 100 w_ru rfl hl.1 rfl rfl (Nat.le_of_ble_eq_true rfl) ⟨Nat.zero_le _, Nat.zero_le _⟩ dX4_skip_9 (fun r3 τ4 H locs hw hP hD hS => ?_)
    obtain ⟨er3, eτ4⟩ := hw
    exact x_iret hx hb hr hlocks hK τ4 hP hD hS dX4_skip_12 (by subst er3 eτ4; simp [m_skip, n24, n40, n2, n27, n4, c_4_1])

set_option maxHeartbeats 4000000 in
set_option maxRecDepth 100000 in
theorem c_X4_open (l : Launch) (D : va_G) (cA : Nat → ClassId) (ad : Nat → Nat) (tr : List (ClassId × FieldType)) (rest : va_W) (sz : Nat) (τ : Sg) (i : Nat) (hi : i < 24) (b dl ln : Int32) (hb01 : b = 0 ∨ b = 1) : Met l yX4_open wsX4_open ({ frames := 1, cells := 0, slots := 0, locals := 24 }) (va_Pc [.ref (ad 100), .ref (ad (i + 6)), .int b, .int dl, .int ln] (inW D (tyB cA ++ tr) (wB cA ad τ ++ rest) sz)) (va_Qi (fun (r : Int32) (u : Sg) => r = (m_opn τ i b dl ln).2 ∧ u = (m_opn τ i b dl ln).1) (fun u : Sg => outW D (tyB cA ++ tr) (va_A (wB cA ad τ ++ rest) sz) (wB cA ad u ++ rest)) (va_A (wB cA ad τ ++ rest) sz)) 0 0 (va_A (wB cA ad τ ++ rest) sz) := by
  refine Met.ofW (cc := cX4_open) (maxL := 6) (ret := (some .int)) (by decide) rfl ?_
  intro p e s m args below meth c s₁ B hml hv
  obtain ⟨rfl, hsz, hP, hK, hD0⟩ := hv
  have hx := B.exec
  have hb := B.bytes
  have hr := B.returns
  have hts := atoms_spec (ws := wsX4_open) B.pre
  have hown : s.vm.findClass RX4 = some m.cls := findClass_of_methodNamed B.named
  have hlocks := B.notSynchronized
  subst hsz
  have hD := hD0.self (sz := s.heap.size)
  clear hD0
  generalize hAe : va_A (wB cA ad τ ++ rest) s.heap.size = A at hD ⊢
  have hA : ∀ q : Nat, s.heap.size ≤ q → A q := fun q h => by rw [← hAe]; exact Or.inr h
  clear hAe
  have hS : va_S A s.heap s.heap [] := va_S.rf
  have hP : va_P D vwCl (wB cA ad τ ++ rest) s.heap := hP
  have hl := lv_entry ([.ref (ad 100), .ref (ad (i + 6)), .int b, .int dl, .int ln]) (n := 6) (Nat.le_of_ble_eq_true rfl)
  rw [lg_entry_eq]
  generalize (lg_sl ([.ref (ad 100), .ref (ad (i + 6)), .int b, .int dl, .int ln]) ++ List.replicate (6 - (lg_sl ([.ref (ad 100), .ref (ad (i + 6)), .int b, .int dl, .int ln])).length) Slot.unset).toArray = ls at hl ⊢
  have hl : lv_has ls 6 [(0, .ref (ad 100)), (1, .ref (ad (i + 6))), (2, .int b), (3, .int dl), (4, .int ln)] := hl
  have nX4 : ∀ w ∈ u_ws RX4 TX4 3, w ∈ wsX4_open := by decide +kernel
  have nX5 : ∀ w ∈ u_ws RX5 TX5 14, w ∈ wsX4_open := by decide +kernel
  have nX6 : ∀ w ∈ u_ws RX6 TX6 12, w ∈ wsX4_open := by decide +kernel
  have nX7 : ∀ w ∈ u_ws RX7 TX7 17, w ∈ wsX4_open := by decide +kernel
  have k15 := hts (.fieldLink RX4 15 "ScopeRow$Runner" "state" "LScopeRow$State;") (by decide +kernel)
  have k183 := hts (.fieldLink RX4 183 "ScopeRow$State" "scopeCount" "I") (by decide +kernel)
  have k196 := hts (.fieldLink RX4 196 "ScopeRow$Scope" "number" "I") (by decide +kernel)
  have k142 := hts (.fieldLink RX4 142 "ScopeRow$Task" "top" "I") (by decide +kernel)
  have k199 := hts (.fieldLink RX4 199 "ScopeRow$Task" "depth" "I") (by decide +kernel)
  refine lv_aload_n hx hb dX4_open_0 rfl (lv_at hl 0 rfl) ?_
  refine va_get (D := D) (C := RX4) (T := TX4) (N := 3) (ci := 4) (v := .ref (ad 0)) hx hb hts nX4 hown hK hP 100 w_ru rfl 1 (by decide) k15 (fun _ h9 => h9) rfl dX4_open_1 ?_
  refine lv_aload_n hx hb dX4_open_4 rfl (lv_at hl 0 rfl) ?_
  refine va_get (D := D) (C := RX4) (T := TX4) (N := 3) (ci := 4) (v := .ref (ad 0)) hx hb hts nX4 hown hK hP 100 w_ru rfl 1 (by decide) k15 (fun _ h9 => h9) rfl dX4_open_5 ?_
  refine va_get (D := D) (C := RX6) (T := TX6) (N := 12) (ci := 6) (v := .int (τ 0 3)) hx hb hts nX6 hown hK hP 0 w_st rfl 3 (by decide) k183 (fun _ h9 => h9) rfl dX4_open_8 ?_
  refine x_Vq (As := [.int (τ 0 3)]) (rest0 := []) ⟨hx, hb, hml, hown, hts⟩ (c_X6_scopeAt l D cA ad tr rest s.heap.size τ (τ 0 3)) (cwV 1 hts gX4_open_X6_scopeAt rfl rfl rfl (by decide +kernel) ⟨Nat.le_of_ble_eq_true rfl, Nat.le_of_ble_eq_true rfl⟩) hK hP hD hS hA 0 w_st rfl hl.1 rfl rfl (Nat.le_of_ble_eq_true rfl) ⟨Nat.zero_le _, Nat.zero_le _⟩ dX4_open_11 (fun r1 _ H locs hw hP hD hS => ?_)
  have er1 := hw
  subst er1
  rcases hi2 : m_at (τ 0 3) 40 with _ | i2
  · refine W.eq (g2 := F0 m 14 ls [.null]) rfl ?_
    refine lv_astoreN (lv' := [(5, .null), (0, .ref (ad 100)), (1, .ref (ad (i + 6))), (2, .int b), (3, .int dl), (4, .int ln)]) hx hb dX4_open_14 hl (by decide) rfl (fun ls hl => ?_)
    refine lv_aloadN hx hb dX4_open_16 (lv_at hl 0 rfl) ?_
    refine lv_ifnonnullN hx hb dX4_open_18 ?_
    refine lv_iconst (v := 3) hx hb dX4_open_21 (by decide) ?_
    exact x_iret hx hb hr hlocks hK τ hP hD hS dX4_open_22 (by simp [m_opn, n24, n40, n2, n27, n4, hi2])
  · have bi2 := m_at_lt hi2 (by decide)
    refine W.eq (g2 := F0 m 14 ls [.ref (ad (i2 + 54))]) rfl ?_
    refine lv_astore (lv' := [(5, .ref (ad (i2 + 54))), (0, .ref (ad 100)), (1, .ref (ad (i + 6))), (2, .int b), (3, .int dl), (4, .int ln)]) hx hb dX4_open_14 hl (by decide) rfl (fun ls hl => ?_)
    refine lv_aload hx hb dX4_open_16 (lv_at hl 0 rfl) ?_
    refine lv_ifnonnull (tgt := 23) hx hb dX4_open_18 (by decide) ?_
    refine lv_aload hx hb dX4_open_23 (lv_at hl 0 rfl) ?_
    refine lv_aload_n hx hb dX4_open_25 rfl (lv_at hl 2 rfl) ?_
    refine lv_iload_n hx hb dX4_open_26 rfl (lv_at hl 3 rfl) ?_
    refine lv_iload_n hx hb dX4_open_27 rfl (lv_at hl 4 rfl) ?_
    refine lv_iload hx hb dX4_open_28 (lv_at hl 5 rfl) ?_
    refine x_Vv (As := [.ref (ad (i + 6)), .int b, .int dl, .int ln]) (rest0 := []) ⟨hx, hb, hml, hown, hts⟩ (c_X5_begin l D cA ad tr rest H.size τ i2 bi2 i hi b dl ln hb01) (cwV 4 hts gX4_open_X5_begin rfl rfl rfl (by decide +kernel) ⟨Nat.le_of_ble_eq_true rfl, Nat.le_of_ble_eq_true rfl⟩) hK hP hD hS hA (i2 + 54) (w_sc bi2) rfl hl.1 rfl rfl (Nat.le_of_ble_eq_true rfl) ⟨Nat.zero_le _, Nat.zero_le _⟩ dX4_open_30 (fun τ3 H locs hw hP hD hS => ?_)
    have eτ3 := hw
    refine lv_aload_n hx hb dX4_open_33 rfl (lv_at hl 1 rfl) ?_
    refine va_get (D := D) (C := RX4) (T := TX4) (N := 3) (ci := 4) (v := .ref (ad 0)) hx hb hts nX4 hown hK hP 100 w_ru rfl 1 (by decide) k15 (fun _ h9 => h9) rfl dX4_open_34 ?_
    refine lv_dup hx hb dX4_open_37 rfl ?_
    refine va_get (D := D) (C := RX6) (T := TX6) (N := 12) (ci := 6) (v := .int (τ3 0 3)) hx hb hts nX6 hown hK hP 0 w_st rfl 3 (by decide) k183 (fun _ h9 => h9) rfl dX4_open_38 ?_
    refine lv_iconst (v := 1) hx hb dX4_open_41 (by decide) ?_
    refine lv_iadd hx hb dX4_open_42 ?_
    refine p_st hx hb hts nX6 hown hK hP hD hS 3 (by decide) (by decide) k183 (fun _ h9 => h9) rfl rfl rfl dX4_open_43 (fun τ4 H locs eτ4 hP hD hS => ?_)
    refine lv_aload_n hx hb dX4_open_46 rfl (lv_at hl 2 rfl) ?_
    refine lv_aload hx hb dX4_open_47 (lv_at hl 0 rfl) ?_
    refine va_get (D := D) (C := RX5) (T := TX5) (N := 14) (ci := 5) (v := .int (nI i2)) hx hb hts nX5 hown hK hP (i2 + 54) (w_sc bi2) rfl 0 (by decide) k196 (fun _ h9 => h9) rfl dX4_open_49 ?_
    refine p_tk hx hb hts nX7 hown hK hP hD hS hi 7 (by decide) (by decide) k142 (fun _ h9 => h9) rfl rfl rfl dX4_open_52 (fun τ5 H locs eτ5 hP hD hS => ?_)
    refine lv_aload_n hx hb dX4_open_55 rfl (lv_at hl 2 rfl) ?_
    refine lv_dup hx hb dX4_open_56 rfl ?_
    refine va_get (D := D) (C := RX7) (T := TX7) (N := 17) (ci := 7) (v := .int (τ5 (i + 6) 8)) hx hb hts nX7 hown hK hP (i + 6) (w_tk hi) rfl 8 (by decide) k199 (fun _ h9 => h9) rfl dX4_open_57 ?_
    refine lv_iconst (v := 1) hx hb dX4_open_60 (by decide) ?_
    refine lv_iadd hx hb dX4_open_61 ?_
    refine p_tk hx hb hts nX7 hown hK hP hD hS hi 8 (by decide) (by decide) k199 (fun _ h9 => h9) rfl rfl rfl dX4_open_62 (fun τ6 H locs eτ6 hP hD hS => ?_)
    refine lv_aload_n hx hb dX4_open_65 rfl (lv_at hl 1 rfl) ?_
    refine lv_aload_n hx hb dX4_open_66 rfl (lv_at hl 2 rfl) ?_
    refine x_Vi (As := [.ref (ad (i + 6))]) (rest0 := []) ⟨hx, hb, hml, hown, hts⟩ (c_X4_next l D cA ad tr rest H.size τ6 i hi) (cwV 1 hts gX4_open_X4_next rfl rfl rfl (by decide +kernel) ⟨Nat.le_of_ble_eq_true rfl, Nat.le_of_ble_eq_true rfl⟩) hK hP hD hS hA 100 w_ru rfl hl.1 rfl rfl (Nat.le_of_ble_eq_true rfl) ⟨Nat.zero_le _, Nat.zero_le _⟩ dX4_open_67 (fun r7 τ8 H locs hw hP hD hS => ?_)
    obtain ⟨er7, eτ8⟩ := hw
    exact x_iret hx hb hr hlocks hK τ8 hP hD hS dX4_open_70 (by subst er7 eτ8 eτ6 eτ5 eτ4 eτ3; simp [m_opn, n24, n40, n2, n27, n4, hi2])

set_option maxHeartbeats 4000000 in
set_option maxRecDepth 100000 in
theorem c_X4_stop (l : Launch) (D : va_G) (cA : Nat → ClassId) (ad : Nat → Nat) (tr : List (ClassId × FieldType)) (rest : va_W) (sz : Nat) (τ : Sg) (i : Nat) (hi : i < 24) : Met l yX4_stop wsX4_stop ({ frames := 2, cells := 0, slots := 0, locals := 50 }) (va_Pc [.ref (ad 100), .ref (ad (i + 6))] (inW D (tyB cA ++ tr) (wB cA ad τ ++ rest) sz)) (va_Qi (fun (r : Int32) (u : Sg) => r = (m_stop τ i).2 ∧ u = (m_stop τ i).1) (fun u : Sg => outW D (tyB cA ++ tr) (va_A (wB cA ad τ ++ rest) sz) (wB cA ad u ++ rest)) (va_A (wB cA ad τ ++ rest) sz)) 0 0 (va_A (wB cA ad τ ++ rest) sz) := by
  refine Met.ofW (cc := cX4_stop) (maxL := 3) (ret := (some .int)) (by decide) rfl ?_
  intro p e s m args below meth c s₁ B hml hv
  obtain ⟨rfl, hsz, hP, hK, hD0⟩ := hv
  have hx := B.exec
  have hb := B.bytes
  have hr := B.returns
  have hts := atoms_spec (ws := wsX4_stop) B.pre
  have hown : s.vm.findClass RX4 = some m.cls := findClass_of_methodNamed B.named
  have hlocks := B.notSynchronized
  subst hsz
  have hD := hD0.self (sz := s.heap.size)
  clear hD0
  generalize hAe : va_A (wB cA ad τ ++ rest) s.heap.size = A at hD ⊢
  have hA : ∀ q : Nat, s.heap.size ≤ q → A q := fun q h => by rw [← hAe]; exact Or.inr h
  clear hAe
  have hS : va_S A s.heap s.heap [] := va_S.rf
  have hP : va_P D vwCl (wB cA ad τ ++ rest) s.heap := hP
  have hl := lv_entry ([.ref (ad 100), .ref (ad (i + 6))]) (n := 3) (Nat.le_of_ble_eq_true rfl)
  rw [lg_entry_eq]
  generalize (lg_sl ([.ref (ad 100), .ref (ad (i + 6))]) ++ List.replicate (3 - (lg_sl ([.ref (ad 100), .ref (ad (i + 6))])).length) Slot.unset).toArray = ls at hl ⊢
  have hl : lv_has ls 3 [(0, .ref (ad 100)), (1, .ref (ad (i + 6)))] := hl
  have nX4 : ∀ w ∈ u_ws RX4 TX4 3, w ∈ wsX4_stop := by decide +kernel
  have nX7 : ∀ w ∈ u_ws RX7 TX7 17, w ∈ wsX4_stop := by decide +kernel
  have k15 := hts (.fieldLink RX4 15 "ScopeRow$Runner" "state" "LScopeRow$State;") (by decide +kernel)
  have k142 := hts (.fieldLink RX4 142 "ScopeRow$Task" "top" "I") (by decide +kernel)
  refine lv_aload_n hx hb dX4_stop_0 rfl (lv_at hl 0 rfl) ?_
  refine va_get (D := D) (C := RX4) (T := TX4) (N := 3) (ci := 4) (v := .ref (ad 0)) hx hb hts nX4 hown hK hP 100 w_ru rfl 1 (by decide) k15 (fun _ h9 => h9) rfl dX4_stop_1 ?_
  refine lv_aload_n hx hb dX4_stop_4 rfl (lv_at hl 1 rfl) ?_
  refine va_get (D := D) (C := RX7) (T := TX7) (N := 17) (ci := 7) (v := .int (τ (i + 6) 7)) hx hb hts nX7 hown hK hP (i + 6) (w_tk hi) rfl 7 (by decide) k142 (fun _ h9 => h9) rfl dX4_stop_5 ?_
  refine x_Vq (As := [.int (τ (i + 6) 7)]) (rest0 := []) ⟨hx, hb, hml, hown, hts⟩ (c_X6_scopeAt l D cA ad tr rest s.heap.size τ (τ (i + 6) 7)) (cwV 1 hts gX4_stop_X6_scopeAt rfl rfl rfl (by decide +kernel) ⟨Nat.le_of_ble_eq_true rfl, Nat.le_of_ble_eq_true rfl⟩) hK hP hD hS hA 0 w_st rfl hl.1 rfl rfl (Nat.le_of_ble_eq_true rfl) ⟨Nat.zero_le _, Nat.zero_le _⟩ dX4_stop_8 (fun r1 _ H locs hw hP hD hS => ?_)
  have er1 := hw
  subst er1
  rcases hi2 : m_at (τ (i + 6) 7) 40 with _ | i2
  · refine W.eq (g2 := F0 m 11 ls [.null]) rfl ?_
    refine lv_astore_nN (lv' := [(2, .null), (0, .ref (ad 100)), (1, .ref (ad (i + 6)))]) hx hb dX4_stop_11 rfl hl (by decide) rfl (fun ls hl => ?_)
    refine lv_aload_nN hx hb dX4_stop_12 rfl (lv_at hl 0 rfl) ?_
    refine lv_ifnonnullN hx hb dX4_stop_13 ?_
    refine lv_iconst (v := 1) hx hb dX4_stop_16 (by decide) ?_
    exact x_iret hx hb hr hlocks hK τ hP hD hS dX4_stop_17 (by simp [m_stop, n24, n40, n2, n27, n4, hi2])
  · have bi2 := m_at_lt hi2 (by decide)
    refine W.eq (g2 := F0 m 11 ls [.ref (ad (i2 + 54))]) rfl ?_
    refine lv_astore_n (lv' := [(2, .ref (ad (i2 + 54))), (0, .ref (ad 100)), (1, .ref (ad (i + 6)))]) hx hb dX4_stop_11 rfl hl (by decide) rfl (fun ls hl => ?_)
    refine lv_aload_n hx hb dX4_stop_12 rfl (lv_at hl 0 rfl) ?_
    refine lv_ifnonnull (tgt := 18) hx hb dX4_stop_13 (by decide) ?_
    refine lv_aload_n hx hb dX4_stop_18 rfl (lv_at hl 1 rfl) ?_
    refine va_get (D := D) (C := RX4) (T := TX4) (N := 3) (ci := 4) (v := .ref (ad 0)) hx hb hts nX4 hown hK hP 100 w_ru rfl 1 (by decide) k15 (fun _ h9 => h9) rfl dX4_stop_19 ?_
    refine lv_aload_n hx hb dX4_stop_22 rfl (lv_at hl 0 rfl) ?_
    refine x_Vi (As := [.ref (ad (i2 + 54))]) (rest0 := []) ⟨hx, hb, hml, hown, hts⟩ (c_X6_cancelScope l D cA ad tr rest H.size τ i2 bi2) (cwV 1 hts gX4_stop_X6_cancelScope rfl rfl rfl (by decide +kernel) ⟨Nat.le_of_ble_eq_true rfl, Nat.le_of_ble_eq_true rfl⟩) hK hP hD hS hA 0 w_st rfl hl.1 rfl rfl (Nat.le_of_ble_eq_true rfl) ⟨Nat.zero_le _, Nat.zero_le _⟩ dX4_stop_23 (fun r3 τ4 H locs hw hP hD hS => ?_)
    obtain ⟨er3, eτ4⟩ := hw
    refine lv_pop hx hb dX4_stop_26 rfl ?_
    refine lv_aload_n hx hb dX4_stop_27 rfl (lv_at hl 1 rfl) ?_
    refine lv_aload_n hx hb dX4_stop_28 rfl (lv_at hl 2 rfl) ?_
    refine x_Vi (As := [.ref (ad (i + 6))]) (rest0 := []) ⟨hx, hb, hml, hown, hts⟩ (c_X4_next l D cA ad tr rest H.size τ4 i hi) (cwV 1 hts gX4_stop_X4_next rfl rfl rfl (by decide +kernel) ⟨Nat.le_of_ble_eq_true rfl, Nat.le_of_ble_eq_true rfl⟩) hK hP hD hS hA 100 w_ru rfl hl.1 rfl rfl (Nat.le_of_ble_eq_true rfl) ⟨Nat.zero_le _, Nat.zero_le _⟩ dX4_stop_29 (fun r5 τ6 H locs hw hP hD hS => ?_)
    obtain ⟨er5, eτ6⟩ := hw
    exact x_iret hx hb hr hlocks hK τ6 hP hD hS dX4_stop_32 (by subst er5 eτ6 er3 eτ4; simp [m_stop, n24, n40, n2, n27, n4, hi2])

set_option maxHeartbeats 4000000 in
set_option maxRecDepth 100000 in
theorem c_X4_sleep (l : Launch) (D : va_G) (cA : Nat → ClassId) (ad : Nat → Nat) (tr : List (ClassId × FieldType)) (rest : va_W) (sz : Nat) (τ : Sg) (i : Nat) (hi : i < 24) (a : Int32) : Met l yX4_sleep wsX4_sleep ({ frames := 1, cells := 0, slots := 0, locals := 23 }) (va_Pc [.ref (ad 100), .ref (ad (i + 6)), .int a] (inW D (tyB cA ++ tr) (wB cA ad τ ++ rest) sz)) (va_Qi (fun (r : Int32) (u : Sg) => r = (-4) ∧ u = m_sleep τ i a) (fun u : Sg => outW D (tyB cA ++ tr) (va_A (wB cA ad τ ++ rest) sz) (wB cA ad u ++ rest)) (va_A (wB cA ad τ ++ rest) sz)) 0 0 (va_A (wB cA ad τ ++ rest) sz) := by
  refine Met.ofW (cc := cX4_sleep) (maxL := 3) (ret := (some .int)) (by decide) rfl ?_
  intro p e s m args below meth c s₁ B hml hv
  obtain ⟨rfl, hsz, hP, hK, hD0⟩ := hv
  have hx := B.exec
  have hb := B.bytes
  have hr := B.returns
  have hts := atoms_spec (ws := wsX4_sleep) B.pre
  have hown : s.vm.findClass RX4 = some m.cls := findClass_of_methodNamed B.named
  have hlocks := B.notSynchronized
  subst hsz
  have hD := hD0.self (sz := s.heap.size)
  clear hD0
  generalize hAe : va_A (wB cA ad τ ++ rest) s.heap.size = A at hD ⊢
  have hA : ∀ q : Nat, s.heap.size ≤ q → A q := fun q h => by rw [← hAe]; exact Or.inr h
  clear hAe
  have hS : va_S A s.heap s.heap [] := va_S.rf
  have hP : va_P D vwCl (wB cA ad τ ++ rest) s.heap := hP
  have hl := lv_entry ([.ref (ad 100), .ref (ad (i + 6)), .int a]) (n := 3) (Nat.le_of_ble_eq_true rfl)
  rw [lg_entry_eq]
  generalize (lg_sl ([.ref (ad 100), .ref (ad (i + 6)), .int a]) ++ List.replicate (3 - (lg_sl ([.ref (ad 100), .ref (ad (i + 6)), .int a])).length) Slot.unset).toArray = ls at hl ⊢
  have hl : lv_has ls 3 [(0, .ref (ad 100)), (1, .ref (ad (i + 6))), (2, .int a)] := hl
  have nX4 : ∀ w ∈ u_ws RX4 TX4 3, w ∈ wsX4_sleep := by decide +kernel
  have nX6 : ∀ w ∈ u_ws RX6 TX6 12, w ∈ wsX4_sleep := by decide +kernel
  have nX7 : ∀ w ∈ u_ws RX7 TX7 17, w ∈ wsX4_sleep := by decide +kernel
  have k15 := hts (.fieldLink RX4 15 "ScopeRow$Runner" "state" "LScopeRow$State;") (by decide +kernel)
  have k135 := hts (.fieldLink RX4 135 "ScopeRow$State" "now" "I") (by decide +kernel)
  have k219 := hts (.fieldLink RX4 219 "ScopeRow$Task" "until" "I") (by decide +kernel)
  refine lv_aload_n hx hb dX4_sleep_0 rfl (lv_at hl 0 rfl) ?_
  refine va_get (D := D) (C := RX4) (T := TX4) (N := 3) (ci := 4) (v := .ref (ad 0)) hx hb hts nX4 hown hK hP 100 w_ru rfl 1 (by decide) k15 (fun _ h9 => h9) rfl dX4_sleep_1 ?_
  refine lv_aload_n hx hb dX4_sleep_4 rfl (lv_at hl 1 rfl) ?_
  refine lv_iconst (v := 1) hx hb dX4_sleep_5 (by decide) ?_
  refine lv_iconst (v := (-1)) hx hb dX4_sleep_6 (by decide) ?_
  refine x_Vv (As := [.ref (ad (i + 6)), .int 1, .int (-1)]) (rest0 := []) ⟨hx, hb, hml, hown, hts⟩ (c_X6_beginWait l D cA ad tr rest s.heap.size τ i hi 1 (-1)) (cwV 3 hts gX4_sleep_X6_beginWait rfl rfl rfl (by decide +kernel) ⟨Nat.le_of_ble_eq_true rfl, Nat.le_of_ble_eq_true rfl⟩) hK hP hD hS hA 0 w_st rfl hl.1 rfl rfl (Nat.le_of_ble_eq_true rfl) ⟨Nat.zero_le _, Nat.zero_le _⟩ dX4_sleep_7 (fun τ1 H locs hw hP hD hS => ?_)
  have eτ1 := hw
  refine lv_aload_n hx hb dX4_sleep_10 rfl (lv_at hl 1 rfl) ?_
  refine lv_aload_n hx hb dX4_sleep_11 rfl (lv_at hl 0 rfl) ?_
  refine va_get (D := D) (C := RX4) (T := TX4) (N := 3) (ci := 4) (v := .ref (ad 0)) hx hb hts nX4 hown hK hP 100 w_ru rfl 1 (by decide) k15 (fun _ h9 => h9) rfl dX4_sleep_12 ?_
  refine va_get (D := D) (C := RX6) (T := TX6) (N := 12) (ci := 6) (v := .int (τ1 0 8)) hx hb hts nX6 hown hK hP 0 w_st rfl 8 (by decide) k135 (fun _ h9 => h9) rfl dX4_sleep_15 ?_
  refine lv_iload_n hx hb dX4_sleep_18 rfl (lv_at hl 2 rfl) ?_
  refine lv_iadd hx hb dX4_sleep_19 ?_
  refine p_tk hx hb hts nX7 hown hK hP hD hS hi 12 (by decide) (by decide) k219 (fun _ h9 => h9) rfl rfl rfl dX4_sleep_20 (fun τ2 H locs eτ2 hP hD hS => ?_)
  refine lv_bipush (v := (-4)) hx hb dX4_sleep_23 (by decide) ?_
  exact x_iret hx hb hr hlocks hK τ2 hP hD hS dX4_sleep_25 (by subst eτ2 eτ1; simp [m_sleep, n24, n40, n2, n27, n4])

set_option maxHeartbeats 4000000 in
set_option maxRecDepth 100000 in
theorem c_X4_lock (l : Launch) (D : va_G) (cA : Nat → ClassId) (ad : Nat → Nat) (tr : List (ClassId × FieldType)) (rest : va_W) (sz : Nat) (τ : Sg) (i : Nat) (hi : i < 24) (x : Int32) : Met l yX4_lock wsX4_lock ({ frames := 1, cells := 0, slots := 0, locals := 23 }) (va_Pc [.ref (ad 100), .ref (ad (i + 6)), .int x] (inW D (tyB cA ++ tr) (wB cA ad τ ++ rest) sz)) (va_Qi (fun (r : Int32) (u : Sg) => r = (m_lck τ i x).2 ∧ u = (m_lck τ i x).1) (fun u : Sg => outW D (tyB cA ++ tr) (va_A (wB cA ad τ ++ rest) sz) (wB cA ad u ++ rest)) (va_A (wB cA ad τ ++ rest) sz)) 0 0 (va_A (wB cA ad τ ++ rest) sz) := by
  refine Met.ofW (cc := cX4_lock) (maxL := 4) (ret := (some .int)) (by decide) rfl ?_
  intro p e s m args below meth c s₁ B hml hv
  obtain ⟨rfl, hsz, hP, hK, hD0⟩ := hv
  have hx := B.exec
  have hb := B.bytes
  have hr := B.returns
  have hts := atoms_spec (ws := wsX4_lock) B.pre
  have hown : s.vm.findClass RX4 = some m.cls := findClass_of_methodNamed B.named
  have hlocks := B.notSynchronized
  subst hsz
  have hD := hD0.self (sz := s.heap.size)
  clear hD0
  generalize hAe : va_A (wB cA ad τ ++ rest) s.heap.size = A at hD ⊢
  have hA : ∀ q : Nat, s.heap.size ≤ q → A q := fun q h => by rw [← hAe]; exact Or.inr h
  clear hAe
  have hS : va_S A s.heap s.heap [] := va_S.rf
  have hP : va_P D vwCl (wB cA ad τ ++ rest) s.heap := hP
  have hl := lv_entry ([.ref (ad 100), .ref (ad (i + 6)), .int x]) (n := 4) (Nat.le_of_ble_eq_true rfl)
  rw [lg_entry_eq]
  generalize (lg_sl ([.ref (ad 100), .ref (ad (i + 6)), .int x]) ++ List.replicate (4 - (lg_sl ([.ref (ad 100), .ref (ad (i + 6)), .int x])).length) Slot.unset).toArray = ls at hl ⊢
  have hl : lv_has ls 4 [(0, .ref (ad 100)), (1, .ref (ad (i + 6))), (2, .int x)] := hl
  have nX2 : ∀ w ∈ u_ws RX2 TX2 3, w ∈ wsX4_lock := by decide +kernel
  have nX4 : ∀ w ∈ u_ws RX4 TX4 3, w ∈ wsX4_lock := by decide +kernel
  have nX7 : ∀ w ∈ u_ws RX7 TX7 17, w ∈ wsX4_lock := by decide +kernel
  have k15 := hts (.fieldLink RX4 15 "ScopeRow$Runner" "state" "LScopeRow$State;") (by decide +kernel)
  have k226 := hts (.fieldLink RX4 226 "ScopeRow$Lock" "holder" "I") (by decide +kernel)
  have k231 := hts (.fieldLink RX4 231 "ScopeRow$Task" "number" "I") (by decide +kernel)
  refine lv_aload_n hx hb dX4_lock_0 rfl (lv_at hl 0 rfl) ?_
  refine va_get (D := D) (C := RX4) (T := TX4) (N := 3) (ci := 4) (v := .ref (ad 0)) hx hb hts nX4 hown hK hP 100 w_ru rfl 1 (by decide) k15 (fun _ h9 => h9) rfl dX4_lock_1 ?_
  refine lv_iload_n hx hb dX4_lock_4 rfl (lv_at hl 2 rfl) ?_
  refine x_Vq (As := [.int x]) (rest0 := []) ⟨hx, hb, hml, hown, hts⟩ (c_X6_lockAt l D cA ad tr rest s.heap.size τ x) (cwV 1 hts gX4_lock_X6_lockAt rfl rfl rfl (by decide +kernel) ⟨Nat.le_of_ble_eq_true rfl, Nat.le_of_ble_eq_true rfl⟩) hK hP hD hS hA 0 w_st rfl hl.1 rfl rfl (Nat.le_of_ble_eq_true rfl) ⟨Nat.zero_le _, Nat.zero_le _⟩ dX4_lock_5 (fun r1 _ H locs hw hP hD hS => ?_)
  have er1 := hw
  subst er1
  rcases hi2 : m_at x 2 with _ | i2
  · refine W.eq (g2 := F0 m 8 ls [.null]) rfl ?_
    refine lv_astore_nN (lv' := [(3, .null), (0, .ref (ad 100)), (1, .ref (ad (i + 6))), (2, .int x)]) hx hb dX4_lock_8 rfl hl (by decide) rfl (fun ls hl => ?_)
    refine lv_aload_nN hx hb dX4_lock_9 rfl (lv_at hl 0 rfl) ?_
    refine lv_ifnullN (tgt := 24) hx hb dX4_lock_10 (by decide) ?_
    refine lv_iconst (v := 4) hx hb dX4_lock_24 (by decide) ?_
    exact x_iret hx hb hr hlocks hK τ hP hD hS dX4_lock_25 (by simp [m_lck, n24, n40, n2, n27, n4, hi2])
  · have bi2 := m_at_lt hi2 (by decide)
    refine W.eq (g2 := F0 m 8 ls [.ref (ad (i2 + 94))]) rfl ?_
    refine lv_astore_n (lv' := [(3, .ref (ad (i2 + 94))), (0, .ref (ad 100)), (1, .ref (ad (i + 6))), (2, .int x)]) hx hb dX4_lock_8 rfl hl (by decide) rfl (fun ls hl => ?_)
    refine lv_aload_n hx hb dX4_lock_9 rfl (lv_at hl 0 rfl) ?_
    refine lv_ifnull hx hb dX4_lock_10 ?_
    refine lv_aload_n hx hb dX4_lock_13 rfl (lv_at hl 0 rfl) ?_
    refine va_get (D := D) (C := RX2) (T := TX2) (N := 3) (ci := 2) (v := .int (τ (i2 + 94) 1)) hx hb hts nX2 hown hK hP (i2 + 94) (w_lk bi2) rfl 1 (by decide) k226 (fun _ h9 => h9) rfl dX4_lock_14 ?_
    refine lv_aload_n hx hb dX4_lock_17 rfl (lv_at hl 2 rfl) ?_
    refine va_get (D := D) (C := RX7) (T := TX7) (N := 17) (ci := 7) (v := .int (nI i)) hx hb hts nX7 hown hK hP (i + 6) (w_tk hi) rfl 0 (by decide) k231 (fun _ h9 => h9) rfl dX4_lock_18 ?_
    refine lv_icmp_ne (tgt := 26) hx hb dX4_lock_21 (by decide) (fun c_21_3 => ?_) (fun c_21_3 => ?_)
    -- 21 jumps
    · skip
      refine lv_aload_n hx hb dX4_lock_26 rfl (lv_at hl 0 rfl) ?_
      refine va_get (D := D) (C := RX2) (T := TX2) (N := 3) (ci := 2) (v := .int (τ (i2 + 94) 1)) hx hb hts nX2 hown hK hP (i2 + 94) (w_lk bi2) rfl 1 (by decide) k226 (fun _ h9 => h9) rfl dX4_lock_27 ?_
      refine lv_iconst (v := (-1)) hx hb dX4_lock_30 (by decide) ?_
      refine lv_icmp_ne (tgt := 45) hx hb dX4_lock_31 (by decide) (fun c_31_4 => ?_) (fun c_31_4 => ?_)
      -- 31 jumps
      · skip
        refine lv_aload_n hx hb dX4_lock_45 rfl (lv_at hl 1 rfl) ?_
        refine va_get (D := D) (C := RX4) (T := TX4) (N := 3) (ci := 4) (v := .ref (ad 0)) hx hb hts nX4 hown hK hP 100 w_ru rfl 1 (by decide) k15 (fun _ h9 => h9) rfl dX4_lock_46 ?_
        refine lv_aload_n hx hb dX4_lock_49 rfl (lv_at hl 2 rfl) ?_
        refine lv_iconst (v := 2) hx hb dX4_lock_50 (by decide) ?_
        refine lv_iload_n hx hb dX4_lock_51 rfl (lv_at hl 3 rfl) ?_
        refine x_Vv (As := [.ref (ad (i + 6)), .int 2, .int x]) (rest0 := []) ⟨hx, hb, hml, hown, hts⟩ (c_X6_beginWait l D cA ad tr rest H.size τ i hi 2 x) (cwV 3 hts gX4_lock_X6_beginWait rfl rfl rfl (by decide +kernel) ⟨Nat.le_of_ble_eq_true rfl, Nat.le_of_ble_eq_true rfl⟩) hK hP hD hS hA 0 w_st rfl hl.1 rfl rfl (Nat.le_of_ble_eq_true rfl) ⟨Nat.zero_le _, Nat.zero_le _⟩ dX4_lock_52 (fun τ5 H locs hw hP hD hS => ?_)
        have eτ5 := hw
        refine lv_bipush (v := (-4)) hx hb dX4_lock_55 (by decide) ?_
        exact x_iret hx hb hr hlocks hK τ5 hP hD hS dX4_lock_57 (by subst eτ5; simp [m_lck, n24, n40, n2, n27, n4, hi2, c_21_3, c_31_4])
      -- 31 goes on
      · skip
        refine lv_aload_n hx hb dX4_lock_34 rfl (lv_at hl 0 rfl) ?_
        refine lv_aload_n hx hb dX4_lock_35 rfl (lv_at hl 2 rfl) ?_
        refine x_Vv (As := [.ref (ad (i + 6))]) (rest0 := []) ⟨hx, hb, hml, hown, hts⟩ (c_X2_giveTo l D cA ad tr rest H.size τ i2 bi2 i hi) (cwV 1 hts gX4_lock_X2_giveTo rfl rfl rfl (by decide +kernel) ⟨Nat.le_of_ble_eq_true rfl, Nat.le_of_ble_eq_true rfl⟩) hK hP hD hS hA (i2 + 94) (w_lk bi2) rfl hl.1 rfl rfl (Nat.le_of_ble_eq_true rfl) ⟨Nat.zero_le _, Nat.zero_le _⟩ dX4_lock_36 (fun τ6 H locs hw hP hD hS => ?_)
        have eτ6 := hw
        refine lv_aload_n hx hb dX4_lock_39 rfl (lv_at hl 1 rfl) ?_
        refine lv_aload_n hx hb dX4_lock_40 rfl (lv_at hl 2 rfl) ?_
        refine x_Vi (As := [.ref (ad (i + 6))]) (rest0 := []) ⟨hx, hb, hml, hown, hts⟩ (c_X4_next l D cA ad tr rest H.size τ6 i hi) (cwV 1 hts gX4_lock_X4_next rfl rfl rfl (by decide +kernel) ⟨Nat.le_of_ble_eq_true rfl, Nat.le_of_ble_eq_true rfl⟩) hK hP hD hS hA 100 w_ru rfl hl.1 rfl rfl (Nat.le_of_ble_eq_true rfl) ⟨Nat.zero_le _, Nat.zero_le _⟩ dX4_lock_41 (fun r7 τ8 H locs hw hP hD hS => ?_)
        obtain ⟨er7, eτ8⟩ := hw
        exact x_iret hx hb hr hlocks hK τ8 hP hD hS dX4_lock_44 (by subst er7 eτ8 eτ6; simp [m_lck, n24, n40, n2, n27, n4, hi2, c_21_3, eq_true c_31_4])
    -- 21 goes on
    · skip
      refine lv_iconst (v := 4) hx hb dX4_lock_24 (by decide) ?_
      exact x_iret hx hb hr hlocks hK τ hP hD hS dX4_lock_25 (by simp [m_lck, n24, n40, n2, n27, n4, hi2, eq_true c_21_3])

set_option maxHeartbeats 4000000 in
set_option maxRecDepth 100000 in
theorem c_X4_free (l : Launch) (D : va_G) (cA : Nat → ClassId) (ad : Nat → Nat) (tr : List (ClassId × FieldType)) (rest : va_W) (sz : Nat) (τ : Sg) (i : Nat) (hi : i < 24) (x : Int32) : Met l yX4_free wsX4_free ({ frames := 2, cells := 0, slots := 0, locals := 50 }) (va_Pc [.ref (ad 100), .ref (ad (i + 6)), .int x] (inW D (tyB cA ++ tr) (wB cA ad τ ++ rest) sz)) (va_Qi (fun (r : Int32) (u : Sg) => r = (m_fre τ i x).2 ∧ u = (m_fre τ i x).1) (fun u : Sg => outW D (tyB cA ++ tr) (va_A (wB cA ad τ ++ rest) sz) (wB cA ad u ++ rest)) (va_A (wB cA ad τ ++ rest) sz)) 0 0 (va_A (wB cA ad τ ++ rest) sz) := by
  refine Met.ofW (cc := cX4_free) (maxL := 4) (ret := (some .int)) (by decide) rfl ?_
  intro p e s m args below meth c s₁ B hml hv
  obtain ⟨rfl, hsz, hP, hK, hD0⟩ := hv
  have hx := B.exec
  have hb := B.bytes
  have hr := B.returns
  have hts := atoms_spec (ws := wsX4_free) B.pre
  have hown : s.vm.findClass RX4 = some m.cls := findClass_of_methodNamed B.named
  have hlocks := B.notSynchronized
  subst hsz
  have hD := hD0.self (sz := s.heap.size)
  clear hD0
  generalize hAe : va_A (wB cA ad τ ++ rest) s.heap.size = A at hD ⊢
  have hA : ∀ q : Nat, s.heap.size ≤ q → A q := fun q h => by rw [← hAe]; exact Or.inr h
  clear hAe
  have hS : va_S A s.heap s.heap [] := va_S.rf
  have hP : va_P D vwCl (wB cA ad τ ++ rest) s.heap := hP
  have hl := lv_entry ([.ref (ad 100), .ref (ad (i + 6)), .int x]) (n := 4) (Nat.le_of_ble_eq_true rfl)
  rw [lg_entry_eq]
  generalize (lg_sl ([.ref (ad 100), .ref (ad (i + 6)), .int x]) ++ List.replicate (4 - (lg_sl ([.ref (ad 100), .ref (ad (i + 6)), .int x])).length) Slot.unset).toArray = ls at hl ⊢
  have hl : lv_has ls 4 [(0, .ref (ad 100)), (1, .ref (ad (i + 6))), (2, .int x)] := hl
  have nX2 : ∀ w ∈ u_ws RX2 TX2 3, w ∈ wsX4_free := by decide +kernel
  have nX4 : ∀ w ∈ u_ws RX4 TX4 3, w ∈ wsX4_free := by decide +kernel
  have nX7 : ∀ w ∈ u_ws RX7 TX7 17, w ∈ wsX4_free := by decide +kernel
  have k15 := hts (.fieldLink RX4 15 "ScopeRow$Runner" "state" "LScopeRow$State;") (by decide +kernel)
  have k226 := hts (.fieldLink RX4 226 "ScopeRow$Lock" "holder" "I") (by decide +kernel)
  have k231 := hts (.fieldLink RX4 231 "ScopeRow$Task" "number" "I") (by decide +kernel)
  refine lv_aload_n hx hb dX4_free_0 rfl (lv_at hl 0 rfl) ?_
  refine va_get (D := D) (C := RX4) (T := TX4) (N := 3) (ci := 4) (v := .ref (ad 0)) hx hb hts nX4 hown hK hP 100 w_ru rfl 1 (by decide) k15 (fun _ h9 => h9) rfl dX4_free_1 ?_
  refine lv_iload_n hx hb dX4_free_4 rfl (lv_at hl 2 rfl) ?_
  refine x_Vq (As := [.int x]) (rest0 := []) ⟨hx, hb, hml, hown, hts⟩ (c_X6_lockAt l D cA ad tr rest s.heap.size τ x) (cwV 1 hts gX4_free_X6_lockAt rfl rfl rfl (by decide +kernel) ⟨Nat.le_of_ble_eq_true rfl, Nat.le_of_ble_eq_true rfl⟩) hK hP hD hS hA 0 w_st rfl hl.1 rfl rfl (Nat.le_of_ble_eq_true rfl) ⟨Nat.zero_le _, Nat.zero_le _⟩ dX4_free_5 (fun r1 _ H locs hw hP hD hS => ?_)
  have er1 := hw
  subst er1
  rcases hi2 : m_at x 2 with _ | i2
  · refine W.eq (g2 := F0 m 8 ls [.null]) rfl ?_
    refine lv_astore_nN (lv' := [(3, .null), (0, .ref (ad 100)), (1, .ref (ad (i + 6))), (2, .int x)]) hx hb dX4_free_8 rfl hl (by decide) rfl (fun ls hl => ?_)
    refine lv_aload_nN hx hb dX4_free_9 rfl (lv_at hl 0 rfl) ?_
    refine lv_ifnullN (tgt := 24) hx hb dX4_free_10 (by decide) ?_
    refine lv_iconst (v := 4) hx hb dX4_free_24 (by decide) ?_
    exact x_iret hx hb hr hlocks hK τ hP hD hS dX4_free_25 (by simp [m_fre, n24, n40, n2, n27, n4, hi2])
  · have bi2 := m_at_lt hi2 (by decide)
    refine W.eq (g2 := F0 m 8 ls [.ref (ad (i2 + 94))]) rfl ?_
    refine lv_astore_n (lv' := [(3, .ref (ad (i2 + 94))), (0, .ref (ad 100)), (1, .ref (ad (i + 6))), (2, .int x)]) hx hb dX4_free_8 rfl hl (by decide) rfl (fun ls hl => ?_)
    refine lv_aload_n hx hb dX4_free_9 rfl (lv_at hl 0 rfl) ?_
    refine lv_ifnull hx hb dX4_free_10 ?_
    refine lv_aload_n hx hb dX4_free_13 rfl (lv_at hl 0 rfl) ?_
    refine va_get (D := D) (C := RX2) (T := TX2) (N := 3) (ci := 2) (v := .int (τ (i2 + 94) 1)) hx hb hts nX2 hown hK hP (i2 + 94) (w_lk bi2) rfl 1 (by decide) k226 (fun _ h9 => h9) rfl dX4_free_14 ?_
    refine lv_aload_n hx hb dX4_free_17 rfl (lv_at hl 2 rfl) ?_
    refine va_get (D := D) (C := RX7) (T := TX7) (N := 17) (ci := 7) (v := .int (nI i)) hx hb hts nX7 hown hK hP (i + 6) (w_tk hi) rfl 0 (by decide) k231 (fun _ h9 => h9) rfl dX4_free_18 ?_
    refine lv_icmp_eq (tgt := 26) hx hb dX4_free_21 (by decide) (fun c_21_3 => ?_) (fun c_21_3 => ?_)
    -- 21 jumps
    · skip
      refine lv_aload_n hx hb dX4_free_26 rfl (lv_at hl 1 rfl) ?_
      refine va_get (D := D) (C := RX4) (T := TX4) (N := 3) (ci := 4) (v := .ref (ad 0)) hx hb hts nX4 hown hK hP 100 w_ru rfl 1 (by decide) k15 (fun _ h9 => h9) rfl dX4_free_27 ?_
      refine lv_aload_n hx hb dX4_free_30 rfl (lv_at hl 0 rfl) ?_
      refine x_Vv (As := [.ref (ad (i2 + 94))]) (rest0 := []) ⟨hx, hb, hml, hown, hts⟩ (c_X6_freeLock l D cA ad tr rest H.size τ i2 bi2) (cwV 1 hts gX4_free_X6_freeLock rfl rfl rfl (by decide +kernel) ⟨Nat.le_of_ble_eq_true rfl, Nat.le_of_ble_eq_true rfl⟩) hK hP hD hS hA 0 w_st rfl hl.1 rfl rfl (Nat.le_of_ble_eq_true rfl) ⟨Nat.zero_le _, Nat.zero_le _⟩ dX4_free_31 (fun τ4 H locs hw hP hD hS => ?_)
      have eτ4 := hw
      refine lv_aload_n hx hb dX4_free_34 rfl (lv_at hl 1 rfl) ?_
      refine lv_aload_n hx hb dX4_free_35 rfl (lv_at hl 2 rfl) ?_
      refine x_Vi (As := [.ref (ad (i + 6))]) (rest0 := []) ⟨hx, hb, hml, hown, hts⟩ (c_X4_next l D cA ad tr rest H.size τ4 i hi) (cwV 1 hts gX4_free_X4_next rfl rfl rfl (by decide +kernel) ⟨Nat.le_of_ble_eq_true rfl, Nat.le_of_ble_eq_true rfl⟩) hK hP hD hS hA 100 w_ru rfl hl.1 rfl rfl (Nat.le_of_ble_eq_true rfl) ⟨Nat.zero_le _, Nat.zero_le _⟩ dX4_free_36 (fun r5 τ6 H locs hw hP hD hS => ?_)
      obtain ⟨er5, eτ6⟩ := hw
      exact x_iret hx hb hr hlocks hK τ6 hP hD hS dX4_free_39 (by subst er5 eτ6 eτ4; simp [m_fre, n24, n40, n2, n27, n4, hi2, eq_true c_21_3])
    -- 21 goes on
    · skip
      refine lv_iconst (v := 4) hx hb dX4_free_24 (by decide) ?_
      exact x_iret hx hb hr hlocks hK τ hP hD hS dX4_free_25 (by simp [m_fre, n24, n40, n2, n27, n4, hi2, c_21_3])

set_option maxHeartbeats 4000000 in
set_option maxRecDepth 100000 in
theorem c_X4_send (l : Launch) (D : va_G) (cA : Nat → ClassId) (ad : Nat → Nat) (tr : List (ClassId × FieldType)) (rest : va_W) (sz : Nat) (τ : Sg) (i : Nat) (hi : i < 24) (x : Int32) : Met l yX4_send wsX4_send ({ frames := 2, cells := 0, slots := 0, locals := 45 }) (va_Pc [.ref (ad 100), .ref (ad (i + 6)), .int x] (inW D (tyB cA ++ tr) (wB cA ad τ ++ rest) sz)) (va_Qi (fun (r : Int32) (u : Sg) => r = (m_send τ i x).2 ∧ u = (m_send τ i x).1) (fun u : Sg => outW D (tyB cA ++ tr) (va_A (wB cA ad τ ++ rest) sz) (wB cA ad u ++ rest)) (va_A (wB cA ad τ ++ rest) sz)) 0 0 (va_A (wB cA ad τ ++ rest) sz) := by
  refine Met.ofW (cc := cX4_send) (maxL := 5) (ret := (some .int)) (by decide) rfl ?_
  intro p e s m args below meth c s₁ B hml hv
  obtain ⟨rfl, hsz, hP, hK, hD0⟩ := hv
  have hx := B.exec
  have hb := B.bytes
  have hr := B.returns
  have hts := atoms_spec (ws := wsX4_send) B.pre
  have hown : s.vm.findClass RX4 = some m.cls := findClass_of_methodNamed B.named
  have hlocks := B.notSynchronized
  subst hsz
  have hD := hD0.self (sz := s.heap.size)
  clear hD0
  generalize hAe : va_A (wB cA ad τ ++ rest) s.heap.size = A at hD ⊢
  have hA : ∀ q : Nat, s.heap.size ≤ q → A q := fun q h => by rw [← hAe]; exact Or.inr h
  clear hAe
  have hS : va_S A s.heap s.heap [] := va_S.rf
  have hP : va_P D vwCl (wB cA ad τ ++ rest) s.heap := hP
  have hl := lv_entry ([.ref (ad 100), .ref (ad (i + 6)), .int x]) (n := 5) (Nat.le_of_ble_eq_true rfl)
  rw [lg_entry_eq]
  generalize (lg_sl ([.ref (ad 100), .ref (ad (i + 6)), .int x]) ++ List.replicate (5 - (lg_sl ([.ref (ad 100), .ref (ad (i + 6)), .int x])).length) Slot.unset).toArray = ls at hl ⊢
  have hl : lv_has ls 5 [(0, .ref (ad 100)), (1, .ref (ad (i + 6))), (2, .int x)] := hl
  have nX1 : ∀ w ∈ u_ws RX1 TX1 5, w ∈ wsX4_send := by decide +kernel
  have nX4 : ∀ w ∈ u_ws RX4 TX4 3, w ∈ wsX4_send := by decide +kernel
  have nX7 : ∀ w ∈ u_ws RX7 TX7 17, w ∈ wsX4_send := by decide +kernel
  have k15 := hts (.fieldLink RX4 15 "ScopeRow$Runner" "state" "LScopeRow$State;") (by decide +kernel)
  have k244 := hts (.fieldLink RX4 244 "ScopeRow$Channel" "ended" "Z") (by decide +kernel)
  have k256 := hts (.fieldLink RX4 256 "ScopeRow$Channel" "count" "I") (by decide +kernel)
  have k259 := hts (.fieldLink RX4 259 "ScopeRow$Channel" "room" "I") (by decide +kernel)
  have k65 := hts (.fieldLink RX4 65 "ScopeRow$Task" "there" "I") (by decide +kernel)
  have k62 := hts (.fieldLink RX4 62 "ScopeRow$Task" "value" "I") (by decide +kernel)
  refine lv_aload_n hx hb dX4_send_0 rfl (lv_at hl 0 rfl) ?_
  refine va_get (D := D) (C := RX4) (T := TX4) (N := 3) (ci := 4) (v := .ref (ad 0)) hx hb hts nX4 hown hK hP 100 w_ru rfl 1 (by decide) k15 (fun _ h9 => h9) rfl dX4_send_1 ?_
  refine lv_iload_n hx hb dX4_send_4 rfl (lv_at hl 2 rfl) ?_
  refine x_Vq (As := [.int x]) (rest0 := []) ⟨hx, hb, hml, hown, hts⟩ (c_X6_channelAt l D cA ad tr rest s.heap.size τ x) (cwV 1 hts gX4_send_X6_channelAt rfl rfl rfl (by decide +kernel) ⟨Nat.le_of_ble_eq_true rfl, Nat.le_of_ble_eq_true rfl⟩) hK hP hD hS hA 0 w_st rfl hl.1 rfl rfl (Nat.le_of_ble_eq_true rfl) ⟨Nat.zero_le _, Nat.zero_le _⟩ dX4_send_5 (fun r1 _ H locs hw hP hD hS => ?_)
  have er1 := hw
  subst er1
  rcases hi2 : m_at x 2 with _ | i2
  · refine W.eq (g2 := F0 m 8 ls [.null]) rfl ?_
    refine lv_astore_nN (lv' := [(3, .null), (0, .ref (ad 100)), (1, .ref (ad (i + 6))), (2, .int x)]) hx hb dX4_send_8 rfl hl (by decide) rfl (fun ls hl => ?_)
    refine lv_aload_nN hx hb dX4_send_9 rfl (lv_at hl 0 rfl) ?_
    refine lv_ifnullN (tgt := 20) hx hb dX4_send_10 (by decide) ?_
    refine lv_iconst (v := 5) hx hb dX4_send_20 (by decide) ?_
    exact x_iret hx hb hr hlocks hK τ hP hD hS dX4_send_21 (by simp [m_send, n24, n40, n2, n27, n4, hi2])
  · have bi2 := m_at_lt hi2 (by decide)
    refine W.eq (g2 := F0 m 8 ls [.ref (ad (i2 + 96))]) rfl ?_
    refine lv_astore_n (lv' := [(3, .ref (ad (i2 + 96))), (0, .ref (ad 100)), (1, .ref (ad (i + 6))), (2, .int x)]) hx hb dX4_send_8 rfl hl (by decide) rfl (fun ls hl => ?_)
    refine lv_aload_n hx hb dX4_send_9 rfl (lv_at hl 0 rfl) ?_
    refine lv_ifnull hx hb dX4_send_10 ?_
    refine lv_aload_n hx hb dX4_send_13 rfl (lv_at hl 0 rfl) ?_
    refine va_get (D := D) (C := RX1) (T := TX1) (N := 5) (ci := 1) (v := .int (τ (i2 + 96) 3)) hx hb hts nX1 hown hK hP (i2 + 96) (w_ch bi2) rfl 3 (by decide) k244 (fun _ h9 => h9) rfl dX4_send_14 ?_
    refine lv_if_eq (tgt := 22) hx hb dX4_send_17 (by decide) (fun c_17_3 => ?_) (fun c_17_3 => ?_)
    -- 17 jumps
    · skip
      refine lv_aload_n hx hb dX4_send_22 rfl (lv_at hl 1 rfl) ?_
      refine va_get (D := D) (C := RX4) (T := TX4) (N := 3) (ci := 4) (v := .ref (ad 0)) hx hb hts nX4 hown hK hP 100 w_ru rfl 1 (by decide) k15 (fun _ h9 => h9) rfl dX4_send_23 ?_
      refine lv_iconst (v := 4) hx hb dX4_send_26 (by decide) ?_
      refine lv_iload_n hx hb dX4_send_27 rfl (lv_at hl 3 rfl) ?_
      refine x_Vq (As := [.int 4, .int x]) (rest0 := []) ⟨hx, hb, hml, hown, hts⟩ (c_X6_firstWaiting l D cA ad tr rest H.size τ 4 x) (cwV 2 hts gX4_send_X6_firstWaiting rfl rfl rfl (by decide +kernel) ⟨Nat.le_of_ble_eq_true rfl, Nat.le_of_ble_eq_true rfl⟩) hK hP hD hS hA 0 w_st rfl hl.1 rfl rfl (Nat.le_of_ble_eq_true rfl) ⟨Nat.zero_le _, Nat.zero_le _⟩ dX4_send_28 (fun r4 _ H locs hw hP hD hS => ?_)
      have er4 := hw
      subst er4
      rcases hi5 : m_firstWaiting τ 4 x with _ | i5
      · refine W.eq (g2 := F0 m 31 ls [.null]) rfl ?_
        refine lv_astoreN (lv' := [(4, .null), (3, .ref (ad (i2 + 96))), (0, .ref (ad 100)), (1, .ref (ad (i + 6))), (2, .int x)]) hx hb dX4_send_31 hl (by decide) rfl (fun ls hl => ?_)
        refine lv_aloadN hx hb dX4_send_33 (lv_at hl 0 rfl) ?_
        refine lv_ifnullN (tgt := 58) hx hb dX4_send_35 (by decide) ?_
        refine lv_aload_n hx hb dX4_send_58 rfl (lv_at hl 1 rfl) ?_
        refine va_get (D := D) (C := RX1) (T := TX1) (N := 5) (ci := 1) (v := .int (τ (i2 + 96) 2)) hx hb hts nX1 hown hK hP (i2 + 96) (w_ch bi2) rfl 2 (by decide) k256 (fun _ h9 => h9) rfl dX4_send_59 ?_
        refine lv_aload_n hx hb dX4_send_62 rfl (lv_at hl 1 rfl) ?_
        refine va_get (D := D) (C := RX1) (T := TX1) (N := 5) (ci := 1) (v := .int (τ (i2 + 96) 0)) hx hb hts nX1 hown hK hP (i2 + 96) (w_ch bi2) rfl 0 (by decide) k259 (fun _ h9 => h9) rfl dX4_send_63 ?_
        refine lv_icmp_ge (tgt := 83) hx hb dX4_send_66 (by decide) (fun c_66_6 => ?_) (fun c_66_6 => ?_)
        -- 66 jumps
        · skip
          refine lv_aload_n hx hb dX4_send_83 rfl (lv_at hl 2 rfl) ?_
          refine va_get (D := D) (C := RX4) (T := TX4) (N := 3) (ci := 4) (v := .ref (ad 0)) hx hb hts nX4 hown hK hP 100 w_ru rfl 1 (by decide) k15 (fun _ h9 => h9) rfl dX4_send_84 ?_
          refine lv_aload_n hx hb dX4_send_87 rfl (lv_at hl 3 rfl) ?_
          refine lv_iconst (v := 3) hx hb dX4_send_88 (by decide) ?_
          refine lv_iload_n hx hb dX4_send_89 rfl (lv_at hl 4 rfl) ?_
          refine x_Vv (As := [.ref (ad (i + 6)), .int 3, .int x]) (rest0 := []) ⟨hx, hb, hml, hown, hts⟩ (c_X6_beginWait l D cA ad tr rest H.size τ i hi 3 x) (cwV 3 hts gX4_send_X6_beginWait rfl rfl rfl (by decide +kernel) ⟨Nat.le_of_ble_eq_true rfl, Nat.le_of_ble_eq_true rfl⟩) hK hP hD hS hA 0 w_st rfl hl.1 rfl rfl (Nat.le_of_ble_eq_true rfl) ⟨Nat.zero_le _, Nat.zero_le _⟩ dX4_send_90 (fun τ7 H locs hw hP hD hS => ?_)
          have eτ7 := hw
          refine lv_aload_n hx hb dX4_send_93 rfl (lv_at hl 3 rfl) ?_
          refine lv_aload_n hx hb dX4_send_94 rfl (lv_at hl 3 rfl) ?_
          refine va_get (D := D) (C := RX7) (T := TX7) (N := 17) (ci := 7) (v := .int (τ7 (i + 6) 5)) hx hb hts nX7 hown hK hP (i + 6) (w_tk hi) rfl 5 (by decide) k65 (fun _ h9 => h9) rfl dX4_send_95 ?_
          refine p_tk hx hb hts nX7 hown hK hP hD hS hi 13 (by decide) (by decide) k62 (fun _ h9 => h9) rfl rfl rfl dX4_send_98 (fun τ8 H locs eτ8 hP hD hS => ?_)
          refine lv_bipush (v := (-4)) hx hb dX4_send_101 (by decide) ?_
          exact x_iret hx hb hr hlocks hK τ8 hP hD hS dX4_send_103 (by subst eτ8 eτ7; simp [m_send, n24, n40, n2, n27, n4, hi2, eq_true c_17_3, hi5, eq_true c_66_6])
        -- 66 goes on
        · skip
          refine lv_aload_n hx hb dX4_send_69 rfl (lv_at hl 1 rfl) ?_
          refine lv_aload_n hx hb dX4_send_70 rfl (lv_at hl 3 rfl) ?_
          refine va_get (D := D) (C := RX7) (T := TX7) (N := 17) (ci := 7) (v := .int (τ (i + 6) 5)) hx hb hts nX7 hown hK hP (i + 6) (w_tk hi) rfl 5 (by decide) k65 (fun _ h9 => h9) rfl dX4_send_71 ?_
          refine x_Vv (As := [.int (τ (i + 6) 5)]) (rest0 := []) ⟨hx, hb, hml, hown, hts⟩ (c_X1_addLast l D cA ad tr rest H.size τ i2 bi2 (τ (i + 6) 5)) (cwV 1 hts gX4_send_X1_addLast rfl rfl rfl (by decide +kernel) ⟨Nat.le_of_ble_eq_true rfl, Nat.le_of_ble_eq_true rfl⟩) hK hP hD hS hA (i2 + 96) (w_ch bi2) rfl hl.1 rfl rfl (Nat.le_of_ble_eq_true rfl) ⟨Nat.zero_le _, Nat.zero_le _⟩ dX4_send_74 (fun τ9 H locs hw hP hD hS => ?_)
          have eτ9 := hw
          refine lv_aload_n hx hb dX4_send_77 rfl (lv_at hl 2 rfl) ?_
          refine lv_aload_n hx hb dX4_send_78 rfl (lv_at hl 3 rfl) ?_
          refine x_Vi (As := [.ref (ad (i + 6))]) (rest0 := []) ⟨hx, hb, hml, hown, hts⟩ (c_X4_next l D cA ad tr rest H.size τ9 i hi) (cwV 1 hts gX4_send_X4_next rfl rfl rfl (by decide +kernel) ⟨Nat.le_of_ble_eq_true rfl, Nat.le_of_ble_eq_true rfl⟩) hK hP hD hS hA 100 w_ru rfl hl.1 rfl rfl (Nat.le_of_ble_eq_true rfl) ⟨Nat.zero_le _, Nat.zero_le _⟩ dX4_send_79 (fun r10 τ11 H locs hw hP hD hS => ?_)
          obtain ⟨er10, eτ11⟩ := hw
          exact x_iret hx hb hr hlocks hK τ11 hP hD hS dX4_send_82 (by subst er10 eτ11 eτ9; simp [m_send, n24, n40, n2, n27, n4, hi2, eq_true c_17_3, hi5, c_66_6])
      · have bi5 := m_firstWaiting_lt hi5
        refine W.eq (g2 := F0 m 31 ls [.ref (ad (i5 + 6))]) rfl ?_
        refine lv_astore (lv' := [(4, .ref (ad (i5 + 6))), (3, .ref (ad (i2 + 96))), (0, .ref (ad 100)), (1, .ref (ad (i + 6))), (2, .int x)]) hx hb dX4_send_31 hl (by decide) rfl (fun ls hl => ?_)
        refine lv_aload hx hb dX4_send_33 (lv_at hl 0 rfl) ?_
        refine lv_ifnull hx hb dX4_send_35 ?_
        refine lv_aload_n hx hb dX4_send_38 rfl (lv_at hl 2 rfl) ?_
        refine va_get (D := D) (C := RX4) (T := TX4) (N := 3) (ci := 4) (v := .ref (ad 0)) hx hb hts nX4 hown hK hP 100 w_ru rfl 1 (by decide) k15 (fun _ h9 => h9) rfl dX4_send_39 ?_
        refine lv_aload hx hb dX4_send_42 (lv_at hl 0 rfl) ?_
        refine lv_iload_n hx hb dX4_send_44 rfl (lv_at hl 4 rfl) ?_
        refine lv_aload_n hx hb dX4_send_45 rfl (lv_at hl 3 rfl) ?_
        refine va_get (D := D) (C := RX7) (T := TX7) (N := 17) (ci := 7) (v := .int (τ (i + 6) 5)) hx hb hts nX7 hown hK hP (i + 6) (w_tk hi) rfl 5 (by decide) k65 (fun _ h9 => h9) rfl dX4_send_46 ?_
        refine x_Vv (As := [.ref (ad (i5 + 6)), .int x, .int (τ (i + 6) 5)]) (rest0 := []) ⟨hx, hb, hml, hown, hts⟩ (c_X6_giveValue l D cA ad tr rest H.size τ i5 bi5 x (τ (i + 6) 5)) (cwV 3 hts gX4_send_X6_giveValue rfl rfl rfl (by decide +kernel) ⟨Nat.le_of_ble_eq_true rfl, Nat.le_of_ble_eq_true rfl⟩) hK hP hD hS hA 0 w_st rfl hl.1 rfl rfl (Nat.le_of_ble_eq_true rfl) ⟨Nat.zero_le _, Nat.zero_le _⟩ dX4_send_49 (fun τ12 H locs hw hP hD hS => ?_)
        have eτ12 := hw
        refine lv_aload_n hx hb dX4_send_52 rfl (lv_at hl 2 rfl) ?_
        refine lv_aload_n hx hb dX4_send_53 rfl (lv_at hl 3 rfl) ?_
        refine x_Vi (As := [.ref (ad (i + 6))]) (rest0 := []) ⟨hx, hb, hml, hown, hts⟩ (c_X4_next l D cA ad tr rest H.size τ12 i hi) (cwV 1 hts gX4_send_X4_next rfl rfl rfl (by decide +kernel) ⟨Nat.le_of_ble_eq_true rfl, Nat.le_of_ble_eq_true rfl⟩) hK hP hD hS hA 100 w_ru rfl hl.1 rfl rfl (Nat.le_of_ble_eq_true rfl) ⟨Nat.zero_le _, Nat.zero_le _⟩ dX4_send_54 (fun r13 τ14 H locs hw hP hD hS => ?_)
        obtain ⟨er13, eτ14⟩ := hw
        exact x_iret hx hb hr hlocks hK τ14 hP hD hS dX4_send_57 (by subst er13 eτ14 eτ12; simp [m_send, n24, n40, n2, n27, n4, hi2, eq_true c_17_3, hi5])
    -- 17 goes on
    · skip
      refine lv_iconst (v := 5) hx hb dX4_send_20 (by decide) ?_
      exact x_iret hx hb hr hlocks hK τ hP hD hS dX4_send_21 (by simp [m_send, n24, n40, n2, n27, n4, hi2, c_17_3])

set_option maxHeartbeats 4000000 in
set_option maxRecDepth 100000 in
theorem c_X4_take (l : Launch) (D : va_G) (cA : Nat → ClassId) (ad : Nat → Nat) (tr : List (ClassId × FieldType)) (rest : va_W) (sz : Nat) (τ : Sg) (i : Nat) (hi : i < 24) (x : Int32) : Met l yX4_take wsX4_take ({ frames := 2, cells := 0, slots := 0, locals := 52 }) (va_Pc [.ref (ad 100), .ref (ad (i + 6)), .int x] (inW D (tyB cA ++ tr) (wB cA ad τ ++ rest) sz)) (va_Qi (fun (r : Int32) (u : Sg) => r = (m_take τ i x).2 ∧ u = (m_take τ i x).1) (fun u : Sg => outW D (tyB cA ++ tr) (va_A (wB cA ad τ ++ rest) sz) (wB cA ad u ++ rest)) (va_A (wB cA ad τ ++ rest) sz)) 0 0 (va_A (wB cA ad τ ++ rest) sz) := by
  refine Met.ofW (cc := cX4_take) (maxL := 4) (ret := (some .int)) (by decide) rfl ?_
  intro p e s m args below meth c s₁ B hml hv
  obtain ⟨rfl, hsz, hP, hK, hD0⟩ := hv
  have hx := B.exec
  have hb := B.bytes
  have hr := B.returns
  have hts := atoms_spec (ws := wsX4_take) B.pre
  have hown : s.vm.findClass RX4 = some m.cls := findClass_of_methodNamed B.named
  have hlocks := B.notSynchronized
  subst hsz
  have hD := hD0.self (sz := s.heap.size)
  clear hD0
  generalize hAe : va_A (wB cA ad τ ++ rest) s.heap.size = A at hD ⊢
  have hA : ∀ q : Nat, s.heap.size ≤ q → A q := fun q h => by rw [← hAe]; exact Or.inr h
  clear hAe
  have hS : va_S A s.heap s.heap [] := va_S.rf
  have hP : va_P D vwCl (wB cA ad τ ++ rest) s.heap := hP
  have hl := lv_entry ([.ref (ad 100), .ref (ad (i + 6)), .int x]) (n := 4) (Nat.le_of_ble_eq_true rfl)
  rw [lg_entry_eq]
  generalize (lg_sl ([.ref (ad 100), .ref (ad (i + 6)), .int x]) ++ List.replicate (4 - (lg_sl ([.ref (ad 100), .ref (ad (i + 6)), .int x])).length) Slot.unset).toArray = ls at hl ⊢
  have hl : lv_has ls 4 [(0, .ref (ad 100)), (1, .ref (ad (i + 6))), (2, .int x)] := hl
  have nX1 : ∀ w ∈ u_ws RX1 TX1 5, w ∈ wsX4_take := by decide +kernel
  have nX4 : ∀ w ∈ u_ws RX4 TX4 3, w ∈ wsX4_take := by decide +kernel
  have nX7 : ∀ w ∈ u_ws RX7 TX7 17, w ∈ wsX4_take := by decide +kernel
  have k15 := hts (.fieldLink RX4 15 "ScopeRow$Runner" "state" "LScopeRow$State;") (by decide +kernel)
  have k244 := hts (.fieldLink RX4 244 "ScopeRow$Channel" "ended" "Z") (by decide +kernel)
  have k65 := hts (.fieldLink RX4 65 "ScopeRow$Task" "there" "I") (by decide +kernel)
  refine lv_aload_n hx hb dX4_take_0 rfl (lv_at hl 0 rfl) ?_
  refine va_get (D := D) (C := RX4) (T := TX4) (N := 3) (ci := 4) (v := .ref (ad 0)) hx hb hts nX4 hown hK hP 100 w_ru rfl 1 (by decide) k15 (fun _ h9 => h9) rfl dX4_take_1 ?_
  refine lv_iload_n hx hb dX4_take_4 rfl (lv_at hl 2 rfl) ?_
  refine x_Vi (As := [.int x]) (rest0 := []) ⟨hx, hb, hml, hown, hts⟩ (c_X6_hasValue l D cA ad tr rest s.heap.size τ x) (cwV 1 hts gX4_take_X6_hasValue rfl rfl rfl (by decide +kernel) ⟨Nat.le_of_ble_eq_true rfl, Nat.le_of_ble_eq_true rfl⟩) hK hP hD hS hA 0 w_st rfl hl.1 rfl rfl (Nat.le_of_ble_eq_true rfl) ⟨Nat.zero_le _, Nat.zero_le _⟩ dX4_take_5 (fun r1 _ H locs hw hP hD hS => ?_)
  have er1 := hw
  refine lv_if_eq (tgt := 29) hx hb dX4_take_8 (by decide) (fun c_8_2 => ?_) (fun c_8_2 => ?_)
  -- 8 jumps
  · skip
    have dc_8_2 := bI_f er1 c_8_2
    refine lv_aload_n hx hb dX4_take_29 rfl (lv_at hl 0 rfl) ?_
    refine va_get (D := D) (C := RX4) (T := TX4) (N := 3) (ci := 4) (v := .ref (ad 0)) hx hb hts nX4 hown hK hP 100 w_ru rfl 1 (by decide) k15 (fun _ h9 => h9) rfl dX4_take_30 ?_
    refine lv_iload_n hx hb dX4_take_33 rfl (lv_at hl 2 rfl) ?_
    refine x_Vq (As := [.int x]) (rest0 := []) ⟨hx, hb, hml, hown, hts⟩ (c_X6_channelAt l D cA ad tr rest H.size τ x) (cwV 1 hts gX4_take_X6_channelAt rfl rfl rfl (by decide +kernel) ⟨Nat.le_of_ble_eq_true rfl, Nat.le_of_ble_eq_true rfl⟩) hK hP hD hS hA 0 w_st rfl hl.1 rfl rfl (Nat.le_of_ble_eq_true rfl) ⟨Nat.zero_le _, Nat.zero_le _⟩ dX4_take_34 (fun r3 _ H locs hw hP hD hS => ?_)
    have er3 := hw
    subst er3
    rcases hi4 : m_at x 2 with _ | i4
    · refine W.eq (g2 := F0 m 37 ls [.null]) rfl ?_
      refine lv_astore_nN (lv' := [(3, .null), (0, .ref (ad 100)), (1, .ref (ad (i + 6))), (2, .int x)]) hx hb dX4_take_37 rfl hl (by decide) rfl (fun ls hl => ?_)
      refine lv_aload_nN hx hb dX4_take_38 rfl (lv_at hl 0 rfl) ?_
      refine lv_ifnullN (tgt := 49) hx hb dX4_take_39 (by decide) ?_
      refine lv_bipush (v := 6) hx hb dX4_take_49 (by decide) ?_
      exact x_iret hx hb hr hlocks hK τ hP hD hS dX4_take_51 (by subst er1; simp [m_take, n24, n40, n2, n27, n4, dc_8_2, hi4])
    · have bi4 := m_at_lt hi4 (by decide)
      refine W.eq (g2 := F0 m 37 ls [.ref (ad (i4 + 96))]) rfl ?_
      refine lv_astore_n (lv' := [(3, .ref (ad (i4 + 96))), (0, .ref (ad 100)), (1, .ref (ad (i + 6))), (2, .int x)]) hx hb dX4_take_37 rfl hl (by decide) rfl (fun ls hl => ?_)
      refine lv_aload_n hx hb dX4_take_38 rfl (lv_at hl 0 rfl) ?_
      refine lv_ifnull hx hb dX4_take_39 ?_
      refine lv_aload_n hx hb dX4_take_42 rfl (lv_at hl 0 rfl) ?_
      refine va_get (D := D) (C := RX1) (T := TX1) (N := 5) (ci := 1) (v := .int (τ (i4 + 96) 3)) hx hb hts nX1 hown hK hP (i4 + 96) (w_ch bi4) rfl 3 (by decide) k244 (fun _ h9 => h9) rfl dX4_take_43 ?_
      refine lv_if_eq (tgt := 52) hx hb dX4_take_46 (by decide) (fun c_46_5 => ?_) (fun c_46_5 => ?_)
      -- 46 jumps
      · skip
        refine lv_aload_n hx hb dX4_take_52 rfl (lv_at hl 1 rfl) ?_
        refine va_get (D := D) (C := RX4) (T := TX4) (N := 3) (ci := 4) (v := .ref (ad 0)) hx hb hts nX4 hown hK hP 100 w_ru rfl 1 (by decide) k15 (fun _ h9 => h9) rfl dX4_take_53 ?_
        refine lv_aload_n hx hb dX4_take_56 rfl (lv_at hl 2 rfl) ?_
        refine lv_iconst (v := 4) hx hb dX4_take_57 (by decide) ?_
        refine lv_iload_n hx hb dX4_take_58 rfl (lv_at hl 3 rfl) ?_
        refine x_Vv (As := [.ref (ad (i + 6)), .int 4, .int x]) (rest0 := []) ⟨hx, hb, hml, hown, hts⟩ (c_X6_beginWait l D cA ad tr rest H.size τ i hi 4 x) (cwV 3 hts gX4_take_X6_beginWait rfl rfl rfl (by decide +kernel) ⟨Nat.le_of_ble_eq_true rfl, Nat.le_of_ble_eq_true rfl⟩) hK hP hD hS hA 0 w_st rfl hl.1 rfl rfl (Nat.le_of_ble_eq_true rfl) ⟨Nat.zero_le _, Nat.zero_le _⟩ dX4_take_59 (fun τ6 H locs hw hP hD hS => ?_)
        have eτ6 := hw
        refine lv_bipush (v := (-4)) hx hb dX4_take_62 (by decide) ?_
        exact x_iret hx hb hr hlocks hK τ6 hP hD hS dX4_take_64 (by subst eτ6 er1; simp [m_take, n24, n40, n2, n27, n4, dc_8_2, hi4, eq_true c_46_5])
      -- 46 goes on
      · skip
        refine lv_bipush (v := 6) hx hb dX4_take_49 (by decide) ?_
        exact x_iret hx hb hr hlocks hK τ hP hD hS dX4_take_51 (by subst er1; simp [m_take, n24, n40, n2, n27, n4, dc_8_2, hi4, c_46_5])
  -- 8 goes on
  · skip
    have dc_8_2 := bI_t er1 c_8_2
    refine lv_aload_n hx hb dX4_take_11 rfl (lv_at hl 1 rfl) ?_
    refine lv_aload_n hx hb dX4_take_12 rfl (lv_at hl 0 rfl) ?_
    refine va_get (D := D) (C := RX4) (T := TX4) (N := 3) (ci := 4) (v := .ref (ad 0)) hx hb hts nX4 hown hK hP 100 w_ru rfl 1 (by decide) k15 (fun _ h9 => h9) rfl dX4_take_13 ?_
    refine lv_iload_n hx hb dX4_take_16 rfl (lv_at hl 2 rfl) ?_
    refine x_Vi (As := [.int x]) (rest0 := [.ref (ad (i + 6))]) ⟨hx, hb, hml, hown, hts⟩ (c_X6_takeValue l D cA ad tr rest H.size τ x) (cwV 1 hts gX4_take_X6_takeValue rfl rfl rfl (by decide +kernel) ⟨Nat.le_of_ble_eq_true rfl, Nat.le_of_ble_eq_true rfl⟩) hK hP hD hS hA 0 w_st rfl hl.1 rfl rfl (Nat.le_of_ble_eq_true rfl) ⟨Nat.zero_le _, Nat.zero_le _⟩ dX4_take_17 (fun r7 τ8 H locs hw hP hD hS => ?_)
    obtain ⟨er7, eτ8⟩ := hw
    refine p_tk hx hb hts nX7 hown hK hP hD hS hi 5 (by decide) (by decide) k65 (fun _ h9 => h9) rfl rfl rfl dX4_take_20 (fun τ9 H locs eτ9 hP hD hS => ?_)
    refine lv_aload_n hx hb dX4_take_23 rfl (lv_at hl 0 rfl) ?_
    refine lv_aload_n hx hb dX4_take_24 rfl (lv_at hl 1 rfl) ?_
    refine x_Vi (As := [.ref (ad (i + 6))]) (rest0 := []) ⟨hx, hb, hml, hown, hts⟩ (c_X4_next l D cA ad tr rest H.size τ9 i hi) (cwV 1 hts gX4_take_X4_next rfl rfl rfl (by decide +kernel) ⟨Nat.le_of_ble_eq_true rfl, Nat.le_of_ble_eq_true rfl⟩) hK hP hD hS hA 100 w_ru rfl hl.1 rfl rfl (Nat.le_of_ble_eq_true rfl) ⟨Nat.zero_le _, Nat.zero_le _⟩ dX4_take_25 (fun r10 τ11 H locs hw hP hD hS => ?_)
    obtain ⟨er10, eτ11⟩ := hw
    exact x_iret hx hb hr hlocks hK τ11 hP hD hS dX4_take_28 (by subst er10 eτ11 eτ9 er7 eτ8 er1; simp [m_take, n24, n40, n2, n27, n4, dc_8_2])

set_option maxHeartbeats 4000000 in
set_option maxRecDepth 100000 in
theorem c_X4_pick (l : Launch) (D : va_G) (cA : Nat → ClassId) (ad : Nat → Nat) (tr : List (ClassId × FieldType)) (rest : va_W) (sz : Nat) (τ : Sg) (i : Nat) (hi : i < 24) : Met l yX4_pick wsX4_pick ({ frames := 2, cells := 0, slots := 0, locals := 52 }) (va_Pc [.ref (ad 100), .ref (ad (i + 6))] (inW D (tyB cA ++ tr) (wB cA ad τ ++ rest) sz)) (va_Qi (fun (r : Int32) (u : Sg) => r = (m_pick τ i).2 ∧ u = (m_pick τ i).1) (fun u : Sg => outW D (tyB cA ++ tr) (va_A (wB cA ad τ ++ rest) sz) (wB cA ad u ++ rest)) (va_A (wB cA ad τ ++ rest) sz)) 0 0 (va_A (wB cA ad τ ++ rest) sz) := by
  refine Met.ofW (cc := cX4_pick) (maxL := 3) (ret := (some .int)) (by decide) rfl ?_
  intro p e s m args below meth c s₁ B hml hv
  obtain ⟨rfl, hsz, hP, hK, hD0⟩ := hv
  have hx := B.exec
  have hb := B.bytes
  have hr := B.returns
  have hts := atoms_spec (ws := wsX4_pick) B.pre
  have hown : s.vm.findClass RX4 = some m.cls := findClass_of_methodNamed B.named
  have hlocks := B.notSynchronized
  subst hsz
  have hD := hD0.self (sz := s.heap.size)
  clear hD0
  generalize hAe : va_A (wB cA ad τ ++ rest) s.heap.size = A at hD ⊢
  have hA : ∀ q : Nat, s.heap.size ≤ q → A q := fun q h => by rw [← hAe]; exact Or.inr h
  clear hAe
  have hS : va_S A s.heap s.heap [] := va_S.rf
  have hP : va_P D vwCl (wB cA ad τ ++ rest) s.heap := hP
  have hl := lv_entry ([.ref (ad 100), .ref (ad (i + 6))]) (n := 3) (Nat.le_of_ble_eq_true rfl)
  rw [lg_entry_eq]
  generalize (lg_sl ([.ref (ad 100), .ref (ad (i + 6))]) ++ List.replicate (3 - (lg_sl ([.ref (ad 100), .ref (ad (i + 6))])).length) Slot.unset).toArray = ls at hl ⊢
  have hl : lv_has ls 3 [(0, .ref (ad 100)), (1, .ref (ad (i + 6)))] := hl
  have nX4 : ∀ w ∈ u_ws RX4 TX4 3, w ∈ wsX4_pick := by decide +kernel
  have nX7 : ∀ w ∈ u_ws RX7 TX7 17, w ∈ wsX4_pick := by decide +kernel
  have k15 := hts (.fieldLink RX4 15 "ScopeRow$Runner" "state" "LScopeRow$State;") (by decide +kernel)
  have k68 := hts (.fieldLink RX4 68 "ScopeRow$Task" "picks" "Z") (by decide +kernel)
  have k65 := hts (.fieldLink RX4 65 "ScopeRow$Task" "there" "I") (by decide +kernel)
  refine lv_iconst (v := 0) hx hb dX4_pick_0 (by decide) ?_
  refine lv_istore_n (lv' := [(2, .int 0), (0, .ref (ad 100)), (1, .ref (ad (i + 6)))]) hx hb dX4_pick_1 rfl hl (by decide) rfl (fun ls hl => ?_)
  refine lv_iload_n hx hb dX4_pick_2 rfl (lv_at hl 0 rfl) ?_
  refine lv_iconst (v := 2) hx hb dX4_pick_3 (by decide) ?_
  refine lv_icmp_ge (tgt := 48) hx hb dX4_pick_4 (by decide) (fun c_4_1 => ?_) (fun c_4_1 => ?_)
  -- 4 jumps
  · exact absurd c_4_1 (by decide)
  -- 4 goes on
  · skip
    refine lv_aload_n hx hb dX4_pick_7 rfl (lv_at hl 1 rfl) ?_
    refine va_get (D := D) (C := RX4) (T := TX4) (N := 3) (ci := 4) (v := .ref (ad 0)) hx hb hts nX4 hown hK hP 100 w_ru rfl 1 (by decide) k15 (fun _ h9 => h9) rfl dX4_pick_8 ?_
    refine lv_iload_n hx hb dX4_pick_11 rfl (lv_at hl 0 rfl) ?_
    refine x_Vi (As := [.int 0]) (rest0 := []) ⟨hx, hb, hml, hown, hts⟩ (c_X6_hasValue l D cA ad tr rest s.heap.size τ 0) (cwV 1 hts gX4_pick_X6_hasValue rfl rfl rfl (by decide +kernel) ⟨Nat.le_of_ble_eq_true rfl, Nat.le_of_ble_eq_true rfl⟩) hK hP hD hS hA 0 w_st rfl hl.1 rfl rfl (Nat.le_of_ble_eq_true rfl) ⟨Nat.zero_le _, Nat.zero_le _⟩ dX4_pick_12 (fun r2 _ H locs hw hP hD hS => ?_)
    have er2 := hw
    refine lv_if_eq (tgt := 42) hx hb dX4_pick_15 (by decide) (fun c_15_3 => ?_) (fun c_15_3 => ?_)
    -- 15 jumps
    · skip
      have dc_15_3 := bI_f er2 c_15_3
      refine lv_iinc (v := 1) (lv' := [(2, .int 1), (0, .ref (ad 100)), (1, .ref (ad (i + 6)))]) hx hb dX4_pick_42 hl (k := 0) rfl (by decide) (by decide) rfl (fun ls hl => ?_)
      refine lv_goto (tgt := 2) hx hb dX4_pick_45 (by decide) ?_
      refine lv_iload_n hx hb dX4_pick_2 rfl (lv_at hl 0 rfl) ?_
      refine lv_iconst (v := 2) hx hb dX4_pick_3 (by decide) ?_
      refine lv_icmp_ge (tgt := 48) hx hb dX4_pick_4 (by decide) (fun c_4_4 => ?_) (fun c_4_4 => ?_)
      -- 4 jumps
      · exact absurd c_4_4 (by decide)
      -- 4 goes on
      · skip
        refine lv_aload_n hx hb dX4_pick_7 rfl (lv_at hl 1 rfl) ?_
        refine va_get (D := D) (C := RX4) (T := TX4) (N := 3) (ci := 4) (v := .ref (ad 0)) hx hb hts nX4 hown hK hP 100 w_ru rfl 1 (by decide) k15 (fun _ h9 => h9) rfl dX4_pick_8 ?_
        refine lv_iload_n hx hb dX4_pick_11 rfl (lv_at hl 0 rfl) ?_
        refine x_Vi (As := [.int 1]) (rest0 := []) ⟨hx, hb, hml, hown, hts⟩ (c_X6_hasValue l D cA ad tr rest H.size τ 1) (cwV 1 hts gX4_pick_X6_hasValue rfl rfl rfl (by decide +kernel) ⟨Nat.le_of_ble_eq_true rfl, Nat.le_of_ble_eq_true rfl⟩) hK hP hD hS hA 0 w_st rfl hl.1 rfl rfl (Nat.le_of_ble_eq_true rfl) ⟨Nat.zero_le _, Nat.zero_le _⟩ dX4_pick_12 (fun r5 _ H locs hw hP hD hS => ?_)
        have er5 := hw
        refine lv_if_eq (tgt := 42) hx hb dX4_pick_15 (by decide) (fun c_15_6 => ?_) (fun c_15_6 => ?_)
        -- 15 jumps
        · skip
          have dc_15_6 := bI_f er5 c_15_6
          refine lv_iinc (v := 2) (lv' := [(2, .int 2), (0, .ref (ad 100)), (1, .ref (ad (i + 6)))]) hx hb dX4_pick_42 hl (k := 0) rfl (by decide) (by decide) rfl (fun ls hl => ?_)
          refine lv_goto (tgt := 2) hx hb dX4_pick_45 (by decide) ?_
          refine lv_iload_n hx hb dX4_pick_2 rfl (lv_at hl 0 rfl) ?_
          refine lv_iconst (v := 2) hx hb dX4_pick_3 (by decide) ?_
          refine lv_icmp_ge (tgt := 48) hx hb dX4_pick_4 (by decide) (fun c_4_7 => ?_) (fun c_4_7 => ?_)
          -- 4 jumps
          · skip
            refine lv_aload_n hx hb dX4_pick_48 rfl (lv_at hl 1 rfl) ?_
            refine va_get (D := D) (C := RX4) (T := TX4) (N := 3) (ci := 4) (v := .ref (ad 0)) hx hb hts nX4 hown hK hP 100 w_ru rfl 1 (by decide) k15 (fun _ h9 => h9) rfl dX4_pick_49 ?_
            refine x_Vi (As := []) (rest0 := []) ⟨hx, hb, hml, hown, hts⟩ (c_X6_allEnded l D cA ad tr rest H.size τ ) (cwV 0 hts gX4_pick_X6_allEnded rfl rfl rfl (by decide +kernel) ⟨Nat.le_of_ble_eq_true rfl, Nat.le_of_ble_eq_true rfl⟩) hK hP hD hS hA 0 w_st rfl hl.1 rfl rfl (Nat.le_of_ble_eq_true rfl) ⟨Nat.zero_le _, Nat.zero_le _⟩ dX4_pick_52 (fun r8 _ H locs hw hP hD hS => ?_)
            have er8 := hw
            refine lv_if_eq (tgt := 61) hx hb dX4_pick_55 (by decide) (fun c_55_9 => ?_) (fun c_55_9 => ?_)
            -- 55 jumps
            · skip
              have dc_55_9 := bI_f er8 c_55_9
              refine lv_aload_n hx hb dX4_pick_61 rfl (lv_at hl 1 rfl) ?_
              refine va_get (D := D) (C := RX4) (T := TX4) (N := 3) (ci := 4) (v := .ref (ad 0)) hx hb hts nX4 hown hK hP 100 w_ru rfl 1 (by decide) k15 (fun _ h9 => h9) rfl dX4_pick_62 ?_
              refine lv_aload_n hx hb dX4_pick_65 rfl (lv_at hl 2 rfl) ?_
              refine lv_iconst (v := 4) hx hb dX4_pick_66 (by decide) ?_
              refine lv_iconst (v := (-1)) hx hb dX4_pick_67 (by decide) ?_
              refine x_Vv (As := [.ref (ad (i + 6)), .int 4, .int (-1)]) (rest0 := []) ⟨hx, hb, hml, hown, hts⟩ (c_X6_beginWait l D cA ad tr rest H.size τ i hi 4 (-1)) (cwV 3 hts gX4_pick_X6_beginWait rfl rfl rfl (by decide +kernel) ⟨Nat.le_of_ble_eq_true rfl, Nat.le_of_ble_eq_true rfl⟩) hK hP hD hS hA 0 w_st rfl hl.1 rfl rfl (Nat.le_of_ble_eq_true rfl) ⟨Nat.zero_le _, Nat.zero_le _⟩ dX4_pick_68 (fun τ10 H locs hw hP hD hS => ?_)
              have eτ10 := hw
              refine lv_aload_n hx hb dX4_pick_71 rfl (lv_at hl 2 rfl) ?_
              refine lv_iconst (v := 1) hx hb dX4_pick_72 (by decide) ?_
              refine p_tk hx hb hts nX7 hown hK hP hD hS hi 11 (by decide) (by decide) k68 (fun _ h9 => h9) rfl rfl rfl dX4_pick_73 (fun τ11 H locs eτ11 hP hD hS => ?_)
              refine lv_bipush (v := (-4)) hx hb dX4_pick_76 (by decide) ?_
              exact x_iret hx hb hr hlocks hK τ11 hP hD hS dX4_pick_78 (by subst eτ11 eτ10 er8 er5 er2; simp [m_pick, m_pick1, n24, n40, n2, n27, n4, dc_15_3, dc_15_6, dc_55_9])
            -- 55 goes on
            · skip
              have dc_55_9 := bI_t er8 c_55_9
              refine lv_bipush (v := 6) hx hb dX4_pick_58 (by decide) ?_
              exact x_iret hx hb hr hlocks hK τ hP hD hS dX4_pick_60 (by subst er8 er5 er2; simp [m_pick, m_pick1, n24, n40, n2, n27, n4, dc_15_3, dc_15_6, dc_55_9])
          -- 4 goes on
          · exact absurd c_4_7 (by decide)
        -- 15 goes on
        · skip
          have dc_15_6 := bI_t er5 c_15_6
          refine lv_aload_n hx hb dX4_pick_18 rfl (lv_at hl 2 rfl) ?_
          refine lv_aload_n hx hb dX4_pick_19 rfl (lv_at hl 1 rfl) ?_
          refine va_get (D := D) (C := RX4) (T := TX4) (N := 3) (ci := 4) (v := .ref (ad 0)) hx hb hts nX4 hown hK hP 100 w_ru rfl 1 (by decide) k15 (fun _ h9 => h9) rfl dX4_pick_20 ?_
          refine lv_iload_n hx hb dX4_pick_23 rfl (lv_at hl 0 rfl) ?_
          refine x_Vi (As := [.int 1]) (rest0 := [.ref (ad (i + 6))]) ⟨hx, hb, hml, hown, hts⟩ (c_X6_takeValue l D cA ad tr rest H.size τ 1) (cwV 1 hts gX4_pick_X6_takeValue rfl rfl rfl (by decide +kernel) ⟨Nat.le_of_ble_eq_true rfl, Nat.le_of_ble_eq_true rfl⟩) hK hP hD hS hA 0 w_st rfl hl.1 rfl rfl (Nat.le_of_ble_eq_true rfl) ⟨Nat.zero_le _, Nat.zero_le _⟩ dX4_pick_24 (fun r12 τ13 H locs hw hP hD hS => ?_)
          obtain ⟨er12, eτ13⟩ := hw
          refine p_tk hx hb hts nX7 hown hK hP hD hS hi 5 (by decide) (by decide) k65 (fun _ h9 => h9) rfl rfl rfl dX4_pick_27 (fun τ14 H locs eτ14 hP hD hS => ?_)
          refine lv_aload_n hx hb dX4_pick_30 rfl (lv_at hl 2 rfl) ?_
          refine lv_iconst (v := 3) hx hb dX4_pick_31 (by decide) ?_
          refine lv_iload_n hx hb dX4_pick_32 rfl (lv_at hl 0 rfl) ?_
          refine x_Vv (As := [.int 3, .int 1]) (rest0 := []) ⟨hx, hb, hml, hown, hts⟩ (c_X7_putLocal l D cA ad tr rest H.size τ14 i hi 3 1) (cwV 2 hts gX4_pick_X7_putLocal rfl rfl rfl (by decide +kernel) ⟨Nat.le_of_ble_eq_true rfl, Nat.le_of_ble_eq_true rfl⟩) hK hP hD hS hA (i + 6) (w_tk hi) rfl hl.1 rfl rfl (Nat.le_of_ble_eq_true rfl) ⟨Nat.zero_le _, Nat.zero_le _⟩ dX4_pick_33 (fun τ15 H locs hw hP hD hS => ?_)
          have eτ15 := hw
          refine lv_aload_n hx hb dX4_pick_36 rfl (lv_at hl 1 rfl) ?_
          refine lv_aload_n hx hb dX4_pick_37 rfl (lv_at hl 2 rfl) ?_
          refine x_Vi (As := [.ref (ad (i + 6))]) (rest0 := []) ⟨hx, hb, hml, hown, hts⟩ (c_X4_next l D cA ad tr rest H.size τ15 i hi) (cwV 1 hts gX4_pick_X4_next rfl rfl rfl (by decide +kernel) ⟨Nat.le_of_ble_eq_true rfl, Nat.le_of_ble_eq_true rfl⟩) hK hP hD hS hA 100 w_ru rfl hl.1 rfl rfl (Nat.le_of_ble_eq_true rfl) ⟨Nat.zero_le _, Nat.zero_le _⟩ dX4_pick_38 (fun r16 τ17 H locs hw hP hD hS => ?_)
          obtain ⟨er16, eτ17⟩ := hw
          exact x_iret hx hb hr hlocks hK τ17 hP hD hS dX4_pick_41 (by subst er16 eτ17 eτ15 eτ14 er12 eτ13 er5 er2; simp [m_pick, m_pick1, n24, n40, n2, n27, n4, dc_15_3, dc_15_6])
    -- 15 goes on
    · skip
      have dc_15_3 := bI_t er2 c_15_3
      refine lv_aload_n hx hb dX4_pick_18 rfl (lv_at hl 2 rfl) ?_
      refine lv_aload_n hx hb dX4_pick_19 rfl (lv_at hl 1 rfl) ?_
      refine va_get (D := D) (C := RX4) (T := TX4) (N := 3) (ci := 4) (v := .ref (ad 0)) hx hb hts nX4 hown hK hP 100 w_ru rfl 1 (by decide) k15 (fun _ h9 => h9) rfl dX4_pick_20 ?_
      refine lv_iload_n hx hb dX4_pick_23 rfl (lv_at hl 0 rfl) ?_
      refine x_Vi (As := [.int 0]) (rest0 := [.ref (ad (i + 6))]) ⟨hx, hb, hml, hown, hts⟩ (c_X6_takeValue l D cA ad tr rest H.size τ 0) (cwV 1 hts gX4_pick_X6_takeValue rfl rfl rfl (by decide +kernel) ⟨Nat.le_of_ble_eq_true rfl, Nat.le_of_ble_eq_true rfl⟩) hK hP hD hS hA 0 w_st rfl hl.1 rfl rfl (Nat.le_of_ble_eq_true rfl) ⟨Nat.zero_le _, Nat.zero_le _⟩ dX4_pick_24 (fun r18 τ19 H locs hw hP hD hS => ?_)
      obtain ⟨er18, eτ19⟩ := hw
      refine p_tk hx hb hts nX7 hown hK hP hD hS hi 5 (by decide) (by decide) k65 (fun _ h9 => h9) rfl rfl rfl dX4_pick_27 (fun τ20 H locs eτ20 hP hD hS => ?_)
      refine lv_aload_n hx hb dX4_pick_30 rfl (lv_at hl 2 rfl) ?_
      refine lv_iconst (v := 3) hx hb dX4_pick_31 (by decide) ?_
      refine lv_iload_n hx hb dX4_pick_32 rfl (lv_at hl 0 rfl) ?_
      refine x_Vv (As := [.int 3, .int 0]) (rest0 := []) ⟨hx, hb, hml, hown, hts⟩ (c_X7_putLocal l D cA ad tr rest H.size τ20 i hi 3 0) (cwV 2 hts gX4_pick_X7_putLocal rfl rfl rfl (by decide +kernel) ⟨Nat.le_of_ble_eq_true rfl, Nat.le_of_ble_eq_true rfl⟩) hK hP hD hS hA (i + 6) (w_tk hi) rfl hl.1 rfl rfl (Nat.le_of_ble_eq_true rfl) ⟨Nat.zero_le _, Nat.zero_le _⟩ dX4_pick_33 (fun τ21 H locs hw hP hD hS => ?_)
      have eτ21 := hw
      refine lv_aload_n hx hb dX4_pick_36 rfl (lv_at hl 1 rfl) ?_
      refine lv_aload_n hx hb dX4_pick_37 rfl (lv_at hl 2 rfl) ?_
      refine x_Vi (As := [.ref (ad (i + 6))]) (rest0 := []) ⟨hx, hb, hml, hown, hts⟩ (c_X4_next l D cA ad tr rest H.size τ21 i hi) (cwV 1 hts gX4_pick_X4_next rfl rfl rfl (by decide +kernel) ⟨Nat.le_of_ble_eq_true rfl, Nat.le_of_ble_eq_true rfl⟩) hK hP hD hS hA 100 w_ru rfl hl.1 rfl rfl (Nat.le_of_ble_eq_true rfl) ⟨Nat.zero_le _, Nat.zero_le _⟩ dX4_pick_38 (fun r22 τ23 H locs hw hP hD hS => ?_)
      obtain ⟨er22, eτ23⟩ := hw
      exact x_iret hx hb hr hlocks hK τ23 hP hD hS dX4_pick_41 (by subst er22 eτ23 eτ21 eτ20 er18 eτ19 er2; simp [m_pick, m_pick1, n24, n40, n2, n27, n4, dc_15_3])

set_option maxHeartbeats 4000000 in
set_option maxRecDepth 100000 in
theorem c_X4_end (l : Launch) (D : va_G) (cA : Nat → ClassId) (ad : Nat → Nat) (tr : List (ClassId × FieldType)) (rest : va_W) (sz : Nat) (τ : Sg) (i : Nat) (hi : i < 24) (x : Int32) : Met l yX4_end wsX4_end ({ frames := 2, cells := 0, slots := 0, locals := 53 }) (va_Pc [.ref (ad 100), .ref (ad (i + 6)), .int x] (inW D (tyB cA ++ tr) (wB cA ad τ ++ rest) sz)) (va_Qi (fun (r : Int32) (u : Sg) => r = (m_nd τ i x).2 ∧ u = (m_nd τ i x).1) (fun u : Sg => outW D (tyB cA ++ tr) (va_A (wB cA ad τ ++ rest) sz) (wB cA ad u ++ rest)) (va_A (wB cA ad τ ++ rest) sz)) 0 0 (va_A (wB cA ad τ ++ rest) sz) := by
  refine Met.ofW (cc := cX4_end) (maxL := 4) (ret := (some .int)) (by decide) rfl ?_
  intro p e s m args below meth c s₁ B hml hv
  obtain ⟨rfl, hsz, hP, hK, hD0⟩ := hv
  have hx := B.exec
  have hb := B.bytes
  have hr := B.returns
  have hts := atoms_spec (ws := wsX4_end) B.pre
  have hown : s.vm.findClass RX4 = some m.cls := findClass_of_methodNamed B.named
  have hlocks := B.notSynchronized
  subst hsz
  have hD := hD0.self (sz := s.heap.size)
  clear hD0
  generalize hAe : va_A (wB cA ad τ ++ rest) s.heap.size = A at hD ⊢
  have hA : ∀ q : Nat, s.heap.size ≤ q → A q := fun q h => by rw [← hAe]; exact Or.inr h
  clear hAe
  have hS : va_S A s.heap s.heap [] := va_S.rf
  have hP : va_P D vwCl (wB cA ad τ ++ rest) s.heap := hP
  have hl := lv_entry ([.ref (ad 100), .ref (ad (i + 6)), .int x]) (n := 4) (Nat.le_of_ble_eq_true rfl)
  rw [lg_entry_eq]
  generalize (lg_sl ([.ref (ad 100), .ref (ad (i + 6)), .int x]) ++ List.replicate (4 - (lg_sl ([.ref (ad 100), .ref (ad (i + 6)), .int x])).length) Slot.unset).toArray = ls at hl ⊢
  have hl : lv_has ls 4 [(0, .ref (ad 100)), (1, .ref (ad (i + 6))), (2, .int x)] := hl
  have nX1 : ∀ w ∈ u_ws RX1 TX1 5, w ∈ wsX4_end := by decide +kernel
  have nX4 : ∀ w ∈ u_ws RX4 TX4 3, w ∈ wsX4_end := by decide +kernel
  have k15 := hts (.fieldLink RX4 15 "ScopeRow$Runner" "state" "LScopeRow$State;") (by decide +kernel)
  have k244 := hts (.fieldLink RX4 244 "ScopeRow$Channel" "ended" "Z") (by decide +kernel)
  refine lv_aload_n hx hb dX4_end_0 rfl (lv_at hl 0 rfl) ?_
  refine va_get (D := D) (C := RX4) (T := TX4) (N := 3) (ci := 4) (v := .ref (ad 0)) hx hb hts nX4 hown hK hP 100 w_ru rfl 1 (by decide) k15 (fun _ h9 => h9) rfl dX4_end_1 ?_
  refine lv_iload_n hx hb dX4_end_4 rfl (lv_at hl 2 rfl) ?_
  refine x_Vq (As := [.int x]) (rest0 := []) ⟨hx, hb, hml, hown, hts⟩ (c_X6_channelAt l D cA ad tr rest s.heap.size τ x) (cwV 1 hts gX4_end_X6_channelAt rfl rfl rfl (by decide +kernel) ⟨Nat.le_of_ble_eq_true rfl, Nat.le_of_ble_eq_true rfl⟩) hK hP hD hS hA 0 w_st rfl hl.1 rfl rfl (Nat.le_of_ble_eq_true rfl) ⟨Nat.zero_le _, Nat.zero_le _⟩ dX4_end_5 (fun r1 _ H locs hw hP hD hS => ?_)
  have er1 := hw
  subst er1
  rcases hi2 : m_at x 2 with _ | i2
  · refine W.eq (g2 := F0 m 8 ls [.null]) rfl ?_
    refine lv_astore_nN (lv' := [(3, .null), (0, .ref (ad 100)), (1, .ref (ad (i + 6))), (2, .int x)]) hx hb dX4_end_8 rfl hl (by decide) rfl (fun ls hl => ?_)
    refine lv_aload_nN hx hb dX4_end_9 rfl (lv_at hl 0 rfl) ?_
    refine lv_ifnullN (tgt := 20) hx hb dX4_end_10 (by decide) ?_
    refine lv_iconst (v := 5) hx hb dX4_end_20 (by decide) ?_
    exact x_iret hx hb hr hlocks hK τ hP hD hS dX4_end_21 (by simp [m_nd, n24, n40, n2, n27, n4, hi2])
  · have bi2 := m_at_lt hi2 (by decide)
    refine W.eq (g2 := F0 m 8 ls [.ref (ad (i2 + 96))]) rfl ?_
    refine lv_astore_n (lv' := [(3, .ref (ad (i2 + 96))), (0, .ref (ad 100)), (1, .ref (ad (i + 6))), (2, .int x)]) hx hb dX4_end_8 rfl hl (by decide) rfl (fun ls hl => ?_)
    refine lv_aload_n hx hb dX4_end_9 rfl (lv_at hl 0 rfl) ?_
    refine lv_ifnull hx hb dX4_end_10 ?_
    refine lv_aload_n hx hb dX4_end_13 rfl (lv_at hl 0 rfl) ?_
    refine va_get (D := D) (C := RX1) (T := TX1) (N := 5) (ci := 1) (v := .int (τ (i2 + 96) 3)) hx hb hts nX1 hown hK hP (i2 + 96) (w_ch bi2) rfl 3 (by decide) k244 (fun _ h9 => h9) rfl dX4_end_14 ?_
    refine lv_if_eq (tgt := 22) hx hb dX4_end_17 (by decide) (fun c_17_3 => ?_) (fun c_17_3 => ?_)
    -- 17 jumps
    · skip
      refine lv_aload_n hx hb dX4_end_22 rfl (lv_at hl 1 rfl) ?_
      refine va_get (D := D) (C := RX4) (T := TX4) (N := 3) (ci := 4) (v := .ref (ad 0)) hx hb hts nX4 hown hK hP 100 w_ru rfl 1 (by decide) k15 (fun _ h9 => h9) rfl dX4_end_23 ?_
      refine lv_iload_n hx hb dX4_end_26 rfl (lv_at hl 3 rfl) ?_
      refine x_Vv (As := [.int x]) (rest0 := []) ⟨hx, hb, hml, hown, hts⟩ (c_X6_putEnd l D cA ad tr rest H.size τ x) (cwV 1 hts gX4_end_X6_putEnd rfl rfl rfl (by decide +kernel) ⟨Nat.le_of_ble_eq_true rfl, Nat.le_of_ble_eq_true rfl⟩) hK hP hD hS hA 0 w_st rfl hl.1 rfl rfl (Nat.le_of_ble_eq_true rfl) ⟨Nat.zero_le _, Nat.zero_le _⟩ dX4_end_27 (fun τ4 H locs hw hP hD hS => ?_)
      have eτ4 := hw
      refine lv_aload_n hx hb dX4_end_30 rfl (lv_at hl 1 rfl) ?_
      refine lv_aload_n hx hb dX4_end_31 rfl (lv_at hl 2 rfl) ?_
      refine x_Vi (As := [.ref (ad (i + 6))]) (rest0 := []) ⟨hx, hb, hml, hown, hts⟩ (c_X4_next l D cA ad tr rest H.size τ4 i hi) (cwV 1 hts gX4_end_X4_next rfl rfl rfl (by decide +kernel) ⟨Nat.le_of_ble_eq_true rfl, Nat.le_of_ble_eq_true rfl⟩) hK hP hD hS hA 100 w_ru rfl hl.1 rfl rfl (Nat.le_of_ble_eq_true rfl) ⟨Nat.zero_le _, Nat.zero_le _⟩ dX4_end_32 (fun r5 τ6 H locs hw hP hD hS => ?_)
      obtain ⟨er5, eτ6⟩ := hw
      exact x_iret hx hb hr hlocks hK τ6 hP hD hS dX4_end_35 (by subst er5 eτ6 eτ4; simp [m_nd, n24, n40, n2, n27, n4, hi2, eq_true c_17_3])
    -- 17 goes on
    · skip
      refine lv_iconst (v := 5) hx hb dX4_end_20 (by decide) ?_
      exact x_iret hx hb hr hlocks hK τ hP hD hS dX4_end_21 (by simp [m_nd, n24, n40, n2, n27, n4, hi2, c_17_3])

set_option maxHeartbeats 4000000 in
set_option maxRecDepth 100000 in
theorem c_X4_takeOffScope (l : Launch) (D : va_G) (cA : Nat → ClassId) (ad : Nat → Nat) (tr : List (ClassId × FieldType)) (rest : va_W) (sz : Nat) (τ : Sg) (i : Nat) (hi : i < 24) : Met l yX4_takeOffScope wsX4_takeOffScope ({ frames := 1, cells := 0, slots := 0, locals := 21 }) (va_Pc [.ref (ad 100), .ref (ad (i + 6))] (inW D (tyB cA ++ tr) (wB cA ad τ ++ rest) sz)) (va_Qi (fun (r : Int32) (u : Sg) => r = (m_takeOff τ i).2 ∧ u = (m_takeOff τ i).1) (fun u : Sg => outW D (tyB cA ++ tr) (va_A (wB cA ad τ ++ rest) sz) (wB cA ad u ++ rest)) (va_A (wB cA ad τ ++ rest) sz)) 0 0 (va_A (wB cA ad τ ++ rest) sz) := by
  refine Met.ofW (cc := cX4_takeOffScope) (maxL := 5) (ret := (some .int)) (by decide) rfl ?_
  intro p e s m args below meth c s₁ B hml hv
  obtain ⟨rfl, hsz, hP, hK, hD0⟩ := hv
  have hx := B.exec
  have hb := B.bytes
  have hr := B.returns
  have hts := atoms_spec (ws := wsX4_takeOffScope) B.pre
  have hown : s.vm.findClass RX4 = some m.cls := findClass_of_methodNamed B.named
  have hlocks := B.notSynchronized
  subst hsz
  have hD := hD0.self (sz := s.heap.size)
  clear hD0
  generalize hAe : va_A (wB cA ad τ ++ rest) s.heap.size = A at hD ⊢
  have hA : ∀ q : Nat, s.heap.size ≤ q → A q := fun q h => by rw [← hAe]; exact Or.inr h
  clear hAe
  have hS : va_S A s.heap s.heap [] := va_S.rf
  have hP : va_P D vwCl (wB cA ad τ ++ rest) s.heap := hP
  have hl := lv_entry ([.ref (ad 100), .ref (ad (i + 6))]) (n := 5) (Nat.le_of_ble_eq_true rfl)
  rw [lg_entry_eq]
  generalize (lg_sl ([.ref (ad 100), .ref (ad (i + 6))]) ++ List.replicate (5 - (lg_sl ([.ref (ad 100), .ref (ad (i + 6))])).length) Slot.unset).toArray = ls at hl ⊢
  have hl : lv_has ls 5 [(0, .ref (ad 100)), (1, .ref (ad (i + 6)))] := hl
  have nX4 : ∀ w ∈ u_ws RX4 TX4 3, w ∈ wsX4_takeOffScope := by decide +kernel
  have nX5 : ∀ w ∈ u_ws RX5 TX5 14, w ∈ wsX4_takeOffScope := by decide +kernel
  have nX7 : ∀ w ∈ u_ws RX7 TX7 17, w ∈ wsX4_takeOffScope := by decide +kernel
  have k15 := hts (.fieldLink RX4 15 "ScopeRow$Runner" "state" "LScopeRow$State;") (by decide +kernel)
  have k142 := hts (.fieldLink RX4 142 "ScopeRow$Task" "top" "I") (by decide +kernel)
  have k290 := hts (.fieldLink RX4 290 "ScopeRow$Scope" "below" "I") (by decide +kernel)
  have k199 := hts (.fieldLink RX4 199 "ScopeRow$Task" "depth" "I") (by decide +kernel)
  have k284 := hts (.fieldLink RX4 284 "ScopeRow$Scope" "leavingFor" "I") (by decide +kernel)
  have k293 := hts (.fieldLink RX4 293 "ScopeRow$Scope" "firstFailed" "I") (by decide +kernel)
  have k300 := hts (.fieldLink RX4 300 "ScopeRow$Scope" "cancelled" "Z") (by decide +kernel)
  have k65 := hts (.fieldLink RX4 65 "ScopeRow$Task" "there" "I") (by decide +kernel)
  have k303 := hts (.fieldLink RX4 303 "ScopeRow$Scope" "goesOnAt" "I") (by decide +kernel)
  have k82 := hts (.fieldLink RX4 82 "ScopeRow$Task" "line" "I") (by decide +kernel)
  refine lv_aload_n hx hb dX4_takeOffScope_0 rfl (lv_at hl 0 rfl) ?_
  refine va_get (D := D) (C := RX4) (T := TX4) (N := 3) (ci := 4) (v := .ref (ad 0)) hx hb hts nX4 hown hK hP 100 w_ru rfl 1 (by decide) k15 (fun _ h9 => h9) rfl dX4_takeOffScope_1 ?_
  refine lv_aload_n hx hb dX4_takeOffScope_4 rfl (lv_at hl 1 rfl) ?_
  refine va_get (D := D) (C := RX7) (T := TX7) (N := 17) (ci := 7) (v := .int (τ (i + 6) 7)) hx hb hts nX7 hown hK hP (i + 6) (w_tk hi) rfl 7 (by decide) k142 (fun _ h9 => h9) rfl dX4_takeOffScope_5 ?_
  refine x_Vq (As := [.int (τ (i + 6) 7)]) (rest0 := []) ⟨hx, hb, hml, hown, hts⟩ (c_X6_scopeAt l D cA ad tr rest s.heap.size τ (τ (i + 6) 7)) (cwV 1 hts gX4_takeOffScope_X6_scopeAt rfl rfl rfl (by decide +kernel) ⟨Nat.le_of_ble_eq_true rfl, Nat.le_of_ble_eq_true rfl⟩) hK hP hD hS hA 0 w_st rfl hl.1 rfl rfl (Nat.le_of_ble_eq_true rfl) ⟨Nat.zero_le _, Nat.zero_le _⟩ dX4_takeOffScope_8 (fun r1 _ H locs hw hP hD hS => ?_)
  have er1 := hw
  subst er1
  rcases hi2 : m_at (τ (i + 6) 7) 40 with _ | i2
  · refine W.eq (g2 := F0 m 11 ls [.null]) rfl ?_
    refine lv_astore_nN (lv' := [(2, .null), (0, .ref (ad 100)), (1, .ref (ad (i + 6)))]) hx hb dX4_takeOffScope_11 rfl hl (by decide) rfl (fun ls hl => ?_)
    refine lv_aload_nN hx hb dX4_takeOffScope_12 rfl (lv_at hl 0 rfl) ?_
    refine lv_ifnonnullN hx hb dX4_takeOffScope_13 ?_
    refine lv_bipush (v := (-2)) hx hb dX4_takeOffScope_16 (by decide) ?_
    exact x_iret hx hb hr hlocks hK τ hP hD hS dX4_takeOffScope_18 (by simp [m_takeOff, m_wayOut, m_goesOn, n24, n40, n2, n27, n4, hi2])
  · have bi2 := m_at_lt hi2 (by decide)
    refine W.eq (g2 := F0 m 11 ls [.ref (ad (i2 + 54))]) rfl ?_
    refine lv_astore_n (lv' := [(2, .ref (ad (i2 + 54))), (0, .ref (ad 100)), (1, .ref (ad (i + 6)))]) hx hb dX4_takeOffScope_11 rfl hl (by decide) rfl (fun ls hl => ?_)
    refine lv_aload_n hx hb dX4_takeOffScope_12 rfl (lv_at hl 0 rfl) ?_
    refine lv_ifnonnull (tgt := 19) hx hb dX4_takeOffScope_13 (by decide) ?_
    refine lv_aload_n hx hb dX4_takeOffScope_19 rfl (lv_at hl 2 rfl) ?_
    refine lv_aload_n hx hb dX4_takeOffScope_20 rfl (lv_at hl 0 rfl) ?_
    refine va_get (D := D) (C := RX5) (T := TX5) (N := 14) (ci := 5) (v := .int (τ (i2 + 54) 3)) hx hb hts nX5 hown hK hP (i2 + 54) (w_sc bi2) rfl 3 (by decide) k290 (fun _ h9 => h9) rfl dX4_takeOffScope_21 ?_
    refine p_tk hx hb hts nX7 hown hK hP hD hS hi 7 (by decide) (by decide) k142 (fun _ h9 => h9) rfl rfl rfl dX4_takeOffScope_24 (fun τ3 H locs eτ3 hP hD hS => ?_)
    refine lv_aload_n hx hb dX4_takeOffScope_27 rfl (lv_at hl 2 rfl) ?_
    refine lv_dup hx hb dX4_takeOffScope_28 rfl ?_
    refine va_get (D := D) (C := RX7) (T := TX7) (N := 17) (ci := 7) (v := .int (τ3 (i + 6) 8)) hx hb hts nX7 hown hK hP (i + 6) (w_tk hi) rfl 8 (by decide) k199 (fun _ h9 => h9) rfl dX4_takeOffScope_29 ?_
    refine lv_iconst (v := 1) hx hb dX4_takeOffScope_32 (by decide) ?_
    refine lv_isub hx hb dX4_takeOffScope_33 ?_
    refine p_tk hx hb hts nX7 hown hK hP hD hS hi 8 (by decide) (by decide) k199 (fun _ h9 => h9) rfl rfl rfl dX4_takeOffScope_34 (fun τ4 H locs eτ4 hP hD hS => ?_)
    refine lv_aload_n hx hb dX4_takeOffScope_37 rfl (lv_at hl 0 rfl) ?_
    refine va_get (D := D) (C := RX5) (T := TX5) (N := 14) (ci := 5) (v := .int (τ4 (i2 + 54) 9)) hx hb hts nX5 hown hK hP (i2 + 54) (w_sc bi2) rfl 9 (by decide) k284 (fun _ h9 => h9) rfl dX4_takeOffScope_38 ?_
    refine lv_topi (fun x5 ex5 => ?_)
    refine lv_istore_n (lv' := [(3, .int x5), (2, .ref (ad (i2 + 54))), (0, .ref (ad 100)), (1, .ref (ad (i + 6)))]) hx hb dX4_takeOffScope_41 rfl hl (by decide) rfl (fun ls hl => ?_)
    refine lv_aload_n hx hb dX4_takeOffScope_42 rfl (lv_at hl 2 rfl) ?_
    refine va_get (D := D) (C := RX4) (T := TX4) (N := 3) (ci := 4) (v := .ref (ad 0)) hx hb hts nX4 hown hK hP 100 w_ru rfl 1 (by decide) k15 (fun _ h9 => h9) rfl dX4_takeOffScope_43 ?_
    refine lv_aload_n hx hb dX4_takeOffScope_46 rfl (lv_at hl 1 rfl) ?_
    refine va_get (D := D) (C := RX5) (T := TX5) (N := 14) (ci := 5) (v := .int (τ4 (i2 + 54) 13)) hx hb hts nX5 hown hK hP (i2 + 54) (w_sc bi2) rfl 13 (by decide) k293 (fun _ h9 => h9) rfl dX4_takeOffScope_47 ?_
    refine x_Vq (As := [.int (τ4 (i2 + 54) 13)]) (rest0 := []) ⟨hx, hb, hml, hown, hts⟩ (c_X6_taskAt l D cA ad tr rest H.size τ4 (τ4 (i2 + 54) 13)) (cwV 1 hts gX4_takeOffScope_X6_taskAt rfl rfl rfl (by decide +kernel) ⟨Nat.le_of_ble_eq_true rfl, Nat.le_of_ble_eq_true rfl⟩) hK hP hD hS hA 0 w_st rfl hl.1 rfl rfl (Nat.le_of_ble_eq_true rfl) ⟨Nat.zero_le _, Nat.zero_le _⟩ dX4_takeOffScope_50 (fun r6 _ H locs hw hP hD hS => ?_)
    have er6 := hw
    subst er6
    rcases hi7 : m_at (τ4 (i2 + 54) 13) 24 with _ | i7
    · refine W.eq (g2 := F0 m 53 ls [.null]) rfl ?_
      refine lv_astoreN (lv' := [(4, .null), (3, .int x5), (2, .ref (ad (i2 + 54))), (0, .ref (ad 100)), (1, .ref (ad (i + 6)))]) hx hb dX4_takeOffScope_53 hl (by decide) rfl (fun ls hl => ?_)
      refine lv_iload_n hx hb dX4_takeOffScope_55 rfl (lv_at hl 1 rfl) ?_
      refine lv_if_gt (tgt := 70) hx hb dX4_takeOffScope_56 (by decide) (fun c_56_8 => ?_) (fun c_56_8 => ?_)
      -- 56 jumps
      · skip
        refine lv_iload_n hx hb dX4_takeOffScope_70 rfl (lv_at hl 1 rfl) ?_
        refine lv_iconst (v := (-1)) hx hb dX4_takeOffScope_71 (by decide) ?_
        refine lv_icmp_eq (tgt := 88) hx hb dX4_takeOffScope_72 (by decide) (fun c_72_9 => ?_) (fun c_72_9 => ?_)
        -- 72 jumps
        · skip
          refine lv_aload_n hx hb dX4_takeOffScope_88 rfl (lv_at hl 4 rfl) ?_
          refine lv_aload_n hx hb dX4_takeOffScope_89 rfl (lv_at hl 2 rfl) ?_
          refine va_get (D := D) (C := RX5) (T := TX5) (N := 14) (ci := 5) (v := .int (τ4 (i2 + 54) 5)) hx hb hts nX5 hown hK hP (i2 + 54) (w_sc bi2) rfl 5 (by decide) k300 (fun _ h9 => h9) rfl dX4_takeOffScope_90 ?_
          refine lv_if_eq (tgt := 100) hx hb dX4_takeOffScope_93 (by decide) (fun c_93_10 => ?_) (fun c_93_10 => ?_)
          -- 93 jumps
          · skip
            refine lv_iconst (v := 0) hx hb dX4_takeOffScope_100 (by decide) ?_
            refine p_tk hx hb hts nX7 hown hK hP hD hS hi 5 (by decide) (by decide) k65 (fun _ h9 => h9) rfl rfl rfl dX4_takeOffScope_101 (fun τ11 H locs eτ11 hP hD hS => ?_)
            refine lv_aload_n hx hb dX4_takeOffScope_104 rfl (lv_at hl 4 rfl) ?_
            refine lv_aload_n hx hb dX4_takeOffScope_105 rfl (lv_at hl 2 rfl) ?_
            refine va_get (D := D) (C := RX5) (T := TX5) (N := 14) (ci := 5) (v := .int (τ11 (i2 + 54) 8)) hx hb hts nX5 hown hK hP (i2 + 54) (w_sc bi2) rfl 8 (by decide) k303 (fun _ h9 => h9) rfl dX4_takeOffScope_106 ?_
            refine p_tk hx hb hts nX7 hown hK hP hD hS hi 4 (by decide) (by decide) k82 (fun _ h9 => h9) rfl rfl rfl dX4_takeOffScope_109 (fun τ12 H locs eτ12 hP hD hS => ?_)
            refine lv_iconst (v := 0) hx hb dX4_takeOffScope_112 (by decide) ?_
            exact x_iret hx hb hr hlocks hK τ12 hP hD hS dX4_takeOffScope_113 (by subst eτ12 eτ11 ex5 eτ4 eτ3; simp [m_takeOff, m_wayOut, m_goesOn, n24, n40, n2, n27, n4, hi2, hi7, eq_true c_56_8, eq_true c_72_9, eq_true c_93_10])
          -- 93 goes on
          · skip
            refine lv_iconst (v := 1) hx hb dX4_takeOffScope_96 (by decide) ?_
            refine lv_goto (tgt := 101) hx hb dX4_takeOffScope_97 (by decide) ?_
            refine p_tk hx hb hts nX7 hown hK hP hD hS hi 5 (by decide) (by decide) k65 (fun _ h9 => h9) rfl rfl rfl dX4_takeOffScope_101 (fun τ13 H locs eτ13 hP hD hS => ?_)
            refine lv_aload_n hx hb dX4_takeOffScope_104 rfl (lv_at hl 4 rfl) ?_
            refine lv_aload_n hx hb dX4_takeOffScope_105 rfl (lv_at hl 2 rfl) ?_
            refine va_get (D := D) (C := RX5) (T := TX5) (N := 14) (ci := 5) (v := .int (τ13 (i2 + 54) 8)) hx hb hts nX5 hown hK hP (i2 + 54) (w_sc bi2) rfl 8 (by decide) k303 (fun _ h9 => h9) rfl dX4_takeOffScope_106 ?_
            refine p_tk hx hb hts nX7 hown hK hP hD hS hi 4 (by decide) (by decide) k82 (fun _ h9 => h9) rfl rfl rfl dX4_takeOffScope_109 (fun τ14 H locs eτ14 hP hD hS => ?_)
            refine lv_iconst (v := 0) hx hb dX4_takeOffScope_112 (by decide) ?_
            exact x_iret hx hb hr hlocks hK τ14 hP hD hS dX4_takeOffScope_113 (by subst eτ14 eτ13 ex5 eτ4 eτ3; simp [m_takeOff, m_wayOut, m_goesOn, n24, n40, n2, n27, n4, hi2, hi7, eq_true c_56_8, eq_true c_72_9, c_93_10])
        -- 72 goes on
        · skip
          refine lv_iload_n hx hb dX4_takeOffScope_75 rfl (lv_at hl 1 rfl) ?_
          refine lv_bipush (v := (-3)) hx hb dX4_takeOffScope_76 (by decide) ?_
          refine lv_icmp_ne (tgt := 114) hx hb dX4_takeOffScope_78 (by decide) (fun c_78_15 => ?_) (fun c_78_15 => ?_)
          -- 78 jumps
          · skip
            refine lv_iload_n hx hb dX4_takeOffScope_114 rfl (lv_at hl 1 rfl) ?_
            exact x_iret hx hb hr hlocks hK τ4 hP hD hS dX4_takeOffScope_115 (by subst ex5 eτ4 eτ3; simp [m_takeOff, m_wayOut, m_goesOn, n24, n40, n2, n27, n4, hi2, hi7, eq_true c_56_8, c_72_9, c_78_15])
          -- 78 goes on
          · skip
            refine lv_aload_n hx hb dX4_takeOffScope_81 rfl (lv_at hl 2 rfl) ?_
            refine va_get (D := D) (C := RX5) (T := TX5) (N := 14) (ci := 5) (v := .int (τ4 (i2 + 54) 5)) hx hb hts nX5 hown hK hP (i2 + 54) (w_sc bi2) rfl 5 (by decide) k300 (fun _ h9 => h9) rfl dX4_takeOffScope_82 ?_
            refine lv_if_eq (tgt := 114) hx hb dX4_takeOffScope_85 (by decide) (fun c_85_16 => ?_) (fun c_85_16 => ?_)
            -- 85 jumps
            · skip
              refine lv_iload_n hx hb dX4_takeOffScope_114 rfl (lv_at hl 1 rfl) ?_
              exact x_iret hx hb hr hlocks hK τ4 hP hD hS dX4_takeOffScope_115 (by subst ex5 eτ4 eτ3; simp [m_takeOff, m_wayOut, m_goesOn, n24, n40, n2, n27, n4, hi2, hi7, eq_true c_56_8, c_72_9, eq_true c_78_15, eq_true c_85_16])
            -- 85 goes on
            · skip
              refine lv_aload_n hx hb dX4_takeOffScope_88 rfl (lv_at hl 4 rfl) ?_
              refine lv_aload_n hx hb dX4_takeOffScope_89 rfl (lv_at hl 2 rfl) ?_
              refine va_get (D := D) (C := RX5) (T := TX5) (N := 14) (ci := 5) (v := .int (τ4 (i2 + 54) 5)) hx hb hts nX5 hown hK hP (i2 + 54) (w_sc bi2) rfl 5 (by decide) k300 (fun _ h9 => h9) rfl dX4_takeOffScope_90 ?_
              refine lv_if_eq (tgt := 100) hx hb dX4_takeOffScope_93 (by decide) (fun c_93_17 => ?_) (fun c_93_17 => ?_)
              -- 93 jumps
              · exact absurd c_93_17 c_85_16
              -- 93 goes on
              · skip
                refine lv_iconst (v := 1) hx hb dX4_takeOffScope_96 (by decide) ?_
                refine lv_goto (tgt := 101) hx hb dX4_takeOffScope_97 (by decide) ?_
                refine p_tk hx hb hts nX7 hown hK hP hD hS hi 5 (by decide) (by decide) k65 (fun _ h9 => h9) rfl rfl rfl dX4_takeOffScope_101 (fun τ18 H locs eτ18 hP hD hS => ?_)
                refine lv_aload_n hx hb dX4_takeOffScope_104 rfl (lv_at hl 4 rfl) ?_
                refine lv_aload_n hx hb dX4_takeOffScope_105 rfl (lv_at hl 2 rfl) ?_
                refine va_get (D := D) (C := RX5) (T := TX5) (N := 14) (ci := 5) (v := .int (τ18 (i2 + 54) 8)) hx hb hts nX5 hown hK hP (i2 + 54) (w_sc bi2) rfl 8 (by decide) k303 (fun _ h9 => h9) rfl dX4_takeOffScope_106 ?_
                refine p_tk hx hb hts nX7 hown hK hP hD hS hi 4 (by decide) (by decide) k82 (fun _ h9 => h9) rfl rfl rfl dX4_takeOffScope_109 (fun τ19 H locs eτ19 hP hD hS => ?_)
                refine lv_iconst (v := 0) hx hb dX4_takeOffScope_112 (by decide) ?_
                exact x_iret hx hb hr hlocks hK τ19 hP hD hS dX4_takeOffScope_113 (by subst eτ19 eτ18 ex5 eτ4 eτ3; simp [m_takeOff, m_wayOut, m_goesOn, n24, n40, n2, n27, n4, hi2, hi7, eq_true c_56_8, c_72_9, eq_true c_78_15, c_85_16, c_93_17])
      -- 56 goes on
      · skip
        refine lv_aloadN hx hb dX4_takeOffScope_59 (lv_at hl 0 rfl) ?_
        refine lv_ifnullN (tgt := 70) hx hb dX4_takeOffScope_61 (by decide) ?_
        refine lv_iload_n hx hb dX4_takeOffScope_70 rfl (lv_at hl 1 rfl) ?_
        refine lv_iconst (v := (-1)) hx hb dX4_takeOffScope_71 (by decide) ?_
        refine lv_icmp_eq (tgt := 88) hx hb dX4_takeOffScope_72 (by decide) (fun c_72_20 => ?_) (fun c_72_20 => ?_)
        -- 72 jumps
        · skip
          refine lv_aload_n hx hb dX4_takeOffScope_88 rfl (lv_at hl 4 rfl) ?_
          refine lv_aload_n hx hb dX4_takeOffScope_89 rfl (lv_at hl 2 rfl) ?_
          refine va_get (D := D) (C := RX5) (T := TX5) (N := 14) (ci := 5) (v := .int (τ4 (i2 + 54) 5)) hx hb hts nX5 hown hK hP (i2 + 54) (w_sc bi2) rfl 5 (by decide) k300 (fun _ h9 => h9) rfl dX4_takeOffScope_90 ?_
          refine lv_if_eq (tgt := 100) hx hb dX4_takeOffScope_93 (by decide) (fun c_93_21 => ?_) (fun c_93_21 => ?_)
          -- 93 jumps
          · skip
            refine lv_iconst (v := 0) hx hb dX4_takeOffScope_100 (by decide) ?_
            refine p_tk hx hb hts nX7 hown hK hP hD hS hi 5 (by decide) (by decide) k65 (fun _ h9 => h9) rfl rfl rfl dX4_takeOffScope_101 (fun τ22 H locs eτ22 hP hD hS => ?_)
            refine lv_aload_n hx hb dX4_takeOffScope_104 rfl (lv_at hl 4 rfl) ?_
            refine lv_aload_n hx hb dX4_takeOffScope_105 rfl (lv_at hl 2 rfl) ?_
            refine va_get (D := D) (C := RX5) (T := TX5) (N := 14) (ci := 5) (v := .int (τ22 (i2 + 54) 8)) hx hb hts nX5 hown hK hP (i2 + 54) (w_sc bi2) rfl 8 (by decide) k303 (fun _ h9 => h9) rfl dX4_takeOffScope_106 ?_
            refine p_tk hx hb hts nX7 hown hK hP hD hS hi 4 (by decide) (by decide) k82 (fun _ h9 => h9) rfl rfl rfl dX4_takeOffScope_109 (fun τ23 H locs eτ23 hP hD hS => ?_)
            refine lv_iconst (v := 0) hx hb dX4_takeOffScope_112 (by decide) ?_
            exact x_iret hx hb hr hlocks hK τ23 hP hD hS dX4_takeOffScope_113 (by subst eτ23 eτ22 ex5 eτ4 eτ3; simp [m_takeOff, m_wayOut, m_goesOn, n24, n40, n2, n27, n4, hi2, hi7, c_56_8, eq_true c_72_20, eq_true c_93_21])
          -- 93 goes on
          · skip
            refine lv_iconst (v := 1) hx hb dX4_takeOffScope_96 (by decide) ?_
            refine lv_goto (tgt := 101) hx hb dX4_takeOffScope_97 (by decide) ?_
            refine p_tk hx hb hts nX7 hown hK hP hD hS hi 5 (by decide) (by decide) k65 (fun _ h9 => h9) rfl rfl rfl dX4_takeOffScope_101 (fun τ24 H locs eτ24 hP hD hS => ?_)
            refine lv_aload_n hx hb dX4_takeOffScope_104 rfl (lv_at hl 4 rfl) ?_
            refine lv_aload_n hx hb dX4_takeOffScope_105 rfl (lv_at hl 2 rfl) ?_
            refine va_get (D := D) (C := RX5) (T := TX5) (N := 14) (ci := 5) (v := .int (τ24 (i2 + 54) 8)) hx hb hts nX5 hown hK hP (i2 + 54) (w_sc bi2) rfl 8 (by decide) k303 (fun _ h9 => h9) rfl dX4_takeOffScope_106 ?_
            refine p_tk hx hb hts nX7 hown hK hP hD hS hi 4 (by decide) (by decide) k82 (fun _ h9 => h9) rfl rfl rfl dX4_takeOffScope_109 (fun τ25 H locs eτ25 hP hD hS => ?_)
            refine lv_iconst (v := 0) hx hb dX4_takeOffScope_112 (by decide) ?_
            exact x_iret hx hb hr hlocks hK τ25 hP hD hS dX4_takeOffScope_113 (by subst eτ25 eτ24 ex5 eτ4 eτ3; simp [m_takeOff, m_wayOut, m_goesOn, n24, n40, n2, n27, n4, hi2, hi7, c_56_8, eq_true c_72_20, c_93_21])
        -- 72 goes on
        · skip
          refine lv_iload_n hx hb dX4_takeOffScope_75 rfl (lv_at hl 1 rfl) ?_
          refine lv_bipush (v := (-3)) hx hb dX4_takeOffScope_76 (by decide) ?_
          refine lv_icmp_ne (tgt := 114) hx hb dX4_takeOffScope_78 (by decide) (fun c_78_26 => ?_) (fun c_78_26 => ?_)
          -- 78 jumps
          · skip
            refine lv_iload_n hx hb dX4_takeOffScope_114 rfl (lv_at hl 1 rfl) ?_
            exact x_iret hx hb hr hlocks hK τ4 hP hD hS dX4_takeOffScope_115 (by subst ex5 eτ4 eτ3; simp [m_takeOff, m_wayOut, m_goesOn, n24, n40, n2, n27, n4, hi2, hi7, c_56_8, c_72_20, c_78_26])
          -- 78 goes on
          · skip
            refine lv_aload_n hx hb dX4_takeOffScope_81 rfl (lv_at hl 2 rfl) ?_
            refine va_get (D := D) (C := RX5) (T := TX5) (N := 14) (ci := 5) (v := .int (τ4 (i2 + 54) 5)) hx hb hts nX5 hown hK hP (i2 + 54) (w_sc bi2) rfl 5 (by decide) k300 (fun _ h9 => h9) rfl dX4_takeOffScope_82 ?_
            refine lv_if_eq (tgt := 114) hx hb dX4_takeOffScope_85 (by decide) (fun c_85_27 => ?_) (fun c_85_27 => ?_)
            -- 85 jumps
            · skip
              refine lv_iload_n hx hb dX4_takeOffScope_114 rfl (lv_at hl 1 rfl) ?_
              exact x_iret hx hb hr hlocks hK τ4 hP hD hS dX4_takeOffScope_115 (by subst ex5 eτ4 eτ3; simp [m_takeOff, m_wayOut, m_goesOn, n24, n40, n2, n27, n4, hi2, hi7, c_56_8, c_72_20, eq_true c_78_26, eq_true c_85_27])
            -- 85 goes on
            · skip
              refine lv_aload_n hx hb dX4_takeOffScope_88 rfl (lv_at hl 4 rfl) ?_
              refine lv_aload_n hx hb dX4_takeOffScope_89 rfl (lv_at hl 2 rfl) ?_
              refine va_get (D := D) (C := RX5) (T := TX5) (N := 14) (ci := 5) (v := .int (τ4 (i2 + 54) 5)) hx hb hts nX5 hown hK hP (i2 + 54) (w_sc bi2) rfl 5 (by decide) k300 (fun _ h9 => h9) rfl dX4_takeOffScope_90 ?_
              refine lv_if_eq (tgt := 100) hx hb dX4_takeOffScope_93 (by decide) (fun c_93_28 => ?_) (fun c_93_28 => ?_)
              -- 93 jumps
              · exact absurd c_93_28 c_85_27
              -- 93 goes on
              · skip
                refine lv_iconst (v := 1) hx hb dX4_takeOffScope_96 (by decide) ?_
                refine lv_goto (tgt := 101) hx hb dX4_takeOffScope_97 (by decide) ?_
                refine p_tk hx hb hts nX7 hown hK hP hD hS hi 5 (by decide) (by decide) k65 (fun _ h9 => h9) rfl rfl rfl dX4_takeOffScope_101 (fun τ29 H locs eτ29 hP hD hS => ?_)
                refine lv_aload_n hx hb dX4_takeOffScope_104 rfl (lv_at hl 4 rfl) ?_
                refine lv_aload_n hx hb dX4_takeOffScope_105 rfl (lv_at hl 2 rfl) ?_
                refine va_get (D := D) (C := RX5) (T := TX5) (N := 14) (ci := 5) (v := .int (τ29 (i2 + 54) 8)) hx hb hts nX5 hown hK hP (i2 + 54) (w_sc bi2) rfl 8 (by decide) k303 (fun _ h9 => h9) rfl dX4_takeOffScope_106 ?_
                refine p_tk hx hb hts nX7 hown hK hP hD hS hi 4 (by decide) (by decide) k82 (fun _ h9 => h9) rfl rfl rfl dX4_takeOffScope_109 (fun τ30 H locs eτ30 hP hD hS => ?_)
                refine lv_iconst (v := 0) hx hb dX4_takeOffScope_112 (by decide) ?_
                exact x_iret hx hb hr hlocks hK τ30 hP hD hS dX4_takeOffScope_113 (by subst eτ30 eτ29 ex5 eτ4 eτ3; simp [m_takeOff, m_wayOut, m_goesOn, n24, n40, n2, n27, n4, hi2, hi7, c_56_8, c_72_20, eq_true c_78_26, c_85_27, c_93_28])
    · have bi7 := m_at_lt hi7 (by decide)
      refine W.eq (g2 := F0 m 53 ls [.ref (ad (i7 + 6))]) rfl ?_
      refine lv_astore (lv' := [(4, .ref (ad (i7 + 6))), (3, .int x5), (2, .ref (ad (i2 + 54))), (0, .ref (ad 100)), (1, .ref (ad (i + 6)))]) hx hb dX4_takeOffScope_53 hl (by decide) rfl (fun ls hl => ?_)
      refine lv_iload_n hx hb dX4_takeOffScope_55 rfl (lv_at hl 1 rfl) ?_
      refine lv_if_gt (tgt := 70) hx hb dX4_takeOffScope_56 (by decide) (fun c_56_31 => ?_) (fun c_56_31 => ?_)
      -- 56 jumps
      · skip
        refine lv_iload_n hx hb dX4_takeOffScope_70 rfl (lv_at hl 1 rfl) ?_
        refine lv_iconst (v := (-1)) hx hb dX4_takeOffScope_71 (by decide) ?_
        refine lv_icmp_eq (tgt := 88) hx hb dX4_takeOffScope_72 (by decide) (fun c_72_32 => ?_) (fun c_72_32 => ?_)
        -- 72 jumps
        · skip
          refine lv_aload_n hx hb dX4_takeOffScope_88 rfl (lv_at hl 4 rfl) ?_
          refine lv_aload_n hx hb dX4_takeOffScope_89 rfl (lv_at hl 2 rfl) ?_
          refine va_get (D := D) (C := RX5) (T := TX5) (N := 14) (ci := 5) (v := .int (τ4 (i2 + 54) 5)) hx hb hts nX5 hown hK hP (i2 + 54) (w_sc bi2) rfl 5 (by decide) k300 (fun _ h9 => h9) rfl dX4_takeOffScope_90 ?_
          refine lv_if_eq (tgt := 100) hx hb dX4_takeOffScope_93 (by decide) (fun c_93_33 => ?_) (fun c_93_33 => ?_)
          -- 93 jumps
          · skip
            refine lv_iconst (v := 0) hx hb dX4_takeOffScope_100 (by decide) ?_
            refine p_tk hx hb hts nX7 hown hK hP hD hS hi 5 (by decide) (by decide) k65 (fun _ h9 => h9) rfl rfl rfl dX4_takeOffScope_101 (fun τ34 H locs eτ34 hP hD hS => ?_)
            refine lv_aload_n hx hb dX4_takeOffScope_104 rfl (lv_at hl 4 rfl) ?_
            refine lv_aload_n hx hb dX4_takeOffScope_105 rfl (lv_at hl 2 rfl) ?_
            refine va_get (D := D) (C := RX5) (T := TX5) (N := 14) (ci := 5) (v := .int (τ34 (i2 + 54) 8)) hx hb hts nX5 hown hK hP (i2 + 54) (w_sc bi2) rfl 8 (by decide) k303 (fun _ h9 => h9) rfl dX4_takeOffScope_106 ?_
            refine p_tk hx hb hts nX7 hown hK hP hD hS hi 4 (by decide) (by decide) k82 (fun _ h9 => h9) rfl rfl rfl dX4_takeOffScope_109 (fun τ35 H locs eτ35 hP hD hS => ?_)
            refine lv_iconst (v := 0) hx hb dX4_takeOffScope_112 (by decide) ?_
            exact x_iret hx hb hr hlocks hK τ35 hP hD hS dX4_takeOffScope_113 (by subst eτ35 eτ34 ex5 eτ4 eτ3; simp [m_takeOff, m_wayOut, m_goesOn, n24, n40, n2, n27, n4, hi2, hi7, eq_true c_56_31, eq_true c_72_32, eq_true c_93_33])
          -- 93 goes on
          · skip
            refine lv_iconst (v := 1) hx hb dX4_takeOffScope_96 (by decide) ?_
            refine lv_goto (tgt := 101) hx hb dX4_takeOffScope_97 (by decide) ?_
            refine p_tk hx hb hts nX7 hown hK hP hD hS hi 5 (by decide) (by decide) k65 (fun _ h9 => h9) rfl rfl rfl dX4_takeOffScope_101 (fun τ36 H locs eτ36 hP hD hS => ?_)
            refine lv_aload_n hx hb dX4_takeOffScope_104 rfl (lv_at hl 4 rfl) ?_
            refine lv_aload_n hx hb dX4_takeOffScope_105 rfl (lv_at hl 2 rfl) ?_
            refine va_get (D := D) (C := RX5) (T := TX5) (N := 14) (ci := 5) (v := .int (τ36 (i2 + 54) 8)) hx hb hts nX5 hown hK hP (i2 + 54) (w_sc bi2) rfl 8 (by decide) k303 (fun _ h9 => h9) rfl dX4_takeOffScope_106 ?_
            refine p_tk hx hb hts nX7 hown hK hP hD hS hi 4 (by decide) (by decide) k82 (fun _ h9 => h9) rfl rfl rfl dX4_takeOffScope_109 (fun τ37 H locs eτ37 hP hD hS => ?_)
            refine lv_iconst (v := 0) hx hb dX4_takeOffScope_112 (by decide) ?_
            exact x_iret hx hb hr hlocks hK τ37 hP hD hS dX4_takeOffScope_113 (by subst eτ37 eτ36 ex5 eτ4 eτ3; simp [m_takeOff, m_wayOut, m_goesOn, n24, n40, n2, n27, n4, hi2, hi7, eq_true c_56_31, eq_true c_72_32, c_93_33])
        -- 72 goes on
        · skip
          refine lv_iload_n hx hb dX4_takeOffScope_75 rfl (lv_at hl 1 rfl) ?_
          refine lv_bipush (v := (-3)) hx hb dX4_takeOffScope_76 (by decide) ?_
          refine lv_icmp_ne (tgt := 114) hx hb dX4_takeOffScope_78 (by decide) (fun c_78_38 => ?_) (fun c_78_38 => ?_)
          -- 78 jumps
          · skip
            refine lv_iload_n hx hb dX4_takeOffScope_114 rfl (lv_at hl 1 rfl) ?_
            exact x_iret hx hb hr hlocks hK τ4 hP hD hS dX4_takeOffScope_115 (by subst ex5 eτ4 eτ3; simp [m_takeOff, m_wayOut, m_goesOn, n24, n40, n2, n27, n4, hi2, hi7, eq_true c_56_31, c_72_32, c_78_38])
          -- 78 goes on
          · skip
            refine lv_aload_n hx hb dX4_takeOffScope_81 rfl (lv_at hl 2 rfl) ?_
            refine va_get (D := D) (C := RX5) (T := TX5) (N := 14) (ci := 5) (v := .int (τ4 (i2 + 54) 5)) hx hb hts nX5 hown hK hP (i2 + 54) (w_sc bi2) rfl 5 (by decide) k300 (fun _ h9 => h9) rfl dX4_takeOffScope_82 ?_
            refine lv_if_eq (tgt := 114) hx hb dX4_takeOffScope_85 (by decide) (fun c_85_39 => ?_) (fun c_85_39 => ?_)
            -- 85 jumps
            · skip
              refine lv_iload_n hx hb dX4_takeOffScope_114 rfl (lv_at hl 1 rfl) ?_
              exact x_iret hx hb hr hlocks hK τ4 hP hD hS dX4_takeOffScope_115 (by subst ex5 eτ4 eτ3; simp [m_takeOff, m_wayOut, m_goesOn, n24, n40, n2, n27, n4, hi2, hi7, eq_true c_56_31, c_72_32, eq_true c_78_38, eq_true c_85_39])
            -- 85 goes on
            · skip
              refine lv_aload_n hx hb dX4_takeOffScope_88 rfl (lv_at hl 4 rfl) ?_
              refine lv_aload_n hx hb dX4_takeOffScope_89 rfl (lv_at hl 2 rfl) ?_
              refine va_get (D := D) (C := RX5) (T := TX5) (N := 14) (ci := 5) (v := .int (τ4 (i2 + 54) 5)) hx hb hts nX5 hown hK hP (i2 + 54) (w_sc bi2) rfl 5 (by decide) k300 (fun _ h9 => h9) rfl dX4_takeOffScope_90 ?_
              refine lv_if_eq (tgt := 100) hx hb dX4_takeOffScope_93 (by decide) (fun c_93_40 => ?_) (fun c_93_40 => ?_)
              -- 93 jumps
              · exact absurd c_93_40 c_85_39
              -- 93 goes on
              · skip
                refine lv_iconst (v := 1) hx hb dX4_takeOffScope_96 (by decide) ?_
                refine lv_goto (tgt := 101) hx hb dX4_takeOffScope_97 (by decide) ?_
                refine p_tk hx hb hts nX7 hown hK hP hD hS hi 5 (by decide) (by decide) k65 (fun _ h9 => h9) rfl rfl rfl dX4_takeOffScope_101 (fun τ41 H locs eτ41 hP hD hS => ?_)
                refine lv_aload_n hx hb dX4_takeOffScope_104 rfl (lv_at hl 4 rfl) ?_
                refine lv_aload_n hx hb dX4_takeOffScope_105 rfl (lv_at hl 2 rfl) ?_
                refine va_get (D := D) (C := RX5) (T := TX5) (N := 14) (ci := 5) (v := .int (τ41 (i2 + 54) 8)) hx hb hts nX5 hown hK hP (i2 + 54) (w_sc bi2) rfl 8 (by decide) k303 (fun _ h9 => h9) rfl dX4_takeOffScope_106 ?_
                refine p_tk hx hb hts nX7 hown hK hP hD hS hi 4 (by decide) (by decide) k82 (fun _ h9 => h9) rfl rfl rfl dX4_takeOffScope_109 (fun τ42 H locs eτ42 hP hD hS => ?_)
                refine lv_iconst (v := 0) hx hb dX4_takeOffScope_112 (by decide) ?_
                exact x_iret hx hb hr hlocks hK τ42 hP hD hS dX4_takeOffScope_113 (by subst eτ42 eτ41 ex5 eτ4 eτ3; simp [m_takeOff, m_wayOut, m_goesOn, n24, n40, n2, n27, n4, hi2, hi7, eq_true c_56_31, c_72_32, eq_true c_78_38, c_85_39, c_93_40])
      -- 56 goes on
      · skip
        refine lv_aload hx hb dX4_takeOffScope_59 (lv_at hl 0 rfl) ?_
        refine lv_ifnull hx hb dX4_takeOffScope_61 ?_
        refine lv_aload hx hb dX4_takeOffScope_64 (lv_at hl 0 rfl) ?_
        refine va_get (D := D) (C := RX7) (T := TX7) (N := 17) (ci := 7) (v := .int (τ4 (i7 + 6) 5)) hx hb hts nX7 hown hK hP (i7 + 6) (w_tk bi7) rfl 5 (by decide) k65 (fun _ h9 => h9) rfl dX4_takeOffScope_66 ?_
        exact x_iret hx hb hr hlocks hK τ4 hP hD hS dX4_takeOffScope_69 (by subst ex5 eτ4 eτ3; simp [m_takeOff, m_wayOut, m_goesOn, n24, n40, n2, n27, n4, hi2, hi7, c_56_31])

set_option maxHeartbeats 4000000 in
set_option maxRecDepth 100000 in
theorem c_X4_tellOver (l : Launch) (D : va_G) (cA : Nat → ClassId) (ad : Nat → Nat) (tr : List (ClassId × FieldType)) (rest : va_W) (sz : Nat) (τ : Sg) (i : Nat) (hi : i < 24) (k : Nat) (hk : k < 40) : Met l yX4_tellOver wsX4_tellOver ({ frames := 2, cells := 0, slots := 0, locals := 50 }) (va_Pc [.ref (ad 100), .ref (ad (i + 6)), .ref (ad (k + 54))] (inW D (tyB cA ++ tr) (wB cA ad τ ++ rest) sz)) (va_Qv (fun u : Sg => u = m_tellOver τ i k) (fun u : Sg => outW D (tyB cA ++ tr) (va_A (wB cA ad τ ++ rest) sz) (wB cA ad u ++ rest)) (va_A (wB cA ad τ ++ rest) sz)) 0 0 (va_A (wB cA ad τ ++ rest) sz) := by
  refine Met.ofW (cc := cX4_tellOver) (maxL := 4) (ret := none) (by decide) rfl ?_
  intro p e s m args below meth c s₁ B hml hv
  obtain ⟨rfl, hsz, hP, hK, hD0⟩ := hv
  have hx := B.exec
  have hb := B.bytes
  have hr := B.returns
  have hts := atoms_spec (ws := wsX4_tellOver) B.pre
  have hown : s.vm.findClass RX4 = some m.cls := findClass_of_methodNamed B.named
  have hlocks := B.notSynchronized
  subst hsz
  have hD := hD0.self (sz := s.heap.size)
  clear hD0
  generalize hAe : va_A (wB cA ad τ ++ rest) s.heap.size = A at hD ⊢
  have hA : ∀ q : Nat, s.heap.size ≤ q → A q := fun q h => by rw [← hAe]; exact Or.inr h
  clear hAe
  have hS : va_S A s.heap s.heap [] := va_S.rf
  have hP : va_P D vwCl (wB cA ad τ ++ rest) s.heap := hP
  have hl := lv_entry ([.ref (ad 100), .ref (ad (i + 6)), .ref (ad (k + 54))]) (n := 4) (Nat.le_of_ble_eq_true rfl)
  rw [lg_entry_eq]
  generalize (lg_sl ([.ref (ad 100), .ref (ad (i + 6)), .ref (ad (k + 54))]) ++ List.replicate (4 - (lg_sl ([.ref (ad 100), .ref (ad (i + 6)), .ref (ad (k + 54))])).length) Slot.unset).toArray = ls at hl ⊢
  have hl : lv_has ls 4 [(0, .ref (ad 100)), (1, .ref (ad (i + 6))), (2, .ref (ad (k + 54)))] := hl
  have nX4 : ∀ w ∈ u_ws RX4 TX4 3, w ∈ wsX4_tellOver := by decide +kernel
  have nX5 : ∀ w ∈ u_ws RX5 TX5 14, w ∈ wsX4_tellOver := by decide +kernel
  have nX7 : ∀ w ∈ u_ws RX7 TX7 17, w ∈ wsX4_tellOver := by decide +kernel
  have k287 := hts (.fieldLink RX4 287 "ScopeRow$Scope" "over" "I") (by decide +kernel)
  have k306 := hts (.fieldLink RX4 306 "ScopeRow$Task" "state" "I") (by decide +kernel)
  have k282 := hts (.fieldLink RX4 282 "ScopeRow$Scope" "state" "I") (by decide +kernel)
  have k208 := hts (.fieldLink RX4 208 "ScopeRow$Scope" "entered" "I") (by decide +kernel)
  have k15 := hts (.fieldLink RX4 15 "ScopeRow$Runner" "state" "LScopeRow$State;") (by decide +kernel)
  have k321 := hts (.fieldLink RX4 321 "ScopeRow$Scope" "opener" "I") (by decide +kernel)
  have k318 := hts (.fieldLink RX4 318 "ScopeRow$Scope" "failed" "I") (by decide +kernel)
  have k293 := hts (.fieldLink RX4 293 "ScopeRow$Scope" "firstFailed" "I") (by decide +kernel)
  have k231 := hts (.fieldLink RX4 231 "ScopeRow$Task" "number" "I") (by decide +kernel)
  refine lv_aload_n hx hb dX4_tellOver_0 rfl (lv_at hl 2 rfl) ?_
  refine lv_dup hx hb dX4_tellOver_1 rfl ?_
  refine va_get (D := D) (C := RX5) (T := TX5) (N := 14) (ci := 5) (v := .int (τ (k + 54) 11)) hx hb hts nX5 hown hK hP (k + 54) (w_sc hk) rfl 11 (by decide) k287 (fun _ h9 => h9) rfl dX4_tellOver_2 ?_
  refine lv_iconst (v := 1) hx hb dX4_tellOver_5 (by decide) ?_
  refine lv_iadd hx hb dX4_tellOver_6 ?_
  refine p_sc hx hb hts nX5 hown hK hP hD hS hk 11 (by decide) (by decide) k287 (fun _ h9 => h9) rfl rfl rfl dX4_tellOver_7 (fun τ1 H locs eτ1 hP hD hS => ?_)
  refine lv_aload_n hx hb dX4_tellOver_10 rfl (lv_at hl 1 rfl) ?_
  refine va_get (D := D) (C := RX7) (T := TX7) (N := 17) (ci := 7) (v := .int (τ1 (i + 6) 3)) hx hb hts nX7 hown hK hP (i + 6) (w_tk hi) rfl 3 (by decide) k306 (fun _ h9 => h9) rfl dX4_tellOver_11 ?_
  refine lv_iconst (v := 3) hx hb dX4_tellOver_14 (by decide) ?_
  refine lv_icmp_ne (tgt := 53) hx hb dX4_tellOver_15 (by decide) (fun c_15_2 => ?_) (fun c_15_2 => ?_)
  -- 15 jumps
  · skip
    refine lv_aload_n hx hb dX4_tellOver_53 rfl (lv_at hl 2 rfl) ?_
    refine va_get (D := D) (C := RX5) (T := TX5) (N := 14) (ci := 5) (v := .int (τ1 (k + 54) 1)) hx hb hts nX5 hown hK hP (k + 54) (w_sc hk) rfl 1 (by decide) k282 (fun _ h9 => h9) rfl dX4_tellOver_54 ?_
    refine lv_iconst (v := 1) hx hb dX4_tellOver_57 (by decide) ?_
    refine lv_icmp_ne (tgt := 109) hx hb dX4_tellOver_58 (by decide) (fun c_58_3 => ?_) (fun c_58_3 => ?_)
    -- 58 jumps
    · skip
      exact x_vret hx hb hr hlocks hK τ1 hP hD hS dX4_tellOver_109 (by subst eτ1; simp [m_tellOver, m_tellFail, m_tellClose, n24, n40, n2, n27, n4, c_15_2, c_58_3])
    -- 58 goes on
    · skip
      refine lv_aload_n hx hb dX4_tellOver_61 rfl (lv_at hl 2 rfl) ?_
      refine va_get (D := D) (C := RX5) (T := TX5) (N := 14) (ci := 5) (v := .int (τ1 (k + 54) 11)) hx hb hts nX5 hown hK hP (k + 54) (w_sc hk) rfl 11 (by decide) k287 (fun _ h9 => h9) rfl dX4_tellOver_62 ?_
      refine lv_aload_n hx hb dX4_tellOver_65 rfl (lv_at hl 2 rfl) ?_
      refine va_get (D := D) (C := RX5) (T := TX5) (N := 14) (ci := 5) (v := .int (τ1 (k + 54) 10)) hx hb hts nX5 hown hK hP (k + 54) (w_sc hk) rfl 10 (by decide) k208 (fun _ h9 => h9) rfl dX4_tellOver_66 ?_
      refine lv_icmp_lt (tgt := 109) hx hb dX4_tellOver_69 (by decide) (fun c_69_4 => ?_) (fun c_69_4 => ?_)
      -- 69 jumps
      · skip
        exact x_vret hx hb hr hlocks hK τ1 hP hD hS dX4_tellOver_109 (by subst eτ1; simp [m_tellOver, m_tellFail, m_tellClose, n24, n40, n2, n27, n4, c_15_2, eq_true c_58_3, eq_true c_69_4])
      -- 69 goes on
      · skip
        refine lv_aload_n hx hb dX4_tellOver_72 rfl (lv_at hl 2 rfl) ?_
        refine lv_iconst (v := 2) hx hb dX4_tellOver_73 (by decide) ?_
        refine p_sc hx hb hts nX5 hown hK hP hD hS hk 1 (by decide) (by decide) k282 (fun _ h9 => h9) rfl rfl rfl dX4_tellOver_74 (fun τ5 H locs eτ5 hP hD hS => ?_)
        refine lv_aload_n hx hb dX4_tellOver_77 rfl (lv_at hl 0 rfl) ?_
        refine va_get (D := D) (C := RX4) (T := TX4) (N := 3) (ci := 4) (v := .ref (ad 0)) hx hb hts nX4 hown hK hP 100 w_ru rfl 1 (by decide) k15 (fun _ h9 => h9) rfl dX4_tellOver_78 ?_
        refine lv_aload_n hx hb dX4_tellOver_81 rfl (lv_at hl 2 rfl) ?_
        refine va_get (D := D) (C := RX5) (T := TX5) (N := 14) (ci := 5) (v := .int (τ5 (k + 54) 2)) hx hb hts nX5 hown hK hP (k + 54) (w_sc hk) rfl 2 (by decide) k321 (fun _ h9 => h9) rfl dX4_tellOver_82 ?_
        refine x_Vq (As := [.int (τ5 (k + 54) 2)]) (rest0 := []) ⟨hx, hb, hml, hown, hts⟩ (c_X6_taskAt l D cA ad tr rest H.size τ5 (τ5 (k + 54) 2)) (cwV 1 hts gX4_tellOver_X6_taskAt rfl rfl rfl (by decide +kernel) ⟨Nat.le_of_ble_eq_true rfl, Nat.le_of_ble_eq_true rfl⟩) hK hP hD hS hA 0 w_st rfl hl.1 rfl rfl (Nat.le_of_ble_eq_true rfl) ⟨Nat.zero_le _, Nat.zero_le _⟩ dX4_tellOver_85 (fun r6 _ H locs hw hP hD hS => ?_)
        have er6 := hw
        subst er6
        rcases hi7 : m_at (τ5 (k + 54) 2) 24 with _ | i7
        · refine W.eq (g2 := F0 m 88 ls [.null]) rfl ?_
          refine lv_astore_nN (lv' := [(3, .null), (0, .ref (ad 100)), (1, .ref (ad (i + 6))), (2, .ref (ad (k + 54)))]) hx hb dX4_tellOver_88 rfl hl (by decide) rfl (fun ls hl => ?_)
          refine lv_aload_nN hx hb dX4_tellOver_89 rfl (lv_at hl 0 rfl) ?_
          refine lv_ifnullN (tgt := 109) hx hb dX4_tellOver_90 (by decide) ?_
          exact x_vret hx hb hr hlocks hK τ5 hP hD hS dX4_tellOver_109 (by subst eτ5 eτ1; simp [m_tellOver, m_tellFail, m_tellClose, n24, n40, n2, n27, n4, c_15_2, eq_true c_58_3, c_69_4, hi7])
        · have bi7 := m_at_lt hi7 (by decide)
          refine W.eq (g2 := F0 m 88 ls [.ref (ad (i7 + 6))]) rfl ?_
          refine lv_astore_n (lv' := [(3, .ref (ad (i7 + 6))), (0, .ref (ad 100)), (1, .ref (ad (i + 6))), (2, .ref (ad (k + 54)))]) hx hb dX4_tellOver_88 rfl hl (by decide) rfl (fun ls hl => ?_)
          refine lv_aload_n hx hb dX4_tellOver_89 rfl (lv_at hl 0 rfl) ?_
          refine lv_ifnull hx hb dX4_tellOver_90 ?_
          refine lv_aload_n hx hb dX4_tellOver_93 rfl (lv_at hl 0 rfl) ?_
          refine lv_iconst (v := 5) hx hb dX4_tellOver_94 (by decide) ?_
          refine x_Vi (As := [.int 5]) (rest0 := []) ⟨hx, hb, hml, hown, hts⟩ (c_X7_waitsAt l D cA ad tr rest H.size τ5 i7 bi7 5) (cwV 1 hts gX4_tellOver_X7_waitsAt rfl rfl rfl (by decide +kernel) ⟨Nat.le_of_ble_eq_true rfl, Nat.le_of_ble_eq_true rfl⟩) hK hP hD hS hA (i7 + 6) (w_tk bi7) rfl hl.1 rfl rfl (Nat.le_of_ble_eq_true rfl) ⟨Nat.zero_le _, Nat.zero_le _⟩ dX4_tellOver_95 (fun r8 _ H locs hw hP hD hS => ?_)
          have er8 := hw
          refine lv_if_eq (tgt := 109) hx hb dX4_tellOver_98 (by decide) (fun c_98_9 => ?_) (fun c_98_9 => ?_)
          -- 98 jumps
          · skip
            have dc_98_9 := bI_f er8 c_98_9
            exact x_vret hx hb hr hlocks hK τ5 hP hD hS dX4_tellOver_109 (by subst er8 eτ5 eτ1; simp [m_tellOver, m_tellFail, m_tellClose, n24, n40, n2, n27, n4, c_15_2, eq_true c_58_3, c_69_4, hi7, dc_98_9])
          -- 98 goes on
          · skip
            have dc_98_9 := bI_t er8 c_98_9
            refine lv_aload_n hx hb dX4_tellOver_101 rfl (lv_at hl 1 rfl) ?_
            refine va_get (D := D) (C := RX4) (T := TX4) (N := 3) (ci := 4) (v := .ref (ad 0)) hx hb hts nX4 hown hK hP 100 w_ru rfl 1 (by decide) k15 (fun _ h9 => h9) rfl dX4_tellOver_102 ?_
            refine lv_aload_n hx hb dX4_tellOver_105 rfl (lv_at hl 0 rfl) ?_
            refine x_Vv (As := [.ref (ad (i7 + 6))]) (rest0 := []) ⟨hx, hb, hml, hown, hts⟩ (c_X6_makeReady l D cA ad tr rest H.size τ5 i7 bi7) (cwV 1 hts gX4_tellOver_X6_makeReady rfl rfl rfl (by decide +kernel) ⟨Nat.le_of_ble_eq_true rfl, Nat.le_of_ble_eq_true rfl⟩) hK hP hD hS hA 0 w_st rfl hl.1 rfl rfl (Nat.le_of_ble_eq_true rfl) ⟨Nat.zero_le _, Nat.zero_le _⟩ dX4_tellOver_106 (fun τ10 H locs hw hP hD hS => ?_)
            have eτ10 := hw
            exact x_vret hx hb hr hlocks hK τ10 hP hD hS dX4_tellOver_109 (by subst eτ10 er8 eτ5 eτ1; simp [m_tellOver, m_tellFail, m_tellClose, n24, n40, n2, n27, n4, c_15_2, eq_true c_58_3, c_69_4, hi7, dc_98_9])
  -- 15 goes on
  · skip
    refine lv_aload_n hx hb dX4_tellOver_18 rfl (lv_at hl 2 rfl) ?_
    refine lv_dup hx hb dX4_tellOver_19 rfl ?_
    refine va_get (D := D) (C := RX5) (T := TX5) (N := 14) (ci := 5) (v := .int (τ1 (k + 54) 12)) hx hb hts nX5 hown hK hP (k + 54) (w_sc hk) rfl 12 (by decide) k318 (fun _ h9 => h9) rfl dX4_tellOver_20 ?_
    refine lv_iconst (v := 1) hx hb dX4_tellOver_23 (by decide) ?_
    refine lv_iadd hx hb dX4_tellOver_24 ?_
    refine p_sc hx hb hts nX5 hown hK hP hD hS hk 12 (by decide) (by decide) k318 (fun _ h9 => h9) rfl rfl rfl dX4_tellOver_25 (fun τ11 H locs eτ11 hP hD hS => ?_)
    refine lv_aload_n hx hb dX4_tellOver_28 rfl (lv_at hl 2 rfl) ?_
    refine va_get (D := D) (C := RX5) (T := TX5) (N := 14) (ci := 5) (v := .int (τ11 (k + 54) 13)) hx hb hts nX5 hown hK hP (k + 54) (w_sc hk) rfl 13 (by decide) k293 (fun _ h9 => h9) rfl dX4_tellOver_29 ?_
    refine lv_iconst (v := (-1)) hx hb dX4_tellOver_32 (by decide) ?_
    refine lv_icmp_ne (tgt := 44) hx hb dX4_tellOver_33 (by decide) (fun c_33_12 => ?_) (fun c_33_12 => ?_)
    -- 33 jumps
    · skip
      refine lv_aload_n hx hb dX4_tellOver_44 rfl (lv_at hl 0 rfl) ?_
      refine va_get (D := D) (C := RX4) (T := TX4) (N := 3) (ci := 4) (v := .ref (ad 0)) hx hb hts nX4 hown hK hP 100 w_ru rfl 1 (by decide) k15 (fun _ h9 => h9) rfl dX4_tellOver_45 ?_
      refine lv_aload_n hx hb dX4_tellOver_48 rfl (lv_at hl 2 rfl) ?_
      refine x_Vi (As := [.ref (ad (k + 54))]) (rest0 := []) ⟨hx, hb, hml, hown, hts⟩ (c_X6_cancelScope l D cA ad tr rest H.size τ11 k hk) (cwV 1 hts gX4_tellOver_X6_cancelScope rfl rfl rfl (by decide +kernel) ⟨Nat.le_of_ble_eq_true rfl, Nat.le_of_ble_eq_true rfl⟩) hK hP hD hS hA 0 w_st rfl hl.1 rfl rfl (Nat.le_of_ble_eq_true rfl) ⟨Nat.zero_le _, Nat.zero_le _⟩ dX4_tellOver_49 (fun r13 τ14 H locs hw hP hD hS => ?_)
      obtain ⟨er13, eτ14⟩ := hw
      refine lv_pop hx hb dX4_tellOver_52 rfl ?_
      refine lv_aload_n hx hb dX4_tellOver_53 rfl (lv_at hl 2 rfl) ?_
      refine va_get (D := D) (C := RX5) (T := TX5) (N := 14) (ci := 5) (v := .int (τ14 (k + 54) 1)) hx hb hts nX5 hown hK hP (k + 54) (w_sc hk) rfl 1 (by decide) k282 (fun _ h9 => h9) rfl dX4_tellOver_54 ?_
      refine lv_iconst (v := 1) hx hb dX4_tellOver_57 (by decide) ?_
      refine lv_icmp_ne (tgt := 109) hx hb dX4_tellOver_58 (by decide) (fun c_58_15 => ?_) (fun c_58_15 => ?_)
      -- 58 jumps
      · skip
        exact x_vret hx hb hr hlocks hK τ14 hP hD hS dX4_tellOver_109 (by subst er13 eτ14 eτ11 eτ1; simp [m_tellOver, m_tellFail, m_tellClose, n24, n40, n2, n27, n4, eq_true c_15_2, c_33_12, c_58_15])
      -- 58 goes on
      · skip
        refine lv_aload_n hx hb dX4_tellOver_61 rfl (lv_at hl 2 rfl) ?_
        refine va_get (D := D) (C := RX5) (T := TX5) (N := 14) (ci := 5) (v := .int (τ14 (k + 54) 11)) hx hb hts nX5 hown hK hP (k + 54) (w_sc hk) rfl 11 (by decide) k287 (fun _ h9 => h9) rfl dX4_tellOver_62 ?_
        refine lv_aload_n hx hb dX4_tellOver_65 rfl (lv_at hl 2 rfl) ?_
        refine va_get (D := D) (C := RX5) (T := TX5) (N := 14) (ci := 5) (v := .int (τ14 (k + 54) 10)) hx hb hts nX5 hown hK hP (k + 54) (w_sc hk) rfl 10 (by decide) k208 (fun _ h9 => h9) rfl dX4_tellOver_66 ?_
        refine lv_icmp_lt (tgt := 109) hx hb dX4_tellOver_69 (by decide) (fun c_69_16 => ?_) (fun c_69_16 => ?_)
        -- 69 jumps
        · skip
          exact x_vret hx hb hr hlocks hK τ14 hP hD hS dX4_tellOver_109 (by subst er13 eτ14 eτ11 eτ1; simp [m_tellOver, m_tellFail, m_tellClose, n24, n40, n2, n27, n4, eq_true c_15_2, c_33_12, eq_true c_58_15, eq_true c_69_16])
        -- 69 goes on
        · skip
          refine lv_aload_n hx hb dX4_tellOver_72 rfl (lv_at hl 2 rfl) ?_
          refine lv_iconst (v := 2) hx hb dX4_tellOver_73 (by decide) ?_
          refine p_sc hx hb hts nX5 hown hK hP hD hS hk 1 (by decide) (by decide) k282 (fun _ h9 => h9) rfl rfl rfl dX4_tellOver_74 (fun τ17 H locs eτ17 hP hD hS => ?_)
          refine lv_aload_n hx hb dX4_tellOver_77 rfl (lv_at hl 0 rfl) ?_
          refine va_get (D := D) (C := RX4) (T := TX4) (N := 3) (ci := 4) (v := .ref (ad 0)) hx hb hts nX4 hown hK hP 100 w_ru rfl 1 (by decide) k15 (fun _ h9 => h9) rfl dX4_tellOver_78 ?_
          refine lv_aload_n hx hb dX4_tellOver_81 rfl (lv_at hl 2 rfl) ?_
          refine va_get (D := D) (C := RX5) (T := TX5) (N := 14) (ci := 5) (v := .int (τ17 (k + 54) 2)) hx hb hts nX5 hown hK hP (k + 54) (w_sc hk) rfl 2 (by decide) k321 (fun _ h9 => h9) rfl dX4_tellOver_82 ?_
          refine x_Vq (As := [.int (τ17 (k + 54) 2)]) (rest0 := []) ⟨hx, hb, hml, hown, hts⟩ (c_X6_taskAt l D cA ad tr rest H.size τ17 (τ17 (k + 54) 2)) (cwV 1 hts gX4_tellOver_X6_taskAt rfl rfl rfl (by decide +kernel) ⟨Nat.le_of_ble_eq_true rfl, Nat.le_of_ble_eq_true rfl⟩) hK hP hD hS hA 0 w_st rfl hl.1 rfl rfl (Nat.le_of_ble_eq_true rfl) ⟨Nat.zero_le _, Nat.zero_le _⟩ dX4_tellOver_85 (fun r18 _ H locs hw hP hD hS => ?_)
          have er18 := hw
          subst er18
          rcases hi19 : m_at (τ17 (k + 54) 2) 24 with _ | i19
          · refine W.eq (g2 := F0 m 88 ls [.null]) rfl ?_
            refine lv_astore_nN (lv' := [(3, .null), (0, .ref (ad 100)), (1, .ref (ad (i + 6))), (2, .ref (ad (k + 54)))]) hx hb dX4_tellOver_88 rfl hl (by decide) rfl (fun ls hl => ?_)
            refine lv_aload_nN hx hb dX4_tellOver_89 rfl (lv_at hl 0 rfl) ?_
            refine lv_ifnullN (tgt := 109) hx hb dX4_tellOver_90 (by decide) ?_
            exact x_vret hx hb hr hlocks hK τ17 hP hD hS dX4_tellOver_109 (by subst eτ17 er13 eτ14 eτ11 eτ1; simp [m_tellOver, m_tellFail, m_tellClose, n24, n40, n2, n27, n4, eq_true c_15_2, c_33_12, eq_true c_58_15, c_69_16, hi19])
          · have bi19 := m_at_lt hi19 (by decide)
            refine W.eq (g2 := F0 m 88 ls [.ref (ad (i19 + 6))]) rfl ?_
            refine lv_astore_n (lv' := [(3, .ref (ad (i19 + 6))), (0, .ref (ad 100)), (1, .ref (ad (i + 6))), (2, .ref (ad (k + 54)))]) hx hb dX4_tellOver_88 rfl hl (by decide) rfl (fun ls hl => ?_)
            refine lv_aload_n hx hb dX4_tellOver_89 rfl (lv_at hl 0 rfl) ?_
            refine lv_ifnull hx hb dX4_tellOver_90 ?_
            refine lv_aload_n hx hb dX4_tellOver_93 rfl (lv_at hl 0 rfl) ?_
            refine lv_iconst (v := 5) hx hb dX4_tellOver_94 (by decide) ?_
            refine x_Vi (As := [.int 5]) (rest0 := []) ⟨hx, hb, hml, hown, hts⟩ (c_X7_waitsAt l D cA ad tr rest H.size τ17 i19 bi19 5) (cwV 1 hts gX4_tellOver_X7_waitsAt rfl rfl rfl (by decide +kernel) ⟨Nat.le_of_ble_eq_true rfl, Nat.le_of_ble_eq_true rfl⟩) hK hP hD hS hA (i19 + 6) (w_tk bi19) rfl hl.1 rfl rfl (Nat.le_of_ble_eq_true rfl) ⟨Nat.zero_le _, Nat.zero_le _⟩ dX4_tellOver_95 (fun r20 _ H locs hw hP hD hS => ?_)
            have er20 := hw
            refine lv_if_eq (tgt := 109) hx hb dX4_tellOver_98 (by decide) (fun c_98_21 => ?_) (fun c_98_21 => ?_)
            -- 98 jumps
            · skip
              have dc_98_21 := bI_f er20 c_98_21
              exact x_vret hx hb hr hlocks hK τ17 hP hD hS dX4_tellOver_109 (by subst er20 eτ17 er13 eτ14 eτ11 eτ1; simp [m_tellOver, m_tellFail, m_tellClose, n24, n40, n2, n27, n4, eq_true c_15_2, c_33_12, eq_true c_58_15, c_69_16, hi19, dc_98_21])
            -- 98 goes on
            · skip
              have dc_98_21 := bI_t er20 c_98_21
              refine lv_aload_n hx hb dX4_tellOver_101 rfl (lv_at hl 1 rfl) ?_
              refine va_get (D := D) (C := RX4) (T := TX4) (N := 3) (ci := 4) (v := .ref (ad 0)) hx hb hts nX4 hown hK hP 100 w_ru rfl 1 (by decide) k15 (fun _ h9 => h9) rfl dX4_tellOver_102 ?_
              refine lv_aload_n hx hb dX4_tellOver_105 rfl (lv_at hl 0 rfl) ?_
              refine x_Vv (As := [.ref (ad (i19 + 6))]) (rest0 := []) ⟨hx, hb, hml, hown, hts⟩ (c_X6_makeReady l D cA ad tr rest H.size τ17 i19 bi19) (cwV 1 hts gX4_tellOver_X6_makeReady rfl rfl rfl (by decide +kernel) ⟨Nat.le_of_ble_eq_true rfl, Nat.le_of_ble_eq_true rfl⟩) hK hP hD hS hA 0 w_st rfl hl.1 rfl rfl (Nat.le_of_ble_eq_true rfl) ⟨Nat.zero_le _, Nat.zero_le _⟩ dX4_tellOver_106 (fun τ22 H locs hw hP hD hS => ?_)
              have eτ22 := hw
              exact x_vret hx hb hr hlocks hK τ22 hP hD hS dX4_tellOver_109 (by subst eτ22 er20 eτ17 er13 eτ14 eτ11 eτ1; simp [m_tellOver, m_tellFail, m_tellClose, n24, n40, n2, n27, n4, eq_true c_15_2, c_33_12, eq_true c_58_15, c_69_16, hi19, dc_98_21])
    -- 33 goes on
    · skip
      refine lv_aload_n hx hb dX4_tellOver_36 rfl (lv_at hl 2 rfl) ?_
      refine lv_aload_n hx hb dX4_tellOver_37 rfl (lv_at hl 1 rfl) ?_
      refine va_get (D := D) (C := RX7) (T := TX7) (N := 17) (ci := 7) (v := .int (nI i)) hx hb hts nX7 hown hK hP (i + 6) (w_tk hi) rfl 0 (by decide) k231 (fun _ h9 => h9) rfl dX4_tellOver_38 ?_
      refine p_sc hx hb hts nX5 hown hK hP hD hS hk 13 (by decide) (by decide) k293 (fun _ h9 => h9) rfl rfl rfl dX4_tellOver_41 (fun τ23 H locs eτ23 hP hD hS => ?_)
      refine lv_aload_n hx hb dX4_tellOver_44 rfl (lv_at hl 0 rfl) ?_
      refine va_get (D := D) (C := RX4) (T := TX4) (N := 3) (ci := 4) (v := .ref (ad 0)) hx hb hts nX4 hown hK hP 100 w_ru rfl 1 (by decide) k15 (fun _ h9 => h9) rfl dX4_tellOver_45 ?_
      refine lv_aload_n hx hb dX4_tellOver_48 rfl (lv_at hl 2 rfl) ?_
      refine x_Vi (As := [.ref (ad (k + 54))]) (rest0 := []) ⟨hx, hb, hml, hown, hts⟩ (c_X6_cancelScope l D cA ad tr rest H.size τ23 k hk) (cwV 1 hts gX4_tellOver_X6_cancelScope rfl rfl rfl (by decide +kernel) ⟨Nat.le_of_ble_eq_true rfl, Nat.le_of_ble_eq_true rfl⟩) hK hP hD hS hA 0 w_st rfl hl.1 rfl rfl (Nat.le_of_ble_eq_true rfl) ⟨Nat.zero_le _, Nat.zero_le _⟩ dX4_tellOver_49 (fun r24 τ25 H locs hw hP hD hS => ?_)
      obtain ⟨er24, eτ25⟩ := hw
      refine lv_pop hx hb dX4_tellOver_52 rfl ?_
      refine lv_aload_n hx hb dX4_tellOver_53 rfl (lv_at hl 2 rfl) ?_
      refine va_get (D := D) (C := RX5) (T := TX5) (N := 14) (ci := 5) (v := .int (τ25 (k + 54) 1)) hx hb hts nX5 hown hK hP (k + 54) (w_sc hk) rfl 1 (by decide) k282 (fun _ h9 => h9) rfl dX4_tellOver_54 ?_
      refine lv_iconst (v := 1) hx hb dX4_tellOver_57 (by decide) ?_
      refine lv_icmp_ne (tgt := 109) hx hb dX4_tellOver_58 (by decide) (fun c_58_26 => ?_) (fun c_58_26 => ?_)
      -- 58 jumps
      · skip
        exact x_vret hx hb hr hlocks hK τ25 hP hD hS dX4_tellOver_109 (by subst er24 eτ25 eτ23 eτ11 eτ1; simp [m_tellOver, m_tellFail, m_tellClose, n24, n40, n2, n27, n4, eq_true c_15_2, eq_true c_33_12, c_58_26])
      -- 58 goes on
      · skip
        refine lv_aload_n hx hb dX4_tellOver_61 rfl (lv_at hl 2 rfl) ?_
        refine va_get (D := D) (C := RX5) (T := TX5) (N := 14) (ci := 5) (v := .int (τ25 (k + 54) 11)) hx hb hts nX5 hown hK hP (k + 54) (w_sc hk) rfl 11 (by decide) k287 (fun _ h9 => h9) rfl dX4_tellOver_62 ?_
        refine lv_aload_n hx hb dX4_tellOver_65 rfl (lv_at hl 2 rfl) ?_
        refine va_get (D := D) (C := RX5) (T := TX5) (N := 14) (ci := 5) (v := .int (τ25 (k + 54) 10)) hx hb hts nX5 hown hK hP (k + 54) (w_sc hk) rfl 10 (by decide) k208 (fun _ h9 => h9) rfl dX4_tellOver_66 ?_
        refine lv_icmp_lt (tgt := 109) hx hb dX4_tellOver_69 (by decide) (fun c_69_27 => ?_) (fun c_69_27 => ?_)
        -- 69 jumps
        · skip
          exact x_vret hx hb hr hlocks hK τ25 hP hD hS dX4_tellOver_109 (by subst er24 eτ25 eτ23 eτ11 eτ1; simp [m_tellOver, m_tellFail, m_tellClose, n24, n40, n2, n27, n4, eq_true c_15_2, eq_true c_33_12, eq_true c_58_26, eq_true c_69_27])
        -- 69 goes on
        · skip
          refine lv_aload_n hx hb dX4_tellOver_72 rfl (lv_at hl 2 rfl) ?_
          refine lv_iconst (v := 2) hx hb dX4_tellOver_73 (by decide) ?_
          refine p_sc hx hb hts nX5 hown hK hP hD hS hk 1 (by decide) (by decide) k282 (fun _ h9 => h9) rfl rfl rfl dX4_tellOver_74 (fun τ28 H locs eτ28 hP hD hS => ?_)
          refine lv_aload_n hx hb dX4_tellOver_77 rfl (lv_at hl 0 rfl) ?_
          refine va_get (D := D) (C := RX4) (T := TX4) (N := 3) (ci := 4) (v := .ref (ad 0)) hx hb hts nX4 hown hK hP 100 w_ru rfl 1 (by decide) k15 (fun _ h9 => h9) rfl dX4_tellOver_78 ?_
          refine lv_aload_n hx hb dX4_tellOver_81 rfl (lv_at hl 2 rfl) ?_
          refine va_get (D := D) (C := RX5) (T := TX5) (N := 14) (ci := 5) (v := .int (τ28 (k + 54) 2)) hx hb hts nX5 hown hK hP (k + 54) (w_sc hk) rfl 2 (by decide) k321 (fun _ h9 => h9) rfl dX4_tellOver_82 ?_
          refine x_Vq (As := [.int (τ28 (k + 54) 2)]) (rest0 := []) ⟨hx, hb, hml, hown, hts⟩ (c_X6_taskAt l D cA ad tr rest H.size τ28 (τ28 (k + 54) 2)) (cwV 1 hts gX4_tellOver_X6_taskAt rfl rfl rfl (by decide +kernel) ⟨Nat.le_of_ble_eq_true rfl, Nat.le_of_ble_eq_true rfl⟩) hK hP hD hS hA 0 w_st rfl hl.1 rfl rfl (Nat.le_of_ble_eq_true rfl) ⟨Nat.zero_le _, Nat.zero_le _⟩ dX4_tellOver_85 (fun r29 _ H locs hw hP hD hS => ?_)
          have er29 := hw
          subst er29
          rcases hi30 : m_at (τ28 (k + 54) 2) 24 with _ | i30
          · refine W.eq (g2 := F0 m 88 ls [.null]) rfl ?_
            refine lv_astore_nN (lv' := [(3, .null), (0, .ref (ad 100)), (1, .ref (ad (i + 6))), (2, .ref (ad (k + 54)))]) hx hb dX4_tellOver_88 rfl hl (by decide) rfl (fun ls hl => ?_)
            refine lv_aload_nN hx hb dX4_tellOver_89 rfl (lv_at hl 0 rfl) ?_
            refine lv_ifnullN (tgt := 109) hx hb dX4_tellOver_90 (by decide) ?_
            exact x_vret hx hb hr hlocks hK τ28 hP hD hS dX4_tellOver_109 (by subst eτ28 er24 eτ25 eτ23 eτ11 eτ1; simp [m_tellOver, m_tellFail, m_tellClose, n24, n40, n2, n27, n4, eq_true c_15_2, eq_true c_33_12, eq_true c_58_26, c_69_27, hi30])
          · have bi30 := m_at_lt hi30 (by decide)
            refine W.eq (g2 := F0 m 88 ls [.ref (ad (i30 + 6))]) rfl ?_
            refine lv_astore_n (lv' := [(3, .ref (ad (i30 + 6))), (0, .ref (ad 100)), (1, .ref (ad (i + 6))), (2, .ref (ad (k + 54)))]) hx hb dX4_tellOver_88 rfl hl (by decide) rfl (fun ls hl => ?_)
            refine lv_aload_n hx hb dX4_tellOver_89 rfl (lv_at hl 0 rfl) ?_
            refine lv_ifnull hx hb dX4_tellOver_90 ?_
            refine lv_aload_n hx hb dX4_tellOver_93 rfl (lv_at hl 0 rfl) ?_
            refine lv_iconst (v := 5) hx hb dX4_tellOver_94 (by decide) ?_
            refine x_Vi (As := [.int 5]) (rest0 := []) ⟨hx, hb, hml, hown, hts⟩ (c_X7_waitsAt l D cA ad tr rest H.size τ28 i30 bi30 5) (cwV 1 hts gX4_tellOver_X7_waitsAt rfl rfl rfl (by decide +kernel) ⟨Nat.le_of_ble_eq_true rfl, Nat.le_of_ble_eq_true rfl⟩) hK hP hD hS hA (i30 + 6) (w_tk bi30) rfl hl.1 rfl rfl (Nat.le_of_ble_eq_true rfl) ⟨Nat.zero_le _, Nat.zero_le _⟩ dX4_tellOver_95 (fun r31 _ H locs hw hP hD hS => ?_)
            have er31 := hw
            refine lv_if_eq (tgt := 109) hx hb dX4_tellOver_98 (by decide) (fun c_98_32 => ?_) (fun c_98_32 => ?_)
            -- 98 jumps
            · skip
              have dc_98_32 := bI_f er31 c_98_32
              exact x_vret hx hb hr hlocks hK τ28 hP hD hS dX4_tellOver_109 (by subst er31 eτ28 er24 eτ25 eτ23 eτ11 eτ1; simp [m_tellOver, m_tellFail, m_tellClose, n24, n40, n2, n27, n4, eq_true c_15_2, eq_true c_33_12, eq_true c_58_26, c_69_27, hi30, dc_98_32])
            -- 98 goes on
            · skip
              have dc_98_32 := bI_t er31 c_98_32
              refine lv_aload_n hx hb dX4_tellOver_101 rfl (lv_at hl 1 rfl) ?_
              refine va_get (D := D) (C := RX4) (T := TX4) (N := 3) (ci := 4) (v := .ref (ad 0)) hx hb hts nX4 hown hK hP 100 w_ru rfl 1 (by decide) k15 (fun _ h9 => h9) rfl dX4_tellOver_102 ?_
              refine lv_aload_n hx hb dX4_tellOver_105 rfl (lv_at hl 0 rfl) ?_
              refine x_Vv (As := [.ref (ad (i30 + 6))]) (rest0 := []) ⟨hx, hb, hml, hown, hts⟩ (c_X6_makeReady l D cA ad tr rest H.size τ28 i30 bi30) (cwV 1 hts gX4_tellOver_X6_makeReady rfl rfl rfl (by decide +kernel) ⟨Nat.le_of_ble_eq_true rfl, Nat.le_of_ble_eq_true rfl⟩) hK hP hD hS hA 0 w_st rfl hl.1 rfl rfl (Nat.le_of_ble_eq_true rfl) ⟨Nat.zero_le _, Nat.zero_le _⟩ dX4_tellOver_106 (fun τ33 H locs hw hP hD hS => ?_)
              have eτ33 := hw
              exact x_vret hx hb hr hlocks hK τ33 hP hD hS dX4_tellOver_109 (by subst eτ33 er31 eτ28 er24 eτ25 eτ23 eτ11 eτ1; simp [m_tellOver, m_tellFail, m_tellClose, n24, n40, n2, n27, n4, eq_true c_15_2, eq_true c_33_12, eq_true c_58_26, c_69_27, hi30, dc_98_32])

set_option maxHeartbeats 4000000 in
set_option maxRecDepth 100000 in
theorem c_X4_endTask (l : Launch) (D : va_G) (cA : Nat → ClassId) (ad : Nat → Nat) (tr : List (ClassId × FieldType)) (rest : va_W) (sz : Nat) (τ : Sg) (i : Nat) (hi : i < 24) (way : Int32) : Met l yX4_endTask wsX4_endTask ({ frames := 3, cells := 0, slots := 0, locals := 73 }) (va_Pc [.ref (ad 100), .ref (ad (i + 6)), .int way] (inW D (tyB cA ++ tr) (wB cA ad τ ++ rest) sz)) (va_Qv (fun u : Sg => u = m_endTask τ i way) (fun u : Sg => outW D (tyB cA ++ tr) (va_A (wB cA ad τ ++ rest) sz) (wB cA ad u ++ rest)) (va_A (wB cA ad τ ++ rest) sz)) 0 0 (va_A (wB cA ad τ ++ rest) sz) := by
  refine Met.ofW (cc := cX4_endTask) (maxL := 7) (ret := none) (by decide) rfl ?_
  intro p e s m args below meth c s₁ B hml hv
  obtain ⟨rfl, hsz, hP, hK, hD0⟩ := hv
  have hx := B.exec
  have hb := B.bytes
  have hr := B.returns
  have hts := atoms_spec (ws := wsX4_endTask) B.pre
  have hown : s.vm.findClass RX4 = some m.cls := findClass_of_methodNamed B.named
  have hlocks := B.notSynchronized
  subst hsz
  have hD := hD0.self (sz := s.heap.size)
  clear hD0
  generalize hAe : va_A (wB cA ad τ ++ rest) s.heap.size = A at hD ⊢
  have hA : ∀ q : Nat, s.heap.size ≤ q → A q := fun q h => by rw [← hAe]; exact Or.inr h
  clear hAe
  have hS : va_S A s.heap s.heap [] := va_S.rf
  have hP : va_P D vwCl (wB cA ad τ ++ rest) s.heap := hP
  have hl := lv_entry ([.ref (ad 100), .ref (ad (i + 6)), .int way]) (n := 7) (Nat.le_of_ble_eq_true rfl)
  rw [lg_entry_eq]
  generalize (lg_sl ([.ref (ad 100), .ref (ad (i + 6)), .int way]) ++ List.replicate (7 - (lg_sl ([.ref (ad 100), .ref (ad (i + 6)), .int way])).length) Slot.unset).toArray = ls at hl ⊢
  have hl : lv_has ls 7 [(0, .ref (ad 100)), (1, .ref (ad (i + 6))), (2, .int way)] := hl
  have nX2 : ∀ w ∈ u_ws RX2 TX2 3, w ∈ wsX4_endTask := by decide +kernel
  have nX4 : ∀ w ∈ u_ws RX4 TX4 3, w ∈ wsX4_endTask := by decide +kernel
  have nX6 : ∀ w ∈ u_ws RX6 TX6 12, w ∈ wsX4_endTask := by decide +kernel
  have nX7 : ∀ w ∈ u_ws RX7 TX7 17, w ∈ wsX4_endTask := by decide +kernel
  have k306 := hts (.fieldLink RX4 306 "ScopeRow$Task" "state" "I") (by decide +kernel)
  have k15 := hts (.fieldLink RX4 15 "ScopeRow$Runner" "state" "LScopeRow$State;") (by decide +kernel)
  have k307 := hts (.fieldLink RX4 307 "ScopeRow$State" "locks" "[LScopeRow$Lock;") (by decide +kernel)
  have k226 := hts (.fieldLink RX4 226 "ScopeRow$Lock" "holder" "I") (by decide +kernel)
  have k231 := hts (.fieldLink RX4 231 "ScopeRow$Task" "number" "I") (by decide +kernel)
  have k311 := hts (.fieldLink RX4 311 "ScopeRow$Task" "in" "I") (by decide +kernel)
  have k65 := hts (.fieldLink RX4 65 "ScopeRow$Task" "there" "I") (by decide +kernel)
  refine lv_aload_n hx hb dX4_endTask_0 rfl (lv_at hl 1 rfl) ?_
  refine lv_iload_n hx hb dX4_endTask_1 rfl (lv_at hl 2 rfl) ?_
  refine lv_if_le (tgt := 9) hx hb dX4_endTask_2 (by decide) (fun c_2_1 => ?_) (fun c_2_1 => ?_)
  -- 2 jumps
  · skip
    refine lv_iload_n hx hb dX4_endTask_9 rfl (lv_at hl 2 rfl) ?_
    refine lv_bipush (v := (-3)) hx hb dX4_endTask_10 (by decide) ?_
    refine lv_icmp_ne (tgt := 19) hx hb dX4_endTask_12 (by decide) (fun c_12_2 => ?_) (fun c_12_2 => ?_)
    -- 12 jumps
    · skip
      refine lv_iconst (v := 2) hx hb dX4_endTask_19 (by decide) ?_
      refine p_tk hx hb hts nX7 hown hK hP hD hS hi 3 (by decide) (by decide) k306 (fun _ h9 => h9) rfl rfl rfl dX4_endTask_20 (fun τ3 H locs eτ3 hP hD hS => ?_)
      refine lv_iload_n hx hb dX4_endTask_23 rfl (lv_at hl 2 rfl) ?_
      refine lv_if_le (tgt := 32) hx hb dX4_endTask_24 (by decide) (fun c_24_4 => ?_) (fun c_24_4 => ?_)
      -- 24 jumps
      · skip
        refine lv_aload_n hx hb dX4_endTask_32 rfl (lv_at hl 0 rfl) ?_
        refine va_get (D := D) (C := RX4) (T := TX4) (N := 3) (ci := 4) (v := .ref (ad 0)) hx hb hts nX4 hown hK hP 100 w_ru rfl 1 (by decide) k15 (fun _ h9 => h9) rfl dX4_endTask_33 ?_
        refine va_get (D := D) (C := RX6) (T := TX6) (N := 12) (ci := 6) (v := .ref (ad 3)) hx hb hts nX6 hown hK hP 0 w_st rfl 4 (by decide) k307 (fun _ h9 => h9) rfl dX4_endTask_36 ?_
        refine lv_astore_n (lv' := [(3, .ref (ad 3)), (0, .ref (ad 100)), (1, .ref (ad (i + 6))), (2, .int way)]) hx hb dX4_endTask_39 rfl hl (by decide) rfl (fun ls hl => ?_)
        refine lv_aload_n hx hb dX4_endTask_40 rfl (lv_at hl 0 rfl) ?_
        refine va_alen (v := 2) hx hb hK hP 3 3 w_a3 rfl rfl dX4_endTask_41 ?_
        refine lv_istore (lv' := [(4, .int 2), (3, .ref (ad 3)), (0, .ref (ad 100)), (1, .ref (ad (i + 6))), (2, .int way)]) hx hb dX4_endTask_42 hl (by decide) rfl (fun ls hl => ?_)
        refine lv_iconst (v := 0) hx hb dX4_endTask_44 (by decide) ?_
        refine lv_istore (lv' := [(5, .int 0), (4, .int 2), (3, .ref (ad 3)), (0, .ref (ad 100)), (1, .ref (ad (i + 6))), (2, .int way)]) hx hb dX4_endTask_45 hl (by decide) rfl (fun ls hl => ?_)
        refine lv_iload hx hb dX4_endTask_47 (lv_at hl 0 rfl) ?_
        refine lv_iload hx hb dX4_endTask_49 (lv_at hl 1 rfl) ?_
        refine lv_icmp_ge (tgt := 87) hx hb dX4_endTask_51 (by decide) (fun c_51_5 => ?_) (fun c_51_5 => ?_)
        -- 51 jumps
        · exact absurd c_51_5 (by decide)
        -- 51 goes on
        · skip
          refine lv_aload_n hx hb dX4_endTask_54 rfl (lv_at hl 2 rfl) ?_
          refine lv_iload hx hb dX4_endTask_55 (lv_at hl 0 rfl) ?_
          refine l_a3 hx hb hK hP (j := 0) rfl (by unfold vp_in; decide) dX4_endTask_57 ?_
          refine lv_astore (lv' := [(6, .ref (ad (0 + 94))), (5, .int 0), (4, .int 2), (3, .ref (ad 3)), (0, .ref (ad 100)), (1, .ref (ad (i + 6))), (2, .int way)]) hx hb dX4_endTask_58 hl (by decide) rfl (fun ls hl => ?_)
          refine lv_aload hx hb dX4_endTask_60 (lv_at hl 0 rfl) ?_
          refine va_get (D := D) (C := RX2) (T := TX2) (N := 3) (ci := 2) (v := .int (τ3 (0 + 94) 1)) hx hb hts nX2 hown hK hP (0 + 94) (w_lk (by decide)) rfl 1 (by decide) k226 (fun _ h9 => h9) rfl dX4_endTask_62 ?_
          refine lv_aload_n hx hb dX4_endTask_65 rfl (lv_at hl 5 rfl) ?_
          refine va_get (D := D) (C := RX7) (T := TX7) (N := 17) (ci := 7) (v := .int (nI i)) hx hb hts nX7 hown hK hP (i + 6) (w_tk hi) rfl 0 (by decide) k231 (fun _ h9 => h9) rfl dX4_endTask_66 ?_
          refine lv_icmp_ne (tgt := 81) hx hb dX4_endTask_69 (by decide) (fun c_69_6 => ?_) (fun c_69_6 => ?_)
          -- 69 jumps
          · skip
            refine lv_iinc (v := 1) (lv' := [(5, .int 1), (6, .ref (ad (0 + 94))), (4, .int 2), (3, .ref (ad 3)), (0, .ref (ad 100)), (1, .ref (ad (i + 6))), (2, .int way)]) hx hb dX4_endTask_81 hl (k := 1) rfl (by decide) (by decide) rfl (fun ls hl => ?_)
            refine lv_goto (tgt := 47) hx hb dX4_endTask_84 (by decide) ?_
            refine lv_iload hx hb dX4_endTask_47 (lv_at hl 0 rfl) ?_
            refine lv_iload hx hb dX4_endTask_49 (lv_at hl 2 rfl) ?_
            refine lv_icmp_ge (tgt := 87) hx hb dX4_endTask_51 (by decide) (fun c_51_7 => ?_) (fun c_51_7 => ?_)
            -- 51 jumps
            · exact absurd c_51_7 (by decide)
            -- 51 goes on
            · skip
              refine lv_aload_n hx hb dX4_endTask_54 rfl (lv_at hl 3 rfl) ?_
              refine lv_iload hx hb dX4_endTask_55 (lv_at hl 0 rfl) ?_
              refine l_a3 hx hb hK hP (j := 1) rfl (by unfold vp_in; decide) dX4_endTask_57 ?_
              refine lv_astore (lv' := [(6, .ref (ad (1 + 94))), (5, .int 1), (4, .int 2), (3, .ref (ad 3)), (0, .ref (ad 100)), (1, .ref (ad (i + 6))), (2, .int way)]) hx hb dX4_endTask_58 hl (by decide) rfl (fun ls hl => ?_)
              refine lv_aload hx hb dX4_endTask_60 (lv_at hl 0 rfl) ?_
              refine va_get (D := D) (C := RX2) (T := TX2) (N := 3) (ci := 2) (v := .int (τ3 (1 + 94) 1)) hx hb hts nX2 hown hK hP (1 + 94) (w_lk (by decide)) rfl 1 (by decide) k226 (fun _ h9 => h9) rfl dX4_endTask_62 ?_
              refine lv_aload_n hx hb dX4_endTask_65 rfl (lv_at hl 5 rfl) ?_
              refine va_get (D := D) (C := RX7) (T := TX7) (N := 17) (ci := 7) (v := .int (nI i)) hx hb hts nX7 hown hK hP (i + 6) (w_tk hi) rfl 0 (by decide) k231 (fun _ h9 => h9) rfl dX4_endTask_66 ?_
              refine lv_icmp_ne (tgt := 81) hx hb dX4_endTask_69 (by decide) (fun c_69_8 => ?_) (fun c_69_8 => ?_)
              -- 69 jumps
              · skip
                refine lv_iinc (v := 2) (lv' := [(5, .int 2), (6, .ref (ad (1 + 94))), (4, .int 2), (3, .ref (ad 3)), (0, .ref (ad 100)), (1, .ref (ad (i + 6))), (2, .int way)]) hx hb dX4_endTask_81 hl (k := 1) rfl (by decide) (by decide) rfl (fun ls hl => ?_)
                refine lv_goto (tgt := 47) hx hb dX4_endTask_84 (by decide) ?_
                refine lv_iload hx hb dX4_endTask_47 (lv_at hl 0 rfl) ?_
                refine lv_iload hx hb dX4_endTask_49 (lv_at hl 2 rfl) ?_
                refine lv_icmp_ge (tgt := 87) hx hb dX4_endTask_51 (by decide) (fun c_51_9 => ?_) (fun c_51_9 => ?_)
                -- 51 jumps
                · skip
                  refine lv_aload_n hx hb dX4_endTask_87 rfl (lv_at hl 4 rfl) ?_
                  refine va_get (D := D) (C := RX4) (T := TX4) (N := 3) (ci := 4) (v := .ref (ad 0)) hx hb hts nX4 hown hK hP 100 w_ru rfl 1 (by decide) k15 (fun _ h9 => h9) rfl dX4_endTask_88 ?_
                  refine lv_aload_n hx hb dX4_endTask_91 rfl (lv_at hl 5 rfl) ?_
                  refine va_get (D := D) (C := RX7) (T := TX7) (N := 17) (ci := 7) (v := .int (τ3 (i + 6) 6)) hx hb hts nX7 hown hK hP (i + 6) (w_tk hi) rfl 6 (by decide) k311 (fun _ h9 => h9) rfl dX4_endTask_92 ?_
                  refine x_Vq (As := [.int (τ3 (i + 6) 6)]) (rest0 := []) ⟨hx, hb, hml, hown, hts⟩ (c_X6_scopeAt l D cA ad tr rest H.size τ3 (τ3 (i + 6) 6)) (cwV 1 hts gX4_endTask_X6_scopeAt rfl rfl rfl (by decide +kernel) ⟨Nat.le_of_ble_eq_true rfl, Nat.le_of_ble_eq_true rfl⟩) hK hP hD hS hA 0 w_st rfl hl.1 rfl rfl (Nat.le_of_ble_eq_true rfl) ⟨Nat.zero_le _, Nat.zero_le _⟩ dX4_endTask_95 (fun r10 _ H locs hw hP hD hS => ?_)
                  have er10 := hw
                  subst er10
                  rcases hi11 : m_at (τ3 (i + 6) 6) 40 with _ | i11
                  · refine W.eq (g2 := F0 m 98 ls [.null]) rfl ?_
                    refine lv_astore_nN (lv' := [(3, .null), (5, .int 2), (6, .ref (ad (1 + 94))), (4, .int 2), (0, .ref (ad 100)), (1, .ref (ad (i + 6))), (2, .int way)]) hx hb dX4_endTask_98 rfl hl (by decide) rfl (fun ls hl => ?_)
                    refine lv_aload_nN hx hb dX4_endTask_99 rfl (lv_at hl 0 rfl) ?_
                    refine lv_ifnullN (tgt := 109) hx hb dX4_endTask_100 (by decide) ?_
                    exact x_vret hx hb hr hlocks hK τ3 hP hD hS dX4_endTask_109 (by have h1 : m_endWay τ i way = τ3 := (by subst eτ3; simp [m_endWay, eq_true c_2_1, c_12_2, eq_true c_24_4]); have h2 : m_freeOf τ3 i 0 = τ3 := (by simp [m_freeOf, eq_true c_2_1, c_12_2, eq_true c_24_4, c_69_6, c_69_8, hi11]); have h3 : m_freeOf τ3 i 1 = τ3 := (by simp [m_freeOf, eq_true c_2_1, c_12_2, eq_true c_24_4, c_69_6, c_69_8, hi11]); exact (by rw [m_endTask, h1, h2, h3]; simp [m_endLast, eq_true c_2_1, c_12_2, eq_true c_24_4, c_69_6, c_69_8, hi11]))
                  · have bi11 := m_at_lt hi11 (by decide)
                    refine W.eq (g2 := F0 m 98 ls [.ref (ad (i11 + 54))]) rfl ?_
                    refine lv_astore_n (lv' := [(3, .ref (ad (i11 + 54))), (5, .int 2), (6, .ref (ad (1 + 94))), (4, .int 2), (0, .ref (ad 100)), (1, .ref (ad (i + 6))), (2, .int way)]) hx hb dX4_endTask_98 rfl hl (by decide) rfl (fun ls hl => ?_)
                    refine lv_aload_n hx hb dX4_endTask_99 rfl (lv_at hl 0 rfl) ?_
                    refine lv_ifnull hx hb dX4_endTask_100 ?_
                    refine lv_aload_n hx hb dX4_endTask_103 rfl (lv_at hl 4 rfl) ?_
                    refine lv_aload_n hx hb dX4_endTask_104 rfl (lv_at hl 5 rfl) ?_
                    refine lv_aload_n hx hb dX4_endTask_105 rfl (lv_at hl 0 rfl) ?_
                    refine x_Vv (As := [.ref (ad (i + 6)), .ref (ad (i11 + 54))]) (rest0 := []) ⟨hx, hb, hml, hown, hts⟩ (c_X4_tellOver l D cA ad tr rest H.size τ3 i hi i11 bi11) (cwV 2 hts gX4_endTask_X4_tellOver rfl rfl rfl (by decide +kernel) ⟨Nat.le_of_ble_eq_true rfl, Nat.le_of_ble_eq_true rfl⟩) hK hP hD hS hA 100 w_ru rfl hl.1 rfl rfl (Nat.le_of_ble_eq_true rfl) ⟨Nat.zero_le _, Nat.zero_le _⟩ dX4_endTask_106 (fun τ12 H locs hw hP hD hS => ?_)
                    have eτ12 := hw
                    exact x_vret hx hb hr hlocks hK τ12 hP hD hS dX4_endTask_109 (by have h1 : m_endWay τ i way = τ3 := (by subst eτ3; simp [m_endWay, eq_true c_2_1, c_12_2, eq_true c_24_4]); have h2 : m_freeOf τ3 i 0 = τ3 := (by simp [m_freeOf, eq_true c_2_1, c_12_2, eq_true c_24_4, c_69_6, c_69_8, hi11]); have h3 : m_freeOf τ3 i 1 = τ3 := (by simp [m_freeOf, eq_true c_2_1, c_12_2, eq_true c_24_4, c_69_6, c_69_8, hi11]); exact (by rw [m_endTask, h1, h2, h3]; rw [eτ12]; simp [m_endLast, eq_true c_2_1, c_12_2, eq_true c_24_4, c_69_6, c_69_8, hi11]))
                -- 51 goes on
                · exact absurd c_51_9 (by decide)
              -- 69 goes on
              · skip
                refine lv_aload_n hx hb dX4_endTask_72 rfl (lv_at hl 4 rfl) ?_
                refine va_get (D := D) (C := RX4) (T := TX4) (N := 3) (ci := 4) (v := .ref (ad 0)) hx hb hts nX4 hown hK hP 100 w_ru rfl 1 (by decide) k15 (fun _ h9 => h9) rfl dX4_endTask_73 ?_
                refine lv_aload hx hb dX4_endTask_76 (lv_at hl 0 rfl) ?_
                refine x_Vv (As := [.ref (ad (1 + 94))]) (rest0 := []) ⟨hx, hb, hml, hown, hts⟩ (c_X6_freeLock l D cA ad tr rest H.size τ3 1 (by decide)) (cwV 1 hts gX4_endTask_X6_freeLock rfl rfl rfl (by decide +kernel) ⟨Nat.le_of_ble_eq_true rfl, Nat.le_of_ble_eq_true rfl⟩) hK hP hD hS hA 0 w_st rfl hl.1 rfl rfl (Nat.le_of_ble_eq_true rfl) ⟨Nat.zero_le _, Nat.zero_le _⟩ dX4_endTask_78 (fun τ13 H locs hw hP hD hS => ?_)
                have eτ13 := hw
                refine lv_iinc (v := 2) (lv' := [(5, .int 2), (6, .ref (ad (1 + 94))), (4, .int 2), (3, .ref (ad 3)), (0, .ref (ad 100)), (1, .ref (ad (i + 6))), (2, .int way)]) hx hb dX4_endTask_81 hl (k := 1) rfl (by decide) (by decide) rfl (fun ls hl => ?_)
                refine lv_goto (tgt := 47) hx hb dX4_endTask_84 (by decide) ?_
                refine lv_iload hx hb dX4_endTask_47 (lv_at hl 0 rfl) ?_
                refine lv_iload hx hb dX4_endTask_49 (lv_at hl 2 rfl) ?_
                refine lv_icmp_ge (tgt := 87) hx hb dX4_endTask_51 (by decide) (fun c_51_14 => ?_) (fun c_51_14 => ?_)
                -- 51 jumps
                · skip
                  refine lv_aload_n hx hb dX4_endTask_87 rfl (lv_at hl 4 rfl) ?_
                  refine va_get (D := D) (C := RX4) (T := TX4) (N := 3) (ci := 4) (v := .ref (ad 0)) hx hb hts nX4 hown hK hP 100 w_ru rfl 1 (by decide) k15 (fun _ h9 => h9) rfl dX4_endTask_88 ?_
                  refine lv_aload_n hx hb dX4_endTask_91 rfl (lv_at hl 5 rfl) ?_
                  refine va_get (D := D) (C := RX7) (T := TX7) (N := 17) (ci := 7) (v := .int (τ13 (i + 6) 6)) hx hb hts nX7 hown hK hP (i + 6) (w_tk hi) rfl 6 (by decide) k311 (fun _ h9 => h9) rfl dX4_endTask_92 ?_
                  refine x_Vq (As := [.int (τ13 (i + 6) 6)]) (rest0 := []) ⟨hx, hb, hml, hown, hts⟩ (c_X6_scopeAt l D cA ad tr rest H.size τ13 (τ13 (i + 6) 6)) (cwV 1 hts gX4_endTask_X6_scopeAt rfl rfl rfl (by decide +kernel) ⟨Nat.le_of_ble_eq_true rfl, Nat.le_of_ble_eq_true rfl⟩) hK hP hD hS hA 0 w_st rfl hl.1 rfl rfl (Nat.le_of_ble_eq_true rfl) ⟨Nat.zero_le _, Nat.zero_le _⟩ dX4_endTask_95 (fun r15 _ H locs hw hP hD hS => ?_)
                  have er15 := hw
                  subst er15
                  rcases hi16 : m_at (τ13 (i + 6) 6) 40 with _ | i16
                  · refine W.eq (g2 := F0 m 98 ls [.null]) rfl ?_
                    refine lv_astore_nN (lv' := [(3, .null), (5, .int 2), (6, .ref (ad (1 + 94))), (4, .int 2), (0, .ref (ad 100)), (1, .ref (ad (i + 6))), (2, .int way)]) hx hb dX4_endTask_98 rfl hl (by decide) rfl (fun ls hl => ?_)
                    refine lv_aload_nN hx hb dX4_endTask_99 rfl (lv_at hl 0 rfl) ?_
                    refine lv_ifnullN (tgt := 109) hx hb dX4_endTask_100 (by decide) ?_
                    exact x_vret hx hb hr hlocks hK τ13 hP hD hS dX4_endTask_109 (by have h1 : m_endWay τ i way = τ3 := (by subst eτ3; simp [m_endWay, eq_true c_2_1, c_12_2, eq_true c_24_4]); have h2 : m_freeOf τ3 i 0 = τ3 := (by simp [m_freeOf, eq_true c_2_1, c_12_2, eq_true c_24_4, c_69_6, eq_true c_69_8, hi16]); have h3 : m_freeOf τ3 i 1 = τ13 := (by rw [eτ13]; simp [m_freeOf, eq_true c_2_1, c_12_2, eq_true c_24_4, c_69_6, eq_true c_69_8, hi16]); exact (by rw [m_endTask, h1, h2, h3]; simp [m_endLast, eq_true c_2_1, c_12_2, eq_true c_24_4, c_69_6, eq_true c_69_8, hi16]))
                  · have bi16 := m_at_lt hi16 (by decide)
                    refine W.eq (g2 := F0 m 98 ls [.ref (ad (i16 + 54))]) rfl ?_
                    refine lv_astore_n (lv' := [(3, .ref (ad (i16 + 54))), (5, .int 2), (6, .ref (ad (1 + 94))), (4, .int 2), (0, .ref (ad 100)), (1, .ref (ad (i + 6))), (2, .int way)]) hx hb dX4_endTask_98 rfl hl (by decide) rfl (fun ls hl => ?_)
                    refine lv_aload_n hx hb dX4_endTask_99 rfl (lv_at hl 0 rfl) ?_
                    refine lv_ifnull hx hb dX4_endTask_100 ?_
                    refine lv_aload_n hx hb dX4_endTask_103 rfl (lv_at hl 4 rfl) ?_
                    refine lv_aload_n hx hb dX4_endTask_104 rfl (lv_at hl 5 rfl) ?_
                    refine lv_aload_n hx hb dX4_endTask_105 rfl (lv_at hl 0 rfl) ?_
                    refine x_Vv (As := [.ref (ad (i + 6)), .ref (ad (i16 + 54))]) (rest0 := []) ⟨hx, hb, hml, hown, hts⟩ (c_X4_tellOver l D cA ad tr rest H.size τ13 i hi i16 bi16) (cwV 2 hts gX4_endTask_X4_tellOver rfl rfl rfl (by decide +kernel) ⟨Nat.le_of_ble_eq_true rfl, Nat.le_of_ble_eq_true rfl⟩) hK hP hD hS hA 100 w_ru rfl hl.1 rfl rfl (Nat.le_of_ble_eq_true rfl) ⟨Nat.zero_le _, Nat.zero_le _⟩ dX4_endTask_106 (fun τ17 H locs hw hP hD hS => ?_)
                    have eτ17 := hw
                    exact x_vret hx hb hr hlocks hK τ17 hP hD hS dX4_endTask_109 (by have h1 : m_endWay τ i way = τ3 := (by subst eτ3; simp [m_endWay, eq_true c_2_1, c_12_2, eq_true c_24_4]); have h2 : m_freeOf τ3 i 0 = τ3 := (by simp [m_freeOf, eq_true c_2_1, c_12_2, eq_true c_24_4, c_69_6, eq_true c_69_8, hi16]); have h3 : m_freeOf τ3 i 1 = τ13 := (by rw [eτ13]; simp [m_freeOf, eq_true c_2_1, c_12_2, eq_true c_24_4, c_69_6, eq_true c_69_8, hi16]); exact (by rw [m_endTask, h1, h2, h3]; rw [eτ17]; simp [m_endLast, eq_true c_2_1, c_12_2, eq_true c_24_4, c_69_6, eq_true c_69_8, hi16]))
                -- 51 goes on
                · exact absurd c_51_14 (by decide)
          -- 69 goes on
          · skip
            refine lv_aload_n hx hb dX4_endTask_72 rfl (lv_at hl 4 rfl) ?_
            refine va_get (D := D) (C := RX4) (T := TX4) (N := 3) (ci := 4) (v := .ref (ad 0)) hx hb hts nX4 hown hK hP 100 w_ru rfl 1 (by decide) k15 (fun _ h9 => h9) rfl dX4_endTask_73 ?_
            refine lv_aload hx hb dX4_endTask_76 (lv_at hl 0 rfl) ?_
            refine x_Vv (As := [.ref (ad (0 + 94))]) (rest0 := []) ⟨hx, hb, hml, hown, hts⟩ (c_X6_freeLock l D cA ad tr rest H.size τ3 0 (by decide)) (cwV 1 hts gX4_endTask_X6_freeLock rfl rfl rfl (by decide +kernel) ⟨Nat.le_of_ble_eq_true rfl, Nat.le_of_ble_eq_true rfl⟩) hK hP hD hS hA 0 w_st rfl hl.1 rfl rfl (Nat.le_of_ble_eq_true rfl) ⟨Nat.zero_le _, Nat.zero_le _⟩ dX4_endTask_78 (fun τ18 H locs hw hP hD hS => ?_)
            have eτ18 := hw
            refine lv_iinc (v := 1) (lv' := [(5, .int 1), (6, .ref (ad (0 + 94))), (4, .int 2), (3, .ref (ad 3)), (0, .ref (ad 100)), (1, .ref (ad (i + 6))), (2, .int way)]) hx hb dX4_endTask_81 hl (k := 1) rfl (by decide) (by decide) rfl (fun ls hl => ?_)
            refine lv_goto (tgt := 47) hx hb dX4_endTask_84 (by decide) ?_
            refine lv_iload hx hb dX4_endTask_47 (lv_at hl 0 rfl) ?_
            refine lv_iload hx hb dX4_endTask_49 (lv_at hl 2 rfl) ?_
            refine lv_icmp_ge (tgt := 87) hx hb dX4_endTask_51 (by decide) (fun c_51_19 => ?_) (fun c_51_19 => ?_)
            -- 51 jumps
            · exact absurd c_51_19 (by decide)
            -- 51 goes on
            · skip
              refine lv_aload_n hx hb dX4_endTask_54 rfl (lv_at hl 3 rfl) ?_
              refine lv_iload hx hb dX4_endTask_55 (lv_at hl 0 rfl) ?_
              refine l_a3 hx hb hK hP (j := 1) rfl (by unfold vp_in; decide) dX4_endTask_57 ?_
              refine lv_astore (lv' := [(6, .ref (ad (1 + 94))), (5, .int 1), (4, .int 2), (3, .ref (ad 3)), (0, .ref (ad 100)), (1, .ref (ad (i + 6))), (2, .int way)]) hx hb dX4_endTask_58 hl (by decide) rfl (fun ls hl => ?_)
              refine lv_aload hx hb dX4_endTask_60 (lv_at hl 0 rfl) ?_
              refine va_get (D := D) (C := RX2) (T := TX2) (N := 3) (ci := 2) (v := .int (τ18 (1 + 94) 1)) hx hb hts nX2 hown hK hP (1 + 94) (w_lk (by decide)) rfl 1 (by decide) k226 (fun _ h9 => h9) rfl dX4_endTask_62 ?_
              refine lv_aload_n hx hb dX4_endTask_65 rfl (lv_at hl 5 rfl) ?_
              refine va_get (D := D) (C := RX7) (T := TX7) (N := 17) (ci := 7) (v := .int (nI i)) hx hb hts nX7 hown hK hP (i + 6) (w_tk hi) rfl 0 (by decide) k231 (fun _ h9 => h9) rfl dX4_endTask_66 ?_
              refine lv_icmp_ne (tgt := 81) hx hb dX4_endTask_69 (by decide) (fun c_69_20 => ?_) (fun c_69_20 => ?_)
              -- 69 jumps
              · skip
                refine lv_iinc (v := 2) (lv' := [(5, .int 2), (6, .ref (ad (1 + 94))), (4, .int 2), (3, .ref (ad 3)), (0, .ref (ad 100)), (1, .ref (ad (i + 6))), (2, .int way)]) hx hb dX4_endTask_81 hl (k := 1) rfl (by decide) (by decide) rfl (fun ls hl => ?_)
                refine lv_goto (tgt := 47) hx hb dX4_endTask_84 (by decide) ?_
                refine lv_iload hx hb dX4_endTask_47 (lv_at hl 0 rfl) ?_
                refine lv_iload hx hb dX4_endTask_49 (lv_at hl 2 rfl) ?_
                refine lv_icmp_ge (tgt := 87) hx hb dX4_endTask_51 (by decide) (fun c_51_21 => ?_) (fun c_51_21 => ?_)
                -- 51 jumps
                · skip
                  refine lv_aload_n hx hb dX4_endTask_87 rfl (lv_at hl 4 rfl) ?_
                  refine va_get (D := D) (C := RX4) (T := TX4) (N := 3) (ci := 4) (v := .ref (ad 0)) hx hb hts nX4 hown hK hP 100 w_ru rfl 1 (by decide) k15 (fun _ h9 => h9) rfl dX4_endTask_88 ?_
                  refine lv_aload_n hx hb dX4_endTask_91 rfl (lv_at hl 5 rfl) ?_
                  refine va_get (D := D) (C := RX7) (T := TX7) (N := 17) (ci := 7) (v := .int (τ18 (i + 6) 6)) hx hb hts nX7 hown hK hP (i + 6) (w_tk hi) rfl 6 (by decide) k311 (fun _ h9 => h9) rfl dX4_endTask_92 ?_
                  refine x_Vq (As := [.int (τ18 (i + 6) 6)]) (rest0 := []) ⟨hx, hb, hml, hown, hts⟩ (c_X6_scopeAt l D cA ad tr rest H.size τ18 (τ18 (i + 6) 6)) (cwV 1 hts gX4_endTask_X6_scopeAt rfl rfl rfl (by decide +kernel) ⟨Nat.le_of_ble_eq_true rfl, Nat.le_of_ble_eq_true rfl⟩) hK hP hD hS hA 0 w_st rfl hl.1 rfl rfl (Nat.le_of_ble_eq_true rfl) ⟨Nat.zero_le _, Nat.zero_le _⟩ dX4_endTask_95 (fun r22 _ H locs hw hP hD hS => ?_)
                  have er22 := hw
                  subst er22
                  rcases hi23 : m_at (τ18 (i + 6) 6) 40 with _ | i23
                  · refine W.eq (g2 := F0 m 98 ls [.null]) rfl ?_
                    refine lv_astore_nN (lv' := [(3, .null), (5, .int 2), (6, .ref (ad (1 + 94))), (4, .int 2), (0, .ref (ad 100)), (1, .ref (ad (i + 6))), (2, .int way)]) hx hb dX4_endTask_98 rfl hl (by decide) rfl (fun ls hl => ?_)
                    refine lv_aload_nN hx hb dX4_endTask_99 rfl (lv_at hl 0 rfl) ?_
                    refine lv_ifnullN (tgt := 109) hx hb dX4_endTask_100 (by decide) ?_
                    exact x_vret hx hb hr hlocks hK τ18 hP hD hS dX4_endTask_109 (by have h1 : m_endWay τ i way = τ3 := (by subst eτ3; simp [m_endWay, eq_true c_2_1, c_12_2, eq_true c_24_4]); have h2 : m_freeOf τ3 i 0 = τ18 := (by rw [eτ18]; simp [m_freeOf, eq_true c_2_1, c_12_2, eq_true c_24_4, eq_true c_69_6, c_69_20, hi23]); have h3 : m_freeOf τ18 i 1 = τ18 := (by simp [m_freeOf, eq_true c_2_1, c_12_2, eq_true c_24_4, eq_true c_69_6, c_69_20, hi23]); exact (by rw [m_endTask, h1, h2, h3]; simp [m_endLast, eq_true c_2_1, c_12_2, eq_true c_24_4, eq_true c_69_6, c_69_20, hi23]))
                  · have bi23 := m_at_lt hi23 (by decide)
                    refine W.eq (g2 := F0 m 98 ls [.ref (ad (i23 + 54))]) rfl ?_
                    refine lv_astore_n (lv' := [(3, .ref (ad (i23 + 54))), (5, .int 2), (6, .ref (ad (1 + 94))), (4, .int 2), (0, .ref (ad 100)), (1, .ref (ad (i + 6))), (2, .int way)]) hx hb dX4_endTask_98 rfl hl (by decide) rfl (fun ls hl => ?_)
                    refine lv_aload_n hx hb dX4_endTask_99 rfl (lv_at hl 0 rfl) ?_
                    refine lv_ifnull hx hb dX4_endTask_100 ?_
                    refine lv_aload_n hx hb dX4_endTask_103 rfl (lv_at hl 4 rfl) ?_
                    refine lv_aload_n hx hb dX4_endTask_104 rfl (lv_at hl 5 rfl) ?_
                    refine lv_aload_n hx hb dX4_endTask_105 rfl (lv_at hl 0 rfl) ?_
                    refine x_Vv (As := [.ref (ad (i + 6)), .ref (ad (i23 + 54))]) (rest0 := []) ⟨hx, hb, hml, hown, hts⟩ (c_X4_tellOver l D cA ad tr rest H.size τ18 i hi i23 bi23) (cwV 2 hts gX4_endTask_X4_tellOver rfl rfl rfl (by decide +kernel) ⟨Nat.le_of_ble_eq_true rfl, Nat.le_of_ble_eq_true rfl⟩) hK hP hD hS hA 100 w_ru rfl hl.1 rfl rfl (Nat.le_of_ble_eq_true rfl) ⟨Nat.zero_le _, Nat.zero_le _⟩ dX4_endTask_106 (fun τ24 H locs hw hP hD hS => ?_)
                    have eτ24 := hw
                    exact x_vret hx hb hr hlocks hK τ24 hP hD hS dX4_endTask_109 (by have h1 : m_endWay τ i way = τ3 := (by subst eτ3; simp [m_endWay, eq_true c_2_1, c_12_2, eq_true c_24_4]); have h2 : m_freeOf τ3 i 0 = τ18 := (by rw [eτ18]; simp [m_freeOf, eq_true c_2_1, c_12_2, eq_true c_24_4, eq_true c_69_6, c_69_20, hi23]); have h3 : m_freeOf τ18 i 1 = τ18 := (by simp [m_freeOf, eq_true c_2_1, c_12_2, eq_true c_24_4, eq_true c_69_6, c_69_20, hi23]); exact (by rw [m_endTask, h1, h2, h3]; rw [eτ24]; simp [m_endLast, eq_true c_2_1, c_12_2, eq_true c_24_4, eq_true c_69_6, c_69_20, hi23]))
                -- 51 goes on
                · exact absurd c_51_21 (by decide)
              -- 69 goes on
              · skip
                refine lv_aload_n hx hb dX4_endTask_72 rfl (lv_at hl 4 rfl) ?_
                refine va_get (D := D) (C := RX4) (T := TX4) (N := 3) (ci := 4) (v := .ref (ad 0)) hx hb hts nX4 hown hK hP 100 w_ru rfl 1 (by decide) k15 (fun _ h9 => h9) rfl dX4_endTask_73 ?_
                refine lv_aload hx hb dX4_endTask_76 (lv_at hl 0 rfl) ?_
                refine x_Vv (As := [.ref (ad (1 + 94))]) (rest0 := []) ⟨hx, hb, hml, hown, hts⟩ (c_X6_freeLock l D cA ad tr rest H.size τ18 1 (by decide)) (cwV 1 hts gX4_endTask_X6_freeLock rfl rfl rfl (by decide +kernel) ⟨Nat.le_of_ble_eq_true rfl, Nat.le_of_ble_eq_true rfl⟩) hK hP hD hS hA 0 w_st rfl hl.1 rfl rfl (Nat.le_of_ble_eq_true rfl) ⟨Nat.zero_le _, Nat.zero_le _⟩ dX4_endTask_78 (fun τ25 H locs hw hP hD hS => ?_)
                have eτ25 := hw
                refine lv_iinc (v := 2) (lv' := [(5, .int 2), (6, .ref (ad (1 + 94))), (4, .int 2), (3, .ref (ad 3)), (0, .ref (ad 100)), (1, .ref (ad (i + 6))), (2, .int way)]) hx hb dX4_endTask_81 hl (k := 1) rfl (by decide) (by decide) rfl (fun ls hl => ?_)
                refine lv_goto (tgt := 47) hx hb dX4_endTask_84 (by decide) ?_
                refine lv_iload hx hb dX4_endTask_47 (lv_at hl 0 rfl) ?_
                refine lv_iload hx hb dX4_endTask_49 (lv_at hl 2 rfl) ?_
                refine lv_icmp_ge (tgt := 87) hx hb dX4_endTask_51 (by decide) (fun c_51_26 => ?_) (fun c_51_26 => ?_)
                -- 51 jumps
                · skip
                  refine lv_aload_n hx hb dX4_endTask_87 rfl (lv_at hl 4 rfl) ?_
                  refine va_get (D := D) (C := RX4) (T := TX4) (N := 3) (ci := 4) (v := .ref (ad 0)) hx hb hts nX4 hown hK hP 100 w_ru rfl 1 (by decide) k15 (fun _ h9 => h9) rfl dX4_endTask_88 ?_
                  refine lv_aload_n hx hb dX4_endTask_91 rfl (lv_at hl 5 rfl) ?_
                  refine va_get (D := D) (C := RX7) (T := TX7) (N := 17) (ci := 7) (v := .int (τ25 (i + 6) 6)) hx hb hts nX7 hown hK hP (i + 6) (w_tk hi) rfl 6 (by decide) k311 (fun _ h9 => h9) rfl dX4_endTask_92 ?_
                  refine x_Vq (As := [.int (τ25 (i + 6) 6)]) (rest0 := []) ⟨hx, hb, hml, hown, hts⟩ (c_X6_scopeAt l D cA ad tr rest H.size τ25 (τ25 (i + 6) 6)) (cwV 1 hts gX4_endTask_X6_scopeAt rfl rfl rfl (by decide +kernel) ⟨Nat.le_of_ble_eq_true rfl, Nat.le_of_ble_eq_true rfl⟩) hK hP hD hS hA 0 w_st rfl hl.1 rfl rfl (Nat.le_of_ble_eq_true rfl) ⟨Nat.zero_le _, Nat.zero_le _⟩ dX4_endTask_95 (fun r27 _ H locs hw hP hD hS => ?_)
                  have er27 := hw
                  subst er27
                  rcases hi28 : m_at (τ25 (i + 6) 6) 40 with _ | i28
                  · refine W.eq (g2 := F0 m 98 ls [.null]) rfl ?_
                    refine lv_astore_nN (lv' := [(3, .null), (5, .int 2), (6, .ref (ad (1 + 94))), (4, .int 2), (0, .ref (ad 100)), (1, .ref (ad (i + 6))), (2, .int way)]) hx hb dX4_endTask_98 rfl hl (by decide) rfl (fun ls hl => ?_)
                    refine lv_aload_nN hx hb dX4_endTask_99 rfl (lv_at hl 0 rfl) ?_
                    refine lv_ifnullN (tgt := 109) hx hb dX4_endTask_100 (by decide) ?_
                    exact x_vret hx hb hr hlocks hK τ25 hP hD hS dX4_endTask_109 (by have h1 : m_endWay τ i way = τ3 := (by subst eτ3; simp [m_endWay, eq_true c_2_1, c_12_2, eq_true c_24_4]); have h2 : m_freeOf τ3 i 0 = τ18 := (by rw [eτ18]; simp [m_freeOf, eq_true c_2_1, c_12_2, eq_true c_24_4, eq_true c_69_6, eq_true c_69_20, hi28]); have h3 : m_freeOf τ18 i 1 = τ25 := (by rw [eτ25]; simp [m_freeOf, eq_true c_2_1, c_12_2, eq_true c_24_4, eq_true c_69_6, eq_true c_69_20, hi28]); exact (by rw [m_endTask, h1, h2, h3]; simp [m_endLast, eq_true c_2_1, c_12_2, eq_true c_24_4, eq_true c_69_6, eq_true c_69_20, hi28]))
                  · have bi28 := m_at_lt hi28 (by decide)
                    refine W.eq (g2 := F0 m 98 ls [.ref (ad (i28 + 54))]) rfl ?_
                    refine lv_astore_n (lv' := [(3, .ref (ad (i28 + 54))), (5, .int 2), (6, .ref (ad (1 + 94))), (4, .int 2), (0, .ref (ad 100)), (1, .ref (ad (i + 6))), (2, .int way)]) hx hb dX4_endTask_98 rfl hl (by decide) rfl (fun ls hl => ?_)
                    refine lv_aload_n hx hb dX4_endTask_99 rfl (lv_at hl 0 rfl) ?_
                    refine lv_ifnull hx hb dX4_endTask_100 ?_
                    refine lv_aload_n hx hb dX4_endTask_103 rfl (lv_at hl 4 rfl) ?_
                    refine lv_aload_n hx hb dX4_endTask_104 rfl (lv_at hl 5 rfl) ?_
                    refine lv_aload_n hx hb dX4_endTask_105 rfl (lv_at hl 0 rfl) ?_
                    refine x_Vv (As := [.ref (ad (i + 6)), .ref (ad (i28 + 54))]) (rest0 := []) ⟨hx, hb, hml, hown, hts⟩ (c_X4_tellOver l D cA ad tr rest H.size τ25 i hi i28 bi28) (cwV 2 hts gX4_endTask_X4_tellOver rfl rfl rfl (by decide +kernel) ⟨Nat.le_of_ble_eq_true rfl, Nat.le_of_ble_eq_true rfl⟩) hK hP hD hS hA 100 w_ru rfl hl.1 rfl rfl (Nat.le_of_ble_eq_true rfl) ⟨Nat.zero_le _, Nat.zero_le _⟩ dX4_endTask_106 (fun τ29 H locs hw hP hD hS => ?_)
                    have eτ29 := hw
                    exact x_vret hx hb hr hlocks hK τ29 hP hD hS dX4_endTask_109 (by have h1 : m_endWay τ i way = τ3 := (by subst eτ3; simp [m_endWay, eq_true c_2_1, c_12_2, eq_true c_24_4]); have h2 : m_freeOf τ3 i 0 = τ18 := (by rw [eτ18]; simp [m_freeOf, eq_true c_2_1, c_12_2, eq_true c_24_4, eq_true c_69_6, eq_true c_69_20, hi28]); have h3 : m_freeOf τ18 i 1 = τ25 := (by rw [eτ25]; simp [m_freeOf, eq_true c_2_1, c_12_2, eq_true c_24_4, eq_true c_69_6, eq_true c_69_20, hi28]); exact (by rw [m_endTask, h1, h2, h3]; rw [eτ29]; simp [m_endLast, eq_true c_2_1, c_12_2, eq_true c_24_4, eq_true c_69_6, eq_true c_69_20, hi28]))
                -- 51 goes on
                · exact absurd c_51_26 (by decide)
      -- 24 goes on
      · exact absurd c_2_1 c_24_4
    -- 12 goes on
    · skip
      refine lv_iconst (v := 4) hx hb dX4_endTask_15 (by decide) ?_
      refine lv_goto (tgt := 20) hx hb dX4_endTask_16 (by decide) ?_
      refine p_tk hx hb hts nX7 hown hK hP hD hS hi 3 (by decide) (by decide) k306 (fun _ h9 => h9) rfl rfl rfl dX4_endTask_20 (fun τ30 H locs eτ30 hP hD hS => ?_)
      refine lv_iload_n hx hb dX4_endTask_23 rfl (lv_at hl 2 rfl) ?_
      refine lv_if_le (tgt := 32) hx hb dX4_endTask_24 (by decide) (fun c_24_31 => ?_) (fun c_24_31 => ?_)
      -- 24 jumps
      · skip
        refine lv_aload_n hx hb dX4_endTask_32 rfl (lv_at hl 0 rfl) ?_
        refine va_get (D := D) (C := RX4) (T := TX4) (N := 3) (ci := 4) (v := .ref (ad 0)) hx hb hts nX4 hown hK hP 100 w_ru rfl 1 (by decide) k15 (fun _ h9 => h9) rfl dX4_endTask_33 ?_
        refine va_get (D := D) (C := RX6) (T := TX6) (N := 12) (ci := 6) (v := .ref (ad 3)) hx hb hts nX6 hown hK hP 0 w_st rfl 4 (by decide) k307 (fun _ h9 => h9) rfl dX4_endTask_36 ?_
        refine lv_astore_n (lv' := [(3, .ref (ad 3)), (0, .ref (ad 100)), (1, .ref (ad (i + 6))), (2, .int way)]) hx hb dX4_endTask_39 rfl hl (by decide) rfl (fun ls hl => ?_)
        refine lv_aload_n hx hb dX4_endTask_40 rfl (lv_at hl 0 rfl) ?_
        refine va_alen (v := 2) hx hb hK hP 3 3 w_a3 rfl rfl dX4_endTask_41 ?_
        refine lv_istore (lv' := [(4, .int 2), (3, .ref (ad 3)), (0, .ref (ad 100)), (1, .ref (ad (i + 6))), (2, .int way)]) hx hb dX4_endTask_42 hl (by decide) rfl (fun ls hl => ?_)
        refine lv_iconst (v := 0) hx hb dX4_endTask_44 (by decide) ?_
        refine lv_istore (lv' := [(5, .int 0), (4, .int 2), (3, .ref (ad 3)), (0, .ref (ad 100)), (1, .ref (ad (i + 6))), (2, .int way)]) hx hb dX4_endTask_45 hl (by decide) rfl (fun ls hl => ?_)
        refine lv_iload hx hb dX4_endTask_47 (lv_at hl 0 rfl) ?_
        refine lv_iload hx hb dX4_endTask_49 (lv_at hl 1 rfl) ?_
        refine lv_icmp_ge (tgt := 87) hx hb dX4_endTask_51 (by decide) (fun c_51_32 => ?_) (fun c_51_32 => ?_)
        -- 51 jumps
        · exact absurd c_51_32 (by decide)
        -- 51 goes on
        · skip
          refine lv_aload_n hx hb dX4_endTask_54 rfl (lv_at hl 2 rfl) ?_
          refine lv_iload hx hb dX4_endTask_55 (lv_at hl 0 rfl) ?_
          refine l_a3 hx hb hK hP (j := 0) rfl (by unfold vp_in; decide) dX4_endTask_57 ?_
          refine lv_astore (lv' := [(6, .ref (ad (0 + 94))), (5, .int 0), (4, .int 2), (3, .ref (ad 3)), (0, .ref (ad 100)), (1, .ref (ad (i + 6))), (2, .int way)]) hx hb dX4_endTask_58 hl (by decide) rfl (fun ls hl => ?_)
          refine lv_aload hx hb dX4_endTask_60 (lv_at hl 0 rfl) ?_
          refine va_get (D := D) (C := RX2) (T := TX2) (N := 3) (ci := 2) (v := .int (τ30 (0 + 94) 1)) hx hb hts nX2 hown hK hP (0 + 94) (w_lk (by decide)) rfl 1 (by decide) k226 (fun _ h9 => h9) rfl dX4_endTask_62 ?_
          refine lv_aload_n hx hb dX4_endTask_65 rfl (lv_at hl 5 rfl) ?_
          refine va_get (D := D) (C := RX7) (T := TX7) (N := 17) (ci := 7) (v := .int (nI i)) hx hb hts nX7 hown hK hP (i + 6) (w_tk hi) rfl 0 (by decide) k231 (fun _ h9 => h9) rfl dX4_endTask_66 ?_
          refine lv_icmp_ne (tgt := 81) hx hb dX4_endTask_69 (by decide) (fun c_69_33 => ?_) (fun c_69_33 => ?_)
          -- 69 jumps
          · skip
            refine lv_iinc (v := 1) (lv' := [(5, .int 1), (6, .ref (ad (0 + 94))), (4, .int 2), (3, .ref (ad 3)), (0, .ref (ad 100)), (1, .ref (ad (i + 6))), (2, .int way)]) hx hb dX4_endTask_81 hl (k := 1) rfl (by decide) (by decide) rfl (fun ls hl => ?_)
            refine lv_goto (tgt := 47) hx hb dX4_endTask_84 (by decide) ?_
            refine lv_iload hx hb dX4_endTask_47 (lv_at hl 0 rfl) ?_
            refine lv_iload hx hb dX4_endTask_49 (lv_at hl 2 rfl) ?_
            refine lv_icmp_ge (tgt := 87) hx hb dX4_endTask_51 (by decide) (fun c_51_34 => ?_) (fun c_51_34 => ?_)
            -- 51 jumps
            · exact absurd c_51_34 (by decide)
            -- 51 goes on
            · skip
              refine lv_aload_n hx hb dX4_endTask_54 rfl (lv_at hl 3 rfl) ?_
              refine lv_iload hx hb dX4_endTask_55 (lv_at hl 0 rfl) ?_
              refine l_a3 hx hb hK hP (j := 1) rfl (by unfold vp_in; decide) dX4_endTask_57 ?_
              refine lv_astore (lv' := [(6, .ref (ad (1 + 94))), (5, .int 1), (4, .int 2), (3, .ref (ad 3)), (0, .ref (ad 100)), (1, .ref (ad (i + 6))), (2, .int way)]) hx hb dX4_endTask_58 hl (by decide) rfl (fun ls hl => ?_)
              refine lv_aload hx hb dX4_endTask_60 (lv_at hl 0 rfl) ?_
              refine va_get (D := D) (C := RX2) (T := TX2) (N := 3) (ci := 2) (v := .int (τ30 (1 + 94) 1)) hx hb hts nX2 hown hK hP (1 + 94) (w_lk (by decide)) rfl 1 (by decide) k226 (fun _ h9 => h9) rfl dX4_endTask_62 ?_
              refine lv_aload_n hx hb dX4_endTask_65 rfl (lv_at hl 5 rfl) ?_
              refine va_get (D := D) (C := RX7) (T := TX7) (N := 17) (ci := 7) (v := .int (nI i)) hx hb hts nX7 hown hK hP (i + 6) (w_tk hi) rfl 0 (by decide) k231 (fun _ h9 => h9) rfl dX4_endTask_66 ?_
              refine lv_icmp_ne (tgt := 81) hx hb dX4_endTask_69 (by decide) (fun c_69_35 => ?_) (fun c_69_35 => ?_)
              -- 69 jumps
              · skip
                refine lv_iinc (v := 2) (lv' := [(5, .int 2), (6, .ref (ad (1 + 94))), (4, .int 2), (3, .ref (ad 3)), (0, .ref (ad 100)), (1, .ref (ad (i + 6))), (2, .int way)]) hx hb dX4_endTask_81 hl (k := 1) rfl (by decide) (by decide) rfl (fun ls hl => ?_)
                refine lv_goto (tgt := 47) hx hb dX4_endTask_84 (by decide) ?_
                refine lv_iload hx hb dX4_endTask_47 (lv_at hl 0 rfl) ?_
                refine lv_iload hx hb dX4_endTask_49 (lv_at hl 2 rfl) ?_
                refine lv_icmp_ge (tgt := 87) hx hb dX4_endTask_51 (by decide) (fun c_51_36 => ?_) (fun c_51_36 => ?_)
                -- 51 jumps
                · skip
                  refine lv_aload_n hx hb dX4_endTask_87 rfl (lv_at hl 4 rfl) ?_
                  refine va_get (D := D) (C := RX4) (T := TX4) (N := 3) (ci := 4) (v := .ref (ad 0)) hx hb hts nX4 hown hK hP 100 w_ru rfl 1 (by decide) k15 (fun _ h9 => h9) rfl dX4_endTask_88 ?_
                  refine lv_aload_n hx hb dX4_endTask_91 rfl (lv_at hl 5 rfl) ?_
                  refine va_get (D := D) (C := RX7) (T := TX7) (N := 17) (ci := 7) (v := .int (τ30 (i + 6) 6)) hx hb hts nX7 hown hK hP (i + 6) (w_tk hi) rfl 6 (by decide) k311 (fun _ h9 => h9) rfl dX4_endTask_92 ?_
                  refine x_Vq (As := [.int (τ30 (i + 6) 6)]) (rest0 := []) ⟨hx, hb, hml, hown, hts⟩ (c_X6_scopeAt l D cA ad tr rest H.size τ30 (τ30 (i + 6) 6)) (cwV 1 hts gX4_endTask_X6_scopeAt rfl rfl rfl (by decide +kernel) ⟨Nat.le_of_ble_eq_true rfl, Nat.le_of_ble_eq_true rfl⟩) hK hP hD hS hA 0 w_st rfl hl.1 rfl rfl (Nat.le_of_ble_eq_true rfl) ⟨Nat.zero_le _, Nat.zero_le _⟩ dX4_endTask_95 (fun r37 _ H locs hw hP hD hS => ?_)
                  have er37 := hw
                  subst er37
                  rcases hi38 : m_at (τ30 (i + 6) 6) 40 with _ | i38
                  · refine W.eq (g2 := F0 m 98 ls [.null]) rfl ?_
                    refine lv_astore_nN (lv' := [(3, .null), (5, .int 2), (6, .ref (ad (1 + 94))), (4, .int 2), (0, .ref (ad 100)), (1, .ref (ad (i + 6))), (2, .int way)]) hx hb dX4_endTask_98 rfl hl (by decide) rfl (fun ls hl => ?_)
                    refine lv_aload_nN hx hb dX4_endTask_99 rfl (lv_at hl 0 rfl) ?_
                    refine lv_ifnullN (tgt := 109) hx hb dX4_endTask_100 (by decide) ?_
                    exact x_vret hx hb hr hlocks hK τ30 hP hD hS dX4_endTask_109 (by have h1 : m_endWay τ i way = τ30 := (by subst eτ30; simp [m_endWay, eq_true c_2_1, eq_true c_12_2, eq_true c_24_31]); have h2 : m_freeOf τ30 i 0 = τ30 := (by simp [m_freeOf, eq_true c_2_1, eq_true c_12_2, eq_true c_24_31, c_69_33, c_69_35, hi38]); have h3 : m_freeOf τ30 i 1 = τ30 := (by simp [m_freeOf, eq_true c_2_1, eq_true c_12_2, eq_true c_24_31, c_69_33, c_69_35, hi38]); exact (by rw [m_endTask, h1, h2, h3]; simp [m_endLast, eq_true c_2_1, eq_true c_12_2, eq_true c_24_31, c_69_33, c_69_35, hi38]))
                  · have bi38 := m_at_lt hi38 (by decide)
                    refine W.eq (g2 := F0 m 98 ls [.ref (ad (i38 + 54))]) rfl ?_
                    refine lv_astore_n (lv' := [(3, .ref (ad (i38 + 54))), (5, .int 2), (6, .ref (ad (1 + 94))), (4, .int 2), (0, .ref (ad 100)), (1, .ref (ad (i + 6))), (2, .int way)]) hx hb dX4_endTask_98 rfl hl (by decide) rfl (fun ls hl => ?_)
                    refine lv_aload_n hx hb dX4_endTask_99 rfl (lv_at hl 0 rfl) ?_
                    refine lv_ifnull hx hb dX4_endTask_100 ?_
                    refine lv_aload_n hx hb dX4_endTask_103 rfl (lv_at hl 4 rfl) ?_
                    refine lv_aload_n hx hb dX4_endTask_104 rfl (lv_at hl 5 rfl) ?_
                    refine lv_aload_n hx hb dX4_endTask_105 rfl (lv_at hl 0 rfl) ?_
                    refine x_Vv (As := [.ref (ad (i + 6)), .ref (ad (i38 + 54))]) (rest0 := []) ⟨hx, hb, hml, hown, hts⟩ (c_X4_tellOver l D cA ad tr rest H.size τ30 i hi i38 bi38) (cwV 2 hts gX4_endTask_X4_tellOver rfl rfl rfl (by decide +kernel) ⟨Nat.le_of_ble_eq_true rfl, Nat.le_of_ble_eq_true rfl⟩) hK hP hD hS hA 100 w_ru rfl hl.1 rfl rfl (Nat.le_of_ble_eq_true rfl) ⟨Nat.zero_le _, Nat.zero_le _⟩ dX4_endTask_106 (fun τ39 H locs hw hP hD hS => ?_)
                    have eτ39 := hw
                    exact x_vret hx hb hr hlocks hK τ39 hP hD hS dX4_endTask_109 (by have h1 : m_endWay τ i way = τ30 := (by subst eτ30; simp [m_endWay, eq_true c_2_1, eq_true c_12_2, eq_true c_24_31]); have h2 : m_freeOf τ30 i 0 = τ30 := (by simp [m_freeOf, eq_true c_2_1, eq_true c_12_2, eq_true c_24_31, c_69_33, c_69_35, hi38]); have h3 : m_freeOf τ30 i 1 = τ30 := (by simp [m_freeOf, eq_true c_2_1, eq_true c_12_2, eq_true c_24_31, c_69_33, c_69_35, hi38]); exact (by rw [m_endTask, h1, h2, h3]; rw [eτ39]; simp [m_endLast, eq_true c_2_1, eq_true c_12_2, eq_true c_24_31, c_69_33, c_69_35, hi38]))
                -- 51 goes on
                · exact absurd c_51_36 (by decide)
              -- 69 goes on
              · skip
                refine lv_aload_n hx hb dX4_endTask_72 rfl (lv_at hl 4 rfl) ?_
                refine va_get (D := D) (C := RX4) (T := TX4) (N := 3) (ci := 4) (v := .ref (ad 0)) hx hb hts nX4 hown hK hP 100 w_ru rfl 1 (by decide) k15 (fun _ h9 => h9) rfl dX4_endTask_73 ?_
                refine lv_aload hx hb dX4_endTask_76 (lv_at hl 0 rfl) ?_
                refine x_Vv (As := [.ref (ad (1 + 94))]) (rest0 := []) ⟨hx, hb, hml, hown, hts⟩ (c_X6_freeLock l D cA ad tr rest H.size τ30 1 (by decide)) (cwV 1 hts gX4_endTask_X6_freeLock rfl rfl rfl (by decide +kernel) ⟨Nat.le_of_ble_eq_true rfl, Nat.le_of_ble_eq_true rfl⟩) hK hP hD hS hA 0 w_st rfl hl.1 rfl rfl (Nat.le_of_ble_eq_true rfl) ⟨Nat.zero_le _, Nat.zero_le _⟩ dX4_endTask_78 (fun τ40 H locs hw hP hD hS => ?_)
                have eτ40 := hw
                refine lv_iinc (v := 2) (lv' := [(5, .int 2), (6, .ref (ad (1 + 94))), (4, .int 2), (3, .ref (ad 3)), (0, .ref (ad 100)), (1, .ref (ad (i + 6))), (2, .int way)]) hx hb dX4_endTask_81 hl (k := 1) rfl (by decide) (by decide) rfl (fun ls hl => ?_)
                refine lv_goto (tgt := 47) hx hb dX4_endTask_84 (by decide) ?_
                refine lv_iload hx hb dX4_endTask_47 (lv_at hl 0 rfl) ?_
                refine lv_iload hx hb dX4_endTask_49 (lv_at hl 2 rfl) ?_
                refine lv_icmp_ge (tgt := 87) hx hb dX4_endTask_51 (by decide) (fun c_51_41 => ?_) (fun c_51_41 => ?_)
                -- 51 jumps
                · skip
                  refine lv_aload_n hx hb dX4_endTask_87 rfl (lv_at hl 4 rfl) ?_
                  refine va_get (D := D) (C := RX4) (T := TX4) (N := 3) (ci := 4) (v := .ref (ad 0)) hx hb hts nX4 hown hK hP 100 w_ru rfl 1 (by decide) k15 (fun _ h9 => h9) rfl dX4_endTask_88 ?_
                  refine lv_aload_n hx hb dX4_endTask_91 rfl (lv_at hl 5 rfl) ?_
                  refine va_get (D := D) (C := RX7) (T := TX7) (N := 17) (ci := 7) (v := .int (τ40 (i + 6) 6)) hx hb hts nX7 hown hK hP (i + 6) (w_tk hi) rfl 6 (by decide) k311 (fun _ h9 => h9) rfl dX4_endTask_92 ?_
                  refine x_Vq (As := [.int (τ40 (i + 6) 6)]) (rest0 := []) ⟨hx, hb, hml, hown, hts⟩ (c_X6_scopeAt l D cA ad tr rest H.size τ40 (τ40 (i + 6) 6)) (cwV 1 hts gX4_endTask_X6_scopeAt rfl rfl rfl (by decide +kernel) ⟨Nat.le_of_ble_eq_true rfl, Nat.le_of_ble_eq_true rfl⟩) hK hP hD hS hA 0 w_st rfl hl.1 rfl rfl (Nat.le_of_ble_eq_true rfl) ⟨Nat.zero_le _, Nat.zero_le _⟩ dX4_endTask_95 (fun r42 _ H locs hw hP hD hS => ?_)
                  have er42 := hw
                  subst er42
                  rcases hi43 : m_at (τ40 (i + 6) 6) 40 with _ | i43
                  · refine W.eq (g2 := F0 m 98 ls [.null]) rfl ?_
                    refine lv_astore_nN (lv' := [(3, .null), (5, .int 2), (6, .ref (ad (1 + 94))), (4, .int 2), (0, .ref (ad 100)), (1, .ref (ad (i + 6))), (2, .int way)]) hx hb dX4_endTask_98 rfl hl (by decide) rfl (fun ls hl => ?_)
                    refine lv_aload_nN hx hb dX4_endTask_99 rfl (lv_at hl 0 rfl) ?_
                    refine lv_ifnullN (tgt := 109) hx hb dX4_endTask_100 (by decide) ?_
                    exact x_vret hx hb hr hlocks hK τ40 hP hD hS dX4_endTask_109 (by have h1 : m_endWay τ i way = τ30 := (by subst eτ30; simp [m_endWay, eq_true c_2_1, eq_true c_12_2, eq_true c_24_31]); have h2 : m_freeOf τ30 i 0 = τ30 := (by simp [m_freeOf, eq_true c_2_1, eq_true c_12_2, eq_true c_24_31, c_69_33, eq_true c_69_35, hi43]); have h3 : m_freeOf τ30 i 1 = τ40 := (by rw [eτ40]; simp [m_freeOf, eq_true c_2_1, eq_true c_12_2, eq_true c_24_31, c_69_33, eq_true c_69_35, hi43]); exact (by rw [m_endTask, h1, h2, h3]; simp [m_endLast, eq_true c_2_1, eq_true c_12_2, eq_true c_24_31, c_69_33, eq_true c_69_35, hi43]))
                  · have bi43 := m_at_lt hi43 (by decide)
                    refine W.eq (g2 := F0 m 98 ls [.ref (ad (i43 + 54))]) rfl ?_
                    refine lv_astore_n (lv' := [(3, .ref (ad (i43 + 54))), (5, .int 2), (6, .ref (ad (1 + 94))), (4, .int 2), (0, .ref (ad 100)), (1, .ref (ad (i + 6))), (2, .int way)]) hx hb dX4_endTask_98 rfl hl (by decide) rfl (fun ls hl => ?_)
                    refine lv_aload_n hx hb dX4_endTask_99 rfl (lv_at hl 0 rfl) ?_
                    refine lv_ifnull hx hb dX4_endTask_100 ?_
                    refine lv_aload_n hx hb dX4_endTask_103 rfl (lv_at hl 4 rfl) ?_
                    refine lv_aload_n hx hb dX4_endTask_104 rfl (lv_at hl 5 rfl) ?_
                    refine lv_aload_n hx hb dX4_endTask_105 rfl (lv_at hl 0 rfl) ?_
                    refine x_Vv (As := [.ref (ad (i + 6)), .ref (ad (i43 + 54))]) (rest0 := []) ⟨hx, hb, hml, hown, hts⟩ (c_X4_tellOver l D cA ad tr rest H.size τ40 i hi i43 bi43) (cwV 2 hts gX4_endTask_X4_tellOver rfl rfl rfl (by decide +kernel) ⟨Nat.le_of_ble_eq_true rfl, Nat.le_of_ble_eq_true rfl⟩) hK hP hD hS hA 100 w_ru rfl hl.1 rfl rfl (Nat.le_of_ble_eq_true rfl) ⟨Nat.zero_le _, Nat.zero_le _⟩ dX4_endTask_106 (fun τ44 H locs hw hP hD hS => ?_)
                    have eτ44 := hw
                    exact x_vret hx hb hr hlocks hK τ44 hP hD hS dX4_endTask_109 (by have h1 : m_endWay τ i way = τ30 := (by subst eτ30; simp [m_endWay, eq_true c_2_1, eq_true c_12_2, eq_true c_24_31]); have h2 : m_freeOf τ30 i 0 = τ30 := (by simp [m_freeOf, eq_true c_2_1, eq_true c_12_2, eq_true c_24_31, c_69_33, eq_true c_69_35, hi43]); have h3 : m_freeOf τ30 i 1 = τ40 := (by rw [eτ40]; simp [m_freeOf, eq_true c_2_1, eq_true c_12_2, eq_true c_24_31, c_69_33, eq_true c_69_35, hi43]); exact (by rw [m_endTask, h1, h2, h3]; rw [eτ44]; simp [m_endLast, eq_true c_2_1, eq_true c_12_2, eq_true c_24_31, c_69_33, eq_true c_69_35, hi43]))
                -- 51 goes on
                · exact absurd c_51_41 (by decide)
          -- 69 goes on
          · skip
            refine lv_aload_n hx hb dX4_endTask_72 rfl (lv_at hl 4 rfl) ?_
            refine va_get (D := D) (C := RX4) (T := TX4) (N := 3) (ci := 4) (v := .ref (ad 0)) hx hb hts nX4 hown hK hP 100 w_ru rfl 1 (by decide) k15 (fun _ h9 => h9) rfl dX4_endTask_73 ?_
            refine lv_aload hx hb dX4_endTask_76 (lv_at hl 0 rfl) ?_
            refine x_Vv (As := [.ref (ad (0 + 94))]) (rest0 := []) ⟨hx, hb, hml, hown, hts⟩ (c_X6_freeLock l D cA ad tr rest H.size τ30 0 (by decide)) (cwV 1 hts gX4_endTask_X6_freeLock rfl rfl rfl (by decide +kernel) ⟨Nat.le_of_ble_eq_true rfl, Nat.le_of_ble_eq_true rfl⟩) hK hP hD hS hA 0 w_st rfl hl.1 rfl rfl (Nat.le_of_ble_eq_true rfl) ⟨Nat.zero_le _, Nat.zero_le _⟩ dX4_endTask_78 (fun τ45 H locs hw hP hD hS => ?_)
            have eτ45 := hw
            refine lv_iinc (v := 1) (lv' := [(5, .int 1), (6, .ref (ad (0 + 94))), (4, .int 2), (3, .ref (ad 3)), (0, .ref (ad 100)), (1, .ref (ad (i + 6))), (2, .int way)]) hx hb dX4_endTask_81 hl (k := 1) rfl (by decide) (by decide) rfl (fun ls hl => ?_)
            refine lv_goto (tgt := 47) hx hb dX4_endTask_84 (by decide) ?_
            refine lv_iload hx hb dX4_endTask_47 (lv_at hl 0 rfl) ?_
            refine lv_iload hx hb dX4_endTask_49 (lv_at hl 2 rfl) ?_
            refine lv_icmp_ge (tgt := 87) hx hb dX4_endTask_51 (by decide) (fun c_51_46 => ?_) (fun c_51_46 => ?_)
            -- 51 jumps
            · exact absurd c_51_46 (by decide)
            -- 51 goes on
            · skip
              refine lv_aload_n hx hb dX4_endTask_54 rfl (lv_at hl 3 rfl) ?_
              refine lv_iload hx hb dX4_endTask_55 (lv_at hl 0 rfl) ?_
              refine l_a3 hx hb hK hP (j := 1) rfl (by unfold vp_in; decide) dX4_endTask_57 ?_
              refine lv_astore (lv' := [(6, .ref (ad (1 + 94))), (5, .int 1), (4, .int 2), (3, .ref (ad 3)), (0, .ref (ad 100)), (1, .ref (ad (i + 6))), (2, .int way)]) hx hb dX4_endTask_58 hl (by decide) rfl (fun ls hl => ?_)
              refine lv_aload hx hb dX4_endTask_60 (lv_at hl 0 rfl) ?_
              refine va_get (D := D) (C := RX2) (T := TX2) (N := 3) (ci := 2) (v := .int (τ45 (1 + 94) 1)) hx hb hts nX2 hown hK hP (1 + 94) (w_lk (by decide)) rfl 1 (by decide) k226 (fun _ h9 => h9) rfl dX4_endTask_62 ?_
              refine lv_aload_n hx hb dX4_endTask_65 rfl (lv_at hl 5 rfl) ?_
              refine va_get (D := D) (C := RX7) (T := TX7) (N := 17) (ci := 7) (v := .int (nI i)) hx hb hts nX7 hown hK hP (i + 6) (w_tk hi) rfl 0 (by decide) k231 (fun _ h9 => h9) rfl dX4_endTask_66 ?_
              refine lv_icmp_ne (tgt := 81) hx hb dX4_endTask_69 (by decide) (fun c_69_47 => ?_) (fun c_69_47 => ?_)
              -- 69 jumps
              · skip
                refine lv_iinc (v := 2) (lv' := [(5, .int 2), (6, .ref (ad (1 + 94))), (4, .int 2), (3, .ref (ad 3)), (0, .ref (ad 100)), (1, .ref (ad (i + 6))), (2, .int way)]) hx hb dX4_endTask_81 hl (k := 1) rfl (by decide) (by decide) rfl (fun ls hl => ?_)
                refine lv_goto (tgt := 47) hx hb dX4_endTask_84 (by decide) ?_
                refine lv_iload hx hb dX4_endTask_47 (lv_at hl 0 rfl) ?_
                refine lv_iload hx hb dX4_endTask_49 (lv_at hl 2 rfl) ?_
                refine lv_icmp_ge (tgt := 87) hx hb dX4_endTask_51 (by decide) (fun c_51_48 => ?_) (fun c_51_48 => ?_)
                -- 51 jumps
                · skip
                  refine lv_aload_n hx hb dX4_endTask_87 rfl (lv_at hl 4 rfl) ?_
                  refine va_get (D := D) (C := RX4) (T := TX4) (N := 3) (ci := 4) (v := .ref (ad 0)) hx hb hts nX4 hown hK hP 100 w_ru rfl 1 (by decide) k15 (fun _ h9 => h9) rfl dX4_endTask_88 ?_
                  refine lv_aload_n hx hb dX4_endTask_91 rfl (lv_at hl 5 rfl) ?_
                  refine va_get (D := D) (C := RX7) (T := TX7) (N := 17) (ci := 7) (v := .int (τ45 (i + 6) 6)) hx hb hts nX7 hown hK hP (i + 6) (w_tk hi) rfl 6 (by decide) k311 (fun _ h9 => h9) rfl dX4_endTask_92 ?_
                  refine x_Vq (As := [.int (τ45 (i + 6) 6)]) (rest0 := []) ⟨hx, hb, hml, hown, hts⟩ (c_X6_scopeAt l D cA ad tr rest H.size τ45 (τ45 (i + 6) 6)) (cwV 1 hts gX4_endTask_X6_scopeAt rfl rfl rfl (by decide +kernel) ⟨Nat.le_of_ble_eq_true rfl, Nat.le_of_ble_eq_true rfl⟩) hK hP hD hS hA 0 w_st rfl hl.1 rfl rfl (Nat.le_of_ble_eq_true rfl) ⟨Nat.zero_le _, Nat.zero_le _⟩ dX4_endTask_95 (fun r49 _ H locs hw hP hD hS => ?_)
                  have er49 := hw
                  subst er49
                  rcases hi50 : m_at (τ45 (i + 6) 6) 40 with _ | i50
                  · refine W.eq (g2 := F0 m 98 ls [.null]) rfl ?_
                    refine lv_astore_nN (lv' := [(3, .null), (5, .int 2), (6, .ref (ad (1 + 94))), (4, .int 2), (0, .ref (ad 100)), (1, .ref (ad (i + 6))), (2, .int way)]) hx hb dX4_endTask_98 rfl hl (by decide) rfl (fun ls hl => ?_)
                    refine lv_aload_nN hx hb dX4_endTask_99 rfl (lv_at hl 0 rfl) ?_
                    refine lv_ifnullN (tgt := 109) hx hb dX4_endTask_100 (by decide) ?_
                    exact x_vret hx hb hr hlocks hK τ45 hP hD hS dX4_endTask_109 (by have h1 : m_endWay τ i way = τ30 := (by subst eτ30; simp [m_endWay, eq_true c_2_1, eq_true c_12_2, eq_true c_24_31]); have h2 : m_freeOf τ30 i 0 = τ45 := (by rw [eτ45]; simp [m_freeOf, eq_true c_2_1, eq_true c_12_2, eq_true c_24_31, eq_true c_69_33, c_69_47, hi50]); have h3 : m_freeOf τ45 i 1 = τ45 := (by simp [m_freeOf, eq_true c_2_1, eq_true c_12_2, eq_true c_24_31, eq_true c_69_33, c_69_47, hi50]); exact (by rw [m_endTask, h1, h2, h3]; simp [m_endLast, eq_true c_2_1, eq_true c_12_2, eq_true c_24_31, eq_true c_69_33, c_69_47, hi50]))
                  · have bi50 := m_at_lt hi50 (by decide)
                    refine W.eq (g2 := F0 m 98 ls [.ref (ad (i50 + 54))]) rfl ?_
                    refine lv_astore_n (lv' := [(3, .ref (ad (i50 + 54))), (5, .int 2), (6, .ref (ad (1 + 94))), (4, .int 2), (0, .ref (ad 100)), (1, .ref (ad (i + 6))), (2, .int way)]) hx hb dX4_endTask_98 rfl hl (by decide) rfl (fun ls hl => ?_)
                    refine lv_aload_n hx hb dX4_endTask_99 rfl (lv_at hl 0 rfl) ?_
                    refine lv_ifnull hx hb dX4_endTask_100 ?_
                    refine lv_aload_n hx hb dX4_endTask_103 rfl (lv_at hl 4 rfl) ?_
                    refine lv_aload_n hx hb dX4_endTask_104 rfl (lv_at hl 5 rfl) ?_
                    refine lv_aload_n hx hb dX4_endTask_105 rfl (lv_at hl 0 rfl) ?_
                    refine x_Vv (As := [.ref (ad (i + 6)), .ref (ad (i50 + 54))]) (rest0 := []) ⟨hx, hb, hml, hown, hts⟩ (c_X4_tellOver l D cA ad tr rest H.size τ45 i hi i50 bi50) (cwV 2 hts gX4_endTask_X4_tellOver rfl rfl rfl (by decide +kernel) ⟨Nat.le_of_ble_eq_true rfl, Nat.le_of_ble_eq_true rfl⟩) hK hP hD hS hA 100 w_ru rfl hl.1 rfl rfl (Nat.le_of_ble_eq_true rfl) ⟨Nat.zero_le _, Nat.zero_le _⟩ dX4_endTask_106 (fun τ51 H locs hw hP hD hS => ?_)
                    have eτ51 := hw
                    exact x_vret hx hb hr hlocks hK τ51 hP hD hS dX4_endTask_109 (by have h1 : m_endWay τ i way = τ30 := (by subst eτ30; simp [m_endWay, eq_true c_2_1, eq_true c_12_2, eq_true c_24_31]); have h2 : m_freeOf τ30 i 0 = τ45 := (by rw [eτ45]; simp [m_freeOf, eq_true c_2_1, eq_true c_12_2, eq_true c_24_31, eq_true c_69_33, c_69_47, hi50]); have h3 : m_freeOf τ45 i 1 = τ45 := (by simp [m_freeOf, eq_true c_2_1, eq_true c_12_2, eq_true c_24_31, eq_true c_69_33, c_69_47, hi50]); exact (by rw [m_endTask, h1, h2, h3]; rw [eτ51]; simp [m_endLast, eq_true c_2_1, eq_true c_12_2, eq_true c_24_31, eq_true c_69_33, c_69_47, hi50]))
                -- 51 goes on
                · exact absurd c_51_48 (by decide)
              -- 69 goes on
              · skip
                refine lv_aload_n hx hb dX4_endTask_72 rfl (lv_at hl 4 rfl) ?_
                refine va_get (D := D) (C := RX4) (T := TX4) (N := 3) (ci := 4) (v := .ref (ad 0)) hx hb hts nX4 hown hK hP 100 w_ru rfl 1 (by decide) k15 (fun _ h9 => h9) rfl dX4_endTask_73 ?_
                refine lv_aload hx hb dX4_endTask_76 (lv_at hl 0 rfl) ?_
                refine x_Vv (As := [.ref (ad (1 + 94))]) (rest0 := []) ⟨hx, hb, hml, hown, hts⟩ (c_X6_freeLock l D cA ad tr rest H.size τ45 1 (by decide)) (cwV 1 hts gX4_endTask_X6_freeLock rfl rfl rfl (by decide +kernel) ⟨Nat.le_of_ble_eq_true rfl, Nat.le_of_ble_eq_true rfl⟩) hK hP hD hS hA 0 w_st rfl hl.1 rfl rfl (Nat.le_of_ble_eq_true rfl) ⟨Nat.zero_le _, Nat.zero_le _⟩ dX4_endTask_78 (fun τ52 H locs hw hP hD hS => ?_)
                have eτ52 := hw
                refine lv_iinc (v := 2) (lv' := [(5, .int 2), (6, .ref (ad (1 + 94))), (4, .int 2), (3, .ref (ad 3)), (0, .ref (ad 100)), (1, .ref (ad (i + 6))), (2, .int way)]) hx hb dX4_endTask_81 hl (k := 1) rfl (by decide) (by decide) rfl (fun ls hl => ?_)
                refine lv_goto (tgt := 47) hx hb dX4_endTask_84 (by decide) ?_
                refine lv_iload hx hb dX4_endTask_47 (lv_at hl 0 rfl) ?_
                refine lv_iload hx hb dX4_endTask_49 (lv_at hl 2 rfl) ?_
                refine lv_icmp_ge (tgt := 87) hx hb dX4_endTask_51 (by decide) (fun c_51_53 => ?_) (fun c_51_53 => ?_)
                -- 51 jumps
                · skip
                  refine lv_aload_n hx hb dX4_endTask_87 rfl (lv_at hl 4 rfl) ?_
                  refine va_get (D := D) (C := RX4) (T := TX4) (N := 3) (ci := 4) (v := .ref (ad 0)) hx hb hts nX4 hown hK hP 100 w_ru rfl 1 (by decide) k15 (fun _ h9 => h9) rfl dX4_endTask_88 ?_
                  refine lv_aload_n hx hb dX4_endTask_91 rfl (lv_at hl 5 rfl) ?_
                  refine va_get (D := D) (C := RX7) (T := TX7) (N := 17) (ci := 7) (v := .int (τ52 (i + 6) 6)) hx hb hts nX7 hown hK hP (i + 6) (w_tk hi) rfl 6 (by decide) k311 (fun _ h9 => h9) rfl dX4_endTask_92 ?_
                  refine x_Vq (As := [.int (τ52 (i + 6) 6)]) (rest0 := []) ⟨hx, hb, hml, hown, hts⟩ (c_X6_scopeAt l D cA ad tr rest H.size τ52 (τ52 (i + 6) 6)) (cwV 1 hts gX4_endTask_X6_scopeAt rfl rfl rfl (by decide +kernel) ⟨Nat.le_of_ble_eq_true rfl, Nat.le_of_ble_eq_true rfl⟩) hK hP hD hS hA 0 w_st rfl hl.1 rfl rfl (Nat.le_of_ble_eq_true rfl) ⟨Nat.zero_le _, Nat.zero_le _⟩ dX4_endTask_95 (fun r54 _ H locs hw hP hD hS => ?_)
                  have er54 := hw
                  subst er54
                  rcases hi55 : m_at (τ52 (i + 6) 6) 40 with _ | i55
                  · refine W.eq (g2 := F0 m 98 ls [.null]) rfl ?_
                    refine lv_astore_nN (lv' := [(3, .null), (5, .int 2), (6, .ref (ad (1 + 94))), (4, .int 2), (0, .ref (ad 100)), (1, .ref (ad (i + 6))), (2, .int way)]) hx hb dX4_endTask_98 rfl hl (by decide) rfl (fun ls hl => ?_)
                    refine lv_aload_nN hx hb dX4_endTask_99 rfl (lv_at hl 0 rfl) ?_
                    refine lv_ifnullN (tgt := 109) hx hb dX4_endTask_100 (by decide) ?_
                    exact x_vret hx hb hr hlocks hK τ52 hP hD hS dX4_endTask_109 (by have h1 : m_endWay τ i way = τ30 := (by subst eτ30; simp [m_endWay, eq_true c_2_1, eq_true c_12_2, eq_true c_24_31]); have h2 : m_freeOf τ30 i 0 = τ45 := (by rw [eτ45]; simp [m_freeOf, eq_true c_2_1, eq_true c_12_2, eq_true c_24_31, eq_true c_69_33, eq_true c_69_47, hi55]); have h3 : m_freeOf τ45 i 1 = τ52 := (by rw [eτ52]; simp [m_freeOf, eq_true c_2_1, eq_true c_12_2, eq_true c_24_31, eq_true c_69_33, eq_true c_69_47, hi55]); exact (by rw [m_endTask, h1, h2, h3]; simp [m_endLast, eq_true c_2_1, eq_true c_12_2, eq_true c_24_31, eq_true c_69_33, eq_true c_69_47, hi55]))
                  · have bi55 := m_at_lt hi55 (by decide)
                    refine W.eq (g2 := F0 m 98 ls [.ref (ad (i55 + 54))]) rfl ?_
                    refine lv_astore_n (lv' := [(3, .ref (ad (i55 + 54))), (5, .int 2), (6, .ref (ad (1 + 94))), (4, .int 2), (0, .ref (ad 100)), (1, .ref (ad (i + 6))), (2, .int way)]) hx hb dX4_endTask_98 rfl hl (by decide) rfl (fun ls hl => ?_)
                    refine lv_aload_n hx hb dX4_endTask_99 rfl (lv_at hl 0 rfl) ?_
                    refine lv_ifnull hx hb dX4_endTask_100 ?_
                    refine lv_aload_n hx hb dX4_endTask_103 rfl (lv_at hl 4 rfl) ?_
                    refine lv_aload_n hx hb dX4_endTask_104 rfl (lv_at hl 5 rfl) ?_
                    refine lv_aload_n hx hb dX4_endTask_105 rfl (lv_at hl 0 rfl) ?_
                    refine x_Vv (As := [.ref (ad (i + 6)), .ref (ad (i55 + 54))]) (rest0 := []) ⟨hx, hb, hml, hown, hts⟩ (c_X4_tellOver l D cA ad tr rest H.size τ52 i hi i55 bi55) (cwV 2 hts gX4_endTask_X4_tellOver rfl rfl rfl (by decide +kernel) ⟨Nat.le_of_ble_eq_true rfl, Nat.le_of_ble_eq_true rfl⟩) hK hP hD hS hA 100 w_ru rfl hl.1 rfl rfl (Nat.le_of_ble_eq_true rfl) ⟨Nat.zero_le _, Nat.zero_le _⟩ dX4_endTask_106 (fun τ56 H locs hw hP hD hS => ?_)
                    have eτ56 := hw
                    exact x_vret hx hb hr hlocks hK τ56 hP hD hS dX4_endTask_109 (by have h1 : m_endWay τ i way = τ30 := (by subst eτ30; simp [m_endWay, eq_true c_2_1, eq_true c_12_2, eq_true c_24_31]); have h2 : m_freeOf τ30 i 0 = τ45 := (by rw [eτ45]; simp [m_freeOf, eq_true c_2_1, eq_true c_12_2, eq_true c_24_31, eq_true c_69_33, eq_true c_69_47, hi55]); have h3 : m_freeOf τ45 i 1 = τ52 := (by rw [eτ52]; simp [m_freeOf, eq_true c_2_1, eq_true c_12_2, eq_true c_24_31, eq_true c_69_33, eq_true c_69_47, hi55]); exact (by rw [m_endTask, h1, h2, h3]; rw [eτ56]; simp [m_endLast, eq_true c_2_1, eq_true c_12_2, eq_true c_24_31, eq_true c_69_33, eq_true c_69_47, hi55]))
                -- 51 goes on
                · exact absurd c_51_53 (by decide)
      -- 24 goes on
      · exact absurd c_2_1 c_24_31
  -- 2 goes on
  · skip
    refine lv_iconst (v := 3) hx hb dX4_endTask_5 (by decide) ?_
    refine lv_goto (tgt := 20) hx hb dX4_endTask_6 (by decide) ?_
    refine p_tk hx hb hts nX7 hown hK hP hD hS hi 3 (by decide) (by decide) k306 (fun _ h9 => h9) rfl rfl rfl dX4_endTask_20 (fun τ57 H locs eτ57 hP hD hS => ?_)
    refine lv_iload_n hx hb dX4_endTask_23 rfl (lv_at hl 2 rfl) ?_
    refine lv_if_le (tgt := 32) hx hb dX4_endTask_24 (by decide) (fun c_24_58 => ?_) (fun c_24_58 => ?_)
    -- 24 jumps
    · exact absurd c_24_58 c_2_1
    -- 24 goes on
    · skip
      refine lv_aload_n hx hb dX4_endTask_27 rfl (lv_at hl 1 rfl) ?_
      refine lv_iload_n hx hb dX4_endTask_28 rfl (lv_at hl 2 rfl) ?_
      refine p_tk hx hb hts nX7 hown hK hP hD hS hi 5 (by decide) (by decide) k65 (fun _ h9 => h9) rfl rfl rfl dX4_endTask_29 (fun τ59 H locs eτ59 hP hD hS => ?_)
      refine lv_aload_n hx hb dX4_endTask_32 rfl (lv_at hl 0 rfl) ?_
      refine va_get (D := D) (C := RX4) (T := TX4) (N := 3) (ci := 4) (v := .ref (ad 0)) hx hb hts nX4 hown hK hP 100 w_ru rfl 1 (by decide) k15 (fun _ h9 => h9) rfl dX4_endTask_33 ?_
      refine va_get (D := D) (C := RX6) (T := TX6) (N := 12) (ci := 6) (v := .ref (ad 3)) hx hb hts nX6 hown hK hP 0 w_st rfl 4 (by decide) k307 (fun _ h9 => h9) rfl dX4_endTask_36 ?_
      refine lv_astore_n (lv' := [(3, .ref (ad 3)), (0, .ref (ad 100)), (1, .ref (ad (i + 6))), (2, .int way)]) hx hb dX4_endTask_39 rfl hl (by decide) rfl (fun ls hl => ?_)
      refine lv_aload_n hx hb dX4_endTask_40 rfl (lv_at hl 0 rfl) ?_
      refine va_alen (v := 2) hx hb hK hP 3 3 w_a3 rfl rfl dX4_endTask_41 ?_
      refine lv_istore (lv' := [(4, .int 2), (3, .ref (ad 3)), (0, .ref (ad 100)), (1, .ref (ad (i + 6))), (2, .int way)]) hx hb dX4_endTask_42 hl (by decide) rfl (fun ls hl => ?_)
      refine lv_iconst (v := 0) hx hb dX4_endTask_44 (by decide) ?_
      refine lv_istore (lv' := [(5, .int 0), (4, .int 2), (3, .ref (ad 3)), (0, .ref (ad 100)), (1, .ref (ad (i + 6))), (2, .int way)]) hx hb dX4_endTask_45 hl (by decide) rfl (fun ls hl => ?_)
      refine lv_iload hx hb dX4_endTask_47 (lv_at hl 0 rfl) ?_
      refine lv_iload hx hb dX4_endTask_49 (lv_at hl 1 rfl) ?_
      refine lv_icmp_ge (tgt := 87) hx hb dX4_endTask_51 (by decide) (fun c_51_60 => ?_) (fun c_51_60 => ?_)
      -- 51 jumps
      · exact absurd c_51_60 (by decide)
      -- 51 goes on
      · skip
        refine lv_aload_n hx hb dX4_endTask_54 rfl (lv_at hl 2 rfl) ?_
        refine lv_iload hx hb dX4_endTask_55 (lv_at hl 0 rfl) ?_
        refine l_a3 hx hb hK hP (j := 0) rfl (by unfold vp_in; decide) dX4_endTask_57 ?_
        refine lv_astore (lv' := [(6, .ref (ad (0 + 94))), (5, .int 0), (4, .int 2), (3, .ref (ad 3)), (0, .ref (ad 100)), (1, .ref (ad (i + 6))), (2, .int way)]) hx hb dX4_endTask_58 hl (by decide) rfl (fun ls hl => ?_)
        refine lv_aload hx hb dX4_endTask_60 (lv_at hl 0 rfl) ?_
        refine va_get (D := D) (C := RX2) (T := TX2) (N := 3) (ci := 2) (v := .int (τ59 (0 + 94) 1)) hx hb hts nX2 hown hK hP (0 + 94) (w_lk (by decide)) rfl 1 (by decide) k226 (fun _ h9 => h9) rfl dX4_endTask_62 ?_
        refine lv_aload_n hx hb dX4_endTask_65 rfl (lv_at hl 5 rfl) ?_
        refine va_get (D := D) (C := RX7) (T := TX7) (N := 17) (ci := 7) (v := .int (nI i)) hx hb hts nX7 hown hK hP (i + 6) (w_tk hi) rfl 0 (by decide) k231 (fun _ h9 => h9) rfl dX4_endTask_66 ?_
        refine lv_icmp_ne (tgt := 81) hx hb dX4_endTask_69 (by decide) (fun c_69_61 => ?_) (fun c_69_61 => ?_)
        -- 69 jumps
        · skip
          refine lv_iinc (v := 1) (lv' := [(5, .int 1), (6, .ref (ad (0 + 94))), (4, .int 2), (3, .ref (ad 3)), (0, .ref (ad 100)), (1, .ref (ad (i + 6))), (2, .int way)]) hx hb dX4_endTask_81 hl (k := 1) rfl (by decide) (by decide) rfl (fun ls hl => ?_)
          refine lv_goto (tgt := 47) hx hb dX4_endTask_84 (by decide) ?_
          refine lv_iload hx hb dX4_endTask_47 (lv_at hl 0 rfl) ?_
          refine lv_iload hx hb dX4_endTask_49 (lv_at hl 2 rfl) ?_
          refine lv_icmp_ge (tgt := 87) hx hb dX4_endTask_51 (by decide) (fun c_51_62 => ?_) (fun c_51_62 => ?_)
          -- 51 jumps
          · exact absurd c_51_62 (by decide)
          -- 51 goes on
          · skip
            refine lv_aload_n hx hb dX4_endTask_54 rfl (lv_at hl 3 rfl) ?_
            refine lv_iload hx hb dX4_endTask_55 (lv_at hl 0 rfl) ?_
            refine l_a3 hx hb hK hP (j := 1) rfl (by unfold vp_in; decide) dX4_endTask_57 ?_
            refine lv_astore (lv' := [(6, .ref (ad (1 + 94))), (5, .int 1), (4, .int 2), (3, .ref (ad 3)), (0, .ref (ad 100)), (1, .ref (ad (i + 6))), (2, .int way)]) hx hb dX4_endTask_58 hl (by decide) rfl (fun ls hl => ?_)
            refine lv_aload hx hb dX4_endTask_60 (lv_at hl 0 rfl) ?_
            refine va_get (D := D) (C := RX2) (T := TX2) (N := 3) (ci := 2) (v := .int (τ59 (1 + 94) 1)) hx hb hts nX2 hown hK hP (1 + 94) (w_lk (by decide)) rfl 1 (by decide) k226 (fun _ h9 => h9) rfl dX4_endTask_62 ?_
            refine lv_aload_n hx hb dX4_endTask_65 rfl (lv_at hl 5 rfl) ?_
            refine va_get (D := D) (C := RX7) (T := TX7) (N := 17) (ci := 7) (v := .int (nI i)) hx hb hts nX7 hown hK hP (i + 6) (w_tk hi) rfl 0 (by decide) k231 (fun _ h9 => h9) rfl dX4_endTask_66 ?_
            refine lv_icmp_ne (tgt := 81) hx hb dX4_endTask_69 (by decide) (fun c_69_63 => ?_) (fun c_69_63 => ?_)
            -- 69 jumps
            · skip
              refine lv_iinc (v := 2) (lv' := [(5, .int 2), (6, .ref (ad (1 + 94))), (4, .int 2), (3, .ref (ad 3)), (0, .ref (ad 100)), (1, .ref (ad (i + 6))), (2, .int way)]) hx hb dX4_endTask_81 hl (k := 1) rfl (by decide) (by decide) rfl (fun ls hl => ?_)
              refine lv_goto (tgt := 47) hx hb dX4_endTask_84 (by decide) ?_
              refine lv_iload hx hb dX4_endTask_47 (lv_at hl 0 rfl) ?_
              refine lv_iload hx hb dX4_endTask_49 (lv_at hl 2 rfl) ?_
              refine lv_icmp_ge (tgt := 87) hx hb dX4_endTask_51 (by decide) (fun c_51_64 => ?_) (fun c_51_64 => ?_)
              -- 51 jumps
              · skip
                refine lv_aload_n hx hb dX4_endTask_87 rfl (lv_at hl 4 rfl) ?_
                refine va_get (D := D) (C := RX4) (T := TX4) (N := 3) (ci := 4) (v := .ref (ad 0)) hx hb hts nX4 hown hK hP 100 w_ru rfl 1 (by decide) k15 (fun _ h9 => h9) rfl dX4_endTask_88 ?_
                refine lv_aload_n hx hb dX4_endTask_91 rfl (lv_at hl 5 rfl) ?_
                refine va_get (D := D) (C := RX7) (T := TX7) (N := 17) (ci := 7) (v := .int (τ59 (i + 6) 6)) hx hb hts nX7 hown hK hP (i + 6) (w_tk hi) rfl 6 (by decide) k311 (fun _ h9 => h9) rfl dX4_endTask_92 ?_
                refine x_Vq (As := [.int (τ59 (i + 6) 6)]) (rest0 := []) ⟨hx, hb, hml, hown, hts⟩ (c_X6_scopeAt l D cA ad tr rest H.size τ59 (τ59 (i + 6) 6)) (cwV 1 hts gX4_endTask_X6_scopeAt rfl rfl rfl (by decide +kernel) ⟨Nat.le_of_ble_eq_true rfl, Nat.le_of_ble_eq_true rfl⟩) hK hP hD hS hA 0 w_st rfl hl.1 rfl rfl (Nat.le_of_ble_eq_true rfl) ⟨Nat.zero_le _, Nat.zero_le _⟩ dX4_endTask_95 (fun r65 _ H locs hw hP hD hS => ?_)
                have er65 := hw
                subst er65
                rcases hi66 : m_at (τ59 (i + 6) 6) 40 with _ | i66
                · refine W.eq (g2 := F0 m 98 ls [.null]) rfl ?_
                  refine lv_astore_nN (lv' := [(3, .null), (5, .int 2), (6, .ref (ad (1 + 94))), (4, .int 2), (0, .ref (ad 100)), (1, .ref (ad (i + 6))), (2, .int way)]) hx hb dX4_endTask_98 rfl hl (by decide) rfl (fun ls hl => ?_)
                  refine lv_aload_nN hx hb dX4_endTask_99 rfl (lv_at hl 0 rfl) ?_
                  refine lv_ifnullN (tgt := 109) hx hb dX4_endTask_100 (by decide) ?_
                  exact x_vret hx hb hr hlocks hK τ59 hP hD hS dX4_endTask_109 (by have h1 : m_endWay τ i way = τ59 := (by subst eτ59 eτ57; simp [m_endWay, c_2_1, c_24_58, c_69_61]); have h2 : m_freeOf τ59 i 0 = τ59 := (by simp [m_freeOf, c_2_1, c_24_58, c_69_61, c_69_63, hi66]); have h3 : m_freeOf τ59 i 1 = τ59 := (by simp [m_freeOf, c_2_1, c_24_58, c_69_61, c_69_63, hi66]); exact (by rw [m_endTask, h1, h2, h3]; simp [m_endLast, c_2_1, c_24_58, c_69_61, c_69_63, hi66]))
                · have bi66 := m_at_lt hi66 (by decide)
                  refine W.eq (g2 := F0 m 98 ls [.ref (ad (i66 + 54))]) rfl ?_
                  refine lv_astore_n (lv' := [(3, .ref (ad (i66 + 54))), (5, .int 2), (6, .ref (ad (1 + 94))), (4, .int 2), (0, .ref (ad 100)), (1, .ref (ad (i + 6))), (2, .int way)]) hx hb dX4_endTask_98 rfl hl (by decide) rfl (fun ls hl => ?_)
                  refine lv_aload_n hx hb dX4_endTask_99 rfl (lv_at hl 0 rfl) ?_
                  refine lv_ifnull hx hb dX4_endTask_100 ?_
                  refine lv_aload_n hx hb dX4_endTask_103 rfl (lv_at hl 4 rfl) ?_
                  refine lv_aload_n hx hb dX4_endTask_104 rfl (lv_at hl 5 rfl) ?_
                  refine lv_aload_n hx hb dX4_endTask_105 rfl (lv_at hl 0 rfl) ?_
                  refine x_Vv (As := [.ref (ad (i + 6)), .ref (ad (i66 + 54))]) (rest0 := []) ⟨hx, hb, hml, hown, hts⟩ (c_X4_tellOver l D cA ad tr rest H.size τ59 i hi i66 bi66) (cwV 2 hts gX4_endTask_X4_tellOver rfl rfl rfl (by decide +kernel) ⟨Nat.le_of_ble_eq_true rfl, Nat.le_of_ble_eq_true rfl⟩) hK hP hD hS hA 100 w_ru rfl hl.1 rfl rfl (Nat.le_of_ble_eq_true rfl) ⟨Nat.zero_le _, Nat.zero_le _⟩ dX4_endTask_106 (fun τ67 H locs hw hP hD hS => ?_)
                  have eτ67 := hw
                  exact x_vret hx hb hr hlocks hK τ67 hP hD hS dX4_endTask_109 (by have h1 : m_endWay τ i way = τ59 := (by subst eτ59 eτ57; simp [m_endWay, c_2_1, c_24_58, c_69_61]); have h2 : m_freeOf τ59 i 0 = τ59 := (by simp [m_freeOf, c_2_1, c_24_58, c_69_61, c_69_63, hi66]); have h3 : m_freeOf τ59 i 1 = τ59 := (by simp [m_freeOf, c_2_1, c_24_58, c_69_61, c_69_63, hi66]); exact (by rw [m_endTask, h1, h2, h3]; rw [eτ67]; simp [m_endLast, c_2_1, c_24_58, c_69_61, c_69_63, hi66]))
              -- 51 goes on
              · exact absurd c_51_64 (by decide)
            -- 69 goes on
            · skip
              refine lv_aload_n hx hb dX4_endTask_72 rfl (lv_at hl 4 rfl) ?_
              refine va_get (D := D) (C := RX4) (T := TX4) (N := 3) (ci := 4) (v := .ref (ad 0)) hx hb hts nX4 hown hK hP 100 w_ru rfl 1 (by decide) k15 (fun _ h9 => h9) rfl dX4_endTask_73 ?_
              refine lv_aload hx hb dX4_endTask_76 (lv_at hl 0 rfl) ?_
              refine x_Vv (As := [.ref (ad (1 + 94))]) (rest0 := []) ⟨hx, hb, hml, hown, hts⟩ (c_X6_freeLock l D cA ad tr rest H.size τ59 1 (by decide)) (cwV 1 hts gX4_endTask_X6_freeLock rfl rfl rfl (by decide +kernel) ⟨Nat.le_of_ble_eq_true rfl, Nat.le_of_ble_eq_true rfl⟩) hK hP hD hS hA 0 w_st rfl hl.1 rfl rfl (Nat.le_of_ble_eq_true rfl) ⟨Nat.zero_le _, Nat.zero_le _⟩ dX4_endTask_78 (fun τ68 H locs hw hP hD hS => ?_)
              have eτ68 := hw
              refine lv_iinc (v := 2) (lv' := [(5, .int 2), (6, .ref (ad (1 + 94))), (4, .int 2), (3, .ref (ad 3)), (0, .ref (ad 100)), (1, .ref (ad (i + 6))), (2, .int way)]) hx hb dX4_endTask_81 hl (k := 1) rfl (by decide) (by decide) rfl (fun ls hl => ?_)
              refine lv_goto (tgt := 47) hx hb dX4_endTask_84 (by decide) ?_
              refine lv_iload hx hb dX4_endTask_47 (lv_at hl 0 rfl) ?_
              refine lv_iload hx hb dX4_endTask_49 (lv_at hl 2 rfl) ?_
              refine lv_icmp_ge (tgt := 87) hx hb dX4_endTask_51 (by decide) (fun c_51_69 => ?_) (fun c_51_69 => ?_)
              -- 51 jumps
              · skip
                refine lv_aload_n hx hb dX4_endTask_87 rfl (lv_at hl 4 rfl) ?_
                refine va_get (D := D) (C := RX4) (T := TX4) (N := 3) (ci := 4) (v := .ref (ad 0)) hx hb hts nX4 hown hK hP 100 w_ru rfl 1 (by decide) k15 (fun _ h9 => h9) rfl dX4_endTask_88 ?_
                refine lv_aload_n hx hb dX4_endTask_91 rfl (lv_at hl 5 rfl) ?_
                refine va_get (D := D) (C := RX7) (T := TX7) (N := 17) (ci := 7) (v := .int (τ68 (i + 6) 6)) hx hb hts nX7 hown hK hP (i + 6) (w_tk hi) rfl 6 (by decide) k311 (fun _ h9 => h9) rfl dX4_endTask_92 ?_
                refine x_Vq (As := [.int (τ68 (i + 6) 6)]) (rest0 := []) ⟨hx, hb, hml, hown, hts⟩ (c_X6_scopeAt l D cA ad tr rest H.size τ68 (τ68 (i + 6) 6)) (cwV 1 hts gX4_endTask_X6_scopeAt rfl rfl rfl (by decide +kernel) ⟨Nat.le_of_ble_eq_true rfl, Nat.le_of_ble_eq_true rfl⟩) hK hP hD hS hA 0 w_st rfl hl.1 rfl rfl (Nat.le_of_ble_eq_true rfl) ⟨Nat.zero_le _, Nat.zero_le _⟩ dX4_endTask_95 (fun r70 _ H locs hw hP hD hS => ?_)
                have er70 := hw
                subst er70
                rcases hi71 : m_at (τ68 (i + 6) 6) 40 with _ | i71
                · refine W.eq (g2 := F0 m 98 ls [.null]) rfl ?_
                  refine lv_astore_nN (lv' := [(3, .null), (5, .int 2), (6, .ref (ad (1 + 94))), (4, .int 2), (0, .ref (ad 100)), (1, .ref (ad (i + 6))), (2, .int way)]) hx hb dX4_endTask_98 rfl hl (by decide) rfl (fun ls hl => ?_)
                  refine lv_aload_nN hx hb dX4_endTask_99 rfl (lv_at hl 0 rfl) ?_
                  refine lv_ifnullN (tgt := 109) hx hb dX4_endTask_100 (by decide) ?_
                  exact x_vret hx hb hr hlocks hK τ68 hP hD hS dX4_endTask_109 (by have h1 : m_endWay τ i way = τ59 := (by subst eτ59 eτ57; simp [m_endWay, c_2_1, c_24_58, c_69_61]); have h2 : m_freeOf τ59 i 0 = τ59 := (by simp [m_freeOf, c_2_1, c_24_58, c_69_61, eq_true c_69_63, hi71]); have h3 : m_freeOf τ59 i 1 = τ68 := (by rw [eτ68]; simp [m_freeOf, c_2_1, c_24_58, c_69_61, eq_true c_69_63, hi71]); exact (by rw [m_endTask, h1, h2, h3]; simp [m_endLast, c_2_1, c_24_58, c_69_61, eq_true c_69_63, hi71]))
                · have bi71 := m_at_lt hi71 (by decide)
                  refine W.eq (g2 := F0 m 98 ls [.ref (ad (i71 + 54))]) rfl ?_
                  refine lv_astore_n (lv' := [(3, .ref (ad (i71 + 54))), (5, .int 2), (6, .ref (ad (1 + 94))), (4, .int 2), (0, .ref (ad 100)), (1, .ref (ad (i + 6))), (2, .int way)]) hx hb dX4_endTask_98 rfl hl (by decide) rfl (fun ls hl => ?_)
                  refine lv_aload_n hx hb dX4_endTask_99 rfl (lv_at hl 0 rfl) ?_
                  refine lv_ifnull hx hb dX4_endTask_100 ?_
                  refine lv_aload_n hx hb dX4_endTask_103 rfl (lv_at hl 4 rfl) ?_
                  refine lv_aload_n hx hb dX4_endTask_104 rfl (lv_at hl 5 rfl) ?_
                  refine lv_aload_n hx hb dX4_endTask_105 rfl (lv_at hl 0 rfl) ?_
                  refine x_Vv (As := [.ref (ad (i + 6)), .ref (ad (i71 + 54))]) (rest0 := []) ⟨hx, hb, hml, hown, hts⟩ (c_X4_tellOver l D cA ad tr rest H.size τ68 i hi i71 bi71) (cwV 2 hts gX4_endTask_X4_tellOver rfl rfl rfl (by decide +kernel) ⟨Nat.le_of_ble_eq_true rfl, Nat.le_of_ble_eq_true rfl⟩) hK hP hD hS hA 100 w_ru rfl hl.1 rfl rfl (Nat.le_of_ble_eq_true rfl) ⟨Nat.zero_le _, Nat.zero_le _⟩ dX4_endTask_106 (fun τ72 H locs hw hP hD hS => ?_)
                  have eτ72 := hw
                  exact x_vret hx hb hr hlocks hK τ72 hP hD hS dX4_endTask_109 (by have h1 : m_endWay τ i way = τ59 := (by subst eτ59 eτ57; simp [m_endWay, c_2_1, c_24_58, c_69_61]); have h2 : m_freeOf τ59 i 0 = τ59 := (by simp [m_freeOf, c_2_1, c_24_58, c_69_61, eq_true c_69_63, hi71]); have h3 : m_freeOf τ59 i 1 = τ68 := (by rw [eτ68]; simp [m_freeOf, c_2_1, c_24_58, c_69_61, eq_true c_69_63, hi71]); exact (by rw [m_endTask, h1, h2, h3]; rw [eτ72]; simp [m_endLast, c_2_1, c_24_58, c_69_61, eq_true c_69_63, hi71]))
              -- 51 goes on
              · exact absurd c_51_69 (by decide)
        -- 69 goes on
        · skip
          refine lv_aload_n hx hb dX4_endTask_72 rfl (lv_at hl 4 rfl) ?_
          refine va_get (D := D) (C := RX4) (T := TX4) (N := 3) (ci := 4) (v := .ref (ad 0)) hx hb hts nX4 hown hK hP 100 w_ru rfl 1 (by decide) k15 (fun _ h9 => h9) rfl dX4_endTask_73 ?_
          refine lv_aload hx hb dX4_endTask_76 (lv_at hl 0 rfl) ?_
          refine x_Vv (As := [.ref (ad (0 + 94))]) (rest0 := []) ⟨hx, hb, hml, hown, hts⟩ (c_X6_freeLock l D cA ad tr rest H.size τ59 0 (by decide)) (cwV 1 hts gX4_endTask_X6_freeLock rfl rfl rfl (by decide +kernel) ⟨Nat.le_of_ble_eq_true rfl, Nat.le_of_ble_eq_true rfl⟩) hK hP hD hS hA 0 w_st rfl hl.1 rfl rfl (Nat.le_of_ble_eq_true rfl) ⟨Nat.zero_le _, Nat.zero_le _⟩ dX4_endTask_78 (fun τ73 H locs hw hP hD hS => ?_)
          have eτ73 := hw
          refine lv_iinc (v := 1) (lv' := [(5, .int 1), (6, .ref (ad (0 + 94))), (4, .int 2), (3, .ref (ad 3)), (0, .ref (ad 100)), (1, .ref (ad (i + 6))), (2, .int way)]) hx hb dX4_endTask_81 hl (k := 1) rfl (by decide) (by decide) rfl (fun ls hl => ?_)
          refine lv_goto (tgt := 47) hx hb dX4_endTask_84 (by decide) ?_
          refine lv_iload hx hb dX4_endTask_47 (lv_at hl 0 rfl) ?_
          refine lv_iload hx hb dX4_endTask_49 (lv_at hl 2 rfl) ?_
          refine lv_icmp_ge (tgt := 87) hx hb dX4_endTask_51 (by decide) (fun c_51_74 => ?_) (fun c_51_74 => ?_)
          -- 51 jumps
          · exact absurd c_51_74 (by decide)
          -- 51 goes on
          · skip
            refine lv_aload_n hx hb dX4_endTask_54 rfl (lv_at hl 3 rfl) ?_
            refine lv_iload hx hb dX4_endTask_55 (lv_at hl 0 rfl) ?_
            refine l_a3 hx hb hK hP (j := 1) rfl (by unfold vp_in; decide) dX4_endTask_57 ?_
            refine lv_astore (lv' := [(6, .ref (ad (1 + 94))), (5, .int 1), (4, .int 2), (3, .ref (ad 3)), (0, .ref (ad 100)), (1, .ref (ad (i + 6))), (2, .int way)]) hx hb dX4_endTask_58 hl (by decide) rfl (fun ls hl => ?_)
            refine lv_aload hx hb dX4_endTask_60 (lv_at hl 0 rfl) ?_
            refine va_get (D := D) (C := RX2) (T := TX2) (N := 3) (ci := 2) (v := .int (τ73 (1 + 94) 1)) hx hb hts nX2 hown hK hP (1 + 94) (w_lk (by decide)) rfl 1 (by decide) k226 (fun _ h9 => h9) rfl dX4_endTask_62 ?_
            refine lv_aload_n hx hb dX4_endTask_65 rfl (lv_at hl 5 rfl) ?_
            refine va_get (D := D) (C := RX7) (T := TX7) (N := 17) (ci := 7) (v := .int (nI i)) hx hb hts nX7 hown hK hP (i + 6) (w_tk hi) rfl 0 (by decide) k231 (fun _ h9 => h9) rfl dX4_endTask_66 ?_
            refine lv_icmp_ne (tgt := 81) hx hb dX4_endTask_69 (by decide) (fun c_69_75 => ?_) (fun c_69_75 => ?_)
            -- 69 jumps
            · skip
              refine lv_iinc (v := 2) (lv' := [(5, .int 2), (6, .ref (ad (1 + 94))), (4, .int 2), (3, .ref (ad 3)), (0, .ref (ad 100)), (1, .ref (ad (i + 6))), (2, .int way)]) hx hb dX4_endTask_81 hl (k := 1) rfl (by decide) (by decide) rfl (fun ls hl => ?_)
              refine lv_goto (tgt := 47) hx hb dX4_endTask_84 (by decide) ?_
              refine lv_iload hx hb dX4_endTask_47 (lv_at hl 0 rfl) ?_
              refine lv_iload hx hb dX4_endTask_49 (lv_at hl 2 rfl) ?_
              refine lv_icmp_ge (tgt := 87) hx hb dX4_endTask_51 (by decide) (fun c_51_76 => ?_) (fun c_51_76 => ?_)
              -- 51 jumps
              · skip
                refine lv_aload_n hx hb dX4_endTask_87 rfl (lv_at hl 4 rfl) ?_
                refine va_get (D := D) (C := RX4) (T := TX4) (N := 3) (ci := 4) (v := .ref (ad 0)) hx hb hts nX4 hown hK hP 100 w_ru rfl 1 (by decide) k15 (fun _ h9 => h9) rfl dX4_endTask_88 ?_
                refine lv_aload_n hx hb dX4_endTask_91 rfl (lv_at hl 5 rfl) ?_
                refine va_get (D := D) (C := RX7) (T := TX7) (N := 17) (ci := 7) (v := .int (τ73 (i + 6) 6)) hx hb hts nX7 hown hK hP (i + 6) (w_tk hi) rfl 6 (by decide) k311 (fun _ h9 => h9) rfl dX4_endTask_92 ?_
                refine x_Vq (As := [.int (τ73 (i + 6) 6)]) (rest0 := []) ⟨hx, hb, hml, hown, hts⟩ (c_X6_scopeAt l D cA ad tr rest H.size τ73 (τ73 (i + 6) 6)) (cwV 1 hts gX4_endTask_X6_scopeAt rfl rfl rfl (by decide +kernel) ⟨Nat.le_of_ble_eq_true rfl, Nat.le_of_ble_eq_true rfl⟩) hK hP hD hS hA 0 w_st rfl hl.1 rfl rfl (Nat.le_of_ble_eq_true rfl) ⟨Nat.zero_le _, Nat.zero_le _⟩ dX4_endTask_95 (fun r77 _ H locs hw hP hD hS => ?_)
                have er77 := hw
                subst er77
                rcases hi78 : m_at (τ73 (i + 6) 6) 40 with _ | i78
                · refine W.eq (g2 := F0 m 98 ls [.null]) rfl ?_
                  refine lv_astore_nN (lv' := [(3, .null), (5, .int 2), (6, .ref (ad (1 + 94))), (4, .int 2), (0, .ref (ad 100)), (1, .ref (ad (i + 6))), (2, .int way)]) hx hb dX4_endTask_98 rfl hl (by decide) rfl (fun ls hl => ?_)
                  refine lv_aload_nN hx hb dX4_endTask_99 rfl (lv_at hl 0 rfl) ?_
                  refine lv_ifnullN (tgt := 109) hx hb dX4_endTask_100 (by decide) ?_
                  exact x_vret hx hb hr hlocks hK τ73 hP hD hS dX4_endTask_109 (by have h1 : m_endWay τ i way = τ59 := (by subst eτ59 eτ57; simp [m_endWay, c_2_1, c_24_58, eq_true c_69_61]); have h2 : m_freeOf τ59 i 0 = τ73 := (by rw [eτ73]; simp [m_freeOf, c_2_1, c_24_58, eq_true c_69_61, c_69_75, hi78]); have h3 : m_freeOf τ73 i 1 = τ73 := (by simp [m_freeOf, c_2_1, c_24_58, eq_true c_69_61, c_69_75, hi78]); exact (by rw [m_endTask, h1, h2, h3]; simp [m_endLast, c_2_1, c_24_58, eq_true c_69_61, c_69_75, hi78]))
                · have bi78 := m_at_lt hi78 (by decide)
                  refine W.eq (g2 := F0 m 98 ls [.ref (ad (i78 + 54))]) rfl ?_
                  refine lv_astore_n (lv' := [(3, .ref (ad (i78 + 54))), (5, .int 2), (6, .ref (ad (1 + 94))), (4, .int 2), (0, .ref (ad 100)), (1, .ref (ad (i + 6))), (2, .int way)]) hx hb dX4_endTask_98 rfl hl (by decide) rfl (fun ls hl => ?_)
                  refine lv_aload_n hx hb dX4_endTask_99 rfl (lv_at hl 0 rfl) ?_
                  refine lv_ifnull hx hb dX4_endTask_100 ?_
                  refine lv_aload_n hx hb dX4_endTask_103 rfl (lv_at hl 4 rfl) ?_
                  refine lv_aload_n hx hb dX4_endTask_104 rfl (lv_at hl 5 rfl) ?_
                  refine lv_aload_n hx hb dX4_endTask_105 rfl (lv_at hl 0 rfl) ?_
                  refine x_Vv (As := [.ref (ad (i + 6)), .ref (ad (i78 + 54))]) (rest0 := []) ⟨hx, hb, hml, hown, hts⟩ (c_X4_tellOver l D cA ad tr rest H.size τ73 i hi i78 bi78) (cwV 2 hts gX4_endTask_X4_tellOver rfl rfl rfl (by decide +kernel) ⟨Nat.le_of_ble_eq_true rfl, Nat.le_of_ble_eq_true rfl⟩) hK hP hD hS hA 100 w_ru rfl hl.1 rfl rfl (Nat.le_of_ble_eq_true rfl) ⟨Nat.zero_le _, Nat.zero_le _⟩ dX4_endTask_106 (fun τ79 H locs hw hP hD hS => ?_)
                  have eτ79 := hw
                  exact x_vret hx hb hr hlocks hK τ79 hP hD hS dX4_endTask_109 (by have h1 : m_endWay τ i way = τ59 := (by subst eτ59 eτ57; simp [m_endWay, c_2_1, c_24_58, eq_true c_69_61]); have h2 : m_freeOf τ59 i 0 = τ73 := (by rw [eτ73]; simp [m_freeOf, c_2_1, c_24_58, eq_true c_69_61, c_69_75, hi78]); have h3 : m_freeOf τ73 i 1 = τ73 := (by simp [m_freeOf, c_2_1, c_24_58, eq_true c_69_61, c_69_75, hi78]); exact (by rw [m_endTask, h1, h2, h3]; rw [eτ79]; simp [m_endLast, c_2_1, c_24_58, eq_true c_69_61, c_69_75, hi78]))
              -- 51 goes on
              · exact absurd c_51_76 (by decide)
            -- 69 goes on
            · skip
              refine lv_aload_n hx hb dX4_endTask_72 rfl (lv_at hl 4 rfl) ?_
              refine va_get (D := D) (C := RX4) (T := TX4) (N := 3) (ci := 4) (v := .ref (ad 0)) hx hb hts nX4 hown hK hP 100 w_ru rfl 1 (by decide) k15 (fun _ h9 => h9) rfl dX4_endTask_73 ?_
              refine lv_aload hx hb dX4_endTask_76 (lv_at hl 0 rfl) ?_
              refine x_Vv (As := [.ref (ad (1 + 94))]) (rest0 := []) ⟨hx, hb, hml, hown, hts⟩ (c_X6_freeLock l D cA ad tr rest H.size τ73 1 (by decide)) (cwV 1 hts gX4_endTask_X6_freeLock rfl rfl rfl (by decide +kernel) ⟨Nat.le_of_ble_eq_true rfl, Nat.le_of_ble_eq_true rfl⟩) hK hP hD hS hA 0 w_st rfl hl.1 rfl rfl (Nat.le_of_ble_eq_true rfl) ⟨Nat.zero_le _, Nat.zero_le _⟩ dX4_endTask_78 (fun τ80 H locs hw hP hD hS => ?_)
              have eτ80 := hw
              refine lv_iinc (v := 2) (lv' := [(5, .int 2), (6, .ref (ad (1 + 94))), (4, .int 2), (3, .ref (ad 3)), (0, .ref (ad 100)), (1, .ref (ad (i + 6))), (2, .int way)]) hx hb dX4_endTask_81 hl (k := 1) rfl (by decide) (by decide) rfl (fun ls hl => ?_)
              refine lv_goto (tgt := 47) hx hb dX4_endTask_84 (by decide) ?_
              refine lv_iload hx hb dX4_endTask_47 (lv_at hl 0 rfl) ?_
              refine lv_iload hx hb dX4_endTask_49 (lv_at hl 2 rfl) ?_
              refine lv_icmp_ge (tgt := 87) hx hb dX4_endTask_51 (by decide) (fun c_51_81 => ?_) (fun c_51_81 => ?_)
              -- 51 jumps
              · skip
                refine lv_aload_n hx hb dX4_endTask_87 rfl (lv_at hl 4 rfl) ?_
                refine va_get (D := D) (C := RX4) (T := TX4) (N := 3) (ci := 4) (v := .ref (ad 0)) hx hb hts nX4 hown hK hP 100 w_ru rfl 1 (by decide) k15 (fun _ h9 => h9) rfl dX4_endTask_88 ?_
                refine lv_aload_n hx hb dX4_endTask_91 rfl (lv_at hl 5 rfl) ?_
                refine va_get (D := D) (C := RX7) (T := TX7) (N := 17) (ci := 7) (v := .int (τ80 (i + 6) 6)) hx hb hts nX7 hown hK hP (i + 6) (w_tk hi) rfl 6 (by decide) k311 (fun _ h9 => h9) rfl dX4_endTask_92 ?_
                refine x_Vq (As := [.int (τ80 (i + 6) 6)]) (rest0 := []) ⟨hx, hb, hml, hown, hts⟩ (c_X6_scopeAt l D cA ad tr rest H.size τ80 (τ80 (i + 6) 6)) (cwV 1 hts gX4_endTask_X6_scopeAt rfl rfl rfl (by decide +kernel) ⟨Nat.le_of_ble_eq_true rfl, Nat.le_of_ble_eq_true rfl⟩) hK hP hD hS hA 0 w_st rfl hl.1 rfl rfl (Nat.le_of_ble_eq_true rfl) ⟨Nat.zero_le _, Nat.zero_le _⟩ dX4_endTask_95 (fun r82 _ H locs hw hP hD hS => ?_)
                have er82 := hw
                subst er82
                rcases hi83 : m_at (τ80 (i + 6) 6) 40 with _ | i83
                · refine W.eq (g2 := F0 m 98 ls [.null]) rfl ?_
                  refine lv_astore_nN (lv' := [(3, .null), (5, .int 2), (6, .ref (ad (1 + 94))), (4, .int 2), (0, .ref (ad 100)), (1, .ref (ad (i + 6))), (2, .int way)]) hx hb dX4_endTask_98 rfl hl (by decide) rfl (fun ls hl => ?_)
                  refine lv_aload_nN hx hb dX4_endTask_99 rfl (lv_at hl 0 rfl) ?_
                  refine lv_ifnullN (tgt := 109) hx hb dX4_endTask_100 (by decide) ?_
                  exact x_vret hx hb hr hlocks hK τ80 hP hD hS dX4_endTask_109 (by have h1 : m_endWay τ i way = τ59 := (by subst eτ59 eτ57; simp [m_endWay, c_2_1, c_24_58, eq_true c_69_61]); have h2 : m_freeOf τ59 i 0 = τ73 := (by rw [eτ73]; simp [m_freeOf, c_2_1, c_24_58, eq_true c_69_61, eq_true c_69_75, hi83]); have h3 : m_freeOf τ73 i 1 = τ80 := (by rw [eτ80]; simp [m_freeOf, c_2_1, c_24_58, eq_true c_69_61, eq_true c_69_75, hi83]); exact (by rw [m_endTask, h1, h2, h3]; simp [m_endLast, c_2_1, c_24_58, eq_true c_69_61, eq_true c_69_75, hi83]))
                · have bi83 := m_at_lt hi83 (by decide)
                  refine W.eq (g2 := F0 m 98 ls [.ref (ad (i83 + 54))]) rfl ?_
                  refine lv_astore_n (lv' := [(3, .ref (ad (i83 + 54))), (5, .int 2), (6, .ref (ad (1 + 94))), (4, .int 2), (0, .ref (ad 100)), (1, .ref (ad (i + 6))), (2, .int way)]) hx hb dX4_endTask_98 rfl hl (by decide) rfl (fun ls hl => ?_)
                  refine lv_aload_n hx hb dX4_endTask_99 rfl (lv_at hl 0 rfl) ?_
                  refine lv_ifnull hx hb dX4_endTask_100 ?_
                  refine lv_aload_n hx hb dX4_endTask_103 rfl (lv_at hl 4 rfl) ?_
                  refine lv_aload_n hx hb dX4_endTask_104 rfl (lv_at hl 5 rfl) ?_
                  refine lv_aload_n hx hb dX4_endTask_105 rfl (lv_at hl 0 rfl) ?_
                  refine x_Vv (As := [.ref (ad (i + 6)), .ref (ad (i83 + 54))]) (rest0 := []) ⟨hx, hb, hml, hown, hts⟩ (c_X4_tellOver l D cA ad tr rest H.size τ80 i hi i83 bi83) (cwV 2 hts gX4_endTask_X4_tellOver rfl rfl rfl (by decide +kernel) ⟨Nat.le_of_ble_eq_true rfl, Nat.le_of_ble_eq_true rfl⟩) hK hP hD hS hA 100 w_ru rfl hl.1 rfl rfl (Nat.le_of_ble_eq_true rfl) ⟨Nat.zero_le _, Nat.zero_le _⟩ dX4_endTask_106 (fun τ84 H locs hw hP hD hS => ?_)
                  have eτ84 := hw
                  exact x_vret hx hb hr hlocks hK τ84 hP hD hS dX4_endTask_109 (by have h1 : m_endWay τ i way = τ59 := (by subst eτ59 eτ57; simp [m_endWay, c_2_1, c_24_58, eq_true c_69_61]); have h2 : m_freeOf τ59 i 0 = τ73 := (by rw [eτ73]; simp [m_freeOf, c_2_1, c_24_58, eq_true c_69_61, eq_true c_69_75, hi83]); have h3 : m_freeOf τ73 i 1 = τ80 := (by rw [eτ80]; simp [m_freeOf, c_2_1, c_24_58, eq_true c_69_61, eq_true c_69_75, hi83]); exact (by rw [m_endTask, h1, h2, h3]; rw [eτ84]; simp [m_endLast, c_2_1, c_24_58, eq_true c_69_61, eq_true c_69_75, hi83]))
              -- 51 goes on
              · exact absurd c_51_81 (by decide)

set_option maxHeartbeats 4000000 in
set_option maxRecDepth 100000 in
theorem c_X4_leave (l : Launch) (D : va_G) (cA : Nat → ClassId) (ad : Nat → Nat) (tr : List (ClassId × FieldType)) (rest : va_W) (sz : Nat) (τ : Sg) (i : Nat) (hi : i < 24) (way : Int32) : Met l yX4_leave wsX4_leave ({ frames := 4, cells := 0, slots := 0, locals := 99 }) (va_Pc [.ref (ad 100), .ref (ad (i + 6)), .int way] (inW D (tyB cA ++ tr) (wB cA ad τ ++ rest) sz)) (va_Qi (fun (r : Int32) (u : Sg) => r = (m_leave τ i way).2 ∧ u = (m_leave τ i way).1) (fun u : Sg => outW D (tyB cA ++ tr) (va_A (wB cA ad τ ++ rest) sz) (wB cA ad u ++ rest)) (va_A (wB cA ad τ ++ rest) sz)) 0 0 (va_A (wB cA ad τ ++ rest) sz) := by
  refine Met.ofW (cc := cX4_leave) (maxL := 4) (ret := (some .int)) (by decide) rfl ?_
  intro p e s m args below meth c s₁ B hml hv
  obtain ⟨rfl, hsz, hP, hK, hD0⟩ := hv
  have hx := B.exec
  have hb := B.bytes
  have hr := B.returns
  have hts := atoms_spec (ws := wsX4_leave) B.pre
  have hown : s.vm.findClass RX4 = some m.cls := findClass_of_methodNamed B.named
  have hlocks := B.notSynchronized
  subst hsz
  have hD := hD0.self (sz := s.heap.size)
  clear hD0
  generalize hAe : va_A (wB cA ad τ ++ rest) s.heap.size = A at hD ⊢
  have hA : ∀ q : Nat, s.heap.size ≤ q → A q := fun q h => by rw [← hAe]; exact Or.inr h
  clear hAe
  have hS : va_S A s.heap s.heap [] := va_S.rf
  have hP : va_P D vwCl (wB cA ad τ ++ rest) s.heap := hP
  have hl := lv_entry ([.ref (ad 100), .ref (ad (i + 6)), .int way]) (n := 4) (Nat.le_of_ble_eq_true rfl)
  rw [lg_entry_eq]
  generalize (lg_sl ([.ref (ad 100), .ref (ad (i + 6)), .int way]) ++ List.replicate (4 - (lg_sl ([.ref (ad 100), .ref (ad (i + 6)), .int way])).length) Slot.unset).toArray = ls at hl ⊢
  have hl : lv_has ls 4 [(0, .ref (ad 100)), (1, .ref (ad (i + 6))), (2, .int way)] := hl
  have nX4 : ∀ w ∈ u_ws RX4 TX4 3, w ∈ wsX4_leave := by decide +kernel
  have nX5 : ∀ w ∈ u_ws RX5 TX5 14, w ∈ wsX4_leave := by decide +kernel
  have nX7 : ∀ w ∈ u_ws RX7 TX7 17, w ∈ wsX4_leave := by decide +kernel
  have k15 := hts (.fieldLink RX4 15 "ScopeRow$Runner" "state" "LScopeRow$State;") (by decide +kernel)
  have k142 := hts (.fieldLink RX4 142 "ScopeRow$Task" "top" "I") (by decide +kernel)
  have k282 := hts (.fieldLink RX4 282 "ScopeRow$Scope" "state" "I") (by decide +kernel)
  have k284 := hts (.fieldLink RX4 284 "ScopeRow$Scope" "leavingFor" "I") (by decide +kernel)
  have k287 := hts (.fieldLink RX4 287 "ScopeRow$Scope" "over" "I") (by decide +kernel)
  have k208 := hts (.fieldLink RX4 208 "ScopeRow$Scope" "entered" "I") (by decide +kernel)
  have k196 := hts (.fieldLink RX4 196 "ScopeRow$Scope" "number" "I") (by decide +kernel)
  refine lv_aload_n hx hb dX4_leave_0 rfl (lv_at hl 0 rfl) ?_
  refine va_get (D := D) (C := RX4) (T := TX4) (N := 3) (ci := 4) (v := .ref (ad 0)) hx hb hts nX4 hown hK hP 100 w_ru rfl 1 (by decide) k15 (fun _ h9 => h9) rfl dX4_leave_1 ?_
  refine lv_aload_n hx hb dX4_leave_4 rfl (lv_at hl 1 rfl) ?_
  refine va_get (D := D) (C := RX7) (T := TX7) (N := 17) (ci := 7) (v := .int (τ (i + 6) 7)) hx hb hts nX7 hown hK hP (i + 6) (w_tk hi) rfl 7 (by decide) k142 (fun _ h9 => h9) rfl dX4_leave_5 ?_
  refine x_Vq (As := [.int (τ (i + 6) 7)]) (rest0 := []) ⟨hx, hb, hml, hown, hts⟩ (c_X6_scopeAt l D cA ad tr rest s.heap.size τ (τ (i + 6) 7)) (cwV 1 hts gX4_leave_X6_scopeAt rfl rfl rfl (by decide +kernel) ⟨Nat.le_of_ble_eq_true rfl, Nat.le_of_ble_eq_true rfl⟩) hK hP hD hS hA 0 w_st rfl hl.1 rfl rfl (Nat.le_of_ble_eq_true rfl) ⟨Nat.zero_le _, Nat.zero_le _⟩ dX4_leave_8 (fun r1 _ H locs hw hP hD hS => ?_)
  have er1 := hw
  subst er1
  rcases hi2 : m_at (τ (i + 6) 7) 40 with _ | i2
  · refine W.eq (g2 := F0 m 11 ls [.null]) rfl ?_
    refine lv_astore_nN (lv' := [(3, .null), (0, .ref (ad 100)), (1, .ref (ad (i + 6))), (2, .int way)]) hx hb dX4_leave_11 rfl hl (by decide) rfl (fun ls hl => ?_)
    refine lv_aload_nN hx hb dX4_leave_12 rfl (lv_at hl 0 rfl) ?_
    refine lv_ifnonnullN hx hb dX4_leave_13 ?_
    refine lv_aload_n hx hb dX4_leave_16 rfl (lv_at hl 1 rfl) ?_
    refine lv_aload_n hx hb dX4_leave_17 rfl (lv_at hl 2 rfl) ?_
    refine lv_iload_n hx hb dX4_leave_18 rfl (lv_at hl 3 rfl) ?_
    refine x_Vv (As := [.ref (ad (i + 6)), .int way]) (rest0 := []) ⟨hx, hb, hml, hown, hts⟩ (c_X4_endTask l D cA ad tr rest H.size τ i hi way) (cwV 2 hts gX4_leave_X4_endTask rfl rfl rfl (by decide +kernel) ⟨Nat.le_of_ble_eq_true rfl, Nat.le_of_ble_eq_true rfl⟩) hK hP hD hS hA 100 w_ru rfl hl.1 rfl rfl (Nat.le_of_ble_eq_true rfl) ⟨Nat.zero_le _, Nat.zero_le _⟩ dX4_leave_19 (fun τ3 H locs hw hP hD hS => ?_)
    have eτ3 := hw
    refine lv_bipush (v := (-4)) hx hb dX4_leave_22 (by decide) ?_
    exact x_iret hx hb hr hlocks hK τ3 hP hD hS dX4_leave_24 (by subst eτ3; simp [m_leave, n24, n40, n2, n27, n4, hi2])
  · have bi2 := m_at_lt hi2 (by decide)
    refine W.eq (g2 := F0 m 11 ls [.ref (ad (i2 + 54))]) rfl ?_
    refine lv_astore_n (lv' := [(3, .ref (ad (i2 + 54))), (0, .ref (ad 100)), (1, .ref (ad (i + 6))), (2, .int way)]) hx hb dX4_leave_11 rfl hl (by decide) rfl (fun ls hl => ?_)
    refine lv_aload_n hx hb dX4_leave_12 rfl (lv_at hl 0 rfl) ?_
    refine lv_ifnonnull (tgt := 25) hx hb dX4_leave_13 (by decide) ?_
    refine lv_iload_n hx hb dX4_leave_25 rfl (lv_at hl 3 rfl) ?_
    refine lv_if_le (tgt := 38) hx hb dX4_leave_26 (by decide) (fun c_26_4 => ?_) (fun c_26_4 => ?_)
    -- 26 jumps
    · skip
      refine lv_aload_n hx hb dX4_leave_38 rfl (lv_at hl 0 rfl) ?_
      refine lv_iconst (v := 1) hx hb dX4_leave_39 (by decide) ?_
      refine p_sc hx hb hts nX5 hown hK hP hD hS bi2 1 (by decide) (by decide) k282 (fun _ h9 => h9) rfl rfl rfl dX4_leave_40 (fun τ5 H locs eτ5 hP hD hS => ?_)
      refine lv_aload_n hx hb dX4_leave_43 rfl (lv_at hl 0 rfl) ?_
      refine lv_iload_n hx hb dX4_leave_44 rfl (lv_at hl 3 rfl) ?_
      refine p_sc hx hb hts nX5 hown hK hP hD hS bi2 9 (by decide) (by decide) k284 (fun _ h9 => h9) rfl rfl rfl dX4_leave_45 (fun τ6 H locs eτ6 hP hD hS => ?_)
      refine lv_aload_n hx hb dX4_leave_48 rfl (lv_at hl 0 rfl) ?_
      refine va_get (D := D) (C := RX5) (T := TX5) (N := 14) (ci := 5) (v := .int (τ6 (i2 + 54) 11)) hx hb hts nX5 hown hK hP (i2 + 54) (w_sc bi2) rfl 11 (by decide) k287 (fun _ h9 => h9) rfl dX4_leave_49 ?_
      refine lv_aload_n hx hb dX4_leave_52 rfl (lv_at hl 0 rfl) ?_
      refine va_get (D := D) (C := RX5) (T := TX5) (N := 14) (ci := 5) (v := .int (τ6 (i2 + 54) 10)) hx hb hts nX5 hown hK hP (i2 + 54) (w_sc bi2) rfl 10 (by decide) k208 (fun _ h9 => h9) rfl dX4_leave_53 ?_
      refine lv_icmp_ge (tgt := 75) hx hb dX4_leave_56 (by decide) (fun c_56_7 => ?_) (fun c_56_7 => ?_)
      -- 56 jumps
      · skip
        refine lv_aload_n hx hb dX4_leave_75 rfl (lv_at hl 0 rfl) ?_
        refine lv_iconst (v := 2) hx hb dX4_leave_76 (by decide) ?_
        refine p_sc hx hb hts nX5 hown hK hP hD hS bi2 1 (by decide) (by decide) k282 (fun _ h9 => h9) rfl rfl rfl dX4_leave_77 (fun τ8 H locs eτ8 hP hD hS => ?_)
        refine lv_aload_n hx hb dX4_leave_80 rfl (lv_at hl 1 rfl) ?_
        refine lv_aload_n hx hb dX4_leave_81 rfl (lv_at hl 2 rfl) ?_
        refine x_Vi (As := [.ref (ad (i + 6))]) (rest0 := []) ⟨hx, hb, hml, hown, hts⟩ (c_X4_takeOffScope l D cA ad tr rest H.size τ8 i hi) (cwV 1 hts gX4_leave_X4_takeOffScope rfl rfl rfl (by decide +kernel) ⟨Nat.le_of_ble_eq_true rfl, Nat.le_of_ble_eq_true rfl⟩) hK hP hD hS hA 100 w_ru rfl hl.1 rfl rfl (Nat.le_of_ble_eq_true rfl) ⟨Nat.zero_le _, Nat.zero_le _⟩ dX4_leave_82 (fun r9 τ10 H locs hw hP hD hS => ?_)
        obtain ⟨er9, eτ10⟩ := hw
        exact x_iret hx hb hr hlocks hK τ10 hP hD hS dX4_leave_85 (by subst er9 eτ10 eτ8 eτ6 eτ5; simp [m_leave, n24, n40, n2, n27, n4, hi2, eq_true c_26_4, eq_true c_56_7])
      -- 56 goes on
      · skip
        refine lv_aload_n hx hb dX4_leave_59 rfl (lv_at hl 1 rfl) ?_
        refine va_get (D := D) (C := RX4) (T := TX4) (N := 3) (ci := 4) (v := .ref (ad 0)) hx hb hts nX4 hown hK hP 100 w_ru rfl 1 (by decide) k15 (fun _ h9 => h9) rfl dX4_leave_60 ?_
        refine lv_aload_n hx hb dX4_leave_63 rfl (lv_at hl 2 rfl) ?_
        refine lv_iconst (v := 5) hx hb dX4_leave_64 (by decide) ?_
        refine lv_aload_n hx hb dX4_leave_65 rfl (lv_at hl 0 rfl) ?_
        refine va_get (D := D) (C := RX5) (T := TX5) (N := 14) (ci := 5) (v := .int (nI i2)) hx hb hts nX5 hown hK hP (i2 + 54) (w_sc bi2) rfl 0 (by decide) k196 (fun _ h9 => h9) rfl dX4_leave_66 ?_
        refine x_Vv (As := [.ref (ad (i + 6)), .int 5, .int (nI i2)]) (rest0 := []) ⟨hx, hb, hml, hown, hts⟩ (c_X6_beginWait l D cA ad tr rest H.size τ6 i hi 5 (nI i2)) (cwV 3 hts gX4_leave_X6_beginWait rfl rfl rfl (by decide +kernel) ⟨Nat.le_of_ble_eq_true rfl, Nat.le_of_ble_eq_true rfl⟩) hK hP hD hS hA 0 w_st rfl hl.1 rfl rfl (Nat.le_of_ble_eq_true rfl) ⟨Nat.zero_le _, Nat.zero_le _⟩ dX4_leave_69 (fun τ11 H locs hw hP hD hS => ?_)
        have eτ11 := hw
        refine lv_bipush (v := (-4)) hx hb dX4_leave_72 (by decide) ?_
        exact x_iret hx hb hr hlocks hK τ11 hP hD hS dX4_leave_74 (by subst eτ11 eτ6 eτ5; simp [m_leave, n24, n40, n2, n27, n4, hi2, eq_true c_26_4, c_56_7])
    -- 26 goes on
    · skip
      refine lv_aload_n hx hb dX4_leave_29 rfl (lv_at hl 1 rfl) ?_
      refine va_get (D := D) (C := RX4) (T := TX4) (N := 3) (ci := 4) (v := .ref (ad 0)) hx hb hts nX4 hown hK hP 100 w_ru rfl 1 (by decide) k15 (fun _ h9 => h9) rfl dX4_leave_30 ?_
      refine lv_aload_n hx hb dX4_leave_33 rfl (lv_at hl 0 rfl) ?_
      refine x_Vi (As := [.ref (ad (i2 + 54))]) (rest0 := []) ⟨hx, hb, hml, hown, hts⟩ (c_X6_cancelScope l D cA ad tr rest H.size τ i2 bi2) (cwV 1 hts gX4_leave_X6_cancelScope rfl rfl rfl (by decide +kernel) ⟨Nat.le_of_ble_eq_true rfl, Nat.le_of_ble_eq_true rfl⟩) hK hP hD hS hA 0 w_st rfl hl.1 rfl rfl (Nat.le_of_ble_eq_true rfl) ⟨Nat.zero_le _, Nat.zero_le _⟩ dX4_leave_34 (fun r12 τ13 H locs hw hP hD hS => ?_)
      obtain ⟨er12, eτ13⟩ := hw
      refine lv_pop hx hb dX4_leave_37 rfl ?_
      refine lv_aload_n hx hb dX4_leave_38 rfl (lv_at hl 0 rfl) ?_
      refine lv_iconst (v := 1) hx hb dX4_leave_39 (by decide) ?_
      refine p_sc hx hb hts nX5 hown hK hP hD hS bi2 1 (by decide) (by decide) k282 (fun _ h9 => h9) rfl rfl rfl dX4_leave_40 (fun τ14 H locs eτ14 hP hD hS => ?_)
      refine lv_aload_n hx hb dX4_leave_43 rfl (lv_at hl 0 rfl) ?_
      refine lv_iload_n hx hb dX4_leave_44 rfl (lv_at hl 3 rfl) ?_
      refine p_sc hx hb hts nX5 hown hK hP hD hS bi2 9 (by decide) (by decide) k284 (fun _ h9 => h9) rfl rfl rfl dX4_leave_45 (fun τ15 H locs eτ15 hP hD hS => ?_)
      refine lv_aload_n hx hb dX4_leave_48 rfl (lv_at hl 0 rfl) ?_
      refine va_get (D := D) (C := RX5) (T := TX5) (N := 14) (ci := 5) (v := .int (τ15 (i2 + 54) 11)) hx hb hts nX5 hown hK hP (i2 + 54) (w_sc bi2) rfl 11 (by decide) k287 (fun _ h9 => h9) rfl dX4_leave_49 ?_
      refine lv_aload_n hx hb dX4_leave_52 rfl (lv_at hl 0 rfl) ?_
      refine va_get (D := D) (C := RX5) (T := TX5) (N := 14) (ci := 5) (v := .int (τ15 (i2 + 54) 10)) hx hb hts nX5 hown hK hP (i2 + 54) (w_sc bi2) rfl 10 (by decide) k208 (fun _ h9 => h9) rfl dX4_leave_53 ?_
      refine lv_icmp_ge (tgt := 75) hx hb dX4_leave_56 (by decide) (fun c_56_16 => ?_) (fun c_56_16 => ?_)
      -- 56 jumps
      · skip
        refine lv_aload_n hx hb dX4_leave_75 rfl (lv_at hl 0 rfl) ?_
        refine lv_iconst (v := 2) hx hb dX4_leave_76 (by decide) ?_
        refine p_sc hx hb hts nX5 hown hK hP hD hS bi2 1 (by decide) (by decide) k282 (fun _ h9 => h9) rfl rfl rfl dX4_leave_77 (fun τ17 H locs eτ17 hP hD hS => ?_)
        refine lv_aload_n hx hb dX4_leave_80 rfl (lv_at hl 1 rfl) ?_
        refine lv_aload_n hx hb dX4_leave_81 rfl (lv_at hl 2 rfl) ?_
        refine x_Vi (As := [.ref (ad (i + 6))]) (rest0 := []) ⟨hx, hb, hml, hown, hts⟩ (c_X4_takeOffScope l D cA ad tr rest H.size τ17 i hi) (cwV 1 hts gX4_leave_X4_takeOffScope rfl rfl rfl (by decide +kernel) ⟨Nat.le_of_ble_eq_true rfl, Nat.le_of_ble_eq_true rfl⟩) hK hP hD hS hA 100 w_ru rfl hl.1 rfl rfl (Nat.le_of_ble_eq_true rfl) ⟨Nat.zero_le _, Nat.zero_le _⟩ dX4_leave_82 (fun r18 τ19 H locs hw hP hD hS => ?_)
        obtain ⟨er18, eτ19⟩ := hw
        exact x_iret hx hb hr hlocks hK τ19 hP hD hS dX4_leave_85 (by subst er18 eτ19 eτ17 eτ15 eτ14 er12 eτ13; simp [m_leave, n24, n40, n2, n27, n4, hi2, c_26_4, eq_true c_56_16])
      -- 56 goes on
      · skip
        refine lv_aload_n hx hb dX4_leave_59 rfl (lv_at hl 1 rfl) ?_
        refine va_get (D := D) (C := RX4) (T := TX4) (N := 3) (ci := 4) (v := .ref (ad 0)) hx hb hts nX4 hown hK hP 100 w_ru rfl 1 (by decide) k15 (fun _ h9 => h9) rfl dX4_leave_60 ?_
        refine lv_aload_n hx hb dX4_leave_63 rfl (lv_at hl 2 rfl) ?_
        refine lv_iconst (v := 5) hx hb dX4_leave_64 (by decide) ?_
        refine lv_aload_n hx hb dX4_leave_65 rfl (lv_at hl 0 rfl) ?_
        refine va_get (D := D) (C := RX5) (T := TX5) (N := 14) (ci := 5) (v := .int (nI i2)) hx hb hts nX5 hown hK hP (i2 + 54) (w_sc bi2) rfl 0 (by decide) k196 (fun _ h9 => h9) rfl dX4_leave_66 ?_
        refine x_Vv (As := [.ref (ad (i + 6)), .int 5, .int (nI i2)]) (rest0 := []) ⟨hx, hb, hml, hown, hts⟩ (c_X6_beginWait l D cA ad tr rest H.size τ15 i hi 5 (nI i2)) (cwV 3 hts gX4_leave_X6_beginWait rfl rfl rfl (by decide +kernel) ⟨Nat.le_of_ble_eq_true rfl, Nat.le_of_ble_eq_true rfl⟩) hK hP hD hS hA 0 w_st rfl hl.1 rfl rfl (Nat.le_of_ble_eq_true rfl) ⟨Nat.zero_le _, Nat.zero_le _⟩ dX4_leave_69 (fun τ20 H locs hw hP hD hS => ?_)
        have eτ20 := hw
        refine lv_bipush (v := (-4)) hx hb dX4_leave_72 (by decide) ?_
        exact x_iret hx hb hr hlocks hK τ20 hP hD hS dX4_leave_74 (by subst eτ20 eτ15 eτ14 er12 eτ13; simp [m_leave, n24, n40, n2, n27, n4, hi2, c_26_4, c_56_16])

set_option maxHeartbeats 4000000 in
set_option maxRecDepth 100000 in
theorem c_X4_beginTurn (l : Launch) (D : va_G) (cA : Nat → ClassId) (ad : Nat → Nat) (tr : List (ClassId × FieldType)) (rest : va_W) (sz : Nat) (τ : Sg) (i : Nat) (hi : i < 24) : Met l yX4_beginTurn wsX4_beginTurn ({ frames := 3, cells := 0, slots := 0, locals := 75 }) (va_Pc [.ref (ad 100), .ref (ad (i + 6))] (inW D (tyB cA ++ tr) (wB cA ad τ ++ rest) sz)) (va_Qi (fun (r : Int32) (u : Sg) => r = (m_beginTurn τ i).2 ∧ u = (m_beginTurn τ i).1) (fun u : Sg => outW D (tyB cA ++ tr) (va_A (wB cA ad τ ++ rest) sz) (wB cA ad u ++ rest)) (va_A (wB cA ad τ ++ rest) sz)) 0 0 (va_A (wB cA ad τ ++ rest) sz) := by
  refine Met.ofW (cc := cX4_beginTurn) (maxL := 3) (ret := (some .int)) (by decide) rfl ?_
  intro p e s m args below meth c s₁ B hml hv
  obtain ⟨rfl, hsz, hP, hK, hD0⟩ := hv
  have hx := B.exec
  have hb := B.bytes
  have hr := B.returns
  have hts := atoms_spec (ws := wsX4_beginTurn) B.pre
  have hown : s.vm.findClass RX4 = some m.cls := findClass_of_methodNamed B.named
  have hlocks := B.notSynchronized
  subst hsz
  have hD := hD0.self (sz := s.heap.size)
  clear hD0
  generalize hAe : va_A (wB cA ad τ ++ rest) s.heap.size = A at hD ⊢
  have hA : ∀ q : Nat, s.heap.size ≤ q → A q := fun q h => by rw [← hAe]; exact Or.inr h
  clear hAe
  have hS : va_S A s.heap s.heap [] := va_S.rf
  have hP : va_P D vwCl (wB cA ad τ ++ rest) s.heap := hP
  have hl := lv_entry ([.ref (ad 100), .ref (ad (i + 6))]) (n := 3) (Nat.le_of_ble_eq_true rfl)
  rw [lg_entry_eq]
  generalize (lg_sl ([.ref (ad 100), .ref (ad (i + 6))]) ++ List.replicate (3 - (lg_sl ([.ref (ad 100), .ref (ad (i + 6))])).length) Slot.unset).toArray = ls at hl ⊢
  have hl : lv_has ls 3 [(0, .ref (ad 100)), (1, .ref (ad (i + 6)))] := hl
  have nX4 : ∀ w ∈ u_ws RX4 TX4 3, w ∈ wsX4_beginTurn := by decide +kernel
  have nX7 : ∀ w ∈ u_ws RX7 TX7 17, w ∈ wsX4_beginTurn := by decide +kernel
  have k43 := hts (.fieldLink RX4 43 "ScopeRow$Task" "behind" "I") (by decide +kernel)
  have k15 := hts (.fieldLink RX4 15 "ScopeRow$Runner" "state" "LScopeRow$State;") (by decide +kernel)
  have k59 := hts (.fieldLink RX4 59 "ScopeRow$Task" "fault" "I") (by decide +kernel)
  have k62 := hts (.fieldLink RX4 62 "ScopeRow$Task" "value" "I") (by decide +kernel)
  have k65 := hts (.fieldLink RX4 65 "ScopeRow$Task" "there" "I") (by decide +kernel)
  have k68 := hts (.fieldLink RX4 68 "ScopeRow$Task" "picks" "Z") (by decide +kernel)
  have k72 := hts (.fieldLink RX4 72 "ScopeRow$Task" "target" "I") (by decide +kernel)
  refine lv_aload_n hx hb dX4_beginTurn_0 rfl (lv_at hl 1 rfl) ?_
  refine va_get (D := D) (C := RX7) (T := TX7) (N := 17) (ci := 7) (v := .int (τ (i + 6) 9)) hx hb hts nX7 hown hK hP (i + 6) (w_tk hi) rfl 9 (by decide) k43 (fun _ h9 => h9) rfl dX4_beginTurn_1 ?_
  refine lv_topi (fun x1 ex1 => ?_)
  refine lv_istore_n (lv' := [(2, .int x1), (0, .ref (ad 100)), (1, .ref (ad (i + 6)))]) hx hb dX4_beginTurn_4 rfl hl (by decide) rfl (fun ls hl => ?_)
  refine lv_iload_n hx hb dX4_beginTurn_5 rfl (lv_at hl 0 rfl) ?_
  refine lv_if_ne (tgt := 11) hx hb dX4_beginTurn_6 (by decide) (fun c_6_2 => ?_) (fun c_6_2 => ?_)
  -- 6 jumps
  · skip
    refine lv_iload_n hx hb dX4_beginTurn_11 rfl (lv_at hl 0 rfl) ?_
    refine lv_iconst (v := 5) hx hb dX4_beginTurn_12 (by decide) ?_
    refine lv_icmp_ne (tgt := 22) hx hb dX4_beginTurn_13 (by decide) (fun c_13_3 => ?_) (fun c_13_3 => ?_)
    -- 13 jumps
    · skip
      refine lv_aload_n hx hb dX4_beginTurn_22 rfl (lv_at hl 1 rfl) ?_
      refine va_get (D := D) (C := RX4) (T := TX4) (N := 3) (ci := 4) (v := .ref (ad 0)) hx hb hts nX4 hown hK hP 100 w_ru rfl 1 (by decide) k15 (fun _ h9 => h9) rfl dX4_beginTurn_23 ?_
      refine lv_aload_n hx hb dX4_beginTurn_26 rfl (lv_at hl 2 rfl) ?_
      refine lv_iconst (v := (-1)) hx hb dX4_beginTurn_27 (by decide) ?_
      refine x_Vi (As := [.ref (ad (i + 6)), .int (-1)]) (rest0 := []) ⟨hx, hb, hml, hown, hts⟩ (c_X6_isHit l D cA ad tr rest s.heap.size τ i hi (-1)) (cwV 2 hts gX4_beginTurn_X6_isHit rfl rfl rfl (by decide +kernel) ⟨Nat.le_of_ble_eq_true rfl, Nat.le_of_ble_eq_true rfl⟩) hK hP hD hS hA 0 w_st rfl hl.1 rfl rfl (Nat.le_of_ble_eq_true rfl) ⟨Nat.zero_le _, Nat.zero_le _⟩ dX4_beginTurn_28 (fun r4 _ H locs hw hP hD hS => ?_)
      have er4 := hw
      refine lv_if_eq (tgt := 46) hx hb dX4_beginTurn_31 (by decide) (fun c_31_5 => ?_) (fun c_31_5 => ?_)
      -- 31 jumps
      · skip
        have dc_31_5 := bI_f er4 c_31_5
        refine lv_aload_n hx hb dX4_beginTurn_46 rfl (lv_at hl 2 rfl) ?_
        refine va_get (D := D) (C := RX7) (T := TX7) (N := 17) (ci := 7) (v := .int (τ (i + 6) 15)) hx hb hts nX7 hown hK hP (i + 6) (w_tk hi) rfl 15 (by decide) k59 (fun _ h9 => h9) rfl dX4_beginTurn_47 ?_
        refine lv_if_le (tgt := 58) hx hb dX4_beginTurn_50 (by decide) (fun c_50_6 => ?_) (fun c_50_6 => ?_)
        -- 50 jumps
        · skip
          refine lv_iload_n hx hb dX4_beginTurn_58 rfl (lv_at hl 0 rfl) ?_
          refine lv_iconst (v := 4) hx hb dX4_beginTurn_59 (by decide) ?_
          refine lv_icmp_ne (tgt := 87) hx hb dX4_beginTurn_60 (by decide) (fun c_60_7 => ?_) (fun c_60_7 => ?_)
          -- 60 jumps
          · skip
            refine lv_aload_n hx hb dX4_beginTurn_87 rfl (lv_at hl 1 rfl) ?_
            refine lv_aload_n hx hb dX4_beginTurn_88 rfl (lv_at hl 2 rfl) ?_
            refine x_Vi (As := [.ref (ad (i + 6))]) (rest0 := []) ⟨hx, hb, hml, hown, hts⟩ (c_X4_next l D cA ad tr rest H.size τ i hi) (cwV 1 hts gX4_beginTurn_X4_next rfl rfl rfl (by decide +kernel) ⟨Nat.le_of_ble_eq_true rfl, Nat.le_of_ble_eq_true rfl⟩) hK hP hD hS hA 100 w_ru rfl hl.1 rfl rfl (Nat.le_of_ble_eq_true rfl) ⟨Nat.zero_le _, Nat.zero_le _⟩ dX4_beginTurn_89 (fun r8 τ9 H locs hw hP hD hS => ?_)
            obtain ⟨er8, eτ9⟩ := hw
            exact x_iret hx hb hr hlocks hK τ9 hP hD hS dX4_beginTurn_92 (by subst er8 eτ9 er4 ex1; simp [m_beginTurn, n24, n40, n2, n27, n4, c_6_2, c_13_3, dc_31_5, eq_true c_50_6, c_60_7])
          -- 60 goes on
          · skip
            refine lv_aload_n hx hb dX4_beginTurn_63 rfl (lv_at hl 2 rfl) ?_
            refine lv_aload_n hx hb dX4_beginTurn_64 rfl (lv_at hl 2 rfl) ?_
            refine va_get (D := D) (C := RX7) (T := TX7) (N := 17) (ci := 7) (v := .int (τ (i + 6) 13)) hx hb hts nX7 hown hK hP (i + 6) (w_tk hi) rfl 13 (by decide) k62 (fun _ h9 => h9) rfl dX4_beginTurn_65 ?_
            refine p_tk hx hb hts nX7 hown hK hP hD hS hi 5 (by decide) (by decide) k65 (fun _ h9 => h9) rfl rfl rfl dX4_beginTurn_68 (fun τ10 H locs eτ10 hP hD hS => ?_)
            refine lv_aload_n hx hb dX4_beginTurn_71 rfl (lv_at hl 2 rfl) ?_
            refine va_get (D := D) (C := RX7) (T := TX7) (N := 17) (ci := 7) (v := .int (τ10 (i + 6) 11)) hx hb hts nX7 hown hK hP (i + 6) (w_tk hi) rfl 11 (by decide) k68 (fun _ h9 => h9) rfl dX4_beginTurn_72 ?_
            refine lv_if_eq (tgt := 87) hx hb dX4_beginTurn_75 (by decide) (fun c_75_11 => ?_) (fun c_75_11 => ?_)
            -- 75 jumps
            · skip
              refine lv_aload_n hx hb dX4_beginTurn_87 rfl (lv_at hl 1 rfl) ?_
              refine lv_aload_n hx hb dX4_beginTurn_88 rfl (lv_at hl 2 rfl) ?_
              refine x_Vi (As := [.ref (ad (i + 6))]) (rest0 := []) ⟨hx, hb, hml, hown, hts⟩ (c_X4_next l D cA ad tr rest H.size τ10 i hi) (cwV 1 hts gX4_beginTurn_X4_next rfl rfl rfl (by decide +kernel) ⟨Nat.le_of_ble_eq_true rfl, Nat.le_of_ble_eq_true rfl⟩) hK hP hD hS hA 100 w_ru rfl hl.1 rfl rfl (Nat.le_of_ble_eq_true rfl) ⟨Nat.zero_le _, Nat.zero_le _⟩ dX4_beginTurn_89 (fun r12 τ13 H locs hw hP hD hS => ?_)
              obtain ⟨er12, eτ13⟩ := hw
              exact x_iret hx hb hr hlocks hK τ13 hP hD hS dX4_beginTurn_92 (by subst er12 eτ13 eτ10 er4 ex1; simp [m_beginTurn, n24, n40, n2, n27, n4, c_6_2, c_13_3, dc_31_5, eq_true c_50_6, eq_true c_60_7, eq_true c_75_11])
            -- 75 goes on
            · skip
              refine lv_aload_n hx hb dX4_beginTurn_78 rfl (lv_at hl 2 rfl) ?_
              refine lv_iconst (v := 3) hx hb dX4_beginTurn_79 (by decide) ?_
              refine lv_aload_n hx hb dX4_beginTurn_80 rfl (lv_at hl 2 rfl) ?_
              refine va_get (D := D) (C := RX7) (T := TX7) (N := 17) (ci := 7) (v := .int (τ10 (i + 6) 10)) hx hb hts nX7 hown hK hP (i + 6) (w_tk hi) rfl 10 (by decide) k72 (fun _ h9 => h9) rfl dX4_beginTurn_81 ?_
              refine x_Vv (As := [.int 3, .int (τ10 (i + 6) 10)]) (rest0 := []) ⟨hx, hb, hml, hown, hts⟩ (c_X7_putLocal l D cA ad tr rest H.size τ10 i hi 3 (τ10 (i + 6) 10)) (cwV 2 hts gX4_beginTurn_X7_putLocal rfl rfl rfl (by decide +kernel) ⟨Nat.le_of_ble_eq_true rfl, Nat.le_of_ble_eq_true rfl⟩) hK hP hD hS hA (i + 6) (w_tk hi) rfl hl.1 rfl rfl (Nat.le_of_ble_eq_true rfl) ⟨Nat.zero_le _, Nat.zero_le _⟩ dX4_beginTurn_84 (fun τ14 H locs hw hP hD hS => ?_)
              have eτ14 := hw
              refine lv_aload_n hx hb dX4_beginTurn_87 rfl (lv_at hl 1 rfl) ?_
              refine lv_aload_n hx hb dX4_beginTurn_88 rfl (lv_at hl 2 rfl) ?_
              refine x_Vi (As := [.ref (ad (i + 6))]) (rest0 := []) ⟨hx, hb, hml, hown, hts⟩ (c_X4_next l D cA ad tr rest H.size τ14 i hi) (cwV 1 hts gX4_beginTurn_X4_next rfl rfl rfl (by decide +kernel) ⟨Nat.le_of_ble_eq_true rfl, Nat.le_of_ble_eq_true rfl⟩) hK hP hD hS hA 100 w_ru rfl hl.1 rfl rfl (Nat.le_of_ble_eq_true rfl) ⟨Nat.zero_le _, Nat.zero_le _⟩ dX4_beginTurn_89 (fun r15 τ16 H locs hw hP hD hS => ?_)
              obtain ⟨er15, eτ16⟩ := hw
              exact x_iret hx hb hr hlocks hK τ16 hP hD hS dX4_beginTurn_92 (by subst er15 eτ16 eτ14 eτ10 er4 ex1; simp [m_beginTurn, n24, n40, n2, n27, n4, c_6_2, c_13_3, dc_31_5, eq_true c_50_6, eq_true c_60_7, c_75_11])
        -- 50 goes on
        · skip
          refine lv_aload_n hx hb dX4_beginTurn_53 rfl (lv_at hl 2 rfl) ?_
          refine va_get (D := D) (C := RX7) (T := TX7) (N := 17) (ci := 7) (v := .int (τ (i + 6) 15)) hx hb hts nX7 hown hK hP (i + 6) (w_tk hi) rfl 15 (by decide) k59 (fun _ h9 => h9) rfl dX4_beginTurn_54 ?_
          exact x_iret hx hb hr hlocks hK τ hP hD hS dX4_beginTurn_57 (by subst er4 ex1; simp [m_beginTurn, n24, n40, n2, n27, n4, c_6_2, c_13_3, dc_31_5, c_50_6])
      -- 31 goes on
      · skip
        have dc_31_5 := bI_t er4 c_31_5
        refine lv_aload_n hx hb dX4_beginTurn_34 rfl (lv_at hl 1 rfl) ?_
        refine va_get (D := D) (C := RX4) (T := TX4) (N := 3) (ci := 4) (v := .ref (ad 0)) hx hb hts nX4 hown hK hP 100 w_ru rfl 1 (by decide) k15 (fun _ h9 => h9) rfl dX4_beginTurn_35 ?_
        refine lv_aload_n hx hb dX4_beginTurn_38 rfl (lv_at hl 2 rfl) ?_
        refine lv_iload_n hx hb dX4_beginTurn_39 rfl (lv_at hl 0 rfl) ?_
        refine x_Vv (As := [.ref (ad (i + 6)), .int x1]) (rest0 := []) ⟨hx, hb, hml, hown, hts⟩ (c_X6_giveBack l D cA ad tr rest H.size τ i hi x1) (cwV 2 hts gX4_beginTurn_X6_giveBack rfl rfl rfl (by decide +kernel) ⟨Nat.le_of_ble_eq_true rfl, Nat.le_of_ble_eq_true rfl⟩) hK hP hD hS hA 0 w_st rfl hl.1 rfl rfl (Nat.le_of_ble_eq_true rfl) ⟨Nat.zero_le _, Nat.zero_le _⟩ dX4_beginTurn_40 (fun τ17 H locs hw hP hD hS => ?_)
        have eτ17 := hw
        refine lv_bipush (v := (-3)) hx hb dX4_beginTurn_43 (by decide) ?_
        exact x_iret hx hb hr hlocks hK τ17 hP hD hS dX4_beginTurn_45 (by subst eτ17 er4 ex1; simp [m_beginTurn, n24, n40, n2, n27, n4, c_6_2, c_13_3, dc_31_5])
    -- 13 goes on
    · skip
      refine lv_aload_n hx hb dX4_beginTurn_16 rfl (lv_at hl 1 rfl) ?_
      refine lv_aload_n hx hb dX4_beginTurn_17 rfl (lv_at hl 2 rfl) ?_
      refine x_Vi (As := [.ref (ad (i + 6))]) (rest0 := []) ⟨hx, hb, hml, hown, hts⟩ (c_X4_takeOffScope l D cA ad tr rest s.heap.size τ i hi) (cwV 1 hts gX4_beginTurn_X4_takeOffScope rfl rfl rfl (by decide +kernel) ⟨Nat.le_of_ble_eq_true rfl, Nat.le_of_ble_eq_true rfl⟩) hK hP hD hS hA 100 w_ru rfl hl.1 rfl rfl (Nat.le_of_ble_eq_true rfl) ⟨Nat.zero_le _, Nat.zero_le _⟩ dX4_beginTurn_18 (fun r18 τ19 H locs hw hP hD hS => ?_)
      obtain ⟨er18, eτ19⟩ := hw
      exact x_iret hx hb hr hlocks hK τ19 hP hD hS dX4_beginTurn_21 (by subst er18 eτ19 ex1; simp [m_beginTurn, n24, n40, n2, n27, n4, c_6_2, eq_true c_13_3])
  -- 6 goes on
  · skip
    refine lv_iconst (v := 0) hx hb dX4_beginTurn_9 (by decide) ?_
    exact x_iret hx hb hr hlocks hK τ hP hD hS dX4_beginTurn_10 (by subst ex1; simp [m_beginTurn, n24, n40, n2, n27, n4, eq_true c_6_2])
