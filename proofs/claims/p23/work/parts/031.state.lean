/-- behind a new CANCELLED: those who WAIT, not for a SCOPE, and are HIT, become READY, by their numbers -/
def m_wakeHit : Nat → Nat → Sg → Sg
  | 0, _, τ => τ
  | n + 1, j, τ => m_wakeHit n (j + 1) (if τ (j + 6) 3 = 1 then (if τ (j + 6) 9 = 5 then τ else if m_isHit τ j (-1) = true then m_makeReady τ j else τ) else τ)
def m_cancels (τ : Sg) (i : Nat) : Bool := if m_isLive τ i = true then (if τ (i + 54) 5 = 0 then true else false) else false
def m_cancelScope (τ : Sg) (i : Nat) : Sg := if m_isLive τ i = true then (if τ (i + 54) 5 = 0 then m_wakeHit 24 0 (up2 τ (i + 54) 5 1) else τ) else τ
def m_tickScopes : Nat → Nat → Sg → Sg
  | 0, _, τ => τ
  | n + 1, j, τ => m_tickScopes n (j + 1) (if m_isLive τ j = true then (if τ (j + 54) 7 = τ 0 8 then m_cancelScope τ j else τ) else τ)
def m_tickTasks : Nat → Nat → Sg → Sg
  | 0, _, τ => τ
  | n + 1, j, τ => m_tickTasks n (j + 1) (if m_waitsAt τ j 1 = true then (if τ (j + 6) 12 = τ 0 8 then m_makeReady τ j else τ) else τ)
def m_tickOnceW (τ : Sg) : Sg := m_tickTasks 24 0 (m_tickScopes 40 0 (up2 τ 0 8 (τ 0 8 + 1)))
theorem m_tickScopes_0 (j : Nat) (τ : Sg) : m_tickScopes 0 j τ = τ := rfl
theorem m_tickTasks_0 (j : Nat) (τ : Sg) : m_tickTasks 0 j τ = τ := rfl
theorem m_tickOnceW_of {τ σ σ2 : Sg} (e1 : σ = m_tickScopes 40 0 (up2 τ 0 8 (τ 0 8 + 1))) (e2 : σ2 = m_tickTasks 24 0 σ) : σ2 = m_tickOnceW τ := by rw [m_tickOnceW, ← e1, ← e2]
def m_tickOnce (τ : Sg) : Int32 := m_tickOnceW τ 0 7 - τ 0 7
def m_freeLock (τ : Sg) (i : Nat) : Sg :=
  let τ1 := up2 τ (i + 94) 1 (-1)
  match m_firstWaiting τ1 2 (nI i) with
  | none => τ1
  | some t => m_makeReady (up2 (m_giveTo τ1 i t) (t + 6) 14 1) t
def m_giveValue (τ : Sg) (t : Nat) (x v : Int32) : Sg := match m_at x 2 with
  | none => τ
  | some k =>
    let τ1 := up2 τ (t + 6) 13 v
    let τ2 := up2 τ1 (t + 6) 10 x
    let τ3 := up2 τ2 (t + 6) 14 1
    m_makeReady (up2 τ3 (k + 96) 4 (τ3 (k + 96) 4 + 1)) t
def m_hasValue (τ : Sg) (x : Int32) : Bool := match m_at x 2 with
  | none => false
  | some k => if 0 < τ (k + 96) 2 then true else match m_firstWaiting τ 3 x with
    | none => false
    | some _ => true
def m_allEnded (τ : Sg) : Bool := if τ (0 + 96) 3 = 0 then false else if τ (1 + 96) 3 = 0 then false else true
def m_makeTaskW (τ : Sg) (body inn : Int32) : Sg := match m_at (τ 0 1) 24 with
  | none => τ
  | some i =>
    let τ1 := up2 τ (i + 6) 2 body
    let τ2 := up2 τ1 (i + 6) 6 inn
    m_makeReady (up2 τ2 0 1 (τ2 0 1 + 1)) i
def m_makeTask (τ : Sg) : Int32 := match m_at (τ 0 1) 24 with
  | none => -1
  | some i => nI i

set_option maxHeartbeats 4000000 in
set_option maxRecDepth 100000 in
theorem c_X6_cancelScope (l : Launch) (D : va_G) (cA : Nat → ClassId) (ad : Nat → Nat) (tr : List (ClassId × FieldType)) (rest : va_W) (sz : Nat) (τ : Sg) (i : Nat) (hi : i < 40) : Met l yX6_cancelScope wsX6_cancelScope ({ frames := 1, cells := 0, slots := 0, locals := 25 }) (va_Pc [.ref (ad 0), .ref (ad (i + 54))] (inW D (tyB cA ++ tr) (wB cA ad τ ++ rest) sz)) (va_Qi (fun (r : Int32) (u : Sg) => r = bI (m_cancels τ i) ∧ u = m_cancelScope τ i) (fun u : Sg => outW D (tyB cA ++ tr) (va_A (wB cA ad τ ++ rest) sz) (wB cA ad u ++ rest)) (va_A (wB cA ad τ ++ rest) sz)) 0 0 (va_A (wB cA ad τ ++ rest) sz) := by
  refine Met.ofW (cc := cX6_cancelScope) (maxL := 6) (ret := (some .boolean)) (by decide) rfl ?_
  intro p e s m args below meth c s₁ B hml hv
  obtain ⟨rfl, hsz, hP, hK, hD0⟩ := hv
  have hx := B.exec
  have hb := B.bytes
  have hr := B.returns
  have hts := atoms_spec (ws := wsX6_cancelScope) B.pre
  have hown : s.vm.findClass RX6 = some m.cls := findClass_of_methodNamed B.named
  have hlocks := B.notSynchronized
  subst hsz
  have hD := hD0.self (sz := s.heap.size)
  clear hD0
  generalize hAe : va_A (wB cA ad τ ++ rest) s.heap.size = A at hD ⊢
  have hA : ∀ q : Nat, s.heap.size ≤ q → A q := fun q h => by rw [← hAe]; exact Or.inr h
  clear hAe
  have hS : va_S A s.heap s.heap [] := va_S.rf
  have hP : va_P D vwCl (wB cA ad τ ++ rest) s.heap := hP
  have hl := lv_entry ([.ref (ad 0), .ref (ad (i + 54))]) (n := 6) (Nat.le_of_ble_eq_true rfl)
  rw [lg_entry_eq]
  generalize (lg_sl ([.ref (ad 0), .ref (ad (i + 54))]) ++ List.replicate (6 - (lg_sl ([.ref (ad 0), .ref (ad (i + 54))])).length) Slot.unset).toArray = ls at hl ⊢
  have hl : lv_has ls 6 [(0, .ref (ad 0)), (1, .ref (ad (i + 54)))] := hl
  have nX5 : ∀ w ∈ u_ws RX5 TX5 14, w ∈ wsX6_cancelScope := by decide +kernel
  have nX6 : ∀ w ∈ u_ws RX6 TX6 12, w ∈ wsX6_cancelScope := by decide +kernel
  have nX7 : ∀ w ∈ u_ws RX7 TX7 17, w ∈ wsX6_cancelScope := by decide +kernel
  have k133 := hts (.fieldLink RX6 133 "ScopeRow$Scope" "cancelled" "Z") (by decide +kernel)
  have k11 := hts (.fieldLink RX6 11 "ScopeRow$State" "tasks" "[LScopeRow$Task;") (by decide +kernel)
  have k80 := hts (.fieldLink RX6 80 "ScopeRow$Task" "state" "I") (by decide +kernel)
  have k106 := hts (.fieldLink RX6 106 "ScopeRow$Task" "behind" "I") (by decide +kernel)
  refine lv_aload_n hx hb dX6_cancelScope_0 rfl (lv_at hl 1 rfl) ?_
  refine lv_ifnull hx hb dX6_cancelScope_1 ?_
  refine lv_aload_n hx hb dX6_cancelScope_4 rfl (lv_at hl 1 rfl) ?_
  refine x_Vi (As := []) (rest0 := []) ⟨hx, hb, hml, hown, hts⟩ (c_X5_isLive l D cA ad tr rest s.heap.size τ i hi) (cwV 0 hts gX6_cancelScope_X5_isLive rfl rfl rfl (by decide +kernel) ⟨Nat.le_of_ble_eq_true rfl, Nat.le_of_ble_eq_true rfl⟩) hK hP hD hS hA (i + 54) (w_sc hi) rfl hl.1 rfl rfl (by decide) ⟨Nat.zero_le _, Nat.zero_le _⟩ dX6_cancelScope_5 (fun r1 _ H locs hw hP hD hS => ?_)
  have er1 := hw
  refine lv_if_eq (tgt := 18) hx hb dX6_cancelScope_8 (by decide) (fun c_8_2 => ?_) (fun c_8_2 => ?_)
  -- 8 jumps
  · skip
    have dc_8_2 := bI_f er1 c_8_2
    refine lv_iconst (v := 0) hx hb dX6_cancelScope_18 (by decide) ?_
    exact x_zret hx hb hr rfl hlocks hK τ hP hD hS dX6_cancelScope_19 (by subst er1; simp [m_cancels, m_cancelScope, bI, dc_8_2])
  -- 8 goes on
  · skip
    have dc_8_2 := bI_t er1 c_8_2
    refine lv_aload_n hx hb dX6_cancelScope_11 rfl (lv_at hl 1 rfl) ?_
    refine va_get (D := D) (C := RX5) (T := TX5) (N := 14) (ci := 5) (v := .int (τ (i + 54) 5)) hx hb hts nX5 hown hK hP (i + 54) (w_sc hi) rfl 5 (by decide) k133 (fun _ h9 => h9) rfl dX6_cancelScope_12 ?_
    refine lv_if_eq (tgt := 20) hx hb dX6_cancelScope_15 (by decide) (fun c_15_3 => ?_) (fun c_15_3 => ?_)
    -- 15 jumps
    · skip
      refine lv_aload_n hx hb dX6_cancelScope_20 rfl (lv_at hl 1 rfl) ?_
      refine lv_iconst (v := 1) hx hb dX6_cancelScope_21 (by decide) ?_
      refine p_sc hx hb hts nX5 hown hK hP hD hS hi 5 (by decide) (by decide) k133 (fun _ h9 => h9) rfl rfl rfl dX6_cancelScope_22 (fun τ4 H locs eτ4 hP hD hS => ?_)
      refine lv_aload_n hx hb dX6_cancelScope_25 rfl (lv_at hl 0 rfl) ?_
      refine va_get (D := D) (C := RX6) (T := TX6) (N := 12) (ci := 6) (v := .ref (ad 1)) hx hb hts nX6 hown hK hP 0 w_st rfl 0 (by decide) k11 (fun _ h9 => h9) rfl dX6_cancelScope_26 ?_
      refine lv_astore_n (lv' := [(2, .ref (ad 1)), (0, .ref (ad 0)), (1, .ref (ad (i + 54)))]) hx hb dX6_cancelScope_29 rfl hl (by decide) rfl (fun ls hl => ?_)
      refine lv_aload_n hx hb dX6_cancelScope_30 rfl (lv_at hl 0 rfl) ?_
      refine va_alen (v := 24) hx hb hK hP 1 1 w_a1 rfl rfl dX6_cancelScope_31 ?_
      refine lv_istore_n (lv' := [(3, .int 24), (2, .ref (ad 1)), (0, .ref (ad 0)), (1, .ref (ad (i + 54)))]) hx hb dX6_cancelScope_32 rfl hl (by decide) rfl (fun ls hl => ?_)
      refine lv_iconst (v := 0) hx hb dX6_cancelScope_33 (by decide) ?_
      refine lv_istore (lv' := [(4, .int 0), (3, .int 24), (2, .ref (ad 1)), (0, .ref (ad 0)), (1, .ref (ad (i + 54)))]) hx hb dX6_cancelScope_34 hl (by decide) rfl (fun ls hl => ?_)
      refine W_meas (I := fun (n : Nat) (H : Heap) (locs : List Loc) (ls : Array Slot) => ∃ (σ : Sg) (j : Nat), ((n + j = 24) ∧ (m_wakeHit n j σ = m_wakeHit 24 0 τ4)) ∧ va_P D vwCl (wB cA ad σ ++ rest) H ∧ va_D A (wB cA ad σ ++ rest) ∧ va_S A s.heap H locs ∧ lv_has ls 6 [(0, .ref (ad 0)), (1, .ref (ad (i + 54))), (2, .ref (ad 1)), (3, .int 24), (4, .int (nI j))]) 24 ⟨τ4, 0, ⟨by omega, rfl⟩, hP, hD, hS, lv_sub hl [3, 4, 2, 1, 0] rfl⟩ ?_
      clear hP hD hS hl
      intro n ih H locs ls hI
      obtain ⟨σ, j, ⟨hn, hf⟩, hP, hD, hS, hl⟩ := hI
      refine lv_iload hx hb dX6_cancelScope_36 (lv_at hl 4 rfl) ?_
      refine lv_iload_n hx hb dX6_cancelScope_38 rfl (lv_at hl 3 rfl) ?_
      refine lv_icmp_ge (tgt := 88) hx hb dX6_cancelScope_39 (by decide) (fun c_39_5 => ?_) (fun c_39_5 => ?_)
      -- 39 jumps
      · skip
        obtain rfl : n = 0 := by have := ge_c c_39_5 (by omega); omega
        refine lv_iconst (v := 1) hx hb dX6_cancelScope_88 (by decide) ?_
        exact x_zret hx hb hr rfl hlocks hK σ hP hD hS dX6_cancelScope_89 (by subst eτ4 er1; exact ⟨by simp [m_cancels, bI, dc_8_2, eq_true c_15_3], by simp only [m_cancelScope, dc_8_2, eq_true c_15_3, ↓reduceIte]; exact hf⟩)
      -- 39 goes on
      · skip
        have hj : j < 24 := lt_c c_39_5 (by omega)
        obtain ⟨n, rfl⟩ : ∃ q, n = q + 1 := ⟨n - 1, by omega⟩
        refine lv_aload_n hx hb dX6_cancelScope_42 rfl (lv_at hl 2 rfl) ?_
        refine lv_iload hx hb dX6_cancelScope_43 (lv_at hl 4 rfl) ?_
        refine l_a1 hx hb hK hP (j := j) (nI_clamp (by omega)) (vp_in_nI hj (by omega)) dX6_cancelScope_45 ?_
        refine lv_astore (lv' := [(5, .ref (ad (j + 6))), (0, .ref (ad 0)), (1, .ref (ad (i + 54))), (2, .ref (ad 1)), (3, .int 24), (4, .int (nI j))]) hx hb dX6_cancelScope_46 hl (by decide) rfl (fun ls hl => ?_)
        refine lv_aload hx hb dX6_cancelScope_48 (lv_at hl 0 rfl) ?_
        refine va_get (D := D) (C := RX7) (T := TX7) (N := 17) (ci := 7) (v := .int (σ (j + 6) 3)) hx hb hts nX7 hown hK hP (j + 6) (w_tk hj) rfl 3 (by decide) k80 (fun _ h9 => h9) rfl dX6_cancelScope_50 ?_
        refine lv_iconst (v := 1) hx hb dX6_cancelScope_53 (by decide) ?_
        refine lv_icmp_ne (tgt := 82) hx hb dX6_cancelScope_54 (by decide) (fun c_54_6 => ?_) (fun c_54_6 => ?_)
        -- 54 jumps
        · skip
          refine lv_iinc (v := (nI (j + 1))) (lv' := [(4, .int (nI (j + 1))), (5, .ref (ad (j + 6))), (0, .ref (ad 0)), (1, .ref (ad (i + 54))), (2, .ref (ad 1)), (3, .int 24)]) hx hb dX6_cancelScope_82 hl (k := 5) rfl (show nI j + 1 = nI (j + 1) from nI_1 j) (by decide) rfl (fun ls hl => ?_)
          refine lv_goto (tgt := 36) hx hb dX6_cancelScope_85 (by decide) ?_
          exact ih n (Nat.lt_succ_self n) H locs ls ⟨σ, (j + 1), ⟨by omega, by subst eτ4 er1; rw [← hf]; simp [m_wakeHit, c_39_5, c_54_6]⟩, hP, hD, hS, lv_sub hl [2, 3, 4, 5, 0] rfl⟩
        -- 54 goes on
        · skip
          refine lv_aload hx hb dX6_cancelScope_57 (lv_at hl 0 rfl) ?_
          refine va_get (D := D) (C := RX7) (T := TX7) (N := 17) (ci := 7) (v := .int (σ (j + 6) 9)) hx hb hts nX7 hown hK hP (j + 6) (w_tk hj) rfl 9 (by decide) k106 (fun _ h9 => h9) rfl dX6_cancelScope_59 ?_
          refine lv_iconst (v := 5) hx hb dX6_cancelScope_62 (by decide) ?_
          refine lv_icmp_eq (tgt := 82) hx hb dX6_cancelScope_63 (by decide) (fun c_63_7 => ?_) (fun c_63_7 => ?_)
          -- 63 jumps
          · skip
            refine lv_iinc (v := (nI (j + 1))) (lv' := [(4, .int (nI (j + 1))), (5, .ref (ad (j + 6))), (0, .ref (ad 0)), (1, .ref (ad (i + 54))), (2, .ref (ad 1)), (3, .int 24)]) hx hb dX6_cancelScope_82 hl (k := 5) rfl (show nI j + 1 = nI (j + 1) from nI_1 j) (by decide) rfl (fun ls hl => ?_)
            refine lv_goto (tgt := 36) hx hb dX6_cancelScope_85 (by decide) ?_
            exact ih n (Nat.lt_succ_self n) H locs ls ⟨σ, (j + 1), ⟨by omega, by subst eτ4 er1; rw [← hf]; simp [m_wakeHit, c_39_5, eq_true c_54_6, eq_true c_63_7]⟩, hP, hD, hS, lv_sub hl [2, 3, 4, 5, 0] rfl⟩
          -- 63 goes on
          · skip
            refine lv_aload_n hx hb dX6_cancelScope_66 rfl (lv_at hl 1 rfl) ?_
            refine lv_aload hx hb dX6_cancelScope_67 (lv_at hl 0 rfl) ?_
            refine lv_iconst (v := (-1)) hx hb dX6_cancelScope_69 (by decide) ?_
            refine x_Vi (As := [.ref (ad (j + 6)), .int (-1)]) (rest0 := []) ⟨hx, hb, hml, hown, hts⟩ (c_X6_isHit l D cA ad tr rest H.size σ j hj (-1)) (cwV 2 hts gX6_cancelScope_X6_isHit rfl rfl rfl (by decide +kernel) ⟨Nat.le_of_ble_eq_true rfl, Nat.le_of_ble_eq_true rfl⟩) hK hP hD hS hA 0 w_st rfl hl.1 rfl rfl (by decide) ⟨Nat.zero_le _, Nat.zero_le _⟩ dX6_cancelScope_70 (fun r8 _ H locs hw hP hD hS => ?_)
            have er8 := hw
            refine lv_if_eq (tgt := 82) hx hb dX6_cancelScope_73 (by decide) (fun c_73_9 => ?_) (fun c_73_9 => ?_)
            -- 73 jumps
            · skip
              have dc_73_9 := bI_f er8 c_73_9
              refine lv_iinc (v := (nI (j + 1))) (lv' := [(4, .int (nI (j + 1))), (5, .ref (ad (j + 6))), (0, .ref (ad 0)), (1, .ref (ad (i + 54))), (2, .ref (ad 1)), (3, .int 24)]) hx hb dX6_cancelScope_82 hl (k := 5) rfl (show nI j + 1 = nI (j + 1) from nI_1 j) (by decide) rfl (fun ls hl => ?_)
              refine lv_goto (tgt := 36) hx hb dX6_cancelScope_85 (by decide) ?_
              exact ih n (Nat.lt_succ_self n) H locs ls ⟨σ, (j + 1), ⟨by omega, by subst er8 eτ4 er1; rw [← hf]; simp [m_wakeHit, c_39_5, eq_true c_54_6, c_63_7, dc_73_9]⟩, hP, hD, hS, lv_sub hl [2, 3, 4, 5, 0] rfl⟩
            -- 73 goes on
            · skip
              have dc_73_9 := bI_t er8 c_73_9
              refine lv_aload_n hx hb dX6_cancelScope_76 rfl (lv_at hl 1 rfl) ?_
              refine lv_aload hx hb dX6_cancelScope_77 (lv_at hl 0 rfl) ?_
              refine x_Vv (As := [.ref (ad (j + 6))]) (rest0 := []) ⟨hx, hb, hml, hown, hts⟩ (c_X6_makeReady l D cA ad tr rest H.size σ j hj) (cwV 1 hts gX6_cancelScope_X6_makeReady rfl rfl rfl (by decide +kernel) ⟨Nat.le_of_ble_eq_true rfl, Nat.le_of_ble_eq_true rfl⟩) hK hP hD hS hA 0 w_st rfl hl.1 rfl rfl (by decide) ⟨Nat.zero_le _, Nat.zero_le _⟩ dX6_cancelScope_79 (fun τ10 H locs hw hP hD hS => ?_)
              have eτ10 := hw
              refine lv_iinc (v := (nI (j + 1))) (lv' := [(4, .int (nI (j + 1))), (5, .ref (ad (j + 6))), (0, .ref (ad 0)), (1, .ref (ad (i + 54))), (2, .ref (ad 1)), (3, .int 24)]) hx hb dX6_cancelScope_82 hl (k := 5) rfl (show nI j + 1 = nI (j + 1) from nI_1 j) (by decide) rfl (fun ls hl => ?_)
              refine lv_goto (tgt := 36) hx hb dX6_cancelScope_85 (by decide) ?_
              exact ih n (Nat.lt_succ_self n) H locs ls ⟨τ10, (j + 1), ⟨by omega, by subst eτ10 er8 eτ4 er1; rw [← hf]; simp [m_wakeHit, c_39_5, eq_true c_54_6, c_63_7, dc_73_9]⟩, hP, hD, hS, lv_sub hl [2, 3, 4, 5, 0] rfl⟩
    -- 15 goes on
    · skip
      refine lv_iconst (v := 0) hx hb dX6_cancelScope_18 (by decide) ?_
      exact x_zret hx hb hr rfl hlocks hK τ hP hD hS dX6_cancelScope_19 (by subst er1; simp [m_cancels, m_cancelScope, bI, dc_8_2, c_15_3])

set_option maxHeartbeats 4000000 in
set_option maxRecDepth 100000 in
theorem c_X6_tickOnce (l : Launch) (D : va_G) (cA : Nat → ClassId) (ad : Nat → Nat) (tr : List (ClassId × FieldType)) (rest : va_W) (sz : Nat) (τ : Sg)  : Met l yX6_tickOnce wsX6_tickOnce ({ frames := 2, cells := 0, slots := 0, locals := 50 }) (va_Pc [.ref (ad 0)] (inW D (tyB cA ++ tr) (wB cA ad τ ++ rest) sz)) (va_Qi (fun (r : Int32) (u : Sg) => r = m_tickOnce τ ∧ u = m_tickOnceW τ) (fun u : Sg => outW D (tyB cA ++ tr) (va_A (wB cA ad τ ++ rest) sz) (wB cA ad u ++ rest)) (va_A (wB cA ad τ ++ rest) sz)) 0 0 (va_A (wB cA ad τ ++ rest) sz) := by
  refine Met.ofW (cc := cX6_tickOnce) (maxL := 6) (ret := (some .int)) (by decide) rfl ?_
  intro p e s m args below meth c s₁ B hml hv
  obtain ⟨rfl, hsz, hP, hK, hD0⟩ := hv
  have hx := B.exec
  have hb := B.bytes
  have hr := B.returns
  have hts := atoms_spec (ws := wsX6_tickOnce) B.pre
  have hown : s.vm.findClass RX6 = some m.cls := findClass_of_methodNamed B.named
  have hlocks := B.notSynchronized
  subst hsz
  have hD := hD0.self (sz := s.heap.size)
  clear hD0
  generalize hAe : va_A (wB cA ad τ ++ rest) s.heap.size = A at hD ⊢
  have hA : ∀ q : Nat, s.heap.size ≤ q → A q := fun q h => by rw [← hAe]; exact Or.inr h
  clear hAe
  have hS : va_S A s.heap s.heap [] := va_S.rf
  have hP : va_P D vwCl (wB cA ad τ ++ rest) s.heap := hP
  have hl := lv_entry ([.ref (ad 0)]) (n := 6) (Nat.le_of_ble_eq_true rfl)
  rw [lg_entry_eq]
  generalize (lg_sl ([.ref (ad 0)]) ++ List.replicate (6 - (lg_sl ([.ref (ad 0)])).length) Slot.unset).toArray = ls at hl ⊢
  have hl : lv_has ls 6 [(0, .ref (ad 0))] := hl
  have nX5 : ∀ w ∈ u_ws RX5 TX5 14, w ∈ wsX6_tickOnce := by decide +kernel
  have nX6 : ∀ w ∈ u_ws RX6 TX6 12, w ∈ wsX6_tickOnce := by decide +kernel
  have nX7 : ∀ w ∈ u_ws RX7 TX7 17, w ∈ wsX6_tickOnce := by decide +kernel
  have k65 := hts (.fieldLink RX6 65 "ScopeRow$State" "rowCount" "I") (by decide +kernel)
  have k68 := hts (.fieldLink RX6 68 "ScopeRow$State" "now" "I") (by decide +kernel)
  have k19 := hts (.fieldLink RX6 19 "ScopeRow$State" "scopes" "[LScopeRow$Scope;") (by decide +kernel)
  have k11 := hts (.fieldLink RX6 11 "ScopeRow$State" "tasks" "[LScopeRow$Task;") (by decide +kernel)
  have k157 := hts (.fieldLink RX6 157 "ScopeRow$Task" "until" "I") (by decide +kernel)
  have k150 := hts (.fieldLink RX6 150 "ScopeRow$Scope" "deadline" "I") (by decide +kernel)
  refine lv_aload_n hx hb dX6_tickOnce_0 rfl (lv_at hl 0 rfl) ?_
  refine va_get (D := D) (C := RX6) (T := TX6) (N := 12) (ci := 6) (v := .int (τ 0 7)) hx hb hts nX6 hown hK hP 0 w_st rfl 7 (by decide) k65 (fun _ h9 => h9) rfl dX6_tickOnce_1 ?_
  refine lv_topi (fun x1 ex1 => ?_)
  refine lv_istore_n (lv' := [(1, .int x1), (0, .ref (ad 0))]) hx hb dX6_tickOnce_4 rfl hl (by decide) rfl (fun ls hl => ?_)
  refine lv_aload_n hx hb dX6_tickOnce_5 rfl (lv_at hl 1 rfl) ?_
  refine lv_dup hx hb dX6_tickOnce_6 rfl ?_
  refine va_get (D := D) (C := RX6) (T := TX6) (N := 12) (ci := 6) (v := .int (τ 0 8)) hx hb hts nX6 hown hK hP 0 w_st rfl 8 (by decide) k68 (fun _ h9 => h9) rfl dX6_tickOnce_7 ?_
  refine lv_iconst (v := 1) hx hb dX6_tickOnce_10 (by decide) ?_
  refine lv_iadd hx hb dX6_tickOnce_11 ?_
  refine p_st hx hb hts nX6 hown hK hP hD hS 8 (by decide) (by decide) k68 (fun _ h9 => h9) rfl rfl rfl dX6_tickOnce_12 (fun τ2 H locs eτ2 hP hD hS => ?_)
  refine lv_aload_n hx hb dX6_tickOnce_15 rfl (lv_at hl 1 rfl) ?_
  refine va_get (D := D) (C := RX6) (T := TX6) (N := 12) (ci := 6) (v := .ref (ad 2)) hx hb hts nX6 hown hK hP 0 w_st rfl 2 (by decide) k19 (fun _ h9 => h9) rfl dX6_tickOnce_16 ?_
  refine lv_astore_n (lv' := [(2, .ref (ad 2)), (1, .int x1), (0, .ref (ad 0))]) hx hb dX6_tickOnce_19 rfl hl (by decide) rfl (fun ls hl => ?_)
  refine lv_aload_n hx hb dX6_tickOnce_20 rfl (lv_at hl 0 rfl) ?_
  refine va_alen (v := 40) hx hb hK hP 2 2 w_a2 rfl rfl dX6_tickOnce_21 ?_
  refine lv_istore_n (lv' := [(3, .int 40), (2, .ref (ad 2)), (1, .int x1), (0, .ref (ad 0))]) hx hb dX6_tickOnce_22 rfl hl (by decide) rfl (fun ls hl => ?_)
  refine lv_iconst (v := 0) hx hb dX6_tickOnce_23 (by decide) ?_
  refine lv_istore (lv' := [(4, .int 0), (3, .int 40), (2, .ref (ad 2)), (1, .int x1), (0, .ref (ad 0))]) hx hb dX6_tickOnce_24 hl (by decide) rfl (fun ls hl => ?_)
  refine W_meas (I := fun (n : Nat) (H : Heap) (locs : List Loc) (ls : Array Slot) => ∃ (σ : Sg) (j : Nat), ((n + j = 40) ∧ (m_tickScopes n j σ = m_tickScopes 40 0 τ2)) ∧ va_P D vwCl (wB cA ad σ ++ rest) H ∧ va_D A (wB cA ad σ ++ rest) ∧ va_S A s.heap H locs ∧ lv_has ls 6 [(0, .ref (ad 0)), (1, .int x1), (2, .ref (ad 2)), (3, .int 40), (4, .int (nI j))]) 40 ⟨τ2, 0, ⟨by omega, rfl⟩, hP, hD, hS, lv_sub hl [4, 3, 2, 1, 0] rfl⟩ ?_
  clear hP hD hS hl
  intro n ih H locs ls hI
  obtain ⟨σ, j, ⟨hn, hf⟩, hP, hD, hS, hl⟩ := hI
  refine lv_iload hx hb dX6_tickOnce_26 (lv_at hl 4 rfl) ?_
  refine lv_iload_n hx hb dX6_tickOnce_28 rfl (lv_at hl 3 rfl) ?_
  refine lv_icmp_ge (tgt := 71) hx hb dX6_tickOnce_29 (by decide) (fun c_29_3 => ?_) (fun c_29_3 => ?_)
  -- 29 jumps
  · skip
    obtain rfl : n = 0 := by have := ge_c40 c_29_3 (by omega); omega
    refine lv_aload_n hx hb dX6_tickOnce_71 rfl (lv_at hl 0 rfl) ?_
    refine va_get (D := D) (C := RX6) (T := TX6) (N := 12) (ci := 6) (v := .ref (ad 1)) hx hb hts nX6 hown hK hP 0 w_st rfl 0 (by decide) k11 (fun _ h9 => h9) rfl dX6_tickOnce_72 ?_
    refine lv_astore_n (lv' := [(2, .ref (ad 1)), (0, .ref (ad 0)), (1, .int x1), (3, .int 40), (4, .int (nI j))]) hx hb dX6_tickOnce_75 rfl hl (by decide) rfl (fun ls hl => ?_)
    refine lv_aload_n hx hb dX6_tickOnce_76 rfl (lv_at hl 0 rfl) ?_
    refine va_alen (v := 24) hx hb hK hP 1 1 w_a1 rfl rfl dX6_tickOnce_77 ?_
    refine lv_istore_n (lv' := [(3, .int 24), (2, .ref (ad 1)), (0, .ref (ad 0)), (1, .int x1), (4, .int (nI j))]) hx hb dX6_tickOnce_78 rfl hl (by decide) rfl (fun ls hl => ?_)
    refine lv_iconst (v := 0) hx hb dX6_tickOnce_79 (by decide) ?_
    refine lv_istore (lv' := [(4, .int 0), (3, .int 24), (2, .ref (ad 1)), (0, .ref (ad 0)), (1, .int x1)]) hx hb dX6_tickOnce_80 hl (by decide) rfl (fun ls hl => ?_)
    refine W_meas (I := fun (n : Nat) (H : Heap) (locs : List Loc) (ls : Array Slot) => ∃ (σ2 : Sg) (j2 : Nat), ((n + j2 = 24) ∧ (m_tickTasks n j2 σ2 = m_tickTasks 24 0 σ)) ∧ va_P D vwCl (wB cA ad σ2 ++ rest) H ∧ va_D A (wB cA ad σ2 ++ rest) ∧ va_S A s.heap H locs ∧ lv_has ls 6 [(0, .ref (ad 0)), (1, .int x1), (2, .ref (ad 1)), (3, .int 24), (4, .int (nI j2))]) 24 ⟨σ, 0, ⟨by omega, rfl⟩, hP, hD, hS, lv_sub hl [3, 4, 2, 1, 0] rfl⟩ ?_
    clear hP hD hS hl
    intro n ih H locs ls hI
    obtain ⟨σ2, j2, ⟨hn2, hf2⟩, hP, hD, hS, hl⟩ := hI
    refine lv_iload hx hb dX6_tickOnce_82 (lv_at hl 4 rfl) ?_
    refine lv_iload_n hx hb dX6_tickOnce_84 rfl (lv_at hl 3 rfl) ?_
    refine lv_icmp_ge (tgt := 127) hx hb dX6_tickOnce_85 (by decide) (fun c_85_4 => ?_) (fun c_85_4 => ?_)
    -- 85 jumps
    · skip
      obtain rfl : n = 0 := by have := ge_c c_85_4 (by omega); omega
      refine lv_aload_n hx hb dX6_tickOnce_127 rfl (lv_at hl 0 rfl) ?_
      refine va_get (D := D) (C := RX6) (T := TX6) (N := 12) (ci := 6) (v := .int (σ2 0 7)) hx hb hts nX6 hown hK hP 0 w_st rfl 7 (by decide) k65 (fun _ h9 => h9) rfl dX6_tickOnce_128 ?_
      refine lv_iload_n hx hb dX6_tickOnce_131 rfl (lv_at hl 1 rfl) ?_
      refine lv_isub hx hb dX6_tickOnce_132 ?_
      exact x_iret hx hb hr hlocks hK σ2 hP hD hS dX6_tickOnce_133 (by have e1 := (m_tickScopes_0 j σ).symm.trans hf; have e2 := (m_tickTasks_0 j2 σ2).symm.trans hf2; rw [eτ2] at e1; have e3 := m_tickOnceW_of e1 e2; exact ⟨by rw [ex1, e3, m_tickOnce], e3⟩)
    -- 85 goes on
    · skip
      have hj2 : j2 < 24 := lt_c c_85_4 (by omega)
      obtain ⟨n, rfl⟩ : ∃ q, n = q + 1 := ⟨n - 1, by omega⟩
      refine lv_aload_n hx hb dX6_tickOnce_88 rfl (lv_at hl 2 rfl) ?_
      refine lv_iload hx hb dX6_tickOnce_89 (lv_at hl 4 rfl) ?_
      refine l_a1 hx hb hK hP (j := j2) (nI_clamp (by omega)) (vp_in_nI hj2 (by omega)) dX6_tickOnce_91 ?_
      refine lv_astore (lv' := [(5, .ref (ad (j2 + 6))), (0, .ref (ad 0)), (1, .int x1), (2, .ref (ad 1)), (3, .int 24), (4, .int (nI j2))]) hx hb dX6_tickOnce_92 hl (by decide) rfl (fun ls hl => ?_)
      refine lv_aload hx hb dX6_tickOnce_94 (lv_at hl 0 rfl) ?_
      refine lv_iconst (v := 1) hx hb dX6_tickOnce_96 (by decide) ?_
      refine x_Vi (As := [.int 1]) (rest0 := []) ⟨hx, hb, hml, hown, hts⟩ (c_X7_waitsAt l D cA ad tr rest H.size σ2 j2 hj2 1) (cwV 1 hts gX6_tickOnce_X7_waitsAt rfl rfl rfl (by decide +kernel) ⟨Nat.le_of_ble_eq_true rfl, Nat.le_of_ble_eq_true rfl⟩) hK hP hD hS hA (j2 + 6) (w_tk hj2) rfl hl.1 rfl rfl (by decide) ⟨Nat.zero_le _, Nat.zero_le _⟩ dX6_tickOnce_97 (fun r5 _ H locs hw hP hD hS => ?_)
      have er5 := hw
      refine lv_if_eq (tgt := 121) hx hb dX6_tickOnce_100 (by decide) (fun c_100_6 => ?_) (fun c_100_6 => ?_)
      -- 100 jumps
      · skip
        have dc_100_6 := bI_f er5 c_100_6
        refine lv_iinc (v := (nI (j2 + 1))) (lv' := [(4, .int (nI (j2 + 1))), (5, .ref (ad (j2 + 6))), (0, .ref (ad 0)), (1, .int x1), (2, .ref (ad 1)), (3, .int 24)]) hx hb dX6_tickOnce_121 hl (k := 5) rfl (show nI j2 + 1 = nI (j2 + 1) from nI_1 j2) (by decide) rfl (fun ls hl => ?_)
        refine lv_goto (tgt := 82) hx hb dX6_tickOnce_124 (by decide) ?_
        exact ih n (Nat.lt_succ_self n) H locs ls ⟨σ2, (j2 + 1), ⟨by omega, by subst er5 eτ2 ex1; rw [← hf2]; simp [m_tickTasks, c_85_4, dc_100_6]⟩, hP, hD, hS, lv_sub hl [2, 3, 4, 5, 0] rfl⟩
      -- 100 goes on
      · skip
        have dc_100_6 := bI_t er5 c_100_6
        refine lv_aload hx hb dX6_tickOnce_103 (lv_at hl 0 rfl) ?_
        refine va_get (D := D) (C := RX7) (T := TX7) (N := 17) (ci := 7) (v := .int (σ2 (j2 + 6) 12)) hx hb hts nX7 hown hK hP (j2 + 6) (w_tk hj2) rfl 12 (by decide) k157 (fun _ h9 => h9) rfl dX6_tickOnce_105 ?_
        refine lv_aload_n hx hb dX6_tickOnce_108 rfl (lv_at hl 1 rfl) ?_
        refine va_get (D := D) (C := RX6) (T := TX6) (N := 12) (ci := 6) (v := .int (σ2 0 8)) hx hb hts nX6 hown hK hP 0 w_st rfl 8 (by decide) k68 (fun _ h9 => h9) rfl dX6_tickOnce_109 ?_
        refine lv_icmp_ne (tgt := 121) hx hb dX6_tickOnce_112 (by decide) (fun c_112_7 => ?_) (fun c_112_7 => ?_)
        -- 112 jumps
        · skip
          refine lv_iinc (v := (nI (j2 + 1))) (lv' := [(4, .int (nI (j2 + 1))), (5, .ref (ad (j2 + 6))), (0, .ref (ad 0)), (1, .int x1), (2, .ref (ad 1)), (3, .int 24)]) hx hb dX6_tickOnce_121 hl (k := 5) rfl (show nI j2 + 1 = nI (j2 + 1) from nI_1 j2) (by decide) rfl (fun ls hl => ?_)
          refine lv_goto (tgt := 82) hx hb dX6_tickOnce_124 (by decide) ?_
          exact ih n (Nat.lt_succ_self n) H locs ls ⟨σ2, (j2 + 1), ⟨by omega, by subst er5 eτ2 ex1; rw [← hf2]; simp [m_tickTasks, c_85_4, dc_100_6, c_112_7]⟩, hP, hD, hS, lv_sub hl [2, 3, 4, 5, 0] rfl⟩
        -- 112 goes on
        · skip
          refine lv_aload_n hx hb dX6_tickOnce_115 rfl (lv_at hl 1 rfl) ?_
          refine lv_aload hx hb dX6_tickOnce_116 (lv_at hl 0 rfl) ?_
          refine x_Vv (As := [.ref (ad (j2 + 6))]) (rest0 := []) ⟨hx, hb, hml, hown, hts⟩ (c_X6_makeReady l D cA ad tr rest H.size σ2 j2 hj2) (cwV 1 hts gX6_tickOnce_X6_makeReady rfl rfl rfl (by decide +kernel) ⟨Nat.le_of_ble_eq_true rfl, Nat.le_of_ble_eq_true rfl⟩) hK hP hD hS hA 0 w_st rfl hl.1 rfl rfl (by decide) ⟨Nat.zero_le _, Nat.zero_le _⟩ dX6_tickOnce_118 (fun τ8 H locs hw hP hD hS => ?_)
          have eτ8 := hw
          refine lv_iinc (v := (nI (j2 + 1))) (lv' := [(4, .int (nI (j2 + 1))), (5, .ref (ad (j2 + 6))), (0, .ref (ad 0)), (1, .int x1), (2, .ref (ad 1)), (3, .int 24)]) hx hb dX6_tickOnce_121 hl (k := 5) rfl (show nI j2 + 1 = nI (j2 + 1) from nI_1 j2) (by decide) rfl (fun ls hl => ?_)
          refine lv_goto (tgt := 82) hx hb dX6_tickOnce_124 (by decide) ?_
          exact ih n (Nat.lt_succ_self n) H locs ls ⟨τ8, (j2 + 1), ⟨by omega, by subst eτ8 er5 eτ2 ex1; rw [← hf2]; simp [m_tickTasks, c_85_4, dc_100_6, eq_true c_112_7]⟩, hP, hD, hS, lv_sub hl [2, 3, 4, 5, 0] rfl⟩
  -- 29 goes on
  · skip
    have hj : j < 40 := lt_c40 c_29_3 (by omega)
    obtain ⟨n, rfl⟩ : ∃ q, n = q + 1 := ⟨n - 1, by omega⟩
    refine lv_aload_n hx hb dX6_tickOnce_32 rfl (lv_at hl 2 rfl) ?_
    refine lv_iload hx hb dX6_tickOnce_33 (lv_at hl 4 rfl) ?_
    refine l_a2 hx hb hK hP (j := j) (nI_clamp (by omega)) (vp_in_nI hj (by omega)) dX6_tickOnce_35 ?_
    refine lv_astore (lv' := [(5, .ref (ad (j + 54))), (0, .ref (ad 0)), (1, .int x1), (2, .ref (ad 2)), (3, .int 40), (4, .int (nI j))]) hx hb dX6_tickOnce_36 hl (by decide) rfl (fun ls hl => ?_)
    refine lv_aload hx hb dX6_tickOnce_38 (lv_at hl 0 rfl) ?_
    refine x_Vi (As := []) (rest0 := []) ⟨hx, hb, hml, hown, hts⟩ (c_X5_isLive l D cA ad tr rest H.size σ j hj) (cwV 0 hts gX6_tickOnce_X5_isLive rfl rfl rfl (by decide +kernel) ⟨Nat.le_of_ble_eq_true rfl, Nat.le_of_ble_eq_true rfl⟩) hK hP hD hS hA (j + 54) (w_sc hj) rfl hl.1 rfl rfl (by decide) ⟨Nat.zero_le _, Nat.zero_le _⟩ dX6_tickOnce_40 (fun r9 _ H locs hw hP hD hS => ?_)
    have er9 := hw
    refine lv_if_eq (tgt := 65) hx hb dX6_tickOnce_43 (by decide) (fun c_43_10 => ?_) (fun c_43_10 => ?_)
    -- 43 jumps
    · skip
      have dc_43_10 := bI_f er9 c_43_10
      refine lv_iinc (v := (nI (j + 1))) (lv' := [(4, .int (nI (j + 1))), (5, .ref (ad (j + 54))), (0, .ref (ad 0)), (1, .int x1), (2, .ref (ad 2)), (3, .int 40)]) hx hb dX6_tickOnce_65 hl (k := 5) rfl (show nI j + 1 = nI (j + 1) from nI_1 j) (by decide) rfl (fun ls hl => ?_)
      refine lv_goto (tgt := 26) hx hb dX6_tickOnce_68 (by decide) ?_
      exact ih n (Nat.lt_succ_self n) H locs ls ⟨σ, (j + 1), ⟨by omega, by subst er9 eτ2 ex1; rw [← hf]; simp [m_tickScopes, c_29_3, dc_43_10]⟩, hP, hD, hS, lv_sub hl [2, 3, 4, 5, 0] rfl⟩
    -- 43 goes on
    · skip
      have dc_43_10 := bI_t er9 c_43_10
      refine lv_aload hx hb dX6_tickOnce_46 (lv_at hl 0 rfl) ?_
      refine va_get (D := D) (C := RX5) (T := TX5) (N := 14) (ci := 5) (v := .int (σ (j + 54) 7)) hx hb hts nX5 hown hK hP (j + 54) (w_sc hj) rfl 7 (by decide) k150 (fun _ h9 => h9) rfl dX6_tickOnce_48 ?_
      refine lv_aload_n hx hb dX6_tickOnce_51 rfl (lv_at hl 1 rfl) ?_
      refine va_get (D := D) (C := RX6) (T := TX6) (N := 12) (ci := 6) (v := .int (σ 0 8)) hx hb hts nX6 hown hK hP 0 w_st rfl 8 (by decide) k68 (fun _ h9 => h9) rfl dX6_tickOnce_52 ?_
      refine lv_icmp_ne (tgt := 65) hx hb dX6_tickOnce_55 (by decide) (fun c_55_11 => ?_) (fun c_55_11 => ?_)
      -- 55 jumps
      · skip
        refine lv_iinc (v := (nI (j + 1))) (lv' := [(4, .int (nI (j + 1))), (5, .ref (ad (j + 54))), (0, .ref (ad 0)), (1, .int x1), (2, .ref (ad 2)), (3, .int 40)]) hx hb dX6_tickOnce_65 hl (k := 5) rfl (show nI j + 1 = nI (j + 1) from nI_1 j) (by decide) rfl (fun ls hl => ?_)
        refine lv_goto (tgt := 26) hx hb dX6_tickOnce_68 (by decide) ?_
        exact ih n (Nat.lt_succ_self n) H locs ls ⟨σ, (j + 1), ⟨by omega, by subst er9 eτ2 ex1; rw [← hf]; simp [m_tickScopes, c_29_3, dc_43_10, c_55_11]⟩, hP, hD, hS, lv_sub hl [2, 3, 4, 5, 0] rfl⟩
      -- 55 goes on
      · skip
        refine lv_aload_n hx hb dX6_tickOnce_58 rfl (lv_at hl 1 rfl) ?_
        refine lv_aload hx hb dX6_tickOnce_59 (lv_at hl 0 rfl) ?_
        refine x_Vi (As := [.ref (ad (j + 54))]) (rest0 := []) ⟨hx, hb, hml, hown, hts⟩ (c_X6_cancelScope l D cA ad tr rest H.size σ j hj) (cwV 1 hts gX6_tickOnce_X6_cancelScope rfl rfl rfl (by decide +kernel) ⟨Nat.le_of_ble_eq_true rfl, Nat.le_of_ble_eq_true rfl⟩) hK hP hD hS hA 0 w_st rfl hl.1 rfl rfl (by decide) ⟨Nat.zero_le _, Nat.zero_le _⟩ dX6_tickOnce_61 (fun r12 τ13 H locs hw hP hD hS => ?_)
        obtain ⟨er12, eτ13⟩ := hw
        refine lv_pop hx hb dX6_tickOnce_64 rfl ?_
        refine lv_iinc (v := (nI (j + 1))) (lv' := [(4, .int (nI (j + 1))), (5, .ref (ad (j + 54))), (0, .ref (ad 0)), (1, .int x1), (2, .ref (ad 2)), (3, .int 40)]) hx hb dX6_tickOnce_65 hl (k := 5) rfl (show nI j + 1 = nI (j + 1) from nI_1 j) (by decide) rfl (fun ls hl => ?_)
        refine lv_goto (tgt := 26) hx hb dX6_tickOnce_68 (by decide) ?_
        exact ih n (Nat.lt_succ_self n) H locs ls ⟨τ13, (j + 1), ⟨by omega, by subst er12 eτ13 er9 eτ2 ex1; rw [← hf]; simp [m_tickScopes, c_29_3, dc_43_10, eq_true c_55_11]⟩, hP, hD, hS, lv_sub hl [2, 3, 4, 5, 0] rfl⟩

set_option maxHeartbeats 4000000 in
set_option maxRecDepth 100000 in
theorem c_X6_freeLock (l : Launch) (D : va_G) (cA : Nat → ClassId) (ad : Nat → Nat) (tr : List (ClassId × FieldType)) (rest : va_W) (sz : Nat) (τ : Sg) (i : Nat) (hi : i < 2) : Met l yX6_freeLock wsX6_freeLock ({ frames := 1, cells := 0, slots := 0, locals := 28 }) (va_Pc [.ref (ad 0), .ref (ad (i + 94))] (inW D (tyB cA ++ tr) (wB cA ad τ ++ rest) sz)) (va_Qv (fun u : Sg => u = m_freeLock τ i) (fun u : Sg => outW D (tyB cA ++ tr) (va_A (wB cA ad τ ++ rest) sz) (wB cA ad u ++ rest)) (va_A (wB cA ad τ ++ rest) sz)) 0 0 (va_A (wB cA ad τ ++ rest) sz) := by
  refine Met.ofW (cc := cX6_freeLock) (maxL := 3) (ret := none) (by decide) rfl ?_
  intro p e s m args below meth c s₁ B hml hv
  obtain ⟨rfl, hsz, hP, hK, hD0⟩ := hv
  have hx := B.exec
  have hb := B.bytes
  have hr := B.returns
  have hts := atoms_spec (ws := wsX6_freeLock) B.pre
  have hown : s.vm.findClass RX6 = some m.cls := findClass_of_methodNamed B.named
  have hlocks := B.notSynchronized
  subst hsz
  have hD := hD0.self (sz := s.heap.size)
  clear hD0
  generalize hAe : va_A (wB cA ad τ ++ rest) s.heap.size = A at hD ⊢
  have hA : ∀ q : Nat, s.heap.size ≤ q → A q := fun q h => by rw [← hAe]; exact Or.inr h
  clear hAe
  have hS : va_S A s.heap s.heap [] := va_S.rf
  have hP : va_P D vwCl (wB cA ad τ ++ rest) s.heap := hP
  have hl := lv_entry ([.ref (ad 0), .ref (ad (i + 94))]) (n := 3) (Nat.le_of_ble_eq_true rfl)
  rw [lg_entry_eq]
  generalize (lg_sl ([.ref (ad 0), .ref (ad (i + 94))]) ++ List.replicate (3 - (lg_sl ([.ref (ad 0), .ref (ad (i + 94))])).length) Slot.unset).toArray = ls at hl ⊢
  have hl : lv_has ls 3 [(0, .ref (ad 0)), (1, .ref (ad (i + 94)))] := hl
  have nX2 : ∀ w ∈ u_ws RX2 TX2 3, w ∈ wsX6_freeLock := by decide +kernel
  have nX7 : ∀ w ∈ u_ws RX7 TX7 17, w ∈ wsX6_freeLock := by decide +kernel
  have k160 := hts (.fieldLink RX6 160 "ScopeRow$Lock" "holder" "I") (by decide +kernel)
  have k163 := hts (.fieldLink RX6 163 "ScopeRow$Lock" "number" "I") (by decide +kernel)
  have k116 := hts (.fieldLink RX6 116 "ScopeRow$Task" "given" "Z") (by decide +kernel)
  refine lv_aload_n hx hb dX6_freeLock_0 rfl (lv_at hl 1 rfl) ?_
  refine lv_iconst (v := (-1)) hx hb dX6_freeLock_1 (by decide) ?_
  refine p_lk hx hb hts nX2 hown hK hP hD hS hi 1 (by decide) (by decide) k160 (fun _ h9 => h9) rfl rfl rfl dX6_freeLock_2 (fun τ1 H locs eτ1 hP hD hS => ?_)
  refine lv_aload_n hx hb dX6_freeLock_5 rfl (lv_at hl 0 rfl) ?_
  refine lv_iconst (v := 2) hx hb dX6_freeLock_6 (by decide) ?_
  refine lv_aload_n hx hb dX6_freeLock_7 rfl (lv_at hl 1 rfl) ?_
  refine va_get (D := D) (C := RX2) (T := TX2) (N := 3) (ci := 2) (v := .int (nI i)) hx hb hts nX2 hown hK hP (i + 94) (w_lk hi) rfl 0 (by decide) k163 (fun _ h9 => h9) rfl dX6_freeLock_8 ?_
  refine x_Vq (As := [.int 2, .int (nI i)]) (rest0 := []) ⟨hx, hb, hml, hown, hts⟩ (c_X6_firstWaiting l D cA ad tr rest H.size τ1 2 (nI i)) (cwV 2 hts gX6_freeLock_X6_firstWaiting rfl rfl rfl (by decide +kernel) ⟨Nat.le_of_ble_eq_true rfl, Nat.le_of_ble_eq_true rfl⟩) hK hP hD hS hA 0 w_st rfl hl.1 rfl rfl (by decide) ⟨Nat.zero_le _, Nat.zero_le _⟩ dX6_freeLock_11 (fun r2 _ H locs hw hP hD hS => ?_)
  have er2 := hw
  subst er2
  rcases hi3 : m_firstWaiting τ1 2 (nI i) with _ | i3
  · refine W.eq (g2 := F0 m 14 ls [.null]) rfl ?_
    refine lv_astore_nN (lv' := [(2, .null), (0, .ref (ad 0)), (1, .ref (ad (i + 94)))]) hx hb dX6_freeLock_14 rfl hl (by decide) rfl (fun ls hl => ?_)
    refine lv_aload_nN hx hb dX6_freeLock_15 rfl (lv_at hl 0 rfl) ?_
    refine lv_ifnullN (tgt := 34) hx hb dX6_freeLock_16 (by decide) ?_
    exact x_vret hx hb hr hlocks hK τ1 hP hD hS dX6_freeLock_34 (by subst eτ1; simp [m_freeLock, n24, n40, n2, n27, n4, hi3])
  · have bi3 := m_firstWaiting_lt hi3
    refine W.eq (g2 := F0 m 14 ls [.ref (ad (i3 + 6))]) rfl ?_
    refine lv_astore_n (lv' := [(2, .ref (ad (i3 + 6))), (0, .ref (ad 0)), (1, .ref (ad (i + 94)))]) hx hb dX6_freeLock_14 rfl hl (by decide) rfl (fun ls hl => ?_)
    refine lv_aload_n hx hb dX6_freeLock_15 rfl (lv_at hl 0 rfl) ?_
    refine lv_ifnull hx hb dX6_freeLock_16 ?_
    refine lv_aload_n hx hb dX6_freeLock_19 rfl (lv_at hl 2 rfl) ?_
    refine lv_aload_n hx hb dX6_freeLock_20 rfl (lv_at hl 0 rfl) ?_
    refine x_Vv (As := [.ref (ad (i3 + 6))]) (rest0 := []) ⟨hx, hb, hml, hown, hts⟩ (c_X2_giveTo l D cA ad tr rest H.size τ1 i hi i3 bi3) (cwV 1 hts gX6_freeLock_X2_giveTo rfl rfl rfl (by decide +kernel) ⟨Nat.le_of_ble_eq_true rfl, Nat.le_of_ble_eq_true rfl⟩) hK hP hD hS hA (i + 94) (w_lk hi) rfl hl.1 rfl rfl (by decide) ⟨Nat.zero_le _, Nat.zero_le _⟩ dX6_freeLock_21 (fun τ4 H locs hw hP hD hS => ?_)
    have eτ4 := hw
    refine lv_aload_n hx hb dX6_freeLock_24 rfl (lv_at hl 0 rfl) ?_
    refine lv_iconst (v := 1) hx hb dX6_freeLock_25 (by decide) ?_
    refine p_tk hx hb hts nX7 hown hK hP hD hS bi3 14 (by decide) (by decide) k116 (fun _ h9 => h9) rfl rfl rfl dX6_freeLock_26 (fun τ5 H locs eτ5 hP hD hS => ?_)
    refine lv_aload_n hx hb dX6_freeLock_29 rfl (lv_at hl 1 rfl) ?_
    refine lv_aload_n hx hb dX6_freeLock_30 rfl (lv_at hl 0 rfl) ?_
    refine x_Vv (As := [.ref (ad (i3 + 6))]) (rest0 := []) ⟨hx, hb, hml, hown, hts⟩ (c_X6_makeReady l D cA ad tr rest H.size τ5 i3 bi3) (cwV 1 hts gX6_freeLock_X6_makeReady rfl rfl rfl (by decide +kernel) ⟨Nat.le_of_ble_eq_true rfl, Nat.le_of_ble_eq_true rfl⟩) hK hP hD hS hA 0 w_st rfl hl.1 rfl rfl (by decide) ⟨Nat.zero_le _, Nat.zero_le _⟩ dX6_freeLock_31 (fun τ6 H locs hw hP hD hS => ?_)
    have eτ6 := hw
    exact x_vret hx hb hr hlocks hK τ6 hP hD hS dX6_freeLock_34 (by subst eτ6 eτ5 eτ4 eτ1; simp [m_freeLock, n24, n40, n2, n27, n4, hi3])

set_option maxHeartbeats 4000000 in
set_option maxRecDepth 100000 in
theorem c_X6_giveValue (l : Launch) (D : va_G) (cA : Nat → ClassId) (ad : Nat → Nat) (tr : List (ClassId × FieldType)) (rest : va_W) (sz : Nat) (τ : Sg) (i : Nat) (hi : i < 24) (x v : Int32) : Met l yX6_giveValue wsX6_giveValue ({ frames := 1, cells := 0, slots := 0, locals := 21 }) (va_Pc [.ref (ad 0), .ref (ad (i + 6)), .int x, .int v] (inW D (tyB cA ++ tr) (wB cA ad τ ++ rest) sz)) (va_Qv (fun u : Sg => u = m_giveValue τ i x v) (fun u : Sg => outW D (tyB cA ++ tr) (va_A (wB cA ad τ ++ rest) sz) (wB cA ad u ++ rest)) (va_A (wB cA ad τ ++ rest) sz)) 0 0 (va_A (wB cA ad τ ++ rest) sz) := by
  refine Met.ofW (cc := cX6_giveValue) (maxL := 5) (ret := none) (by decide) rfl ?_
  intro p e s m args below meth c s₁ B hml hv
  obtain ⟨rfl, hsz, hP, hK, hD0⟩ := hv
  have hx := B.exec
  have hb := B.bytes
  have hr := B.returns
  have hts := atoms_spec (ws := wsX6_giveValue) B.pre
  have hown : s.vm.findClass RX6 = some m.cls := findClass_of_methodNamed B.named
  have hlocks := B.notSynchronized
  subst hsz
  have hD := hD0.self (sz := s.heap.size)
  clear hD0
  generalize hAe : va_A (wB cA ad τ ++ rest) s.heap.size = A at hD ⊢
  have hA : ∀ q : Nat, s.heap.size ≤ q → A q := fun q h => by rw [← hAe]; exact Or.inr h
  clear hAe
  have hS : va_S A s.heap s.heap [] := va_S.rf
  have hP : va_P D vwCl (wB cA ad τ ++ rest) s.heap := hP
  have hl := lv_entry ([.ref (ad 0), .ref (ad (i + 6)), .int x, .int v]) (n := 5) (Nat.le_of_ble_eq_true rfl)
  rw [lg_entry_eq]
  generalize (lg_sl ([.ref (ad 0), .ref (ad (i + 6)), .int x, .int v]) ++ List.replicate (5 - (lg_sl ([.ref (ad 0), .ref (ad (i + 6)), .int x, .int v])).length) Slot.unset).toArray = ls at hl ⊢
  have hl : lv_has ls 5 [(0, .ref (ad 0)), (1, .ref (ad (i + 6))), (2, .int x), (3, .int v)] := hl
  have nX1 : ∀ w ∈ u_ws RX1 TX1 5, w ∈ wsX6_giveValue := by decide +kernel
  have nX7 : ∀ w ∈ u_ws RX7 TX7 17, w ∈ wsX6_giveValue := by decide +kernel
  have k171 := hts (.fieldLink RX6 171 "ScopeRow$Task" "value" "I") (by decide +kernel)
  have k109 := hts (.fieldLink RX6 109 "ScopeRow$Task" "target" "I") (by decide +kernel)
  have k116 := hts (.fieldLink RX6 116 "ScopeRow$Task" "given" "Z") (by decide +kernel)
  have k174 := hts (.fieldLink RX6 174 "ScopeRow$Channel" "taken" "I") (by decide +kernel)
  refine lv_aload_n hx hb dX6_giveValue_0 rfl (lv_at hl 0 rfl) ?_
  refine lv_iload_n hx hb dX6_giveValue_1 rfl (lv_at hl 2 rfl) ?_
  refine x_Vq (As := [.int x]) (rest0 := []) ⟨hx, hb, hml, hown, hts⟩ (c_X6_channelAt l D cA ad tr rest s.heap.size τ x) (cwV 1 hts gX6_giveValue_X6_channelAt rfl rfl rfl (by decide +kernel) ⟨Nat.le_of_ble_eq_true rfl, Nat.le_of_ble_eq_true rfl⟩) hK hP hD hS hA 0 w_st rfl hl.1 rfl rfl (by decide) ⟨Nat.zero_le _, Nat.zero_le _⟩ dX6_giveValue_2 (fun r1 _ H locs hw hP hD hS => ?_)
  have er1 := hw
  subst er1
  rcases hi2 : m_at x 2 with _ | i2
  · refine W.eq (g2 := F0 m 5 ls [.null]) rfl ?_
    refine lv_astoreN (lv' := [(4, .null), (0, .ref (ad 0)), (1, .ref (ad (i + 6))), (2, .int x), (3, .int v)]) hx hb dX6_giveValue_5 hl (by decide) rfl (fun ls hl => ?_)
    refine lv_aloadN hx hb dX6_giveValue_7 (lv_at hl 0 rfl) ?_
    refine lv_ifnonnullN hx hb dX6_giveValue_9 ?_
    exact x_vret hx hb hr hlocks hK τ hP hD hS dX6_giveValue_12 (by simp [m_giveValue, n24, n40, n2, n27, n4, hi2])
  · have bi2 := m_at_lt hi2 (by decide)
    refine W.eq (g2 := F0 m 5 ls [.ref (ad (i2 + 96))]) rfl ?_
    refine lv_astore (lv' := [(4, .ref (ad (i2 + 96))), (0, .ref (ad 0)), (1, .ref (ad (i + 6))), (2, .int x), (3, .int v)]) hx hb dX6_giveValue_5 hl (by decide) rfl (fun ls hl => ?_)
    refine lv_aload hx hb dX6_giveValue_7 (lv_at hl 0 rfl) ?_
    refine lv_ifnonnull (tgt := 13) hx hb dX6_giveValue_9 (by decide) ?_
    refine lv_aload_n hx hb dX6_giveValue_13 rfl (lv_at hl 2 rfl) ?_
    refine lv_iload_n hx hb dX6_giveValue_14 rfl (lv_at hl 4 rfl) ?_
    refine p_tk hx hb hts nX7 hown hK hP hD hS hi 13 (by decide) (by decide) k171 (fun _ h9 => h9) rfl rfl rfl dX6_giveValue_15 (fun τ3 H locs eτ3 hP hD hS => ?_)
    refine lv_aload_n hx hb dX6_giveValue_18 rfl (lv_at hl 2 rfl) ?_
    refine lv_iload_n hx hb dX6_giveValue_19 rfl (lv_at hl 3 rfl) ?_
    refine p_tk hx hb hts nX7 hown hK hP hD hS hi 10 (by decide) (by decide) k109 (fun _ h9 => h9) rfl rfl rfl dX6_giveValue_20 (fun τ4 H locs eτ4 hP hD hS => ?_)
    refine lv_aload_n hx hb dX6_giveValue_23 rfl (lv_at hl 2 rfl) ?_
    refine lv_iconst (v := 1) hx hb dX6_giveValue_24 (by decide) ?_
    refine p_tk hx hb hts nX7 hown hK hP hD hS hi 14 (by decide) (by decide) k116 (fun _ h9 => h9) rfl rfl rfl dX6_giveValue_25 (fun τ5 H locs eτ5 hP hD hS => ?_)
    refine lv_aload hx hb dX6_giveValue_28 (lv_at hl 0 rfl) ?_
    refine lv_dup hx hb dX6_giveValue_30 rfl ?_
    refine va_get (D := D) (C := RX1) (T := TX1) (N := 5) (ci := 1) (v := .int (τ5 (i2 + 96) 4)) hx hb hts nX1 hown hK hP (i2 + 96) (w_ch bi2) rfl 4 (by decide) k174 (fun _ h9 => h9) rfl dX6_giveValue_31 ?_
    refine lv_iconst (v := 1) hx hb dX6_giveValue_34 (by decide) ?_
    refine lv_iadd hx hb dX6_giveValue_35 ?_
    refine p_ch hx hb hts nX1 hown hK hP hD hS bi2 4 (by decide) (by decide) k174 (fun _ h9 => h9) rfl rfl rfl dX6_giveValue_36 (fun τ6 H locs eτ6 hP hD hS => ?_)
    refine lv_aload_n hx hb dX6_giveValue_39 rfl (lv_at hl 1 rfl) ?_
    refine lv_aload_n hx hb dX6_giveValue_40 rfl (lv_at hl 2 rfl) ?_
    refine x_Vv (As := [.ref (ad (i + 6))]) (rest0 := []) ⟨hx, hb, hml, hown, hts⟩ (c_X6_makeReady l D cA ad tr rest H.size τ6 i hi) (cwV 1 hts gX6_giveValue_X6_makeReady rfl rfl rfl (by decide +kernel) ⟨Nat.le_of_ble_eq_true rfl, Nat.le_of_ble_eq_true rfl⟩) hK hP hD hS hA 0 w_st rfl hl.1 rfl rfl (by decide) ⟨Nat.zero_le _, Nat.zero_le _⟩ dX6_giveValue_41 (fun τ7 H locs hw hP hD hS => ?_)
    have eτ7 := hw
    exact x_vret hx hb hr hlocks hK τ7 hP hD hS dX6_giveValue_44 (by subst eτ7 eτ6 eτ5 eτ4 eτ3; simp [m_giveValue, n24, n40, n2, n27, n4, hi2])

set_option maxHeartbeats 4000000 in
set_option maxRecDepth 100000 in
theorem c_X6_hasValue (l : Launch) (D : va_G) (cA : Nat → ClassId) (ad : Nat → Nat) (tr : List (ClassId × FieldType)) (rest : va_W) (sz : Nat) (τ : Sg) (x : Int32) : Met l yX6_hasValue wsX6_hasValue ({ frames := 1, cells := 0, slots := 0, locals := 28 }) (va_Pc [.ref (ad 0), .int x] (inW D (tyB cA ++ tr) (wB cA ad τ ++ rest) sz)) (va_Qi (fun (r : Int32) (_ : Unit) => r = bI (m_hasValue τ x)) (fun _ : Unit => outW D (tyB cA ++ tr) (va_A (wB cA ad τ ++ rest) sz) (wB cA ad τ ++ rest)) (va_A (wB cA ad τ ++ rest) sz)) 0 0 (va_A (wB cA ad τ ++ rest) sz) := by
  refine Met.ofW (cc := cX6_hasValue) (maxL := 3) (ret := (some .boolean)) (by decide) rfl ?_
  intro p e s m args below meth c s₁ B hml hv
  obtain ⟨rfl, hsz, hP, hK, hD0⟩ := hv
  have hx := B.exec
  have hb := B.bytes
  have hr := B.returns
  have hts := atoms_spec (ws := wsX6_hasValue) B.pre
  have hown : s.vm.findClass RX6 = some m.cls := findClass_of_methodNamed B.named
  have hlocks := B.notSynchronized
  subst hsz
  have hD := hD0.self (sz := s.heap.size)
  clear hD0
  generalize hAe : va_A (wB cA ad τ ++ rest) s.heap.size = A at hD ⊢
  have hA : ∀ q : Nat, s.heap.size ≤ q → A q := fun q h => by rw [← hAe]; exact Or.inr h
  clear hAe
  have hS : va_S A s.heap s.heap [] := va_S.rf
  have hP : va_P D vwCl (wB cA ad τ ++ rest) s.heap := hP
  have hl := lv_entry ([.ref (ad 0), .int x]) (n := 3) (Nat.le_of_ble_eq_true rfl)
  rw [lg_entry_eq]
  generalize (lg_sl ([.ref (ad 0), .int x]) ++ List.replicate (3 - (lg_sl ([.ref (ad 0), .int x])).length) Slot.unset).toArray = ls at hl ⊢
  have hl : lv_has ls 3 [(0, .ref (ad 0)), (1, .int x)] := hl
  have nX1 : ∀ w ∈ u_ws RX1 TX1 5, w ∈ wsX6_hasValue := by decide +kernel
  have k191 := hts (.fieldLink RX6 191 "ScopeRow$Channel" "count" "I") (by decide +kernel)
  refine lv_aload_n hx hb dX6_hasValue_0 rfl (lv_at hl 0 rfl) ?_
  refine lv_iload_n hx hb dX6_hasValue_1 rfl (lv_at hl 1 rfl) ?_
  refine x_Vq (As := [.int x]) (rest0 := []) ⟨hx, hb, hml, hown, hts⟩ (c_X6_channelAt l D cA ad tr rest s.heap.size τ x) (cwV 1 hts gX6_hasValue_X6_channelAt rfl rfl rfl (by decide +kernel) ⟨Nat.le_of_ble_eq_true rfl, Nat.le_of_ble_eq_true rfl⟩) hK hP hD hS hA 0 w_st rfl hl.1 rfl rfl (by decide) ⟨Nat.zero_le _, Nat.zero_le _⟩ dX6_hasValue_2 (fun r1 _ H locs hw hP hD hS => ?_)
  have er1 := hw
  subst er1
  rcases hi2 : m_at x 2 with _ | i2
  · refine W.eq (g2 := F0 m 5 ls [.null]) rfl ?_
    refine lv_astore_nN (lv' := [(2, .null), (0, .ref (ad 0)), (1, .int x)]) hx hb dX6_hasValue_5 rfl hl (by decide) rfl (fun ls hl => ?_)
    refine lv_aload_nN hx hb dX6_hasValue_6 rfl (lv_at hl 0 rfl) ?_
    refine lv_ifnullN (tgt := 30) hx hb dX6_hasValue_7 (by decide) ?_
    refine lv_iconst (v := 0) hx hb dX6_hasValue_30 (by decide) ?_
    exact x_zret hx hb hr rfl hlocks hK () hP hD hS dX6_hasValue_31 (by simp [m_hasValue, bI, n24, n40, n2, n27, n4, hi2])
  · have bi2 := m_at_lt hi2 (by decide)
    refine W.eq (g2 := F0 m 5 ls [.ref (ad (i2 + 96))]) rfl ?_
    refine lv_astore_n (lv' := [(2, .ref (ad (i2 + 96))), (0, .ref (ad 0)), (1, .int x)]) hx hb dX6_hasValue_5 rfl hl (by decide) rfl (fun ls hl => ?_)
    refine lv_aload_n hx hb dX6_hasValue_6 rfl (lv_at hl 0 rfl) ?_
    refine lv_ifnull hx hb dX6_hasValue_7 ?_
    refine lv_aload_n hx hb dX6_hasValue_10 rfl (lv_at hl 0 rfl) ?_
    refine va_get (D := D) (C := RX1) (T := TX1) (N := 5) (ci := 1) (v := .int (τ (i2 + 96) 2)) hx hb hts nX1 hown hK hP (i2 + 96) (w_ch bi2) rfl 2 (by decide) k191 (fun _ h9 => h9) rfl dX6_hasValue_11 ?_
    refine lv_if_gt (tgt := 26) hx hb dX6_hasValue_14 (by decide) (fun c_14_3 => ?_) (fun c_14_3 => ?_)
    -- 14 jumps
    · skip
      refine lv_iconst (v := 1) hx hb dX6_hasValue_26 (by decide) ?_
      refine lv_goto (tgt := 31) hx hb dX6_hasValue_27 (by decide) ?_
      exact x_zret hx hb hr rfl hlocks hK () hP hD hS dX6_hasValue_31 (by simp [m_hasValue, bI, n24, n40, n2, n27, n4, hi2, eq_true c_14_3])
    -- 14 goes on
    · skip
      refine lv_aload_n hx hb dX6_hasValue_17 rfl (lv_at hl 1 rfl) ?_
      refine lv_iconst (v := 3) hx hb dX6_hasValue_18 (by decide) ?_
      refine lv_iload_n hx hb dX6_hasValue_19 rfl (lv_at hl 2 rfl) ?_
      refine x_Vq (As := [.int 3, .int x]) (rest0 := []) ⟨hx, hb, hml, hown, hts⟩ (c_X6_firstWaiting l D cA ad tr rest H.size τ 3 x) (cwV 2 hts gX6_hasValue_X6_firstWaiting rfl rfl rfl (by decide +kernel) ⟨Nat.le_of_ble_eq_true rfl, Nat.le_of_ble_eq_true rfl⟩) hK hP hD hS hA 0 w_st rfl hl.1 rfl rfl (by decide) ⟨Nat.zero_le _, Nat.zero_le _⟩ dX6_hasValue_20 (fun r4 _ H locs hw hP hD hS => ?_)
      have er4 := hw
      subst er4
      rcases hi5 : m_firstWaiting τ 3 x with _ | i5
      · refine W.eq (g2 := F0 m 23 ls [.null]) rfl ?_
        refine lv_ifnullN (tgt := 30) hx hb dX6_hasValue_23 (by decide) ?_
        refine lv_iconst (v := 0) hx hb dX6_hasValue_30 (by decide) ?_
        exact x_zret hx hb hr rfl hlocks hK () hP hD hS dX6_hasValue_31 (by simp [m_hasValue, bI, n24, n40, n2, n27, n4, hi2, c_14_3, hi5])
      · have bi5 := m_firstWaiting_lt hi5
        refine W.eq (g2 := F0 m 23 ls [.ref (ad (i5 + 6))]) rfl ?_
        refine lv_ifnull hx hb dX6_hasValue_23 ?_
        refine lv_iconst (v := 1) hx hb dX6_hasValue_26 (by decide) ?_
        refine lv_goto (tgt := 31) hx hb dX6_hasValue_27 (by decide) ?_
        exact x_zret hx hb hr rfl hlocks hK () hP hD hS dX6_hasValue_31 (by simp [m_hasValue, bI, n24, n40, n2, n27, n4, hi2, c_14_3, hi5])

set_option maxHeartbeats 4000000 in
set_option maxRecDepth 100000 in
theorem c_X6_allEnded (l : Launch) (D : va_G) (cA : Nat → ClassId) (ad : Nat → Nat) (tr : List (ClassId × FieldType)) (rest : va_W) (sz : Nat) (τ : Sg)  : Met l yX6_allEnded wsX6_allEnded ({ frames := 0, cells := 0, slots := 0, locals := 0 }) (va_Pc [.ref (ad 0)] (inW D (tyB cA ++ tr) (wB cA ad τ ++ rest) sz)) (va_Qi (fun (r : Int32) (_ : Unit) => r = bI (m_allEnded τ)) (fun _ : Unit => outW D (tyB cA ++ tr) (va_A (wB cA ad τ ++ rest) sz) (wB cA ad τ ++ rest)) (va_A (wB cA ad τ ++ rest) sz)) 0 0 (va_A (wB cA ad τ ++ rest) sz) := by
  refine Met.ofW (cc := cX6_allEnded) (maxL := 5) (ret := (some .boolean)) (by decide) rfl ?_
  intro p e s m args below meth c s₁ B hml hv
  obtain ⟨rfl, hsz, hP, hK, hD0⟩ := hv
  have hx := B.exec
  have hb := B.bytes
  have hr := B.returns
  have hts := atoms_spec (ws := wsX6_allEnded) B.pre
  have hown : s.vm.findClass RX6 = some m.cls := findClass_of_methodNamed B.named
  have hlocks := B.notSynchronized
  subst hsz
  have hD := hD0.self (sz := s.heap.size)
  clear hD0
  generalize hAe : va_A (wB cA ad τ ++ rest) s.heap.size = A at hD ⊢
  have hA : ∀ q : Nat, s.heap.size ≤ q → A q := fun q h => by rw [← hAe]; exact Or.inr h
  clear hAe
  have hS : va_S A s.heap s.heap [] := va_S.rf
  have hP : va_P D vwCl (wB cA ad τ ++ rest) s.heap := hP
  have hl := lv_entry ([.ref (ad 0)]) (n := 5) (Nat.le_of_ble_eq_true rfl)
  rw [lg_entry_eq]
  generalize (lg_sl ([.ref (ad 0)]) ++ List.replicate (5 - (lg_sl ([.ref (ad 0)])).length) Slot.unset).toArray = ls at hl ⊢
  have hl : lv_has ls 5 [(0, .ref (ad 0))] := hl
  have nX1 : ∀ w ∈ u_ws RX1 TX1 5, w ∈ wsX6_allEnded := by decide +kernel
  have nX6 : ∀ w ∈ u_ws RX6 TX6 12, w ∈ wsX6_allEnded := by decide +kernel
  have k31 := hts (.fieldLink RX6 31 "ScopeRow$State" "channels" "[LScopeRow$Channel;") (by decide +kernel)
  have k204 := hts (.fieldLink RX6 204 "ScopeRow$Channel" "ended" "Z") (by decide +kernel)
  refine lv_aload_n hx hb dX6_allEnded_0 rfl (lv_at hl 0 rfl) ?_
  refine va_get (D := D) (C := RX6) (T := TX6) (N := 12) (ci := 6) (v := .ref (ad 4)) hx hb hts nX6 hown hK hP 0 w_st rfl 5 (by decide) k31 (fun _ h9 => h9) rfl dX6_allEnded_1 ?_
  refine lv_astore_n (lv' := [(1, .ref (ad 4)), (0, .ref (ad 0))]) hx hb dX6_allEnded_4 rfl hl (by decide) rfl (fun ls hl => ?_)
  refine lv_aload_n hx hb dX6_allEnded_5 rfl (lv_at hl 0 rfl) ?_
  refine va_alen (v := 2) hx hb hK hP 4 4 w_a4 rfl rfl dX6_allEnded_6 ?_
  refine lv_istore_n (lv' := [(2, .int 2), (1, .ref (ad 4)), (0, .ref (ad 0))]) hx hb dX6_allEnded_7 rfl hl (by decide) rfl (fun ls hl => ?_)
  refine lv_iconst (v := 0) hx hb dX6_allEnded_8 (by decide) ?_
  refine lv_istore_n (lv' := [(3, .int 0), (2, .int 2), (1, .ref (ad 4)), (0, .ref (ad 0))]) hx hb dX6_allEnded_9 rfl hl (by decide) rfl (fun ls hl => ?_)
  refine lv_iload_n hx hb dX6_allEnded_10 rfl (lv_at hl 0 rfl) ?_
  refine lv_iload_n hx hb dX6_allEnded_11 rfl (lv_at hl 1 rfl) ?_
  refine lv_icmp_ge (tgt := 36) hx hb dX6_allEnded_12 (by decide) (fun c_12_1 => ?_) (fun c_12_1 => ?_)
  -- 12 jumps
  · exact absurd c_12_1 (by decide)
  -- 12 goes on
  · skip
    refine lv_aload_n hx hb dX6_allEnded_15 rfl (lv_at hl 2 rfl) ?_
    refine lv_iload_n hx hb dX6_allEnded_16 rfl (lv_at hl 0 rfl) ?_
    refine l_a4 hx hb hK hP (j := 0) rfl (by unfold vp_in; decide) dX6_allEnded_17 ?_
    refine lv_astore (lv' := [(4, .ref (ad (0 + 96))), (3, .int 0), (2, .int 2), (1, .ref (ad 4)), (0, .ref (ad 0))]) hx hb dX6_allEnded_18 hl (by decide) rfl (fun ls hl => ?_)
    refine lv_aload hx hb dX6_allEnded_20 (lv_at hl 0 rfl) ?_
    refine va_get (D := D) (C := RX1) (T := TX1) (N := 5) (ci := 1) (v := .int (τ (0 + 96) 3)) hx hb hts nX1 hown hK hP (0 + 96) (w_ch (by decide)) rfl 3 (by decide) k204 (fun _ h9 => h9) rfl dX6_allEnded_22 ?_
    refine lv_if_ne (tgt := 30) hx hb dX6_allEnded_25 (by decide) (fun c_25_2 => ?_) (fun c_25_2 => ?_)
    -- 25 jumps
    · skip
      refine lv_iinc (v := 1) (lv' := [(3, .int 1), (4, .ref (ad (0 + 96))), (2, .int 2), (1, .ref (ad 4)), (0, .ref (ad 0))]) hx hb dX6_allEnded_30 hl (k := 1) rfl (by decide) (by decide) rfl (fun ls hl => ?_)
      refine lv_goto (tgt := 10) hx hb dX6_allEnded_33 (by decide) ?_
      refine lv_iload_n hx hb dX6_allEnded_10 rfl (lv_at hl 0 rfl) ?_
      refine lv_iload_n hx hb dX6_allEnded_11 rfl (lv_at hl 2 rfl) ?_
      refine lv_icmp_ge (tgt := 36) hx hb dX6_allEnded_12 (by decide) (fun c_12_3 => ?_) (fun c_12_3 => ?_)
      -- 12 jumps
      · exact absurd c_12_3 (by decide)
      -- 12 goes on
      · skip
        refine lv_aload_n hx hb dX6_allEnded_15 rfl (lv_at hl 3 rfl) ?_
        refine lv_iload_n hx hb dX6_allEnded_16 rfl (lv_at hl 0 rfl) ?_
        refine l_a4 hx hb hK hP (j := 1) rfl (by unfold vp_in; decide) dX6_allEnded_17 ?_
        refine lv_astore (lv' := [(4, .ref (ad (1 + 96))), (3, .int 1), (2, .int 2), (1, .ref (ad 4)), (0, .ref (ad 0))]) hx hb dX6_allEnded_18 hl (by decide) rfl (fun ls hl => ?_)
        refine lv_aload hx hb dX6_allEnded_20 (lv_at hl 0 rfl) ?_
        refine va_get (D := D) (C := RX1) (T := TX1) (N := 5) (ci := 1) (v := .int (τ (1 + 96) 3)) hx hb hts nX1 hown hK hP (1 + 96) (w_ch (by decide)) rfl 3 (by decide) k204 (fun _ h9 => h9) rfl dX6_allEnded_22 ?_
        refine lv_if_ne (tgt := 30) hx hb dX6_allEnded_25 (by decide) (fun c_25_4 => ?_) (fun c_25_4 => ?_)
        -- 25 jumps
        · skip
          refine lv_iinc (v := 2) (lv' := [(3, .int 2), (4, .ref (ad (1 + 96))), (2, .int 2), (1, .ref (ad 4)), (0, .ref (ad 0))]) hx hb dX6_allEnded_30 hl (k := 1) rfl (by decide) (by decide) rfl (fun ls hl => ?_)
          refine lv_goto (tgt := 10) hx hb dX6_allEnded_33 (by decide) ?_
          refine lv_iload_n hx hb dX6_allEnded_10 rfl (lv_at hl 0 rfl) ?_
          refine lv_iload_n hx hb dX6_allEnded_11 rfl (lv_at hl 2 rfl) ?_
          refine lv_icmp_ge (tgt := 36) hx hb dX6_allEnded_12 (by decide) (fun c_12_5 => ?_) (fun c_12_5 => ?_)
          -- 12 jumps
          · skip
            refine lv_iconst (v := 1) hx hb dX6_allEnded_36 (by decide) ?_
            exact x_zret hx hb hr rfl hlocks hK () hP hD hS dX6_allEnded_37 (by simp [m_allEnded, bI, n24, n40, n2, n27, n4, c_12_1, c_25_2, c_12_3, c_25_4, eq_true c_12_5])
          -- 12 goes on
          · exact absurd c_12_5 (by decide)
        -- 25 goes on
        · skip
          refine lv_iconst (v := 0) hx hb dX6_allEnded_28 (by decide) ?_
          exact x_zret hx hb hr rfl hlocks hK () hP hD hS dX6_allEnded_29 (by simp [m_allEnded, bI, n24, n40, n2, n27, n4, c_12_1, c_25_2, c_12_3, eq_true c_25_4])
    -- 25 goes on
    · skip
      refine lv_iconst (v := 0) hx hb dX6_allEnded_28 (by decide) ?_
      exact x_zret hx hb hr rfl hlocks hK () hP hD hS dX6_allEnded_29 (by simp [m_allEnded, bI, n24, n40, n2, n27, n4, c_12_1, eq_true c_25_2])

set_option maxHeartbeats 4000000 in
set_option maxRecDepth 100000 in
theorem c_X6_makeTask (l : Launch) (D : va_G) (cA : Nat → ClassId) (ad : Nat → Nat) (tr : List (ClassId × FieldType)) (rest : va_W) (sz : Nat) (τ : Sg) (body inn : Int32) : Met l yX6_makeTask wsX6_makeTask ({ frames := 1, cells := 0, slots := 0, locals := 21 }) (va_Pc [.ref (ad 0), .int body, .int inn] (inW D (tyB cA ++ tr) (wB cA ad τ ++ rest) sz)) (va_Qi (fun (r : Int32) (u : Sg) => r = m_makeTask τ ∧ u = m_makeTaskW τ body inn) (fun u : Sg => outW D (tyB cA ++ tr) (va_A (wB cA ad τ ++ rest) sz) (wB cA ad u ++ rest)) (va_A (wB cA ad τ ++ rest) sz)) 0 0 (va_A (wB cA ad τ ++ rest) sz) := by
  refine Met.ofW (cc := cX6_makeTask) (maxL := 4) (ret := (some .int)) (by decide) rfl ?_
  intro p e s m args below meth c s₁ B hml hv
  obtain ⟨rfl, hsz, hP, hK, hD0⟩ := hv
  have hx := B.exec
  have hb := B.bytes
  have hr := B.returns
  have hts := atoms_spec (ws := wsX6_makeTask) B.pre
  have hown : s.vm.findClass RX6 = some m.cls := findClass_of_methodNamed B.named
  have hlocks := B.notSynchronized
  subst hsz
  have hD := hD0.self (sz := s.heap.size)
  clear hD0
  generalize hAe : va_A (wB cA ad τ ++ rest) s.heap.size = A at hD ⊢
  have hA : ∀ q : Nat, s.heap.size ≤ q → A q := fun q h => by rw [← hAe]; exact Or.inr h
  clear hAe
  have hS : va_S A s.heap s.heap [] := va_S.rf
  have hP : va_P D vwCl (wB cA ad τ ++ rest) s.heap := hP
  have hl := lv_entry ([.ref (ad 0), .int body, .int inn]) (n := 4) (Nat.le_of_ble_eq_true rfl)
  rw [lg_entry_eq]
  generalize (lg_sl ([.ref (ad 0), .int body, .int inn]) ++ List.replicate (4 - (lg_sl ([.ref (ad 0), .int body, .int inn])).length) Slot.unset).toArray = ls at hl ⊢
  have hl : lv_has ls 4 [(0, .ref (ad 0)), (1, .int body), (2, .int inn)] := hl
  have nX6 : ∀ w ∈ u_ws RX6 TX6 12, w ∈ wsX6_makeTask := by decide +kernel
  have nX7 : ∀ w ∈ u_ws RX7 TX7 17, w ∈ wsX6_makeTask := by decide +kernel
  have k58 := hts (.fieldLink RX6 58 "ScopeRow$State" "taskCount" "I") (by decide +kernel)
  have k83 := hts (.fieldLink RX6 83 "ScopeRow$Task" "body" "I") (by decide +kernel)
  have k97 := hts (.fieldLink RX6 97 "ScopeRow$Task" "in" "I") (by decide +kernel)
  have k103 := hts (.fieldLink RX6 103 "ScopeRow$Task" "number" "I") (by decide +kernel)
  refine lv_aload_n hx hb dX6_makeTask_0 rfl (lv_at hl 0 rfl) ?_
  refine lv_aload_n hx hb dX6_makeTask_1 rfl (lv_at hl 0 rfl) ?_
  refine va_get (D := D) (C := RX6) (T := TX6) (N := 12) (ci := 6) (v := .int (τ 0 1)) hx hb hts nX6 hown hK hP 0 w_st rfl 1 (by decide) k58 (fun _ h9 => h9) rfl dX6_makeTask_2 ?_
  refine x_Vq (As := [.int (τ 0 1)]) (rest0 := []) ⟨hx, hb, hml, hown, hts⟩ (c_X6_taskAt l D cA ad tr rest s.heap.size τ (τ 0 1)) (cwV 1 hts gX6_makeTask_X6_taskAt rfl rfl rfl (by decide +kernel) ⟨Nat.le_of_ble_eq_true rfl, Nat.le_of_ble_eq_true rfl⟩) hK hP hD hS hA 0 w_st rfl hl.1 rfl rfl (by decide) ⟨Nat.zero_le _, Nat.zero_le _⟩ dX6_makeTask_5 (fun r1 _ H locs hw hP hD hS => ?_)
  have er1 := hw
  subst er1
  rcases hi2 : m_at (τ 0 1) 24 with _ | i2
  · refine W.eq (g2 := F0 m 8 ls [.null]) rfl ?_
    refine lv_astore_nN (lv' := [(3, .null), (0, .ref (ad 0)), (1, .int body), (2, .int inn)]) hx hb dX6_makeTask_8 rfl hl (by decide) rfl (fun ls hl => ?_)
    refine lv_aload_nN hx hb dX6_makeTask_9 rfl (lv_at hl 0 rfl) ?_
    refine lv_ifnonnullN hx hb dX6_makeTask_10 ?_
    refine lv_iconst (v := (-1)) hx hb dX6_makeTask_13 (by decide) ?_
    exact x_iret hx hb hr hlocks hK τ hP hD hS dX6_makeTask_14 (by simp [m_makeTask, m_makeTaskW, n24, n40, n2, n27, n4, hi2])
  · have bi2 := m_at_lt hi2 (by decide)
    refine W.eq (g2 := F0 m 8 ls [.ref (ad (i2 + 6))]) rfl ?_
    refine lv_astore_n (lv' := [(3, .ref (ad (i2 + 6))), (0, .ref (ad 0)), (1, .int body), (2, .int inn)]) hx hb dX6_makeTask_8 rfl hl (by decide) rfl (fun ls hl => ?_)
    refine lv_aload_n hx hb dX6_makeTask_9 rfl (lv_at hl 0 rfl) ?_
    refine lv_ifnonnull (tgt := 15) hx hb dX6_makeTask_10 (by decide) ?_
    refine lv_aload_n hx hb dX6_makeTask_15 rfl (lv_at hl 0 rfl) ?_
    refine lv_iload_n hx hb dX6_makeTask_16 rfl (lv_at hl 2 rfl) ?_
    refine p_tk hx hb hts nX7 hown hK hP hD hS bi2 2 (by decide) (by decide) k83 (fun _ h9 => h9) rfl rfl rfl dX6_makeTask_17 (fun τ3 H locs eτ3 hP hD hS => ?_)
    refine lv_aload_n hx hb dX6_makeTask_20 rfl (lv_at hl 0 rfl) ?_
    refine lv_iload_n hx hb dX6_makeTask_21 rfl (lv_at hl 3 rfl) ?_
    refine p_tk hx hb hts nX7 hown hK hP hD hS bi2 6 (by decide) (by decide) k97 (fun _ h9 => h9) rfl rfl rfl dX6_makeTask_22 (fun τ4 H locs eτ4 hP hD hS => ?_)
    refine lv_aload_n hx hb dX6_makeTask_25 rfl (lv_at hl 1 rfl) ?_
    refine lv_dup hx hb dX6_makeTask_26 rfl ?_
    refine va_get (D := D) (C := RX6) (T := TX6) (N := 12) (ci := 6) (v := .int (τ4 0 1)) hx hb hts nX6 hown hK hP 0 w_st rfl 1 (by decide) k58 (fun _ h9 => h9) rfl dX6_makeTask_27 ?_
    refine lv_iconst (v := 1) hx hb dX6_makeTask_30 (by decide) ?_
    refine lv_iadd hx hb dX6_makeTask_31 ?_
    refine p_st hx hb hts nX6 hown hK hP hD hS 1 (by decide) (by decide) k58 (fun _ h9 => h9) rfl rfl rfl dX6_makeTask_32 (fun τ5 H locs eτ5 hP hD hS => ?_)
    refine lv_aload_n hx hb dX6_makeTask_35 rfl (lv_at hl 1 rfl) ?_
    refine lv_aload_n hx hb dX6_makeTask_36 rfl (lv_at hl 0 rfl) ?_
    refine x_Vv (As := [.ref (ad (i2 + 6))]) (rest0 := []) ⟨hx, hb, hml, hown, hts⟩ (c_X6_makeReady l D cA ad tr rest H.size τ5 i2 bi2) (cwV 1 hts gX6_makeTask_X6_makeReady rfl rfl rfl (by decide +kernel) ⟨Nat.le_of_ble_eq_true rfl, Nat.le_of_ble_eq_true rfl⟩) hK hP hD hS hA 0 w_st rfl hl.1 rfl rfl (by decide) ⟨Nat.zero_le _, Nat.zero_le _⟩ dX6_makeTask_37 (fun τ6 H locs hw hP hD hS => ?_)
    have eτ6 := hw
    refine lv_aload_n hx hb dX6_makeTask_40 rfl (lv_at hl 0 rfl) ?_
    refine va_get (D := D) (C := RX7) (T := TX7) (N := 17) (ci := 7) (v := .int (nI i2)) hx hb hts nX7 hown hK hP (i2 + 6) (w_tk bi2) rfl 0 (by decide) k103 (fun _ h9 => h9) rfl dX6_makeTask_41 ?_
    exact x_iret hx hb hr hlocks hK τ6 hP hD hS dX6_makeTask_44 (by subst eτ6 eτ5 eτ4 eτ3; simp [m_makeTask, m_makeTaskW, n24, n40, n2, n27, n4, hi2])
