/-! THE WHOLE OBJECT: its State (ad, τ), the Program (pd, π), the trial (bd, ρ), itself at tp -/
def tpF (ad bd : Nat → Nat) : List Value := [.ref (ad 102), .ref (ad 0), .ref (ad 100), .ref (ad 101), .ref (bd 0), .ref (bd 100), .ref (bd 101)]
theorem wPg_len {cA ad pd π} : (wPg cA ad pd π).length = 5 := rfl
theorem w_far {cA ad pd τ π} {R : va_W} (k : Nat) : (wB cA ad τ ++ (wPg cA ad pd π ++ R))[k + 107]? = R[k]? := by
  rw [show k + 107 = (k + 5) + 102 by omega, wB_rest (rest := wPg cA ad pd π ++ R) (k + 5), List.getElem?_append_right (by rw [wPg_len]; omega), wPg_len]
  simp
theorem w_stT {cA ad pd bd τ π ρ} {R : va_W} : (wB cA ad τ ++ (wPg cA ad pd π ++ (wB cA bd ρ ++ R)))[107]? = some (bd 0, .inr (6, stF bd (ρ 0))) := by
  rw [w_far (R := wB cA bd ρ ++ R) 0]; exact w_st
theorem w_ruT {cA ad pd bd τ π ρ} {R : va_W} : (wB cA ad τ ++ (wPg cA ad pd π ++ (wB cA bd ρ ++ R)))[207]? = some (bd 100, .inr (4, ruF bd (ρ 100))) := by
  rw [w_far (R := wB cA bd ρ ++ R) 100]; exact w_ru
theorem w_anT {cA ad pd bd τ π ρ} {R : va_W} : (wB cA ad τ ++ (wPg cA ad pd π ++ (wB cA bd ρ ++ R)))[208]? = some (bd 101, .inr (0, anF bd)) := by
  rw [w_far (R := wB cA bd ρ ++ R) 101]; exact w_an
theorem w_tp {cA ad pd bd tp τ π ρ} {R : va_W} : (wB cA ad τ ++ (wPg cA ad pd π ++ (wB cA bd ρ ++ ((tp, .inr (8, tpF ad bd)) :: R))))[209]? = some (tp, .inr (8, tpF ad bd)) := by
  rw [w_far (R := wB cA bd ρ ++ ((tp, .inr (8, tpF ad bd)) :: R)) 102, wB_rest (rest := (tp, .inr (8, tpF ad bd)) :: R) 0]; rfl
theorem perm3 {a g b t : va_W} : (b ++ (a ++ (g ++ t))).Perm (a ++ (g ++ (b ++ t))) := perm_sw.trans (List.Perm.append_left a perm_sw)
theorem perm4 {a g b t : va_W} : (b ++ (g ++ (a ++ t))).Perm (a ++ (g ++ (b ++ t))) := ((List.Perm.append_left b perm_sw).trans perm3)
theorem wPg_ad {cA ad bd pd π} (h : bd 102 = ad 102) : wPg cA bd pd π = wPg cA ad pd π := by unfold wPg; rw [h]
section XST
variable {p : Program} {l : Launch} {e : Env} {R : Room} {s : State} {m : MethodId} {args : Array Value} {below : List Frame} {meth : Method} {c : Code} {H : Heap} {locs : List Loc} {cells slots : Nat} {Q : State → Prop}
variable {cc bytes : ByteArray} {pc nL maxL index n : Nat} {ls : Array Slot} {st0 rest0 As : List Value} {D : va_G} {tys : List (ClassId × FieldType)} {ws : va_W} {A0 : Nat → Prop} {H0 : Heap} {Ts wsy : List Cond} {own C : String} {y : MethodName} {ret : Option FieldType} {rm : Room}
theorem x_Sv {S : Type} {post : S → Prop} {wf : S → va_W} (F : CallFix p m c cc nL s args Ts own)
    (hM : Met l y wsy rm (va_Pc As (inW D tys ws H.size)) (va_Qv post (fun u => outW D tys (va_A ws H.size) (wf u)) (va_A ws H.size)) 0 0 (va_A ws H.size))
    (cw : CallB R s args own index y bytes maxL ret wsy rm 0 0 n ∧ (Cond.static y).before args s = true) (hK : va_K D vwCl tys s) (hP : va_P D vwCl ws H) (hD : va_D A0 ws) (hS : va_S A0 H0 H locs) (hA : ∀ q, H0.size ≤ q → A0 q)
    (hl : ls.size = nL) (hn : As.length = n) (hst : st0 = As.reverse ++ rest0) (hW : (rest0.map fun v => v.category).sum ≤ 8)
    (hf : cells ≤ R.cells ∧ slots ≤ R.slots) (hdg : decode cc pc = .ok (.invokestatic index, 3))
    (kk : ∀ (u : S) (H1 : Heap) (locs1 : List Loc), post u → va_P D vwCl (wf u) H1 → va_D A0 (wf u) → va_S A0 H0 H1 locs1 → W p l e R s m args below meth c H1 locs1 cells slots Q (F0 m (pc + 3) ls rest0)) :
    W p l e R s m args below meth c H locs cells slots Q (F0 m pc ls st0) := by
  have hFc := xA hD hS hA
  refine va_callv (va_runS (As := As) (rest := rest0) F hM cw ⟨fun a U g mk q => ⟨q.1, inW_blind q.2⟩, fun U hU hW => ⟨rfl, by rw [hU], by rw [hU]; exact hP, va_K.moved hW.alike hK, hD.weaken (fun _ _ _ _ => trivial)⟩⟩ rfl hn hl hst (lv_room hW) hdg ⟨hf.1, hf.2⟩) hS (fun q _ h => hFc q h) hFc (fun u t H1 locs1 ht hvm hw hB hz1 hk1 hS1 => ?_)
  obtain ⟨hP1, hK1, hD1⟩ := hB
  rw [ht] at hP1
  exact kk u H1 locs1 hw hP1 (hD1.weaken (fun k q _ h => hFc q.1 h)) hS1
end XST
-- the trial's methods, in the whole world
theorem c_X6_copyFrom_T (l : Launch) (D : va_G) (cA : Nat → ClassId) (ad : Nat → Nat) (tr : List (ClassId × FieldType)) (rest : va_W) (sz : Nat) (τ : Sg) (pd : Nat → Nat) (π : Sg) (bd : Nat → Nat) (tp : Nat) (ρ : Sg) (h102 : bd 102 = ad 102) (hfl : m_flags τ) : Met l yX6_copyFrom wsX6_copyFrom ({ frames := 2, cells := 0, slots := 0, locals := 81 }) (va_Pc [.ref (bd 0), .ref (ad 0)] (inW D (tyB cA ++ tr) (wB cA ad τ ++ (wPg cA ad pd π ++ (wB cA bd ρ ++ ((tp, .inr (8, tpF ad bd)) :: rest)))) sz)) (va_Qv (fun u : Sg => u = m_copy ρ τ) (fun u : Sg => outW D (tyB cA ++ tr) (va_A (wB cA ad τ ++ (wPg cA ad pd π ++ (wB cA bd ρ ++ ((tp, .inr (8, tpF ad bd)) :: rest)))) sz) (wB cA ad τ ++ (wPg cA ad pd π ++ (wB cA bd u ++ ((tp, .inr (8, tpF ad bd)) :: rest))))) (va_A (wB cA ad τ ++ (wPg cA ad pd π ++ (wB cA bd ρ ++ ((tp, .inr (8, tpF ad bd)) :: rest)))) sz)) 0 0 (va_A (wB cA ad τ ++ (wPg cA ad pd π ++ (wB cA bd ρ ++ ((tp, .inr (8, tpF ad bd)) :: rest)))) sz) :=
  met_pv (ws := wB cA bd ρ ++ (wB cA ad τ ++ (wPg cA ad pd π ++ ((tp, .inr (8, tpF ad bd)) :: rest)))) (wf := fun u => wB cA bd u ++ (wB cA ad τ ++ (wPg cA ad pd π ++ ((tp, .inr (8, tpF ad bd)) :: rest)))) perm3 (fun _ => perm3) (c_X6_copyFrom l D cA bd tr (wPg cA ad pd π ++ ((tp, .inr (8, tpF ad bd)) :: rest)) sz ρ ad τ hfl)
theorem c_X6_tickOnce_T (l : Launch) (D : va_G) (cA : Nat → ClassId) (ad : Nat → Nat) (tr : List (ClassId × FieldType)) (rest : va_W) (sz : Nat) (τ : Sg) (pd : Nat → Nat) (π : Sg) (bd : Nat → Nat) (tp : Nat) (ρ : Sg) (h102 : bd 102 = ad 102) : Met l yX6_tickOnce wsX6_tickOnce ({ frames := 2, cells := 0, slots := 0, locals := 50 }) (va_Pc [.ref (bd 0)] (inW D (tyB cA ++ tr) (wB cA ad τ ++ (wPg cA ad pd π ++ (wB cA bd ρ ++ ((tp, .inr (8, tpF ad bd)) :: rest)))) sz)) (va_Qi (fun (r : Int32) (u : Sg) => r = m_tickOnce ρ ∧ u = m_tickOnceW ρ) (fun u : Sg => outW D (tyB cA ++ tr) (va_A (wB cA ad τ ++ (wPg cA ad pd π ++ (wB cA bd ρ ++ ((tp, .inr (8, tpF ad bd)) :: rest)))) sz) (wB cA ad τ ++ (wPg cA ad pd π ++ (wB cA bd u ++ ((tp, .inr (8, tpF ad bd)) :: rest))))) (va_A (wB cA ad τ ++ (wPg cA ad pd π ++ (wB cA bd ρ ++ ((tp, .inr (8, tpF ad bd)) :: rest)))) sz)) 0 0 (va_A (wB cA ad τ ++ (wPg cA ad pd π ++ (wB cA bd ρ ++ ((tp, .inr (8, tpF ad bd)) :: rest)))) sz) :=
  met_pi (ws := wB cA bd ρ ++ (wB cA ad τ ++ (wPg cA ad pd π ++ ((tp, .inr (8, tpF ad bd)) :: rest)))) (wf := fun u => wB cA bd u ++ (wB cA ad τ ++ (wPg cA ad pd π ++ ((tp, .inr (8, tpF ad bd)) :: rest)))) perm3 (fun _ => perm3) (c_X6_tickOnce l D cA bd tr (wB cA ad τ ++ (wPg cA ad pd π ++ ((tp, .inr (8, tpF ad bd)) :: rest))) sz ρ)
theorem c_X4_takeTurns_T (l : Launch) (D : va_G) (cA : Nat → ClassId) (ad : Nat → Nat) (tr : List (ClassId × FieldType)) (rest : va_W) (sz : Nat) (τ : Sg) (pd : Nat → Nat) (π : Sg) (bd : Nat → Nat) (tp : Nat) (ρ : Sg) (h102 : bd 102 = ad 102) (N : Nat) (hN : N < 1000) : Met l yX4_takeTurns wsX4_takeTurns ({ frames := 5, cells := 0, slots := 0, locals := 123 }) (va_Pc [.ref (bd 100), .int (nI N)] (inW D (tyB cA ++ tr) (wB cA ad τ ++ (wPg cA ad pd π ++ (wB cA bd ρ ++ ((tp, .inr (8, tpF ad bd)) :: rest)))) sz)) (va_Qi (fun (r : Int32) (u : Sg) => r = nI (m_turns π N 0 ρ).2 ∧ u = (m_turns π N 0 ρ).1) (fun u : Sg => outW D (tyB cA ++ tr) (va_A (wB cA ad τ ++ (wPg cA ad pd π ++ (wB cA bd ρ ++ ((tp, .inr (8, tpF ad bd)) :: rest)))) sz) (wB cA ad τ ++ (wPg cA ad pd π ++ (wB cA bd u ++ ((tp, .inr (8, tpF ad bd)) :: rest))))) (va_A (wB cA ad τ ++ (wPg cA ad pd π ++ (wB cA bd ρ ++ ((tp, .inr (8, tpF ad bd)) :: rest)))) sz)) 0 0 (va_A (wB cA ad τ ++ (wPg cA ad pd π ++ (wB cA bd ρ ++ ((tp, .inr (8, tpF ad bd)) :: rest)))) sz) := by
  have h := c_X4_takeTurns l D cA bd tr (wB cA ad τ ++ ((tp, .inr (8, tpF ad bd)) :: rest)) sz ρ pd π N hN
  rw [wPg_ad h102] at h
  exact met_pi (ws := wB cA bd ρ ++ (wPg cA ad pd π ++ (wB cA ad τ ++ ((tp, .inr (8, tpF ad bd)) :: rest)))) (wf := fun u => wB cA bd u ++ (wPg cA ad pd π ++ (wB cA ad τ ++ ((tp, .inr (8, tpF ad bd)) :: rest)))) perm4 (fun _ => perm4) h
theorem c_X0_countOver_T (l : Launch) (D : va_G) (cA : Nat → ClassId) (ad : Nat → Nat) (tr : List (ClassId × FieldType)) (rest : va_W) (sz : Nat) (τ : Sg) (pd : Nat → Nat) (π : Sg) (bd : Nat → Nat) (tp : Nat) (ρ : Sg) (h102 : bd 102 = ad 102) : Met l yX0_countOver wsX0_countOver ({ frames := 1, cells := 0, slots := 0, locals := 20 }) (va_Pc [.ref (bd 101)] (inW D (tyB cA ++ tr) (wB cA ad τ ++ (wPg cA ad pd π ++ (wB cA bd ρ ++ ((tp, .inr (8, tpF ad bd)) :: rest)))) sz)) (va_Qi (fun (r : Int32) (_ : Unit) => r = nI (m_countOver ρ)) (fun _ : Unit => outW D (tyB cA ++ tr) (va_A (wB cA ad τ ++ (wPg cA ad pd π ++ (wB cA bd ρ ++ ((tp, .inr (8, tpF ad bd)) :: rest)))) sz) (wB cA ad τ ++ (wPg cA ad pd π ++ (wB cA bd ρ ++ ((tp, .inr (8, tpF ad bd)) :: rest))))) (va_A (wB cA ad τ ++ (wPg cA ad pd π ++ (wB cA bd ρ ++ ((tp, .inr (8, tpF ad bd)) :: rest)))) sz)) 0 0 (va_A (wB cA ad τ ++ (wPg cA ad pd π ++ (wB cA bd ρ ++ ((tp, .inr (8, tpF ad bd)) :: rest)))) sz) :=
  met_pi (ws := wB cA bd ρ ++ (wB cA ad τ ++ (wPg cA ad pd π ++ ((tp, .inr (8, tpF ad bd)) :: rest)))) (wf := fun _ : Unit => wB cA bd ρ ++ (wB cA ad τ ++ (wPg cA ad pd π ++ ((tp, .inr (8, tpF ad bd)) :: rest)))) perm3 (fun _ => perm3) (c_X0_countOver l D cA bd tr (wB cA ad τ ++ (wPg cA ad pd π ++ ((tp, .inr (8, tpF ad bd)) :: rest))) sz ρ)
/-- some ticks, and turns behind each of them -/
def m_overS (π : Sg) (U : Nat) : Nat → Sg → Sg
  | 0, ρ => ρ
  | n + 1, ρ => m_overS π U n (m_turns π U 0 (m_tickOnceW ρ)).1
def m_ticks : Nat → Sg → Int32 → Sg × Int32
  | 0, τ, r => (τ, r)
  | n + 1, τ, r => m_ticks n (m_tickOnceW τ) (r + m_tickOnce τ)
def m_fM (τ π : Sg) (w : Nat) : Int32 := m_howMany τ π (nI w)
theorem m_ticks_s (n : Nat) (τ : Sg) (r : Int32) : m_ticks (n + 1) τ r = m_ticks n (m_tickOnceW τ) (r + m_tickOnce τ) := rfl
theorem m_overS_s (π : Sg) (U n : Nat) (ρ : Sg) : m_overS π U (n + 1) ρ = m_overS π U n (m_turns π U 0 (m_tickOnceW ρ)).1 := rfl

set_option maxHeartbeats 4000000 in
set_option maxRecDepth 100000 in
theorem c_X8_checkNumber (l : Launch) (D : va_G) (cA : Nat → ClassId) (ad : Nat → Nat) (tr : List (ClassId × FieldType)) (rest : va_W) (sz : Nat) (τ : Sg) (x n : Int32) (h0 : ¬ x < 0) (h1 : x < n) : Met l yX8_checkNumber w8_checkNumber ({ frames := 0, cells := 0, slots := 0, locals := 0 }) (va_Pc [.int x, .int n] (inW D (tyB cA ++ tr) (wB cA ad τ ++ rest) sz)) (va_Qv (fun _ : Unit => True) (fun _ : Unit => outW D (tyB cA ++ tr) (va_A (wB cA ad τ ++ rest) sz) (wB cA ad τ ++ rest)) (va_A (wB cA ad τ ++ rest) sz)) 0 0 (va_A (wB cA ad τ ++ rest) sz) := by
  refine Met.ofW (cc := cX8_checkNumber) (maxL := 2) (ret := none) (by decide) rfl ?_
  intro p e s m args below meth c s₁ B hml hv
  obtain ⟨rfl, hsz, hP, hK, hD0⟩ := hv
  have hx := B.exec
  have hb := B.bytes
  have hr := B.returns
  have hts := atoms_spec (ws := w8_checkNumber) B.pre
  have hown : s.vm.findClass RX8 = some m.cls := findClass_of_methodNamed B.named
  have hlocks := B.notSynchronized
  subst hsz
  have hD := hD0.self (sz := s.heap.size)
  clear hD0
  generalize hAe : va_A (wB cA ad τ ++ rest) s.heap.size = A at hD ⊢
  have hA : ∀ q : Nat, s.heap.size ≤ q → A q := fun q h => by rw [← hAe]; exact Or.inr h
  clear hAe
  have hS : va_S A s.heap s.heap [] := va_S.rf
  have hP : va_P D vwCl (wB cA ad τ ++ rest) s.heap := hP
  have hl := lv_entry ([.int x, .int n]) (n := 2) (Nat.le_of_ble_eq_true rfl)
  rw [lg_entry_eq]
  generalize (lg_sl ([.int x, .int n]) ++ List.replicate (2 - (lg_sl ([.int x, .int n])).length) Slot.unset).toArray = ls at hl ⊢
  have hl : lv_has ls 2 [(0, .int x), (1, .int n)] := hl
  refine lv_iload_n hx hb dX8_checkNumber_0 rfl (lv_at hl 0 rfl) ?_
  refine lv_if_lt (tgt := 9) hx hb dX8_checkNumber_1 (by decide) (fun c_1_1 => ?_) (fun c_1_1 => ?_)
  -- 1 jumps
  · exact absurd c_1_1 h0
  -- 1 goes on
  · skip
    refine lv_iload_n hx hb dX8_checkNumber_4 rfl (lv_at hl 0 rfl) ?_
    refine lv_iload_n hx hb dX8_checkNumber_5 rfl (lv_at hl 1 rfl) ?_
    refine lv_icmp_lt (tgt := 19) hx hb dX8_checkNumber_6 (by decide) (fun c_6_2 => ?_) (fun c_6_2 => ?_)
    -- 6 jumps
    · skip
      exact x_vret hx hb hr hlocks hK () hP hD hS dX8_checkNumber_19 trivial
    -- 6 goes on
    · exact absurd h1 c_6_2

set_option maxHeartbeats 4000000 in
set_option maxRecDepth 100000 in
theorem c_X8_checkWithin (l : Launch) (D : va_G) (cA : Nat → ClassId) (ad : Nat → Nat) (tr : List (ClassId × FieldType)) (rest : va_W) (sz : Nat) (τ : Sg) (v lo hi : Int32) (h0 : ¬ v < lo) (h1 : v ≤ hi) : Met l yX8_checkWithin w8_checkWithin ({ frames := 0, cells := 0, slots := 0, locals := 0 }) (va_Pc [.int v, .int lo, .int hi] (inW D (tyB cA ++ tr) (wB cA ad τ ++ rest) sz)) (va_Qv (fun _ : Unit => True) (fun _ : Unit => outW D (tyB cA ++ tr) (va_A (wB cA ad τ ++ rest) sz) (wB cA ad τ ++ rest)) (va_A (wB cA ad τ ++ rest) sz)) 0 0 (va_A (wB cA ad τ ++ rest) sz) := by
  refine Met.ofW (cc := cX8_checkWithin) (maxL := 3) (ret := none) (by decide) rfl ?_
  intro p e s m args below meth c s₁ B hml hv
  obtain ⟨rfl, hsz, hP, hK, hD0⟩ := hv
  have hx := B.exec
  have hb := B.bytes
  have hr := B.returns
  have hts := atoms_spec (ws := w8_checkWithin) B.pre
  have hown : s.vm.findClass RX8 = some m.cls := findClass_of_methodNamed B.named
  have hlocks := B.notSynchronized
  subst hsz
  have hD := hD0.self (sz := s.heap.size)
  clear hD0
  generalize hAe : va_A (wB cA ad τ ++ rest) s.heap.size = A at hD ⊢
  have hA : ∀ q : Nat, s.heap.size ≤ q → A q := fun q h => by rw [← hAe]; exact Or.inr h
  clear hAe
  have hS : va_S A s.heap s.heap [] := va_S.rf
  have hP : va_P D vwCl (wB cA ad τ ++ rest) s.heap := hP
  have hl := lv_entry ([.int v, .int lo, .int hi]) (n := 3) (Nat.le_of_ble_eq_true rfl)
  rw [lg_entry_eq]
  generalize (lg_sl ([.int v, .int lo, .int hi]) ++ List.replicate (3 - (lg_sl ([.int v, .int lo, .int hi])).length) Slot.unset).toArray = ls at hl ⊢
  have hl : lv_has ls 3 [(0, .int v), (1, .int lo), (2, .int hi)] := hl
  refine lv_iload_n hx hb dX8_checkWithin_0 rfl (lv_at hl 0 rfl) ?_
  refine lv_iload_n hx hb dX8_checkWithin_1 rfl (lv_at hl 1 rfl) ?_
  refine lv_icmp_lt (tgt := 10) hx hb dX8_checkWithin_2 (by decide) (fun c_2_1 => ?_) (fun c_2_1 => ?_)
  -- 2 jumps
  · exact absurd c_2_1 h0
  -- 2 goes on
  · skip
    refine lv_iload_n hx hb dX8_checkWithin_5 rfl (lv_at hl 0 rfl) ?_
    refine lv_iload_n hx hb dX8_checkWithin_6 rfl (lv_at hl 2 rfl) ?_
    refine lv_icmp_le (tgt := 20) hx hb dX8_checkWithin_7 (by decide) (fun c_7_2 => ?_) (fun c_7_2 => ?_)
    -- 7 jumps
    · skip
      exact x_vret hx hb hr hlocks hK () hP hD hS dX8_checkWithin_20 trivial
    -- 7 goes on
    · exact absurd h1 c_7_2

set_option maxHeartbeats 4000000 in
set_option maxRecDepth 100000 in
theorem c_X8_many (l : Launch) (D : va_G) (cA : Nat → ClassId) (ad : Nat → Nat) (tr : List (ClassId × FieldType)) (rest : va_W) (sz : Nat) (τ : Sg) (pd : Nat → Nat) (π : Sg) (bd : Nat → Nat) (tp : Nat) (ρ : Sg) (h102 : bd 102 = ad 102) (what : Int32) (hw0 : ¬ what < 0) (hw1 : what ≤ 12) : Met l yX8_many w8_many ({ frames := 3, cells := 0, slots := 0, locals := 66 }) (va_Pc [.ref (tp), .int what] (inW D (tyB cA ++ tr) (wB cA ad τ ++ (wPg cA ad pd π ++ (wB cA bd ρ ++ ((tp, .inr (8, tpF ad bd)) :: rest)))) sz)) (va_Qi (fun (r : Int32) (_ : Unit) => r = m_howMany τ π what) (fun _ : Unit => outW D (tyB cA ++ tr) (va_A (wB cA ad τ ++ (wPg cA ad pd π ++ (wB cA bd ρ ++ ((tp, .inr (8, tpF ad bd)) :: rest)))) sz) (wB cA ad τ ++ (wPg cA ad pd π ++ (wB cA bd ρ ++ ((tp, .inr (8, tpF ad bd)) :: rest))))) (va_A (wB cA ad τ ++ (wPg cA ad pd π ++ (wB cA bd ρ ++ ((tp, .inr (8, tpF ad bd)) :: rest)))) sz)) 0 0 (va_A (wB cA ad τ ++ (wPg cA ad pd π ++ (wB cA bd ρ ++ ((tp, .inr (8, tpF ad bd)) :: rest)))) sz) := by
  refine Met.ofW (cc := cX8_many) (maxL := 2) (ret := (some .int)) (by decide) rfl ?_
  intro p e s m args below meth c s₁ B hml hv
  obtain ⟨rfl, hsz, hP, hK, hD0⟩ := hv
  have hx := B.exec
  have hb := B.bytes
  have hr := B.returns
  have hts := atoms_spec (ws := w8_many) B.pre
  have hown : s.vm.findClass RX8 = some m.cls := findClass_of_methodNamed B.named
  have hlocks := B.notSynchronized
  subst hsz
  have hD := hD0.self (sz := s.heap.size)
  clear hD0
  generalize hAe : va_A (wB cA ad τ ++ (wPg cA ad pd π ++ (wB cA bd ρ ++ ((tp, .inr (8, tpF ad bd)) :: rest)))) s.heap.size = A at hD ⊢
  have hA : ∀ q : Nat, s.heap.size ≤ q → A q := fun q h => by rw [← hAe]; exact Or.inr h
  clear hAe
  have hS : va_S A s.heap s.heap [] := va_S.rf
  have hP : va_P D vwCl (wB cA ad τ ++ (wPg cA ad pd π ++ (wB cA bd ρ ++ ((tp, .inr (8, tpF ad bd)) :: rest)))) s.heap := hP
  have hl := lv_entry ([.ref (tp), .int what]) (n := 2) (Nat.le_of_ble_eq_true rfl)
  rw [lg_entry_eq]
  generalize (lg_sl ([.ref (tp), .int what]) ++ List.replicate (2 - (lg_sl ([.ref (tp), .int what])).length) Slot.unset).toArray = ls at hl ⊢
  have hl : lv_has ls 2 [(0, .ref (tp)), (1, .int what)] := hl
  have nX8 : ∀ w ∈ u_ws RX8 TX8 7, w ∈ w8_many := n8_many_X8
  have k35 := hts (.fieldLink RX8 35 "ScopeRow" "answers" "LScopeRow$Answers;") (by decide +kernel)
  refine lv_iload_n hx hb dX8_many_0 rfl (lv_at hl 1 rfl) ?_
  refine lv_iconst (v := 0) hx hb dX8_many_1 (by decide) ?_
  refine lv_bipush (v := 12) hx hb dX8_many_2 (by decide) ?_
  refine x_Sv (As := [.int what, .int 0, .int 12]) (rest0 := []) ⟨hx, hb, hml, hown, hts⟩ (c_X8_checkWithin l D cA ad tr (wPg cA ad pd π ++ (wB cA bd ρ ++ ((tp, .inr (8, tpF ad bd)) :: rest))) s.heap.size τ what 0 12 hw0 hw1) (va_cwS 3 hts g8_many_X8_checkWithin rfl rfl rfl (by decide +kernel) ⟨Nat.le_of_ble_eq_true rfl, Nat.le_of_ble_eq_true rfl⟩) hK hP hD hS hA hl.1 rfl rfl (Nat.le_of_ble_eq_true rfl) ⟨Nat.zero_le _, Nat.zero_le _⟩ dX8_many_4 (fun _ H locs hw hP hD hS => ?_)
  refine lv_aload_n hx hb dX8_many_7 rfl (lv_at hl 0 rfl) ?_
  refine va_get (D := D) (C := RX8) (T := TX8) (N := 7) (ci := 8) (v := .ref (ad 101)) hx hb hts nX8 hown hK hP 209 w_tp rfl 3 (by decide) k35 (fun _ h9 => h9) rfl dX8_many_8 ?_
  refine lv_iload_n hx hb dX8_many_11 rfl (lv_at hl 1 rfl) ?_
  refine x_Vi (As := [.int what]) (rest0 := []) ⟨hx, hb, hml, hown, hts⟩ (c_X0_howMany l D cA ad tr (wB cA bd ρ ++ ((tp, .inr (8, tpF ad bd)) :: rest)) H.size τ pd π what) (cwV 1 hts g8_many_X0_howMany rfl rfl rfl (by decide +kernel) ⟨Nat.le_of_ble_eq_true rfl, Nat.le_of_ble_eq_true rfl⟩) hK hP hD hS hA 101 w_an rfl hl.1 rfl rfl (Nat.le_of_ble_eq_true rfl) ⟨Nat.zero_le _, Nat.zero_le _⟩ dX8_many_12 (fun r1 _ H locs hw hP hD hS => ?_)
  have er1 := hw
  exact x_iret hx hb hr hlocks hK () hP hD hS dX8_many_15 (by subst er1; rfl)

set_option maxHeartbeats 4000000 in
set_option maxRecDepth 100000 in
theorem c_X8_stuck (l : Launch) (D : va_G) (cA : Nat → ClassId) (ad : Nat → Nat) (tr : List (ClassId × FieldType)) (rest : va_W) (sz : Nat) (τ : Sg) (pd : Nat → Nat) (π : Sg) (bd : Nat → Nat) (tp : Nat) (ρ : Sg) (h102 : bd 102 = ad 102)  : Met l yX8_stuck w8_stuck ({ frames := 2, cells := 0, slots := 0, locals := 50 }) (va_Pc [.ref (tp)] (inW D (tyB cA ++ tr) (wB cA ad τ ++ (wPg cA ad pd π ++ (wB cA bd ρ ++ ((tp, .inr (8, tpF ad bd)) :: rest)))) sz)) (va_Qi (fun (r : Int32) (_ : Unit) => r = m_countStuck τ) (fun _ : Unit => outW D (tyB cA ++ tr) (va_A (wB cA ad τ ++ (wPg cA ad pd π ++ (wB cA bd ρ ++ ((tp, .inr (8, tpF ad bd)) :: rest)))) sz) (wB cA ad τ ++ (wPg cA ad pd π ++ (wB cA bd ρ ++ ((tp, .inr (8, tpF ad bd)) :: rest))))) (va_A (wB cA ad τ ++ (wPg cA ad pd π ++ (wB cA bd ρ ++ ((tp, .inr (8, tpF ad bd)) :: rest)))) sz)) 0 0 (va_A (wB cA ad τ ++ (wPg cA ad pd π ++ (wB cA bd ρ ++ ((tp, .inr (8, tpF ad bd)) :: rest)))) sz) := by
  refine Met.ofW (cc := cX8_stuck) (maxL := 1) (ret := (some .int)) (by decide) rfl ?_
  intro p e s m args below meth c s₁ B hml hv
  obtain ⟨rfl, hsz, hP, hK, hD0⟩ := hv
  have hx := B.exec
  have hb := B.bytes
  have hr := B.returns
  have hts := atoms_spec (ws := w8_stuck) B.pre
  have hown : s.vm.findClass RX8 = some m.cls := findClass_of_methodNamed B.named
  have hlocks := B.notSynchronized
  subst hsz
  have hD := hD0.self (sz := s.heap.size)
  clear hD0
  generalize hAe : va_A (wB cA ad τ ++ (wPg cA ad pd π ++ (wB cA bd ρ ++ ((tp, .inr (8, tpF ad bd)) :: rest)))) s.heap.size = A at hD ⊢
  have hA : ∀ q : Nat, s.heap.size ≤ q → A q := fun q h => by rw [← hAe]; exact Or.inr h
  clear hAe
  have hS : va_S A s.heap s.heap [] := va_S.rf
  have hP : va_P D vwCl (wB cA ad τ ++ (wPg cA ad pd π ++ (wB cA bd ρ ++ ((tp, .inr (8, tpF ad bd)) :: rest)))) s.heap := hP
  have hl := lv_entry ([.ref (tp)]) (n := 1) (Nat.le_of_ble_eq_true rfl)
  rw [lg_entry_eq]
  generalize (lg_sl ([.ref (tp)]) ++ List.replicate (1 - (lg_sl ([.ref (tp)])).length) Slot.unset).toArray = ls at hl ⊢
  have hl : lv_has ls 1 [(0, .ref (tp))] := hl
  have nX8 : ∀ w ∈ u_ws RX8 TX8 7, w ∈ w8_stuck := n8_stuck_X8
  have k35 := hts (.fieldLink RX8 35 "ScopeRow" "answers" "LScopeRow$Answers;") (by decide +kernel)
  refine lv_aload_n hx hb dX8_stuck_0 rfl (lv_at hl 0 rfl) ?_
  refine va_get (D := D) (C := RX8) (T := TX8) (N := 7) (ci := 8) (v := .ref (ad 101)) hx hb hts nX8 hown hK hP 209 w_tp rfl 3 (by decide) k35 (fun _ h9 => h9) rfl dX8_stuck_1 ?_
  refine x_Vi (As := []) (rest0 := []) ⟨hx, hb, hml, hown, hts⟩ (c_X0_countStuck l D cA ad tr (wPg cA ad pd π ++ (wB cA bd ρ ++ ((tp, .inr (8, tpF ad bd)) :: rest))) s.heap.size τ ) (cwV 0 hts g8_stuck_X0_countStuck rfl rfl rfl (by decide +kernel) ⟨Nat.le_of_ble_eq_true rfl, Nat.le_of_ble_eq_true rfl⟩) hK hP hD hS hA 101 w_an rfl hl.1 rfl rfl (Nat.le_of_ble_eq_true rfl) ⟨Nat.zero_le _, Nat.zero_le _⟩ dX8_stuck_4 (fun r1 _ H locs hw hP hD hS => ?_)
  have er1 := hw
  exact x_iret hx hb hr hlocks hK () hP hD hS dX8_stuck_7 (by subst er1; rfl)

set_option maxHeartbeats 4000000 in
set_option maxRecDepth 100000 in
theorem c_X8_ofTask (l : Launch) (D : va_G) (cA : Nat → ClassId) (ad : Nat → Nat) (tr : List (ClassId × FieldType)) (rest : va_W) (sz : Nat) (τ : Sg) (pd : Nat → Nat) (π : Sg) (bd : Nat → Nat) (tp : Nat) (ρ : Sg) (h102 : bd 102 = ad 102) (x what : Int32) (hx0 : ¬ x < 0) (hx1 : x < τ 0 1) (hw0 : ¬ what < 0) (hw1 : what ≤ 8) : Met l yX8_ofTask w8_ofTask ({ frames := 2, cells := 0, slots := 0, locals := 48 }) (va_Pc [.ref (tp), .int x, .int what] (inW D (tyB cA ++ tr) (wB cA ad τ ++ (wPg cA ad pd π ++ (wB cA bd ρ ++ ((tp, .inr (8, tpF ad bd)) :: rest)))) sz)) (va_Qi (fun (r : Int32) (_ : Unit) => r = m_aboutTask τ x what) (fun _ : Unit => outW D (tyB cA ++ tr) (va_A (wB cA ad τ ++ (wPg cA ad pd π ++ (wB cA bd ρ ++ ((tp, .inr (8, tpF ad bd)) :: rest)))) sz) (wB cA ad τ ++ (wPg cA ad pd π ++ (wB cA bd ρ ++ ((tp, .inr (8, tpF ad bd)) :: rest))))) (va_A (wB cA ad τ ++ (wPg cA ad pd π ++ (wB cA bd ρ ++ ((tp, .inr (8, tpF ad bd)) :: rest)))) sz)) 0 0 (va_A (wB cA ad τ ++ (wPg cA ad pd π ++ (wB cA bd ρ ++ ((tp, .inr (8, tpF ad bd)) :: rest)))) sz) := by
  refine Met.ofW (cc := cX8_ofTask) (maxL := 3) (ret := (some .int)) (by decide) rfl ?_
  intro p e s m args below meth c s₁ B hml hv
  obtain ⟨rfl, hsz, hP, hK, hD0⟩ := hv
  have hx := B.exec
  have hb := B.bytes
  have hr := B.returns
  have hts := atoms_spec (ws := w8_ofTask) B.pre
  have hown : s.vm.findClass RX8 = some m.cls := findClass_of_methodNamed B.named
  have hlocks := B.notSynchronized
  subst hsz
  have hD := hD0.self (sz := s.heap.size)
  clear hD0
  generalize hAe : va_A (wB cA ad τ ++ (wPg cA ad pd π ++ (wB cA bd ρ ++ ((tp, .inr (8, tpF ad bd)) :: rest)))) s.heap.size = A at hD ⊢
  have hA : ∀ q : Nat, s.heap.size ≤ q → A q := fun q h => by rw [← hAe]; exact Or.inr h
  clear hAe
  have hS : va_S A s.heap s.heap [] := va_S.rf
  have hP : va_P D vwCl (wB cA ad τ ++ (wPg cA ad pd π ++ (wB cA bd ρ ++ ((tp, .inr (8, tpF ad bd)) :: rest)))) s.heap := hP
  have hl := lv_entry ([.ref (tp), .int x, .int what]) (n := 3) (Nat.le_of_ble_eq_true rfl)
  rw [lg_entry_eq]
  generalize (lg_sl ([.ref (tp), .int x, .int what]) ++ List.replicate (3 - (lg_sl ([.ref (tp), .int x, .int what])).length) Slot.unset).toArray = ls at hl ⊢
  have hl : lv_has ls 3 [(0, .ref (tp)), (1, .int x), (2, .int what)] := hl
  have nX8 : ∀ w ∈ u_ws RX8 TX8 7, w ∈ w8_ofTask := n8_ofTask_X8
  have nX6 : ∀ w ∈ u_ws RX6 TX6 12, w ∈ w8_ofTask := n8_ofTask_X6
  have k19 := hts (.fieldLink RX8 19 "ScopeRow" "state" "LScopeRow$State;") (by decide +kernel)
  have k94 := hts (.fieldLink RX8 94 "ScopeRow$State" "taskCount" "I") (by decide +kernel)
  have k35 := hts (.fieldLink RX8 35 "ScopeRow" "answers" "LScopeRow$Answers;") (by decide +kernel)
  refine lv_iload_n hx hb dX8_ofTask_0 rfl (lv_at hl 1 rfl) ?_
  refine lv_aload_n hx hb dX8_ofTask_1 rfl (lv_at hl 0 rfl) ?_
  refine va_get (D := D) (C := RX8) (T := TX8) (N := 7) (ci := 8) (v := .ref (ad 0)) hx hb hts nX8 hown hK hP 209 w_tp rfl 1 (by decide) k19 (fun _ h9 => h9) rfl dX8_ofTask_2 ?_
  refine va_get (D := D) (C := RX6) (T := TX6) (N := 12) (ci := 6) (v := .int (τ 0 1)) hx hb hts nX6 hown hK hP 0 w_st rfl 1 (by decide) k94 (fun _ h9 => h9) rfl dX8_ofTask_5 ?_
  refine x_Sv (As := [.int x, .int (τ 0 1)]) (rest0 := []) ⟨hx, hb, hml, hown, hts⟩ (c_X8_checkNumber l D cA ad tr (wPg cA ad pd π ++ (wB cA bd ρ ++ ((tp, .inr (8, tpF ad bd)) :: rest))) s.heap.size τ x (τ 0 1) hx0 hx1) (va_cwS 2 hts g8_ofTask_X8_checkNumber rfl rfl rfl (by decide +kernel) ⟨Nat.le_of_ble_eq_true rfl, Nat.le_of_ble_eq_true rfl⟩) hK hP hD hS hA hl.1 rfl rfl (Nat.le_of_ble_eq_true rfl) ⟨Nat.zero_le _, Nat.zero_le _⟩ dX8_ofTask_8 (fun _ H locs hw hP hD hS => ?_)
  refine lv_iload_n hx hb dX8_ofTask_11 rfl (lv_at hl 2 rfl) ?_
  refine lv_iconst (v := 0) hx hb dX8_ofTask_12 (by decide) ?_
  refine lv_bipush (v := 8) hx hb dX8_ofTask_13 (by decide) ?_
  refine x_Sv (As := [.int what, .int 0, .int 8]) (rest0 := []) ⟨hx, hb, hml, hown, hts⟩ (c_X8_checkWithin l D cA ad tr (wPg cA ad pd π ++ (wB cA bd ρ ++ ((tp, .inr (8, tpF ad bd)) :: rest))) H.size τ what 0 8 hw0 hw1) (va_cwS 3 hts g8_ofTask_X8_checkWithin rfl rfl rfl (by decide +kernel) ⟨Nat.le_of_ble_eq_true rfl, Nat.le_of_ble_eq_true rfl⟩) hK hP hD hS hA hl.1 rfl rfl (Nat.le_of_ble_eq_true rfl) ⟨Nat.zero_le _, Nat.zero_le _⟩ dX8_ofTask_15 (fun _ H locs hw hP hD hS => ?_)
  refine lv_aload_n hx hb dX8_ofTask_18 rfl (lv_at hl 0 rfl) ?_
  refine va_get (D := D) (C := RX8) (T := TX8) (N := 7) (ci := 8) (v := .ref (ad 101)) hx hb hts nX8 hown hK hP 209 w_tp rfl 3 (by decide) k35 (fun _ h9 => h9) rfl dX8_ofTask_19 ?_
  refine lv_iload_n hx hb dX8_ofTask_22 rfl (lv_at hl 1 rfl) ?_
  refine lv_iload_n hx hb dX8_ofTask_23 rfl (lv_at hl 2 rfl) ?_
  refine x_Vi (As := [.int x, .int what]) (rest0 := []) ⟨hx, hb, hml, hown, hts⟩ (c_X0_aboutTask l D cA ad tr (wPg cA ad pd π ++ (wB cA bd ρ ++ ((tp, .inr (8, tpF ad bd)) :: rest))) H.size τ x what) (cwV 2 hts g8_ofTask_X0_aboutTask rfl rfl rfl (by decide +kernel) ⟨Nat.le_of_ble_eq_true rfl, Nat.le_of_ble_eq_true rfl⟩) hK hP hD hS hA 101 w_an rfl hl.1 rfl rfl (Nat.le_of_ble_eq_true rfl) ⟨Nat.zero_le _, Nat.zero_le _⟩ dX8_ofTask_24 (fun r1 _ H locs hw hP hD hS => ?_)
  have er1 := hw
  exact x_iret hx hb hr hlocks hK () hP hD hS dX8_ofTask_27 (by subst er1; rfl)

set_option maxHeartbeats 4000000 in
set_option maxRecDepth 100000 in
theorem c_X8_ofScope (l : Launch) (D : va_G) (cA : Nat → ClassId) (ad : Nat → Nat) (tr : List (ClassId × FieldType)) (rest : va_W) (sz : Nat) (τ : Sg) (pd : Nat → Nat) (π : Sg) (bd : Nat → Nat) (tp : Nat) (ρ : Sg) (h102 : bd 102 = ad 102) (x what : Int32) (hx0 : ¬ x < 0) (hx1 : x < τ 0 3) (hw0 : ¬ what < 0) (hw1 : what ≤ 8) : Met l yX8_ofScope w8_ofScope ({ frames := 2, cells := 0, slots := 0, locals := 44 }) (va_Pc [.ref (tp), .int x, .int what] (inW D (tyB cA ++ tr) (wB cA ad τ ++ (wPg cA ad pd π ++ (wB cA bd ρ ++ ((tp, .inr (8, tpF ad bd)) :: rest)))) sz)) (va_Qi (fun (r : Int32) (_ : Unit) => r = m_aboutScope τ x what) (fun _ : Unit => outW D (tyB cA ++ tr) (va_A (wB cA ad τ ++ (wPg cA ad pd π ++ (wB cA bd ρ ++ ((tp, .inr (8, tpF ad bd)) :: rest)))) sz) (wB cA ad τ ++ (wPg cA ad pd π ++ (wB cA bd ρ ++ ((tp, .inr (8, tpF ad bd)) :: rest))))) (va_A (wB cA ad τ ++ (wPg cA ad pd π ++ (wB cA bd ρ ++ ((tp, .inr (8, tpF ad bd)) :: rest)))) sz)) 0 0 (va_A (wB cA ad τ ++ (wPg cA ad pd π ++ (wB cA bd ρ ++ ((tp, .inr (8, tpF ad bd)) :: rest)))) sz) := by
  refine Met.ofW (cc := cX8_ofScope) (maxL := 3) (ret := (some .int)) (by decide) rfl ?_
  intro p e s m args below meth c s₁ B hml hv
  obtain ⟨rfl, hsz, hP, hK, hD0⟩ := hv
  have hx := B.exec
  have hb := B.bytes
  have hr := B.returns
  have hts := atoms_spec (ws := w8_ofScope) B.pre
  have hown : s.vm.findClass RX8 = some m.cls := findClass_of_methodNamed B.named
  have hlocks := B.notSynchronized
  subst hsz
  have hD := hD0.self (sz := s.heap.size)
  clear hD0
  generalize hAe : va_A (wB cA ad τ ++ (wPg cA ad pd π ++ (wB cA bd ρ ++ ((tp, .inr (8, tpF ad bd)) :: rest)))) s.heap.size = A at hD ⊢
  have hA : ∀ q : Nat, s.heap.size ≤ q → A q := fun q h => by rw [← hAe]; exact Or.inr h
  clear hAe
  have hS : va_S A s.heap s.heap [] := va_S.rf
  have hP : va_P D vwCl (wB cA ad τ ++ (wPg cA ad pd π ++ (wB cA bd ρ ++ ((tp, .inr (8, tpF ad bd)) :: rest)))) s.heap := hP
  have hl := lv_entry ([.ref (tp), .int x, .int what]) (n := 3) (Nat.le_of_ble_eq_true rfl)
  rw [lg_entry_eq]
  generalize (lg_sl ([.ref (tp), .int x, .int what]) ++ List.replicate (3 - (lg_sl ([.ref (tp), .int x, .int what])).length) Slot.unset).toArray = ls at hl ⊢
  have hl : lv_has ls 3 [(0, .ref (tp)), (1, .int x), (2, .int what)] := hl
  have nX8 : ∀ w ∈ u_ws RX8 TX8 7, w ∈ w8_ofScope := n8_ofScope_X8
  have nX6 : ∀ w ∈ u_ws RX6 TX6 12, w ∈ w8_ofScope := n8_ofScope_X6
  have k19 := hts (.fieldLink RX8 19 "ScopeRow" "state" "LScopeRow$State;") (by decide +kernel)
  have k114 := hts (.fieldLink RX8 114 "ScopeRow$State" "scopeCount" "I") (by decide +kernel)
  have k35 := hts (.fieldLink RX8 35 "ScopeRow" "answers" "LScopeRow$Answers;") (by decide +kernel)
  refine lv_iload_n hx hb dX8_ofScope_0 rfl (lv_at hl 1 rfl) ?_
  refine lv_aload_n hx hb dX8_ofScope_1 rfl (lv_at hl 0 rfl) ?_
  refine va_get (D := D) (C := RX8) (T := TX8) (N := 7) (ci := 8) (v := .ref (ad 0)) hx hb hts nX8 hown hK hP 209 w_tp rfl 1 (by decide) k19 (fun _ h9 => h9) rfl dX8_ofScope_2 ?_
  refine va_get (D := D) (C := RX6) (T := TX6) (N := 12) (ci := 6) (v := .int (τ 0 3)) hx hb hts nX6 hown hK hP 0 w_st rfl 3 (by decide) k114 (fun _ h9 => h9) rfl dX8_ofScope_5 ?_
  refine x_Sv (As := [.int x, .int (τ 0 3)]) (rest0 := []) ⟨hx, hb, hml, hown, hts⟩ (c_X8_checkNumber l D cA ad tr (wPg cA ad pd π ++ (wB cA bd ρ ++ ((tp, .inr (8, tpF ad bd)) :: rest))) s.heap.size τ x (τ 0 3) hx0 hx1) (va_cwS 2 hts g8_ofScope_X8_checkNumber rfl rfl rfl (by decide +kernel) ⟨Nat.le_of_ble_eq_true rfl, Nat.le_of_ble_eq_true rfl⟩) hK hP hD hS hA hl.1 rfl rfl (Nat.le_of_ble_eq_true rfl) ⟨Nat.zero_le _, Nat.zero_le _⟩ dX8_ofScope_8 (fun _ H locs hw hP hD hS => ?_)
  refine lv_iload_n hx hb dX8_ofScope_11 rfl (lv_at hl 2 rfl) ?_
  refine lv_iconst (v := 0) hx hb dX8_ofScope_12 (by decide) ?_
  refine lv_bipush (v := 8) hx hb dX8_ofScope_13 (by decide) ?_
  refine x_Sv (As := [.int what, .int 0, .int 8]) (rest0 := []) ⟨hx, hb, hml, hown, hts⟩ (c_X8_checkWithin l D cA ad tr (wPg cA ad pd π ++ (wB cA bd ρ ++ ((tp, .inr (8, tpF ad bd)) :: rest))) H.size τ what 0 8 hw0 hw1) (va_cwS 3 hts g8_ofScope_X8_checkWithin rfl rfl rfl (by decide +kernel) ⟨Nat.le_of_ble_eq_true rfl, Nat.le_of_ble_eq_true rfl⟩) hK hP hD hS hA hl.1 rfl rfl (Nat.le_of_ble_eq_true rfl) ⟨Nat.zero_le _, Nat.zero_le _⟩ dX8_ofScope_15 (fun _ H locs hw hP hD hS => ?_)
  refine lv_aload_n hx hb dX8_ofScope_18 rfl (lv_at hl 0 rfl) ?_
  refine va_get (D := D) (C := RX8) (T := TX8) (N := 7) (ci := 8) (v := .ref (ad 101)) hx hb hts nX8 hown hK hP 209 w_tp rfl 3 (by decide) k35 (fun _ h9 => h9) rfl dX8_ofScope_19 ?_
  refine lv_iload_n hx hb dX8_ofScope_22 rfl (lv_at hl 1 rfl) ?_
  refine lv_iload_n hx hb dX8_ofScope_23 rfl (lv_at hl 2 rfl) ?_
  refine x_Vi (As := [.int x, .int what]) (rest0 := []) ⟨hx, hb, hml, hown, hts⟩ (c_X0_aboutScope l D cA ad tr (wPg cA ad pd π ++ (wB cA bd ρ ++ ((tp, .inr (8, tpF ad bd)) :: rest))) H.size τ x what) (cwV 2 hts g8_ofScope_X0_aboutScope rfl rfl rfl (by decide +kernel) ⟨Nat.le_of_ble_eq_true rfl, Nat.le_of_ble_eq_true rfl⟩) hK hP hD hS hA 101 w_an rfl hl.1 rfl rfl (Nat.le_of_ble_eq_true rfl) ⟨Nat.zero_le _, Nat.zero_le _⟩ dX8_ofScope_24 (fun r1 _ H locs hw hP hD hS => ?_)
  have er1 := hw
  exact x_iret hx hb hr hlocks hK () hP hD hS dX8_ofScope_27 (by subst er1; rfl)

set_option maxHeartbeats 4000000 in
set_option maxRecDepth 100000 in
theorem c_X8_ofLock (l : Launch) (D : va_G) (cA : Nat → ClassId) (ad : Nat → Nat) (tr : List (ClassId × FieldType)) (rest : va_W) (sz : Nat) (τ : Sg) (pd : Nat → Nat) (π : Sg) (bd : Nat → Nat) (tp : Nat) (ρ : Sg) (h102 : bd 102 = ad 102) (x what : Int32) (hx0 : ¬ x < 0) (hx1 : x < 2) (hw0 : ¬ what < 0) (hw1 : what ≤ 3) : Met l yX8_ofLock w8_ofLock ({ frames := 4, cells := 0, slots := 0, locals := 95 }) (va_Pc [.ref (tp), .int x, .int what] (inW D (tyB cA ++ tr) (wB cA ad τ ++ (wPg cA ad pd π ++ (wB cA bd ρ ++ ((tp, .inr (8, tpF ad bd)) :: rest)))) sz)) (va_Qi (fun (r : Int32) (_ : Unit) => r = m_aboutLock τ x what) (fun _ : Unit => outW D (tyB cA ++ tr) (va_A (wB cA ad τ ++ (wPg cA ad pd π ++ (wB cA bd ρ ++ ((tp, .inr (8, tpF ad bd)) :: rest)))) sz) (wB cA ad τ ++ (wPg cA ad pd π ++ (wB cA bd ρ ++ ((tp, .inr (8, tpF ad bd)) :: rest))))) (va_A (wB cA ad τ ++ (wPg cA ad pd π ++ (wB cA bd ρ ++ ((tp, .inr (8, tpF ad bd)) :: rest)))) sz)) 0 0 (va_A (wB cA ad τ ++ (wPg cA ad pd π ++ (wB cA bd ρ ++ ((tp, .inr (8, tpF ad bd)) :: rest)))) sz) := by
  refine Met.ofW (cc := cX8_ofLock) (maxL := 3) (ret := (some .int)) (by decide) rfl ?_
  intro p e s m args below meth c s₁ B hml hv
  obtain ⟨rfl, hsz, hP, hK, hD0⟩ := hv
  have hx := B.exec
  have hb := B.bytes
  have hr := B.returns
  have hts := atoms_spec (ws := w8_ofLock) B.pre
  have hown : s.vm.findClass RX8 = some m.cls := findClass_of_methodNamed B.named
  have hlocks := B.notSynchronized
  subst hsz
  have hD := hD0.self (sz := s.heap.size)
  clear hD0
  generalize hAe : va_A (wB cA ad τ ++ (wPg cA ad pd π ++ (wB cA bd ρ ++ ((tp, .inr (8, tpF ad bd)) :: rest)))) s.heap.size = A at hD ⊢
  have hA : ∀ q : Nat, s.heap.size ≤ q → A q := fun q h => by rw [← hAe]; exact Or.inr h
  clear hAe
  have hS : va_S A s.heap s.heap [] := va_S.rf
  have hP : va_P D vwCl (wB cA ad τ ++ (wPg cA ad pd π ++ (wB cA bd ρ ++ ((tp, .inr (8, tpF ad bd)) :: rest)))) s.heap := hP
  have hl := lv_entry ([.ref (tp), .int x, .int what]) (n := 3) (Nat.le_of_ble_eq_true rfl)
  rw [lg_entry_eq]
  generalize (lg_sl ([.ref (tp), .int x, .int what]) ++ List.replicate (3 - (lg_sl ([.ref (tp), .int x, .int what])).length) Slot.unset).toArray = ls at hl ⊢
  have hl : lv_has ls 3 [(0, .ref (tp)), (1, .int x), (2, .int what)] := hl
  have nX8 : ∀ w ∈ u_ws RX8 TX8 7, w ∈ w8_ofLock := n8_ofLock_X8
  have k35 := hts (.fieldLink RX8 35 "ScopeRow" "answers" "LScopeRow$Answers;") (by decide +kernel)
  refine lv_iload_n hx hb dX8_ofLock_0 rfl (lv_at hl 1 rfl) ?_
  refine lv_iconst (v := 2) hx hb dX8_ofLock_1 (by decide) ?_
  refine x_Sv (As := [.int x, .int 2]) (rest0 := []) ⟨hx, hb, hml, hown, hts⟩ (c_X8_checkNumber l D cA ad tr (wPg cA ad pd π ++ (wB cA bd ρ ++ ((tp, .inr (8, tpF ad bd)) :: rest))) s.heap.size τ x 2 hx0 hx1) (va_cwS 2 hts g8_ofLock_X8_checkNumber rfl rfl rfl (by decide +kernel) ⟨Nat.le_of_ble_eq_true rfl, Nat.le_of_ble_eq_true rfl⟩) hK hP hD hS hA hl.1 rfl rfl (Nat.le_of_ble_eq_true rfl) ⟨Nat.zero_le _, Nat.zero_le _⟩ dX8_ofLock_2 (fun _ H locs hw hP hD hS => ?_)
  refine lv_iload_n hx hb dX8_ofLock_5 rfl (lv_at hl 2 rfl) ?_
  refine lv_iconst (v := 0) hx hb dX8_ofLock_6 (by decide) ?_
  refine lv_iconst (v := 3) hx hb dX8_ofLock_7 (by decide) ?_
  refine x_Sv (As := [.int what, .int 0, .int 3]) (rest0 := []) ⟨hx, hb, hml, hown, hts⟩ (c_X8_checkWithin l D cA ad tr (wPg cA ad pd π ++ (wB cA bd ρ ++ ((tp, .inr (8, tpF ad bd)) :: rest))) H.size τ what 0 3 hw0 hw1) (va_cwS 3 hts g8_ofLock_X8_checkWithin rfl rfl rfl (by decide +kernel) ⟨Nat.le_of_ble_eq_true rfl, Nat.le_of_ble_eq_true rfl⟩) hK hP hD hS hA hl.1 rfl rfl (Nat.le_of_ble_eq_true rfl) ⟨Nat.zero_le _, Nat.zero_le _⟩ dX8_ofLock_8 (fun _ H locs hw hP hD hS => ?_)
  refine lv_aload_n hx hb dX8_ofLock_11 rfl (lv_at hl 0 rfl) ?_
  refine va_get (D := D) (C := RX8) (T := TX8) (N := 7) (ci := 8) (v := .ref (ad 101)) hx hb hts nX8 hown hK hP 209 w_tp rfl 3 (by decide) k35 (fun _ h9 => h9) rfl dX8_ofLock_12 ?_
  refine lv_iload_n hx hb dX8_ofLock_15 rfl (lv_at hl 1 rfl) ?_
  refine lv_iload_n hx hb dX8_ofLock_16 rfl (lv_at hl 2 rfl) ?_
  refine x_Vi (As := [.int x, .int what]) (rest0 := []) ⟨hx, hb, hml, hown, hts⟩ (c_X0_aboutLock l D cA ad tr (wPg cA ad pd π ++ (wB cA bd ρ ++ ((tp, .inr (8, tpF ad bd)) :: rest))) H.size τ x what) (cwV 2 hts g8_ofLock_X0_aboutLock rfl rfl rfl (by decide +kernel) ⟨Nat.le_of_ble_eq_true rfl, Nat.le_of_ble_eq_true rfl⟩) hK hP hD hS hA 101 w_an rfl hl.1 rfl rfl (Nat.le_of_ble_eq_true rfl) ⟨Nat.zero_le _, Nat.zero_le _⟩ dX8_ofLock_17 (fun r1 _ H locs hw hP hD hS => ?_)
  have er1 := hw
  exact x_iret hx hb hr hlocks hK () hP hD hS dX8_ofLock_20 (by subst er1; rfl)

set_option maxHeartbeats 4000000 in
set_option maxRecDepth 100000 in
theorem c_X8_ofChannel (l : Launch) (D : va_G) (cA : Nat → ClassId) (ad : Nat → Nat) (tr : List (ClassId × FieldType)) (rest : va_W) (sz : Nat) (τ : Sg) (pd : Nat → Nat) (π : Sg) (bd : Nat → Nat) (tp : Nat) (ρ : Sg) (h102 : bd 102 = ad 102) (x what : Int32) (hx0 : ¬ x < 0) (hx1 : x < 2) (hw0 : ¬ what < 0) (hw1 : what ≤ 6) : Met l yX8_ofChannel w8_ofChannel ({ frames := 4, cells := 0, slots := 0, locals := 94 }) (va_Pc [.ref (tp), .int x, .int what] (inW D (tyB cA ++ tr) (wB cA ad τ ++ (wPg cA ad pd π ++ (wB cA bd ρ ++ ((tp, .inr (8, tpF ad bd)) :: rest)))) sz)) (va_Qi (fun (r : Int32) (_ : Unit) => r = m_aboutChannel τ x what) (fun _ : Unit => outW D (tyB cA ++ tr) (va_A (wB cA ad τ ++ (wPg cA ad pd π ++ (wB cA bd ρ ++ ((tp, .inr (8, tpF ad bd)) :: rest)))) sz) (wB cA ad τ ++ (wPg cA ad pd π ++ (wB cA bd ρ ++ ((tp, .inr (8, tpF ad bd)) :: rest))))) (va_A (wB cA ad τ ++ (wPg cA ad pd π ++ (wB cA bd ρ ++ ((tp, .inr (8, tpF ad bd)) :: rest)))) sz)) 0 0 (va_A (wB cA ad τ ++ (wPg cA ad pd π ++ (wB cA bd ρ ++ ((tp, .inr (8, tpF ad bd)) :: rest)))) sz) := by
  refine Met.ofW (cc := cX8_ofChannel) (maxL := 3) (ret := (some .int)) (by decide) rfl ?_
  intro p e s m args below meth c s₁ B hml hv
  obtain ⟨rfl, hsz, hP, hK, hD0⟩ := hv
  have hx := B.exec
  have hb := B.bytes
  have hr := B.returns
  have hts := atoms_spec (ws := w8_ofChannel) B.pre
  have hown : s.vm.findClass RX8 = some m.cls := findClass_of_methodNamed B.named
  have hlocks := B.notSynchronized
  subst hsz
  have hD := hD0.self (sz := s.heap.size)
  clear hD0
  generalize hAe : va_A (wB cA ad τ ++ (wPg cA ad pd π ++ (wB cA bd ρ ++ ((tp, .inr (8, tpF ad bd)) :: rest)))) s.heap.size = A at hD ⊢
  have hA : ∀ q : Nat, s.heap.size ≤ q → A q := fun q h => by rw [← hAe]; exact Or.inr h
  clear hAe
  have hS : va_S A s.heap s.heap [] := va_S.rf
  have hP : va_P D vwCl (wB cA ad τ ++ (wPg cA ad pd π ++ (wB cA bd ρ ++ ((tp, .inr (8, tpF ad bd)) :: rest)))) s.heap := hP
  have hl := lv_entry ([.ref (tp), .int x, .int what]) (n := 3) (Nat.le_of_ble_eq_true rfl)
  rw [lg_entry_eq]
  generalize (lg_sl ([.ref (tp), .int x, .int what]) ++ List.replicate (3 - (lg_sl ([.ref (tp), .int x, .int what])).length) Slot.unset).toArray = ls at hl ⊢
  have hl : lv_has ls 3 [(0, .ref (tp)), (1, .int x), (2, .int what)] := hl
  have nX8 : ∀ w ∈ u_ws RX8 TX8 7, w ∈ w8_ofChannel := n8_ofChannel_X8
  have k35 := hts (.fieldLink RX8 35 "ScopeRow" "answers" "LScopeRow$Answers;") (by decide +kernel)
  refine lv_iload_n hx hb dX8_ofChannel_0 rfl (lv_at hl 1 rfl) ?_
  refine lv_iconst (v := 2) hx hb dX8_ofChannel_1 (by decide) ?_
  refine x_Sv (As := [.int x, .int 2]) (rest0 := []) ⟨hx, hb, hml, hown, hts⟩ (c_X8_checkNumber l D cA ad tr (wPg cA ad pd π ++ (wB cA bd ρ ++ ((tp, .inr (8, tpF ad bd)) :: rest))) s.heap.size τ x 2 hx0 hx1) (va_cwS 2 hts g8_ofChannel_X8_checkNumber rfl rfl rfl (by decide +kernel) ⟨Nat.le_of_ble_eq_true rfl, Nat.le_of_ble_eq_true rfl⟩) hK hP hD hS hA hl.1 rfl rfl (Nat.le_of_ble_eq_true rfl) ⟨Nat.zero_le _, Nat.zero_le _⟩ dX8_ofChannel_2 (fun _ H locs hw hP hD hS => ?_)
  refine lv_iload_n hx hb dX8_ofChannel_5 rfl (lv_at hl 2 rfl) ?_
  refine lv_iconst (v := 0) hx hb dX8_ofChannel_6 (by decide) ?_
  refine lv_bipush (v := 6) hx hb dX8_ofChannel_7 (by decide) ?_
  refine x_Sv (As := [.int what, .int 0, .int 6]) (rest0 := []) ⟨hx, hb, hml, hown, hts⟩ (c_X8_checkWithin l D cA ad tr (wPg cA ad pd π ++ (wB cA bd ρ ++ ((tp, .inr (8, tpF ad bd)) :: rest))) H.size τ what 0 6 hw0 hw1) (va_cwS 3 hts g8_ofChannel_X8_checkWithin rfl rfl rfl (by decide +kernel) ⟨Nat.le_of_ble_eq_true rfl, Nat.le_of_ble_eq_true rfl⟩) hK hP hD hS hA hl.1 rfl rfl (Nat.le_of_ble_eq_true rfl) ⟨Nat.zero_le _, Nat.zero_le _⟩ dX8_ofChannel_9 (fun _ H locs hw hP hD hS => ?_)
  refine lv_aload_n hx hb dX8_ofChannel_12 rfl (lv_at hl 0 rfl) ?_
  refine va_get (D := D) (C := RX8) (T := TX8) (N := 7) (ci := 8) (v := .ref (ad 101)) hx hb hts nX8 hown hK hP 209 w_tp rfl 3 (by decide) k35 (fun _ h9 => h9) rfl dX8_ofChannel_13 ?_
  refine lv_iload_n hx hb dX8_ofChannel_16 rfl (lv_at hl 1 rfl) ?_
  refine lv_iload_n hx hb dX8_ofChannel_17 rfl (lv_at hl 2 rfl) ?_
  refine x_Vi (As := [.int x, .int what]) (rest0 := []) ⟨hx, hb, hml, hown, hts⟩ (c_X0_aboutChannel l D cA ad tr (wPg cA ad pd π ++ (wB cA bd ρ ++ ((tp, .inr (8, tpF ad bd)) :: rest))) H.size τ x what) (cwV 2 hts g8_ofChannel_X0_aboutChannel rfl rfl rfl (by decide +kernel) ⟨Nat.le_of_ble_eq_true rfl, Nat.le_of_ble_eq_true rfl⟩) hK hP hD hS hA 101 w_an rfl hl.1 rfl rfl (Nat.le_of_ble_eq_true rfl) ⟨Nat.zero_le _, Nat.zero_le _⟩ dX8_ofChannel_18 (fun r1 _ H locs hw hP hD hS => ?_)
  have er1 := hw
  exact x_iret hx hb hr hlocks hK () hP hD hS dX8_ofChannel_21 (by subst er1; rfl)

set_option maxHeartbeats 4000000 in
set_option maxRecDepth 100000 in
theorem c_X8_wouldHit (l : Launch) (D : va_G) (cA : Nat → ClassId) (ad : Nat → Nat) (tr : List (ClassId × FieldType)) (rest : va_W) (sz : Nat) (τ : Sg) (pd : Nat → Nat) (π : Sg) (bd : Nat → Nat) (tp : Nat) (ρ : Sg) (h102 : bd 102 = ad 102) (x : Int32) (hx0 : ¬ x < 0) (hx1 : x < τ 0 3)  : Met l yX8_wouldHit w8_wouldHit ({ frames := 2, cells := 0, slots := 0, locals := 52 }) (va_Pc [.ref (tp), .int x] (inW D (tyB cA ++ tr) (wB cA ad τ ++ (wPg cA ad pd π ++ (wB cA bd ρ ++ ((tp, .inr (8, tpF ad bd)) :: rest)))) sz)) (va_Qi (fun (r : Int32) (_ : Unit) => r = nI (m_newlyHit τ x)) (fun _ : Unit => outW D (tyB cA ++ tr) (va_A (wB cA ad τ ++ (wPg cA ad pd π ++ (wB cA bd ρ ++ ((tp, .inr (8, tpF ad bd)) :: rest)))) sz) (wB cA ad τ ++ (wPg cA ad pd π ++ (wB cA bd ρ ++ ((tp, .inr (8, tpF ad bd)) :: rest))))) (va_A (wB cA ad τ ++ (wPg cA ad pd π ++ (wB cA bd ρ ++ ((tp, .inr (8, tpF ad bd)) :: rest)))) sz)) 0 0 (va_A (wB cA ad τ ++ (wPg cA ad pd π ++ (wB cA bd ρ ++ ((tp, .inr (8, tpF ad bd)) :: rest)))) sz) := by
  refine Met.ofW (cc := cX8_wouldHit) (maxL := 2) (ret := (some .int)) (by decide) rfl ?_
  intro p e s m args below meth c s₁ B hml hv
  obtain ⟨rfl, hsz, hP, hK, hD0⟩ := hv
  have hx := B.exec
  have hb := B.bytes
  have hr := B.returns
  have hts := atoms_spec (ws := w8_wouldHit) B.pre
  have hown : s.vm.findClass RX8 = some m.cls := findClass_of_methodNamed B.named
  have hlocks := B.notSynchronized
  subst hsz
  have hD := hD0.self (sz := s.heap.size)
  clear hD0
  generalize hAe : va_A (wB cA ad τ ++ (wPg cA ad pd π ++ (wB cA bd ρ ++ ((tp, .inr (8, tpF ad bd)) :: rest)))) s.heap.size = A at hD ⊢
  have hA : ∀ q : Nat, s.heap.size ≤ q → A q := fun q h => by rw [← hAe]; exact Or.inr h
  clear hAe
  have hS : va_S A s.heap s.heap [] := va_S.rf
  have hP : va_P D vwCl (wB cA ad τ ++ (wPg cA ad pd π ++ (wB cA bd ρ ++ ((tp, .inr (8, tpF ad bd)) :: rest)))) s.heap := hP
  have hl := lv_entry ([.ref (tp), .int x]) (n := 2) (Nat.le_of_ble_eq_true rfl)
  rw [lg_entry_eq]
  generalize (lg_sl ([.ref (tp), .int x]) ++ List.replicate (2 - (lg_sl ([.ref (tp), .int x])).length) Slot.unset).toArray = ls at hl ⊢
  have hl : lv_has ls 2 [(0, .ref (tp)), (1, .int x)] := hl
  have nX8 : ∀ w ∈ u_ws RX8 TX8 7, w ∈ w8_wouldHit := n8_wouldHit_X8
  have nX6 : ∀ w ∈ u_ws RX6 TX6 12, w ∈ w8_wouldHit := n8_wouldHit_X6
  have k19 := hts (.fieldLink RX8 19 "ScopeRow" "state" "LScopeRow$State;") (by decide +kernel)
  have k114 := hts (.fieldLink RX8 114 "ScopeRow$State" "scopeCount" "I") (by decide +kernel)
  have k35 := hts (.fieldLink RX8 35 "ScopeRow" "answers" "LScopeRow$Answers;") (by decide +kernel)
  refine lv_iload_n hx hb dX8_wouldHit_0 rfl (lv_at hl 1 rfl) ?_
  refine lv_aload_n hx hb dX8_wouldHit_1 rfl (lv_at hl 0 rfl) ?_
  refine va_get (D := D) (C := RX8) (T := TX8) (N := 7) (ci := 8) (v := .ref (ad 0)) hx hb hts nX8 hown hK hP 209 w_tp rfl 1 (by decide) k19 (fun _ h9 => h9) rfl dX8_wouldHit_2 ?_
  refine va_get (D := D) (C := RX6) (T := TX6) (N := 12) (ci := 6) (v := .int (τ 0 3)) hx hb hts nX6 hown hK hP 0 w_st rfl 3 (by decide) k114 (fun _ h9 => h9) rfl dX8_wouldHit_5 ?_
  refine x_Sv (As := [.int x, .int (τ 0 3)]) (rest0 := []) ⟨hx, hb, hml, hown, hts⟩ (c_X8_checkNumber l D cA ad tr (wPg cA ad pd π ++ (wB cA bd ρ ++ ((tp, .inr (8, tpF ad bd)) :: rest))) s.heap.size τ x (τ 0 3) hx0 hx1) (va_cwS 2 hts g8_wouldHit_X8_checkNumber rfl rfl rfl (by decide +kernel) ⟨Nat.le_of_ble_eq_true rfl, Nat.le_of_ble_eq_true rfl⟩) hK hP hD hS hA hl.1 rfl rfl (Nat.le_of_ble_eq_true rfl) ⟨Nat.zero_le _, Nat.zero_le _⟩ dX8_wouldHit_8 (fun _ H locs hw hP hD hS => ?_)
  refine lv_aload_n hx hb dX8_wouldHit_11 rfl (lv_at hl 0 rfl) ?_
  refine va_get (D := D) (C := RX8) (T := TX8) (N := 7) (ci := 8) (v := .ref (ad 101)) hx hb hts nX8 hown hK hP 209 w_tp rfl 3 (by decide) k35 (fun _ h9 => h9) rfl dX8_wouldHit_12 ?_
  refine lv_iload_n hx hb dX8_wouldHit_15 rfl (lv_at hl 1 rfl) ?_
  refine x_Vi (As := [.int x]) (rest0 := []) ⟨hx, hb, hml, hown, hts⟩ (c_X0_countNewlyHit l D cA ad tr (wPg cA ad pd π ++ (wB cA bd ρ ++ ((tp, .inr (8, tpF ad bd)) :: rest))) H.size τ x) (cwV 1 hts g8_wouldHit_X0_countNewlyHit rfl rfl rfl (by decide +kernel) ⟨Nat.le_of_ble_eq_true rfl, Nat.le_of_ble_eq_true rfl⟩) hK hP hD hS hA 101 w_an rfl hl.1 rfl rfl (Nat.le_of_ble_eq_true rfl) ⟨Nat.zero_le _, Nat.zero_le _⟩ dX8_wouldHit_16 (fun r1 _ H locs hw hP hD hS => ?_)
  have er1 := hw
  exact x_iret hx hb hr hlocks hK () hP hD hS dX8_wouldHit_19 (by subst er1; rfl)

set_option maxHeartbeats 4000000 in
set_option maxRecDepth 100000 in
theorem c_X8_run (l : Launch) (D : va_G) (cA : Nat → ClassId) (ad : Nat → Nat) (tr : List (ClassId × FieldType)) (rest : va_W) (sz : Nat) (τ : Sg) (pd : Nat → Nat) (π : Sg) (bd : Nat → Nat) (tp : Nat) (ρ : Sg) (h102 : bd 102 = ad 102) (N : Nat) (h0 : ¬ nI N < 1) (h1 : nI N ≤ 50) (hN : N < 1000) : Met l yX8_run w8_run ({ frames := 6, cells := 0, slots := 0, locals := 148 }) (va_Pc [.ref (tp), .int (nI N)] (inW D (tyB cA ++ tr) (wB cA ad τ ++ (wPg cA ad pd π ++ (wB cA bd ρ ++ ((tp, .inr (8, tpF ad bd)) :: rest)))) sz)) (va_Qi (fun (r : Int32) (u : Sg) => r = nI (m_turns π N 0 τ).2 ∧ u = (m_turns π N 0 τ).1) (fun u : Sg => outW D (tyB cA ++ tr) (va_A (wB cA ad τ ++ (wPg cA ad pd π ++ (wB cA bd ρ ++ ((tp, .inr (8, tpF ad bd)) :: rest)))) sz) (wB cA ad u ++ (wPg cA ad pd π ++ (wB cA bd ρ ++ ((tp, .inr (8, tpF ad bd)) :: rest))))) (va_A (wB cA ad τ ++ (wPg cA ad pd π ++ (wB cA bd ρ ++ ((tp, .inr (8, tpF ad bd)) :: rest)))) sz)) 0 0 (va_A (wB cA ad τ ++ (wPg cA ad pd π ++ (wB cA bd ρ ++ ((tp, .inr (8, tpF ad bd)) :: rest)))) sz) := by
  refine Met.ofW (cc := cX8_run) (maxL := 2) (ret := (some .int)) (by decide) rfl ?_
  intro p e s m args below meth c s₁ B hml hv
  obtain ⟨rfl, hsz, hP, hK, hD0⟩ := hv
  have hx := B.exec
  have hb := B.bytes
  have hr := B.returns
  have hts := atoms_spec (ws := w8_run) B.pre
  have hown : s.vm.findClass RX8 = some m.cls := findClass_of_methodNamed B.named
  have hlocks := B.notSynchronized
  subst hsz
  have hD := hD0.self (sz := s.heap.size)
  clear hD0
  generalize hAe : va_A (wB cA ad τ ++ (wPg cA ad pd π ++ (wB cA bd ρ ++ ((tp, .inr (8, tpF ad bd)) :: rest)))) s.heap.size = A at hD ⊢
  have hA : ∀ q : Nat, s.heap.size ≤ q → A q := fun q h => by rw [← hAe]; exact Or.inr h
  clear hAe
  have hS : va_S A s.heap s.heap [] := va_S.rf
  have hP : va_P D vwCl (wB cA ad τ ++ (wPg cA ad pd π ++ (wB cA bd ρ ++ ((tp, .inr (8, tpF ad bd)) :: rest)))) s.heap := hP
  have hl := lv_entry ([.ref (tp), .int (nI N)]) (n := 2) (Nat.le_of_ble_eq_true rfl)
  rw [lg_entry_eq]
  generalize (lg_sl ([.ref (tp), .int (nI N)]) ++ List.replicate (2 - (lg_sl ([.ref (tp), .int (nI N)])).length) Slot.unset).toArray = ls at hl ⊢
  have hl : lv_has ls 2 [(0, .ref (tp)), (1, .int (nI N))] := hl
  have nX8 : ∀ w ∈ u_ws RX8 TX8 7, w ∈ w8_run := n8_run_X8
  have k28 := hts (.fieldLink RX8 28 "ScopeRow" "runner" "LScopeRow$Runner;") (by decide +kernel)
  refine lv_iload_n hx hb dX8_run_0 rfl (lv_at hl 1 rfl) ?_
  refine lv_iconst (v := 1) hx hb dX8_run_1 (by decide) ?_
  refine lv_bipush (v := 50) hx hb dX8_run_2 (by decide) ?_
  refine x_Sv (As := [.int (nI N), .int 1, .int 50]) (rest0 := []) ⟨hx, hb, hml, hown, hts⟩ (c_X8_checkWithin l D cA ad tr (wPg cA ad pd π ++ (wB cA bd ρ ++ ((tp, .inr (8, tpF ad bd)) :: rest))) s.heap.size τ (nI N) 1 50 h0 h1) (va_cwS 3 hts g8_run_X8_checkWithin rfl rfl rfl (by decide +kernel) ⟨Nat.le_of_ble_eq_true rfl, Nat.le_of_ble_eq_true rfl⟩) hK hP hD hS hA hl.1 rfl rfl (Nat.le_of_ble_eq_true rfl) ⟨Nat.zero_le _, Nat.zero_le _⟩ dX8_run_4 (fun _ H locs hw hP hD hS => ?_)
  refine lv_aload_n hx hb dX8_run_7 rfl (lv_at hl 0 rfl) ?_
  refine va_get (D := D) (C := RX8) (T := TX8) (N := 7) (ci := 8) (v := .ref (ad 100)) hx hb hts nX8 hown hK hP 209 w_tp rfl 2 (by decide) k28 (fun _ h9 => h9) rfl dX8_run_8 ?_
  refine lv_iload_n hx hb dX8_run_11 rfl (lv_at hl 1 rfl) ?_
  refine x_Vi (As := [.int (nI N)]) (rest0 := []) ⟨hx, hb, hml, hown, hts⟩ (c_X4_takeTurns l D cA ad tr (wB cA bd ρ ++ ((tp, .inr (8, tpF ad bd)) :: rest)) H.size τ pd π N (by omega)) (cwV 1 hts g8_run_X4_takeTurns rfl rfl rfl (by decide +kernel) ⟨Nat.le_of_ble_eq_true rfl, Nat.le_of_ble_eq_true rfl⟩) hK hP hD hS hA 100 w_ru rfl hl.1 rfl rfl (Nat.le_of_ble_eq_true rfl) ⟨Nat.zero_le _, Nat.zero_le _⟩ dX8_run_12 (fun r1 τ2 H locs hw hP hD hS => ?_)
  obtain ⟨er1, eτ2⟩ := hw
  exact x_iret hx hb hr hlocks hK τ2 hP hD hS dX8_run_15 (by subst er1 eτ2; exact ⟨rfl, rfl⟩)

set_option maxHeartbeats 4000000 in
set_option maxRecDepth 100000 in
theorem c_X8_tick (l : Launch) (D : va_G) (cA : Nat → ClassId) (ad : Nat → Nat) (tr : List (ClassId × FieldType)) (rest : va_W) (sz : Nat) (τ : Sg) (pd : Nat → Nat) (π : Sg) (bd : Nat → Nat) (tp : Nat) (ρ : Sg) (h102 : bd 102 = ad 102) (N : Nat) (h0 : ¬ nI N < 1) (h1 : nI N ≤ 20) (hN : N < 1000) : Met l yX8_tick w8_tick ({ frames := 3, cells := 0, slots := 0, locals := 75 }) (va_Pc [.ref (tp), .int (nI N)] (inW D (tyB cA ++ tr) (wB cA ad τ ++ (wPg cA ad pd π ++ (wB cA bd ρ ++ ((tp, .inr (8, tpF ad bd)) :: rest)))) sz)) (va_Qi (fun (r : Int32) (u : Sg) => r = (m_ticks N τ 0).2 ∧ u = (m_ticks N τ 0).1) (fun u : Sg => outW D (tyB cA ++ tr) (va_A (wB cA ad τ ++ (wPg cA ad pd π ++ (wB cA bd ρ ++ ((tp, .inr (8, tpF ad bd)) :: rest)))) sz) (wB cA ad u ++ (wPg cA ad pd π ++ (wB cA bd ρ ++ ((tp, .inr (8, tpF ad bd)) :: rest))))) (va_A (wB cA ad τ ++ (wPg cA ad pd π ++ (wB cA bd ρ ++ ((tp, .inr (8, tpF ad bd)) :: rest)))) sz)) 0 0 (va_A (wB cA ad τ ++ (wPg cA ad pd π ++ (wB cA bd ρ ++ ((tp, .inr (8, tpF ad bd)) :: rest)))) sz) := by
  refine Met.ofW (cc := cX8_tick) (maxL := 4) (ret := (some .int)) (by decide) rfl ?_
  intro p e s m args below meth c s₁ B hml hv
  obtain ⟨rfl, hsz, hP, hK, hD0⟩ := hv
  have hx := B.exec
  have hb := B.bytes
  have hr := B.returns
  have hts := atoms_spec (ws := w8_tick) B.pre
  have hown : s.vm.findClass RX8 = some m.cls := findClass_of_methodNamed B.named
  have hlocks := B.notSynchronized
  subst hsz
  have hD := hD0.self (sz := s.heap.size)
  clear hD0
  generalize hAe : va_A (wB cA ad τ ++ (wPg cA ad pd π ++ (wB cA bd ρ ++ ((tp, .inr (8, tpF ad bd)) :: rest)))) s.heap.size = A at hD ⊢
  have hA : ∀ q : Nat, s.heap.size ≤ q → A q := fun q h => by rw [← hAe]; exact Or.inr h
  clear hAe
  have hS : va_S A s.heap s.heap [] := va_S.rf
  have hP : va_P D vwCl (wB cA ad τ ++ (wPg cA ad pd π ++ (wB cA bd ρ ++ ((tp, .inr (8, tpF ad bd)) :: rest)))) s.heap := hP
  have hl := lv_entry ([.ref (tp), .int (nI N)]) (n := 4) (Nat.le_of_ble_eq_true rfl)
  rw [lg_entry_eq]
  generalize (lg_sl ([.ref (tp), .int (nI N)]) ++ List.replicate (4 - (lg_sl ([.ref (tp), .int (nI N)])).length) Slot.unset).toArray = ls at hl ⊢
  have hl : lv_has ls 4 [(0, .ref (tp)), (1, .int (nI N))] := hl
  have nX8 : ∀ w ∈ u_ws RX8 TX8 7, w ∈ w8_tick := n8_tick_X8
  have k19 := hts (.fieldLink RX8 19 "ScopeRow" "state" "LScopeRow$State;") (by decide +kernel)
  refine lv_iload_n hx hb dX8_tick_0 rfl (lv_at hl 1 rfl) ?_
  refine lv_iconst (v := 1) hx hb dX8_tick_1 (by decide) ?_
  refine lv_bipush (v := 20) hx hb dX8_tick_2 (by decide) ?_
  refine x_Sv (As := [.int (nI N), .int 1, .int 20]) (rest0 := []) ⟨hx, hb, hml, hown, hts⟩ (c_X8_checkWithin l D cA ad tr (wPg cA ad pd π ++ (wB cA bd ρ ++ ((tp, .inr (8, tpF ad bd)) :: rest))) s.heap.size τ (nI N) 1 20 h0 h1) (va_cwS 3 hts g8_tick_X8_checkWithin rfl rfl rfl (by decide +kernel) ⟨Nat.le_of_ble_eq_true rfl, Nat.le_of_ble_eq_true rfl⟩) hK hP hD hS hA hl.1 rfl rfl (Nat.le_of_ble_eq_true rfl) ⟨Nat.zero_le _, Nat.zero_le _⟩ dX8_tick_4 (fun _ H locs hw hP hD hS => ?_)
  refine lv_iconst (v := 0) hx hb dX8_tick_7 (by decide) ?_
  refine lv_istore_n (lv' := [(2, .int 0), (0, .ref (tp)), (1, .int (nI N))]) hx hb dX8_tick_8 rfl hl (by decide) rfl (fun ls hl => ?_)
  refine lv_iconst (v := 0) hx hb dX8_tick_9 (by decide) ?_
  refine lv_istore_n (lv' := [(3, .int 0), (2, .int 0), (0, .ref (tp)), (1, .int (nI N))]) hx hb dX8_tick_10 rfl hl (by decide) rfl (fun ls hl => ?_)
  refine W_meas (I := fun (n : Nat) (H : Heap) (locs : List Loc) (ls : Array Slot) => ∃ (σ : Sg) (q : Int32) (j : Nat), ((n + j = N) ∧ (m_ticks n σ q = m_ticks N τ 0)) ∧ va_P D vwCl (wB cA ad σ ++ (wPg cA ad pd π ++ (wB cA bd ρ ++ ((tp, .inr (8, tpF ad bd)) :: rest)))) H ∧ va_D A (wB cA ad σ ++ (wPg cA ad pd π ++ (wB cA bd ρ ++ ((tp, .inr (8, tpF ad bd)) :: rest)))) ∧ va_S A s.heap H locs ∧ lv_has ls 4 [(0, .ref (tp)), (1, .int (nI N)), (2, .int q), (3, .int (nI j))]) N ⟨τ, 0, 0, ⟨by omega, rfl⟩, hP, hD, hS, lv_sub hl [2, 3, 1, 0] rfl⟩ ?_
  clear hP hD hS hl
  intro n ih H locs ls hI
  obtain ⟨σ, q, j, ⟨hn, hf⟩, hP, hD, hS, hl⟩ := hI
  refine lv_iload_n hx hb dX8_tick_11 rfl (lv_at hl 3 rfl) ?_
  refine lv_iload_n hx hb dX8_tick_12 rfl (lv_at hl 1 rfl) ?_
  refine lv_icmp_ge (tgt := 32) hx hb dX8_tick_13 (by decide) (fun c_13_1 => ?_) (fun c_13_1 => ?_)
  -- 13 jumps
  · skip
    obtain rfl : n = 0 := by have := (nI_leI (by omega) (by omega)).mp c_13_1; omega
    refine lv_iload_n hx hb dX8_tick_32 rfl (lv_at hl 2 rfl) ?_
    exact x_iret hx hb hr hlocks hK σ hP hD hS dX8_tick_33 (by rw [← hf]; exact ⟨rfl, rfl⟩)
  -- 13 goes on
  · skip
    have hj : j < N := Nat.not_le.mp (fun z => c_13_1 ((nI_leI (by omega) (by omega)).mpr z))
    obtain ⟨n, rfl⟩ : ∃ k, n = k + 1 := ⟨n - 1, by omega⟩
    refine lv_iload_n hx hb dX8_tick_16 rfl (lv_at hl 2 rfl) ?_
    refine lv_aload_n hx hb dX8_tick_17 rfl (lv_at hl 0 rfl) ?_
    refine va_get (D := D) (C := RX8) (T := TX8) (N := 7) (ci := 8) (v := .ref (ad 0)) hx hb hts nX8 hown hK hP 209 w_tp rfl 1 (by decide) k19 (fun _ h9 => h9) rfl dX8_tick_18 ?_
    refine x_Vi (As := []) (rest0 := [.int q]) ⟨hx, hb, hml, hown, hts⟩ (c_X6_tickOnce l D cA ad tr (wPg cA ad pd π ++ (wB cA bd ρ ++ ((tp, .inr (8, tpF ad bd)) :: rest))) H.size σ ) (cwV 0 hts g8_tick_X6_tickOnce rfl rfl rfl (by decide +kernel) ⟨Nat.le_of_ble_eq_true rfl, Nat.le_of_ble_eq_true rfl⟩) hK hP hD hS hA 0 w_st rfl hl.1 rfl rfl (Nat.le_of_ble_eq_true rfl) ⟨Nat.zero_le _, Nat.zero_le _⟩ dX8_tick_21 (fun r2 τ3 H locs hw hP hD hS => ?_)
    obtain ⟨er2, eτ3⟩ := hw
    refine lv_iadd hx hb dX8_tick_24 ?_
    refine lv_topi (fun x4 ex4 => ?_)
    refine lv_istore_n (lv' := [(2, .int x4), (0, .ref (tp)), (1, .int (nI N)), (3, .int (nI j))]) hx hb dX8_tick_25 rfl hl (by decide) rfl (fun ls hl => ?_)
    refine lv_iinc (v := (nI (j + 1))) (lv' := [(3, .int (nI (j + 1))), (2, .int x4), (0, .ref (tp)), (1, .int (nI N))]) hx hb dX8_tick_26 hl (k := 3) rfl (show nI j + 1 = nI (j + 1) from nI_1 j) (by decide) rfl (fun ls hl => ?_)
    refine lv_goto (tgt := 11) hx hb dX8_tick_29 (by decide) ?_
    exact ih n (Nat.lt_succ_self n) H locs ls ⟨τ3, x4, (j + 1), ⟨by omega, by rw [← hf, m_ticks_s, ex4, er2, eτ3]⟩, hP, hD, hS, lv_sub hl [2, 3, 1, 0] rfl⟩

set_option maxHeartbeats 4000000 in
set_option maxRecDepth 100000 in
theorem c_X8_cancel (l : Launch) (D : va_G) (cA : Nat → ClassId) (ad : Nat → Nat) (tr : List (ClassId × FieldType)) (rest : va_W) (sz : Nat) (τ : Sg) (pd : Nat → Nat) (π : Sg) (bd : Nat → Nat) (tp : Nat) (ρ : Sg) (h102 : bd 102 = ad 102) (x : Int32) (hx0 : ¬ x < 0) (hx1 : x < τ 0 3) (k : Nat) (hk : m_at x 40 = some k) : Met l yX8_cancel w8_cancel ({ frames := 2, cells := 0, slots := 0, locals := 50 }) (va_Pc [.ref (tp), .int x] (inW D (tyB cA ++ tr) (wB cA ad τ ++ (wPg cA ad pd π ++ (wB cA bd ρ ++ ((tp, .inr (8, tpF ad bd)) :: rest)))) sz)) (va_Qi (fun (r : Int32) (u : Sg) => r = bI (m_cancels τ k) ∧ u = m_cancelScope τ k) (fun u : Sg => outW D (tyB cA ++ tr) (va_A (wB cA ad τ ++ (wPg cA ad pd π ++ (wB cA bd ρ ++ ((tp, .inr (8, tpF ad bd)) :: rest)))) sz) (wB cA ad u ++ (wPg cA ad pd π ++ (wB cA bd ρ ++ ((tp, .inr (8, tpF ad bd)) :: rest))))) (va_A (wB cA ad τ ++ (wPg cA ad pd π ++ (wB cA bd ρ ++ ((tp, .inr (8, tpF ad bd)) :: rest)))) sz)) 0 0 (va_A (wB cA ad τ ++ (wPg cA ad pd π ++ (wB cA bd ρ ++ ((tp, .inr (8, tpF ad bd)) :: rest)))) sz) := by
  refine Met.ofW (cc := cX8_cancel) (maxL := 2) (ret := (some .boolean)) (by decide) rfl ?_
  intro p e s m args below meth c s₁ B hml hv
  obtain ⟨rfl, hsz, hP, hK, hD0⟩ := hv
  have hx := B.exec
  have hb := B.bytes
  have hr := B.returns
  have hts := atoms_spec (ws := w8_cancel) B.pre
  have hown : s.vm.findClass RX8 = some m.cls := findClass_of_methodNamed B.named
  have hlocks := B.notSynchronized
  subst hsz
  have hD := hD0.self (sz := s.heap.size)
  clear hD0
  generalize hAe : va_A (wB cA ad τ ++ (wPg cA ad pd π ++ (wB cA bd ρ ++ ((tp, .inr (8, tpF ad bd)) :: rest)))) s.heap.size = A at hD ⊢
  have hA : ∀ q : Nat, s.heap.size ≤ q → A q := fun q h => by rw [← hAe]; exact Or.inr h
  clear hAe
  have hS : va_S A s.heap s.heap [] := va_S.rf
  have hP : va_P D vwCl (wB cA ad τ ++ (wPg cA ad pd π ++ (wB cA bd ρ ++ ((tp, .inr (8, tpF ad bd)) :: rest)))) s.heap := hP
  have hl := lv_entry ([.ref (tp), .int x]) (n := 2) (Nat.le_of_ble_eq_true rfl)
  rw [lg_entry_eq]
  generalize (lg_sl ([.ref (tp), .int x]) ++ List.replicate (2 - (lg_sl ([.ref (tp), .int x])).length) Slot.unset).toArray = ls at hl ⊢
  have hl : lv_has ls 2 [(0, .ref (tp)), (1, .int x)] := hl
  have nX8 : ∀ w ∈ u_ws RX8 TX8 7, w ∈ w8_cancel := n8_cancel_X8
  have nX6 : ∀ w ∈ u_ws RX6 TX6 12, w ∈ w8_cancel := n8_cancel_X6
  have k19 := hts (.fieldLink RX8 19 "ScopeRow" "state" "LScopeRow$State;") (by decide +kernel)
  have k114 := hts (.fieldLink RX8 114 "ScopeRow$State" "scopeCount" "I") (by decide +kernel)
  have bk : k < 40 := m_at_lt hk (by decide)
  refine lv_iload_n hx hb dX8_cancel_0 rfl (lv_at hl 1 rfl) ?_
  refine lv_aload_n hx hb dX8_cancel_1 rfl (lv_at hl 0 rfl) ?_
  refine va_get (D := D) (C := RX8) (T := TX8) (N := 7) (ci := 8) (v := .ref (ad 0)) hx hb hts nX8 hown hK hP 209 w_tp rfl 1 (by decide) k19 (fun _ h9 => h9) rfl dX8_cancel_2 ?_
  refine va_get (D := D) (C := RX6) (T := TX6) (N := 12) (ci := 6) (v := .int (τ 0 3)) hx hb hts nX6 hown hK hP 0 w_st rfl 3 (by decide) k114 (fun _ h9 => h9) rfl dX8_cancel_5 ?_
  refine x_Sv (As := [.int x, .int (τ 0 3)]) (rest0 := []) ⟨hx, hb, hml, hown, hts⟩ (c_X8_checkNumber l D cA ad tr (wPg cA ad pd π ++ (wB cA bd ρ ++ ((tp, .inr (8, tpF ad bd)) :: rest))) s.heap.size τ x (τ 0 3) hx0 hx1) (va_cwS 2 hts g8_cancel_X8_checkNumber rfl rfl rfl (by decide +kernel) ⟨Nat.le_of_ble_eq_true rfl, Nat.le_of_ble_eq_true rfl⟩) hK hP hD hS hA hl.1 rfl rfl (Nat.le_of_ble_eq_true rfl) ⟨Nat.zero_le _, Nat.zero_le _⟩ dX8_cancel_8 (fun _ H locs hw hP hD hS => ?_)
  refine lv_aload_n hx hb dX8_cancel_11 rfl (lv_at hl 0 rfl) ?_
  refine va_get (D := D) (C := RX8) (T := TX8) (N := 7) (ci := 8) (v := .ref (ad 0)) hx hb hts nX8 hown hK hP 209 w_tp rfl 1 (by decide) k19 (fun _ h9 => h9) rfl dX8_cancel_12 ?_
  refine lv_aload_n hx hb dX8_cancel_15 rfl (lv_at hl 0 rfl) ?_
  refine va_get (D := D) (C := RX8) (T := TX8) (N := 7) (ci := 8) (v := .ref (ad 0)) hx hb hts nX8 hown hK hP 209 w_tp rfl 1 (by decide) k19 (fun _ h9 => h9) rfl dX8_cancel_16 ?_
  refine lv_iload_n hx hb dX8_cancel_19 rfl (lv_at hl 1 rfl) ?_
  refine x_Vq (As := [.int x]) (rest0 := [.ref (ad 0)]) ⟨hx, hb, hml, hown, hts⟩ (c_X6_scopeAt l D cA ad tr (wPg cA ad pd π ++ (wB cA bd ρ ++ ((tp, .inr (8, tpF ad bd)) :: rest))) H.size τ x) (cwV 1 hts g8_cancel_X6_scopeAt rfl rfl rfl (by decide +kernel) ⟨Nat.le_of_ble_eq_true rfl, Nat.le_of_ble_eq_true rfl⟩) hK hP hD hS hA 0 w_st rfl hl.1 rfl rfl (Nat.le_of_ble_eq_true rfl) ⟨Nat.zero_le _, Nat.zero_le _⟩ dX8_cancel_20 (fun r1 _ H locs hw hP hD hS => ?_)
  have er1 := hw
  subst er1
  rw [hk]
  refine W.eq (g2 := F0 m 23 ls [.ref (ad (k + 54)), .ref (ad 0)]) rfl ?_
  refine x_Vi (As := [.ref (ad (k + 54))]) (rest0 := []) ⟨hx, hb, hml, hown, hts⟩ (c_X6_cancelScope l D cA ad tr (wPg cA ad pd π ++ (wB cA bd ρ ++ ((tp, .inr (8, tpF ad bd)) :: rest))) H.size τ k bk) (cwV 1 hts g8_cancel_X6_cancelScope rfl rfl rfl (by decide +kernel) ⟨Nat.le_of_ble_eq_true rfl, Nat.le_of_ble_eq_true rfl⟩) hK hP hD hS hA 0 w_st rfl hl.1 rfl rfl (Nat.le_of_ble_eq_true rfl) ⟨Nat.zero_le _, Nat.zero_le _⟩ dX8_cancel_23 (fun r2 τ3 H locs hw hP hD hS => ?_)
  obtain ⟨er2, eτ3⟩ := hw
  exact x_zret hx hb hr (by rw [er2]; cases m_cancels τ k <;> rfl) hlocks hK τ3 hP hD hS dX8_cancel_26 (by subst er2 eτ3; simp)

set_option maxHeartbeats 4000000 in
set_option maxRecDepth 100000 in
theorem c_X8_body (l : Launch) (D : va_G) (cA : Nat → ClassId) (ad : Nat → Nat) (tr : List (ClassId × FieldType)) (rest : va_W) (sz : Nat) (τ : Sg) (pd : Nat → Nat) (π : Sg) (bd : Nat → Nat) (tp : Nat) (ρ : Sg) (h102 : bd 102 = ad 102) (h0 : π 0 0 < 8) : Met l yX8_body w8_body ({ frames := 1, cells := 0, slots := 0, locals := 21 }) (va_Pc [.ref (tp)] (inW D (tyB cA ++ tr) (wB cA ad τ ++ (wPg cA ad pd π ++ (wB cA bd ρ ++ ((tp, .inr (8, tpF ad bd)) :: rest)))) sz)) (va_Qi (fun (r : Int32) (u : Sg) => r = π 0 0 ∧ u = up2 π 0 0 (π 0 0 + 1)) (fun u : Sg => outW D (tyB cA ++ tr) (va_A (wB cA ad τ ++ (wPg cA ad pd π ++ (wB cA bd ρ ++ ((tp, .inr (8, tpF ad bd)) :: rest)))) sz) (wB cA ad τ ++ (wPg cA ad pd u ++ (wB cA bd ρ ++ ((tp, .inr (8, tpF ad bd)) :: rest))))) (va_A (wB cA ad τ ++ (wPg cA ad pd π ++ (wB cA bd ρ ++ ((tp, .inr (8, tpF ad bd)) :: rest)))) sz)) 0 0 (va_A (wB cA ad τ ++ (wPg cA ad pd π ++ (wB cA bd ρ ++ ((tp, .inr (8, tpF ad bd)) :: rest)))) sz) := by
  refine Met.ofW (cc := cX8_body) (maxL := 1) (ret := (some .int)) (by decide) rfl ?_
  intro p e s m args below meth c s₁ B hml hv
  obtain ⟨rfl, hsz, hP, hK, hD0⟩ := hv
  have hx := B.exec
  have hb := B.bytes
  have hr := B.returns
  have hts := atoms_spec (ws := w8_body) B.pre
  have hown : s.vm.findClass RX8 = some m.cls := findClass_of_methodNamed B.named
  have hlocks := B.notSynchronized
  subst hsz
  have hD := hD0.self (sz := s.heap.size)
  clear hD0
  generalize hAe : va_A (wB cA ad τ ++ (wPg cA ad pd π ++ (wB cA bd ρ ++ ((tp, .inr (8, tpF ad bd)) :: rest)))) s.heap.size = A at hD ⊢
  have hA : ∀ q : Nat, s.heap.size ≤ q → A q := fun q h => by rw [← hAe]; exact Or.inr h
  clear hAe
  have hS : va_S A s.heap s.heap [] := va_S.rf
  have hP : va_P D vwCl (wB cA ad τ ++ (wPg cA ad pd π ++ (wB cA bd ρ ++ ((tp, .inr (8, tpF ad bd)) :: rest)))) s.heap := hP
  have hl := lv_entry ([.ref (tp)]) (n := 1) (Nat.le_of_ble_eq_true rfl)
  rw [lg_entry_eq]
  generalize (lg_sl ([.ref (tp)]) ++ List.replicate (1 - (lg_sl ([.ref (tp)])).length) Slot.unset).toArray = ls at hl ⊢
  have hl : lv_has ls 1 [(0, .ref (tp))] := hl
  have nX8 : ∀ w ∈ u_ws RX8 TX8 7, w ∈ w8_body := n8_body_X8
  have nX3 : ∀ w ∈ u_ws RX3 TX3 5, w ∈ w8_body := n8_body_X3
  have k12 := hts (.fieldLink RX8 12 "ScopeRow" "program" "LScopeRow$Program;") (by decide +kernel)
  have k48 := hts (.fieldLink RX8 48 "ScopeRow$Program" "bodies" "I") (by decide +kernel)
  refine lv_aload_n hx hb dX8_body_0 rfl (lv_at hl 0 rfl) ?_
  refine va_get (D := D) (C := RX8) (T := TX8) (N := 7) (ci := 8) (v := .ref (ad 102)) hx hb hts nX8 hown hK hP 209 w_tp rfl 0 (by decide) k12 (fun _ h9 => h9) rfl dX8_body_1 ?_
  refine va_get (D := D) (C := RX3) (T := TX3) (N := 5) (ci := 3) (v := .int (π 0 0)) hx hb hts nX3 hown hK hP 102 w_pg rfl 0 (by decide) k48 (fun _ h9 => h9) rfl dX8_body_4 ?_
  refine lv_bipush (v := 8) hx hb dX8_body_7 (by decide) ?_
  refine lv_icmp_lt (tgt := 22) hx hb dX8_body_9 (by decide) (fun c_9_1 => ?_) (fun c_9_1 => ?_)
  -- 9 jumps
  · skip
    refine lv_aload_n hx hb dX8_body_22 rfl (lv_at hl 0 rfl) ?_
    refine va_get (D := D) (C := RX8) (T := TX8) (N := 7) (ci := 8) (v := .ref (ad 102)) hx hb hts nX8 hown hK hP 209 w_tp rfl 0 (by decide) k12 (fun _ h9 => h9) rfl dX8_body_23 ?_
    refine x_Vi (As := []) (rest0 := []) ⟨hx, hb, hml, hown, hts⟩ (c_X3_addBody l D cA ad tr (wB cA bd ρ ++ ((tp, .inr (8, tpF ad bd)) :: rest)) s.heap.size τ pd π ) (cwV 0 hts g8_body_X3_addBody rfl rfl rfl (by decide +kernel) ⟨Nat.le_of_ble_eq_true rfl, Nat.le_of_ble_eq_true rfl⟩) hK hP hD hS hA 102 w_pg rfl hl.1 rfl rfl (Nat.le_of_ble_eq_true rfl) ⟨Nat.zero_le _, Nat.zero_le _⟩ dX8_body_26 (fun r2 π3 H locs hw hP hD hS => ?_)
    obtain ⟨er2, eπ3⟩ := hw
    exact x_iret hx hb hr hlocks hK π3 hP hD hS dX8_body_29 (by subst er2 eπ3; exact ⟨rfl, rfl⟩)
  -- 9 goes on
  · exact absurd h0 c_9_1

set_option maxHeartbeats 4000000 in
set_option maxRecDepth 100000 in
theorem c_X8_overAfter (l : Launch) (D : va_G) (cA : Nat → ClassId) (ad : Nat → Nat) (tr : List (ClassId × FieldType)) (rest : va_W) (sz : Nat) (τ : Sg) (pd : Nat → Nat) (π : Sg) (bd : Nat → Nat) (tp : Nat) (ρ : Sg) (h102 : bd 102 = ad 102) (T U : Nat) (hT : T < 1000) (hU : U < 1000) (hfl : m_flags τ) : Met l yX8_overAfter w8_overAfter ({ frames := 6, cells := 0, slots := 0, locals := 148 }) (va_Pc [.ref (tp), .int (nI T), .int (nI U)] (inW D (tyB cA ++ tr) (wB cA ad τ ++ (wPg cA ad pd π ++ (wB cA bd ρ ++ ((tp, .inr (8, tpF ad bd)) :: rest)))) sz)) (va_Qi (fun (r : Int32) (u : Sg) => r = nI (m_countOver (m_overS π U T (m_copy ρ τ))) ∧ u = m_overS π U T (m_copy ρ τ)) (fun u : Sg => outW D (tyB cA ++ tr) (va_A (wB cA ad τ ++ (wPg cA ad pd π ++ (wB cA bd ρ ++ ((tp, .inr (8, tpF ad bd)) :: rest)))) sz) (wB cA ad τ ++ (wPg cA ad pd π ++ (wB cA bd u ++ ((tp, .inr (8, tpF ad bd)) :: rest))))) (va_A (wB cA ad τ ++ (wPg cA ad pd π ++ (wB cA bd ρ ++ ((tp, .inr (8, tpF ad bd)) :: rest)))) sz)) 0 0 (va_A (wB cA ad τ ++ (wPg cA ad pd π ++ (wB cA bd ρ ++ ((tp, .inr (8, tpF ad bd)) :: rest)))) sz) := by
  refine Met.ofW (cc := cX8_overAfter) (maxL := 4) (ret := (some .int)) (by decide) rfl ?_
  intro p e s m args below meth c s₁ B hml hv
  obtain ⟨rfl, hsz, hP, hK, hD0⟩ := hv
  have hx := B.exec
  have hb := B.bytes
  have hr := B.returns
  have hts := atoms_spec (ws := w8_overAfter) B.pre
  have hown : s.vm.findClass RX8 = some m.cls := findClass_of_methodNamed B.named
  have hlocks := B.notSynchronized
  subst hsz
  have hD := hD0.self (sz := s.heap.size)
  clear hD0
  generalize hAe : va_A (wB cA ad τ ++ (wPg cA ad pd π ++ (wB cA bd ρ ++ ((tp, .inr (8, tpF ad bd)) :: rest)))) s.heap.size = A at hD ⊢
  have hA : ∀ q : Nat, s.heap.size ≤ q → A q := fun q h => by rw [← hAe]; exact Or.inr h
  clear hAe
  have hS : va_S A s.heap s.heap [] := va_S.rf
  have hP : va_P D vwCl (wB cA ad τ ++ (wPg cA ad pd π ++ (wB cA bd ρ ++ ((tp, .inr (8, tpF ad bd)) :: rest)))) s.heap := hP
  have hl := lv_entry ([.ref (tp), .int (nI T), .int (nI U)]) (n := 4) (Nat.le_of_ble_eq_true rfl)
  rw [lg_entry_eq]
  generalize (lg_sl ([.ref (tp), .int (nI T), .int (nI U)]) ++ List.replicate (4 - (lg_sl ([.ref (tp), .int (nI T), .int (nI U)])).length) Slot.unset).toArray = ls at hl ⊢
  have hl : lv_has ls 4 [(0, .ref (tp)), (1, .int (nI T)), (2, .int (nI U))] := hl
  have nX8 : ∀ w ∈ u_ws RX8 TX8 7, w ∈ w8_overAfter := n8_overAfter_X8
  have k39 := hts (.fieldLink RX8 39 "ScopeRow" "trial" "LScopeRow$State;") (by decide +kernel)
  have k19 := hts (.fieldLink RX8 19 "ScopeRow" "state" "LScopeRow$State;") (by decide +kernel)
  have k45 := hts (.fieldLink RX8 45 "ScopeRow" "trialAnswers" "LScopeRow$Answers;") (by decide +kernel)
  have k42 := hts (.fieldLink RX8 42 "ScopeRow" "trialRunner" "LScopeRow$Runner;") (by decide +kernel)
  refine lv_aload_n hx hb dX8_overAfter_0 rfl (lv_at hl 0 rfl) ?_
  refine va_get (D := D) (C := RX8) (T := TX8) (N := 7) (ci := 8) (v := .ref (bd 0)) hx hb hts nX8 hown hK hP 209 w_tp rfl 4 (by decide) k39 (fun _ h9 => h9) rfl dX8_overAfter_1 ?_
  refine lv_aload_n hx hb dX8_overAfter_4 rfl (lv_at hl 0 rfl) ?_
  refine va_get (D := D) (C := RX8) (T := TX8) (N := 7) (ci := 8) (v := .ref (ad 0)) hx hb hts nX8 hown hK hP 209 w_tp rfl 1 (by decide) k19 (fun _ h9 => h9) rfl dX8_overAfter_5 ?_
  refine x_Vv (As := [.ref (ad 0)]) (rest0 := []) ⟨hx, hb, hml, hown, hts⟩ (c_X6_copyFrom_T l D cA ad tr rest s.heap.size τ pd π bd tp ρ h102 hfl) (cwV 1 hts g8_overAfter_X6_copyFrom rfl rfl rfl (by decide +kernel) ⟨Nat.le_of_ble_eq_true rfl, Nat.le_of_ble_eq_true rfl⟩) hK hP hD hS hA 107 w_stT rfl hl.1 rfl rfl (Nat.le_of_ble_eq_true rfl) ⟨Nat.zero_le _, Nat.zero_le _⟩ dX8_overAfter_8 (fun ρ1 H locs hw hP hD hS => ?_)
  have eρ1 := hw
  refine lv_iconst (v := 0) hx hb dX8_overAfter_11 (by decide) ?_
  refine lv_istore_n (lv' := [(3, .int 0), (0, .ref (tp)), (1, .int (nI T)), (2, .int (nI U))]) hx hb dX8_overAfter_12 rfl hl (by decide) rfl (fun ls hl => ?_)
  refine W_meas (I := fun (n : Nat) (H : Heap) (locs : List Loc) (ls : Array Slot) => ∃ (σ : Sg) (j : Nat), ((n + j = T) ∧ (m_overS π U n σ = m_overS π U T (m_copy ρ τ))) ∧ va_P D vwCl (wB cA ad τ ++ (wPg cA ad pd π ++ (wB cA bd σ ++ ((tp, .inr (8, tpF ad bd)) :: rest)))) H ∧ va_D A (wB cA ad τ ++ (wPg cA ad pd π ++ (wB cA bd σ ++ ((tp, .inr (8, tpF ad bd)) :: rest)))) ∧ va_S A s.heap H locs ∧ lv_has ls 4 [(0, .ref (tp)), (1, .int (nI T)), (2, .int (nI U)), (3, .int (nI j))]) T ⟨ρ1, 0, ⟨by omega, by subst eρ1; rfl⟩, hP, hD, hS, lv_sub hl [1, 2, 3, 0] rfl⟩ ?_
  clear hP hD hS hl
  intro n ih H locs ls hI
  obtain ⟨σ, j, ⟨hn, hf⟩, hP, hD, hS, hl⟩ := hI
  refine lv_iload_n hx hb dX8_overAfter_13 rfl (lv_at hl 3 rfl) ?_
  refine lv_iload_n hx hb dX8_overAfter_14 rfl (lv_at hl 1 rfl) ?_
  refine lv_icmp_ge (tgt := 41) hx hb dX8_overAfter_15 (by decide) (fun c_15_2 => ?_) (fun c_15_2 => ?_)
  -- 15 jumps
  · skip
    obtain rfl : n = 0 := by have := (nI_leI (by omega) (by omega)).mp c_15_2; omega
    have hs : σ = m_overS π U T (m_copy ρ τ) := hf
    refine lv_aload_n hx hb dX8_overAfter_41 rfl (lv_at hl 0 rfl) ?_
    refine va_get (D := D) (C := RX8) (T := TX8) (N := 7) (ci := 8) (v := .ref (bd 101)) hx hb hts nX8 hown hK hP 209 w_tp rfl 6 (by decide) k45 (fun _ h9 => h9) rfl dX8_overAfter_42 ?_
    refine x_Vi (As := []) (rest0 := []) ⟨hx, hb, hml, hown, hts⟩ (c_X0_countOver_T l D cA ad tr rest H.size τ pd π bd tp σ h102 ) (cwV 0 hts g8_overAfter_X0_countOver rfl rfl rfl (by decide +kernel) ⟨Nat.le_of_ble_eq_true rfl, Nat.le_of_ble_eq_true rfl⟩) hK hP hD hS hA 208 w_anT rfl hl.1 rfl rfl (Nat.le_of_ble_eq_true rfl) ⟨Nat.zero_le _, Nat.zero_le _⟩ dX8_overAfter_45 (fun r3 _ H locs hw hP hD hS => ?_)
    have er3 := hw
    exact x_iret hx hb hr hlocks hK σ hP hD hS dX8_overAfter_48 (by rw [← hs]; exact ⟨er3, rfl⟩)
  -- 15 goes on
  · skip
    have hj : j < T := Nat.not_le.mp (fun z => c_15_2 ((nI_leI (by omega) (by omega)).mpr z))
    obtain ⟨n, rfl⟩ : ∃ k, n = k + 1 := ⟨n - 1, by omega⟩
    refine lv_aload_n hx hb dX8_overAfter_18 rfl (lv_at hl 0 rfl) ?_
    refine va_get (D := D) (C := RX8) (T := TX8) (N := 7) (ci := 8) (v := .ref (bd 0)) hx hb hts nX8 hown hK hP 209 w_tp rfl 4 (by decide) k39 (fun _ h9 => h9) rfl dX8_overAfter_19 ?_
    refine x_Vi (As := []) (rest0 := []) ⟨hx, hb, hml, hown, hts⟩ (c_X6_tickOnce_T l D cA ad tr rest H.size τ pd π bd tp σ h102 ) (cwV 0 hts g8_overAfter_X6_tickOnce rfl rfl rfl (by decide +kernel) ⟨Nat.le_of_ble_eq_true rfl, Nat.le_of_ble_eq_true rfl⟩) hK hP hD hS hA 107 w_stT rfl hl.1 rfl rfl (Nat.le_of_ble_eq_true rfl) ⟨Nat.zero_le _, Nat.zero_le _⟩ dX8_overAfter_22 (fun r4 ρ5 H locs hw hP hD hS => ?_)
    obtain ⟨er4, eρ5⟩ := hw
    refine lv_pop hx hb dX8_overAfter_25 rfl ?_
    refine lv_aload_n hx hb dX8_overAfter_26 rfl (lv_at hl 0 rfl) ?_
    refine va_get (D := D) (C := RX8) (T := TX8) (N := 7) (ci := 8) (v := .ref (bd 100)) hx hb hts nX8 hown hK hP 209 w_tp rfl 5 (by decide) k42 (fun _ h9 => h9) rfl dX8_overAfter_27 ?_
    refine lv_iload_n hx hb dX8_overAfter_30 rfl (lv_at hl 2 rfl) ?_
    refine x_Vi (As := [.int (nI U)]) (rest0 := []) ⟨hx, hb, hml, hown, hts⟩ (c_X4_takeTurns_T l D cA ad tr rest H.size τ pd π bd tp ρ5 h102 U (by omega)) (cwV 1 hts g8_overAfter_X4_takeTurns rfl rfl rfl (by decide +kernel) ⟨Nat.le_of_ble_eq_true rfl, Nat.le_of_ble_eq_true rfl⟩) hK hP hD hS hA 207 w_ruT rfl hl.1 rfl rfl (Nat.le_of_ble_eq_true rfl) ⟨Nat.zero_le _, Nat.zero_le _⟩ dX8_overAfter_31 (fun r6 ρ7 H locs hw hP hD hS => ?_)
    obtain ⟨er6, eρ7⟩ := hw
    refine lv_pop hx hb dX8_overAfter_34 rfl ?_
    refine lv_iinc (v := (nI (j + 1))) (lv' := [(3, .int (nI (j + 1))), (0, .ref (tp)), (1, .int (nI T)), (2, .int (nI U))]) hx hb dX8_overAfter_35 hl (k := 3) rfl (show nI j + 1 = nI (j + 1) from nI_1 j) (by decide) rfl (fun ls hl => ?_)
    refine lv_goto (tgt := 13) hx hb dX8_overAfter_38 (by decide) ?_
    exact ih n (Nat.lt_succ_self n) H locs ls ⟨ρ7, (j + 1), ⟨by omega, by rw [← hf, m_overS_s, eρ7, eρ5]⟩, hP, hD, hS, lv_sub hl [1, 2, 3, 0] rfl⟩
