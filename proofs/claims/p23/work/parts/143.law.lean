/-! State(): what a new State is -/
def eTk (j u : Nat) : va_E := .inr (7, [.int (nI j), .ref u, .int 0, .int (-1), .int 0, .int 0, .int (-1), .int (-1), .int 0, .int 0, .int 0, .int 0, .int 0, .int 0, .int 0, .int 0, .int 0])
def eSc (j : Nat) : va_E := .inr (5, [.int (nI j), .int (-1), .int 0, .int 0, .int 0, .int 0, .int 0, .int 0, .int 0, .int 0, .int 0, .int 0, .int 0, .int (-1)])
def eLk (j : Nat) : va_E := .inr (2, [.int (nI j), .int (-1), .int 0])
def eCh (_ u : Nat) : va_E := .inr (1, [.int 1, .ref u, .int 0, .int 0, .int 0])
def stI (q1 q2 q3 q4 q5 : Nat) : List Value := [.ref q1, .int 0, .ref q2, .int 0, .ref q3, .ref q4, .ref q5, .int 0, .int 0, .int 0, .int 0, .int 0]
def st5 (cA : Nat → ClassId) (q1 q2 q3 q4 q5 : Nat) (f1 f2 f3 f4 : Nat → Option Nat) : va_W := [(q1, .inl (cA 1, 24, .inr (.inr (.inr (.inr f1))))), (q2, .inl (cA 2, 40, .inr (.inr (.inr (.inr f2))))), (q3, .inl (cA 3, 2, .inr (.inr (.inr (.inr f3))))), (q4, .inl (cA 4, 2, .inr (.inr (.inr (.inr f4))))), (q5, .inl (cA 0, 24, .inl (fun _ => 0)))]
/-- a new block but for its Runner, its Answers -/
def wS (cA : Nat → ClassId) (u : Nat → Nat) : va_W := (List.range 99).map (fun k => (u (k + 1), ob cA u s0 (k + 1)))
theorem wS_at {cA : Nat → ClassId} {u : Nat → Nat} {k : Nat} (hk : k < 99) : (wS cA u)[k]? = some (u (k + 1), ob cA u s0 (k + 1)) := by simp [wS, hk]
theorem wS_len {cA : Nat → ClassId} {u : Nat → Nat} : (wS cA u).length = 99 := by simp [wS]
section STDONE
variable {D : va_G} {A : Nat → Prop} {H : Heap} {cA : Nat → ClassId} {ws : va_W} {q0 h0 q1 q2 q3 q4 q5 : Nat} {f1 f2 f3 f4 : Nat → Option Nat} {T1 L1 T2 T3 T4 L4 : va_W}
theorem app_r {X Y : va_W} {n k : Nat} {x : Nat × va_E} (hx : X.length = n) (h : Y[k]? = some x) : (X ++ Y)[k + n]? = some x := by
  rw [List.getElem?_append_right (by omega), hx, Nat.add_sub_cancel]; exact h
theorem st_done (hq : q0 < ws.length) (m1 : mkTwo eTk (.inl (cA 0, 4, .inl (fun _ => 0))) f1 T1 L1 24) (m2 : mkOne eSc f2 T2 40) (m3 : mkOne eLk f3 T3 2) (m4 : mkTwo eCh (.inl (cA 0, 27, .inl (fun _ => 0))) f4 T4 L4 2)
    (hP : va_P D vwCl (ws.set q0 (h0, .inr (6, stI q1 q2 q3 q4 q5)) ++ (st5 cA q1 q2 q3 q4 q5 f1 f2 f3 f4 ++ (T1 ++ (L1 ++ (T2 ++ (T3 ++ (T4 ++ L4))))))) H) (hD : va_D A (ws.set q0 (h0, .inr (6, stI q1 q2 q3 q4 q5)) ++ (st5 cA q1 q2 q3 q4 q5 f1 f2 f3 f4 ++ (T1 ++ (L1 ++ (T2 ++ (T3 ++ (T4 ++ L4)))))))) :
    ∃ u : Nat → Nat, u 0 = h0 ∧ va_P D vwCl (ws.set q0 (u 0, ob cA u s0 0) ++ wS cA u) H ∧ va_D A (ws.set q0 (u 0, ob cA u s0 0) ++ wS cA u) := by
  obtain ⟨C, eC⟩ : ∃ z, z = st5 cA q1 q2 q3 q4 q5 f1 f2 f3 f4 ++ (T1 ++ (L1 ++ (T2 ++ (T3 ++ (T4 ++ L4))))) := ⟨_, rfl⟩
  rw [← eC] at hP hD
  obtain ⟨l1, k1, m1⟩ := m1
  obtain ⟨l2, m2⟩ := m2
  obtain ⟨l3, m3⟩ := m3
  obtain ⟨l4, k4, m4⟩ := m4
  have hlen : C.length = 99 := by rw [eC]; simp [st5, l1, k1, l2, l3, l4, k4]
  obtain ⟨u, eu⟩ : ∃ u : Nat → Nat, u = fun k => if k = 0 then h0 else ((C[k - 1]?).map Prod.fst).getD 0 := ⟨_, rfl⟩
  have u0 : u 0 = h0 := by rw [eu]; rfl
  have us : ∀ k x, C[k]? = some x → u (k + 1) = x.1 := fun k x h => by
    rw [eu]; show (if k + 1 = 0 then h0 else _) = _
    rw [if_neg (Nat.succ_ne_zero k), Nat.add_sub_cancel, h]; rfl
  have c0 : C[0]? = some (q1, .inl (cA 1, 24, .inr (.inr (.inr (.inr f1))))) := by rw [eC]; rfl
  have c1 : C[1]? = some (q2, .inl (cA 2, 40, .inr (.inr (.inr (.inr f2))))) := by rw [eC]; rfl
  have c2 : C[2]? = some (q3, .inl (cA 3, 2, .inr (.inr (.inr (.inr f3))))) := by rw [eC]; rfl
  have c3 : C[3]? = some (q4, .inl (cA 4, 2, .inr (.inr (.inr (.inr f4))))) := by rw [eC]; rfl
  have c4 : C[4]? = some (q5, .inl (cA 0, 24, .inl (fun _ => 0))) := by rw [eC]; rfl
  have g1 : ∀ j, j < 24 → ∃ q v, C[j + 5]? = some (q, eTk j v) ∧ C[j + 29]? = some (v, .inl (cA 0, 4, .inl (fun _ => 0))) ∧ f1 j = some q := fun j hj => by
    obtain ⟨q, v, a1, a2, a3⟩ := m1 j hj
    refine ⟨q, v, ?_, ?_, a3⟩
    · rw [eC]; exact app_r (n := 5) rfl (by rw [List.getElem?_append_left (by omega)]; exact a1)
    · rw [eC]; exact app_r (n := 5) (k := j + 24) rfl (app_r l1 (by rw [List.getElem?_append_left (by omega)]; exact a2))
  have g2 : ∀ j, j < 40 → ∃ q, C[j + 53]? = some (q, eSc j) ∧ f2 j = some q := fun j hj => by
    obtain ⟨q, a1, a3⟩ := m2 j hj
    refine ⟨q, ?_, a3⟩
    rw [eC]; exact app_r (n := 5) (k := j + 24 + 24) rfl (app_r l1 (app_r k1 (by rw [List.getElem?_append_left (by omega)]; exact a1)))
  have g3 : ∀ j, j < 2 → ∃ q, C[j + 93]? = some (q, eLk j) ∧ f3 j = some q := fun j hj => by
    obtain ⟨q, a1, a3⟩ := m3 j hj
    refine ⟨q, ?_, a3⟩
    rw [eC]; exact app_r (n := 5) (k := j + 40 + 24 + 24) rfl (app_r l1 (app_r k1 (app_r l2 (by rw [List.getElem?_append_left (by omega)]; exact a1))))
  have g4 : ∀ j, j < 2 → ∃ q v, C[j + 95]? = some (q, eCh j v) ∧ C[j + 97]? = some (v, .inl (cA 0, 27, .inl (fun _ => 0))) ∧ f4 j = some q := fun j hj => by
    obtain ⟨q, v, a1, a2, a3⟩ := m4 j hj
    refine ⟨q, v, ?_, ?_, a3⟩
    · rw [eC]; exact app_r (n := 5) (k := j + 2 + 40 + 24 + 24) rfl (app_r l1 (app_r k1 (app_r l2 (app_r l3 (by rw [List.getElem?_append_left (by omega)]; exact a1)))))
    · rw [eC]; exact app_r (n := 5) (k := j + 2 + 2 + 40 + 24 + 24) rfl (app_r l1 (app_r k1 (app_r l2 (app_r l3 (app_r l4 a2)))))
  have u1 : u 1 = q1 := us 0 _ c0
  have u2 : u 2 = q2 := us 1 _ c1
  have u3 : u 3 = q3 := us 2 _ c2
  have u4 : u 4 = q4 := us 3 _ c3
  have u5 : u 5 = q5 := us 4 _ c4
  have key : ∀ k, k < 99 → ∃ x, C[k]? = some x ∧ va_same x.2 (ob cA u s0 (k + 1)) := by
    intro k hk
    by_cases h5 : k < 5
    · rcases (show k = 0 ∨ k = 1 ∨ k = 2 ∨ k = 3 ∨ k = 4 by omega) with h | h | h | h | h <;> subst h
      · exact ⟨_, c0, Or.inr ⟨_, _, _, _, rfl, rfl, fun j hj => by obtain ⟨q, v, a1, _, a3⟩ := g1 j hj; rw [a3]; exact congrArg some (us _ _ a1).symm⟩⟩
      · exact ⟨_, c1, Or.inr ⟨_, _, _, _, rfl, rfl, fun j hj => by obtain ⟨q, a1, a3⟩ := g2 j hj; rw [a3]; exact congrArg some (us _ _ a1).symm⟩⟩
      · exact ⟨_, c2, Or.inr ⟨_, _, _, _, rfl, rfl, fun j hj => by obtain ⟨q, a1, a3⟩ := g3 j hj; rw [a3]; exact congrArg some (us _ _ a1).symm⟩⟩
      · exact ⟨_, c3, Or.inr ⟨_, _, _, _, rfl, rfl, fun j hj => by obtain ⟨q, v, a1, _, a3⟩ := g4 j hj; rw [a3]; exact congrArg some (us _ _ a1).symm⟩⟩
      · refine ⟨_, c4, Or.inl ?_⟩
        show _ = obr cA u (s0 5) 5
        rw [show s0 5 = fun _ => 0 from funext fun b => s0_0 (by omega)]
        rfl
    by_cases h29 : k < 29
    · obtain ⟨j, rfl⟩ : ∃ j, k = j + 5 := ⟨k - 5, by omega⟩
      obtain ⟨q, v, a1, a2, _⟩ := g1 j (by omega)
      refine ⟨_, a1, Or.inl ?_⟩
      have e : u (j + 30) = v := us (j + 29) _ a2
      show _ = obr cA u (s0 (j + 6)) (j + 6)
      rw [ob_tk (by omega), show s0 (j + 6) = fun b => if b = 3 ∨ b = 6 ∨ b = 7 then -1 else 0 from funext (s0_tk (by omega))]
      unfold tkF
      rw [e]; rfl
    by_cases h53 : k < 53
    · obtain ⟨j, rfl⟩ : ∃ j, k = j + 29 := ⟨k - 29, by omega⟩
      obtain ⟨q, v, a1, a2, _⟩ := g1 j (by omega)
      refine ⟨_, a2, Or.inl ?_⟩
      show _ = obr cA u (s0 (j + 30)) (j + 30)
      rw [ob_lo (by omega), show s0 (j + 30) = fun _ => 0 from funext fun b => s0_0 (by omega)]
    by_cases h93 : k < 93
    · obtain ⟨j, rfl⟩ : ∃ j, k = j + 53 := ⟨k - 53, by omega⟩
      obtain ⟨q, a1, _⟩ := g2 j (by omega)
      refine ⟨_, a1, Or.inl ?_⟩
      show _ = obr cA u (s0 (j + 54)) (j + 54)
      rw [ob_sc (by omega), show s0 (j + 54) = fun b => if b = 1 ∨ b = 13 then -1 else 0 from funext (s0_sc (by omega))]
      rfl
    by_cases h95 : k < 95
    · obtain ⟨j, rfl⟩ : ∃ j, k = j + 93 := ⟨k - 93, by omega⟩
      obtain ⟨q, a1, _⟩ := g3 j (by omega)
      refine ⟨_, a1, Or.inl ?_⟩
      show _ = obr cA u (s0 (j + 94)) (j + 94)
      rw [ob_lk (by omega), show s0 (j + 94) = fun b => if b = 1 then -1 else 0 from funext (s0_lk (by omega))]
      rfl
    by_cases h97 : k < 97
    · obtain ⟨j, rfl⟩ : ∃ j, k = j + 95 := ⟨k - 95, by omega⟩
      obtain ⟨q, v, a1, a2, _⟩ := g4 j (by omega)
      refine ⟨_, a1, Or.inl ?_⟩
      have e : u (j + 98) = v := us (j + 97) _ a2
      show _ = obr cA u (s0 (j + 96)) (j + 96)
      rw [ob_ch (by omega), show s0 (j + 96) = fun b => if b = 0 then 1 else 0 from funext (s0_ch (by omega))]
      unfold chF
      rw [e]; rfl
    · obtain ⟨j, rfl⟩ : ∃ j, k = j + 97 := ⟨k - 97, by omega⟩
      obtain ⟨q, v, a1, a2, _⟩ := g4 j (by omega)
      refine ⟨_, a2, Or.inl ?_⟩
      show _ = obr cA u (s0 (j + 98)) (j + 98)
      rw [ob_va (by omega), show s0 (j + 98) = fun _ => 0 from funext fun b => s0_0 (by omega)]
  have e0 : ob cA u s0 0 = .inr (6, stI q1 q2 q3 q4 q5) := by
    show obr cA u (s0 0) 0 = _
    rw [show s0 0 = fun _ => 0 from funext fun b => s0_0 (by omega)]
    show Sum.inr (6, stF u (fun _ => 0)) = _
    unfold stF
    rw [u1, u2, u3, u4, u5]; rfl
  refine ⟨u, u0, ?_, ?_⟩
  · refine hP.same (fun k y hk => ?_)
    by_cases hl : k < ws.length
    · rw [List.getElem?_append_left (by rw [List.length_set]; exact hl), u0, e0] at hk
      exact ⟨y, List.mem_append_left _ (List.mem_of_getElem? hk), rfl, Or.inl rfl⟩
    · rw [List.getElem?_append_right (by rw [List.length_set]; omega), List.length_set] at hk
      have hj : k - ws.length < 99 := by have := (List.getElem?_eq_some_iff.mp hk).1; rw [wS_len] at this; exact this
      rw [wS_at hj] at hk
      obtain ⟨x, a1, a2⟩ := key _ hj
      refine ⟨x, List.mem_append_right _ (List.mem_of_getElem? a1), ?_, ?_⟩
      · rw [← Option.some.inj hk]; exact (us _ _ a1).symm
      · rw [← Option.some.inj hk]; exact a2
  · refine hD.fst ?_
    rw [List.map_append, List.map_append, u0, e0]
    congr 1
    apply List.ext_getElem?
    intro k
    rw [List.getElem?_map, List.getElem?_map]
    by_cases hk : k < 99
    · obtain ⟨x, a1, _⟩ := key k hk
      rw [a1, wS_at hk]
      exact congrArg some (us k x a1).symm
    · rw [List.getElem?_eq_none (by omega), List.getElem?_eq_none (by rw [wS_len]; omega)]
end STDONE
