/-! THE STATE OF THE CLASS AS NUMBERS: of one State object and all that hangs on it (102 cells, at the addresses ad 0 .. ad 101: 100 of the State, its Runner, its Answers; ad 102 is where the Program lies) the ints that change: 'Sg' gives the int of cell k, field (or place) j. -/
abbrev Sg : Type := Nat → Nat → Int32
def up2 (τ : Sg) (k j : Nat) (v : Int32) : Sg := fun a => if a = k then upd (τ k) j v else τ a
theorem up2_k {τ : Sg} {k j : Nat} {v : Int32} : up2 τ k j v k = upd (τ k) j v := if_pos rfl
theorem up2_ne {τ : Sg} {k j a : Nat} {v : Int32} (h : a ≠ k) : up2 τ k j v a = τ a := if_neg h
/-- the fields of each kind of object, out of the row of its ints -/
def tkF (ad : Nat → Nat) (r : Nat → Int32) (i : Nat) : List Value := [.int (nI i), .ref (ad (i + 30)), .int (r 2), .int (r 3), .int (r 4), .int (r 5), .int (r 6), .int (r 7), .int (r 8), .int (r 9), .int (r 10), .int (r 11), .int (r 12), .int (r 13), .int (r 14), .int (r 15), .int (r 16)]
def scF (r : Nat → Int32) (i : Nat) : List Value := [.int (nI i), .int (r 1), .int (r 2), .int (r 3), .int (r 4), .int (r 5), .int (r 6), .int (r 7), .int (r 8), .int (r 9), .int (r 10), .int (r 11), .int (r 12), .int (r 13)]
def lkF (r : Nat → Int32) (i : Nat) : List Value := [.int (nI i), .int (r 1), .int (r 2)]
def chF (ad : Nat → Nat) (r : Nat → Int32) (i : Nat) : List Value := [.int (r 0), .ref (ad (i + 98)), .int (r 2), .int (r 3), .int (r 4)]
def stF (ad : Nat → Nat) (r : Nat → Int32) : List Value := [.ref (ad 1), .int (r 1), .ref (ad 2), .int (r 3), .ref (ad 3), .ref (ad 4), .ref (ad 5), .int (r 7), .int (r 8), .int (r 9), .int (r 10), .int (r 11)]
def ruF (ad : Nat → Nat) (r : Nat → Int32) : List Value := [.ref (ad 102), .ref (ad 0), .int (r 2)]
def anF (ad : Nat → Nat) : List Value := [.ref (ad 102), .ref (ad 0)]
/-- cell k: the State, its five arrays, 24 Tasks, their rows of LOCALS, 40 Scopes, 2 Locks, 2 Channels, their rows of VALUES, the Runner, the Answers -/
def obr (cA : Nat → ClassId) (ad : Nat → Nat) (r : Nat → Int32) (k : Nat) : va_E :=
  if k = 0 then .inr (6, stF ad r)
  else if k = 1 then .inl (cA 1, 24, .inr (.inr (.inr (.inr (fun j => some (ad (j + 6)))))))
  else if k = 2 then .inl (cA 2, 40, .inr (.inr (.inr (.inr (fun j => some (ad (j + 54)))))))
  else if k = 3 then .inl (cA 3, 2, .inr (.inr (.inr (.inr (fun j => some (ad (j + 94)))))))
  else if k = 4 then .inl (cA 4, 2, .inr (.inr (.inr (.inr (fun j => some (ad (j + 96)))))))
  else if k = 5 then .inl (cA 0, 24, .inl r)
  else if k < 30 then .inr (7, tkF ad r (k - 6))
  else if k < 54 then .inl (cA 0, 4, .inl r)
  else if k < 94 then .inr (5, scF r (k - 54))
  else if k < 96 then .inr (2, lkF r (k - 94))
  else if k < 98 then .inr (1, chF ad r (k - 96))
  else if k < 100 then .inl (cA 0, 27, .inl r)
  else if k = 100 then .inr (4, ruF ad r)
  else .inr (0, anF ad)
abbrev ob (cA : Nat → ClassId) (ad : Nat → Nat) (τ : Sg) (k : Nat) : va_E := obr cA ad (τ k) k
def wB (cA : Nat → ClassId) (ad : Nat → Nat) (τ : Sg) : va_W := (List.range 102).map (fun k => (ad k, ob cA ad τ k))
theorem wB_len {cA ad τ} : (wB cA ad τ).length = 102 := by simp [wB]
theorem wB_at {cA ad τ} {rest : va_W} {k : Nat} (hk : k < 102) : (wB cA ad τ ++ rest)[k]? = some (ad k, ob cA ad τ k) := by
  rw [List.getElem?_append_left (by rw [wB_len]; exact hk)]
  simp [wB, hk]
theorem wB_rest {cA ad τ} {rest : va_W} (k : Nat) : (wB cA ad τ ++ rest)[k + 102]? = rest[k]? := by
  rw [List.getElem?_append_right (by rw [wB_len]; omega), wB_len]
  simp
theorem wB_set {cA ad τ τ'} {rest : va_W} {k : Nat} (h : ∀ a, a ≠ k → τ' a = τ a) : (wB cA ad τ ++ rest).set k (ad k, ob cA ad τ' k) = if k < 102 then wB cA ad τ' ++ rest else (wB cA ad τ ++ rest).set k (ad k, ob cA ad τ' k) := by
  by_cases hk : k < 102
  · rw [if_pos hk]
    apply List.ext_getElem?
    intro a
    by_cases ha : a = k
    · subst ha
      rw [List.getElem?_set_self (by rw [List.length_append, wB_len]; omega), wB_at hk]
    · rw [List.getElem?_set_ne (Ne.symm ha)]
      by_cases h1 : a < 102
      · rw [wB_at h1, wB_at h1]
        show some (ad a, obr cA ad (τ a) a) = some (ad a, obr cA ad (τ' a) a)
        rw [h a ha]
      · obtain ⟨b, rfl⟩ : ∃ b, a = b + 102 := ⟨a - 102, by omega⟩
        rw [wB_rest, wB_rest]
  · rw [if_neg hk]
theorem wB_up {cA ad} {τ : Sg} {rest : va_W} {k j : Nat} {v : Int32} {e : va_E} (hk : k < 102) (he : e = obr cA ad (upd (τ k) j v) k) : (wB cA ad τ ++ rest).set k (ad k, e) = wB cA ad (up2 τ k j v) ++ rest := by
  have h := wB_set (cA := cA) (ad := ad) (τ := τ) (τ' := up2 τ k j v) (rest := rest) (k := k) (fun a ha => up2_ne ha)
  rw [if_pos hk] at h
  rw [← h, he]
  show _ = List.set _ k (ad k, obr cA ad (up2 τ k j v k) k)
  rw [up2_k]
-- which cell lies where
theorem w_st {cA ad τ} {rest : va_W} : (wB cA ad τ ++ rest)[0]? = some (ad 0, .inr (6, stF ad (τ 0))) := wB_at (by decide)
theorem w_a1 {cA ad τ} {rest : va_W} : (wB cA ad τ ++ rest)[1]? = some (ad 1, .inl (cA 1, 24, .inr (.inr (.inr (.inr (fun j => some (ad (j + 6)))))))) := wB_at (by decide)
theorem w_a2 {cA ad τ} {rest : va_W} : (wB cA ad τ ++ rest)[2]? = some (ad 2, .inl (cA 2, 40, .inr (.inr (.inr (.inr (fun j => some (ad (j + 54)))))))) := wB_at (by decide)
theorem w_a3 {cA ad τ} {rest : va_W} : (wB cA ad τ ++ rest)[3]? = some (ad 3, .inl (cA 3, 2, .inr (.inr (.inr (.inr (fun j => some (ad (j + 94)))))))) := wB_at (by decide)
theorem w_a4 {cA ad τ} {rest : va_W} : (wB cA ad τ ++ rest)[4]? = some (ad 4, .inl (cA 4, 2, .inr (.inr (.inr (.inr (fun j => some (ad (j + 96)))))))) := wB_at (by decide)
theorem w_a5 {cA ad τ} {rest : va_W} : (wB cA ad τ ++ rest)[5]? = some (ad 5, .inl (cA 0, 24, .inl (τ 5))) := wB_at (by decide)
theorem ob_tk {cA ad r} {i : Nat} (hi : i < 24) : obr cA ad r (i + 6) = .inr (7, tkF ad r i) := by
  unfold obr; simp (disch := omega) only [if_neg, if_pos, show i + 6 < 30 by omega, show ¬ i + 6 = 0 by omega, show ¬ i + 6 = 1 by omega, show ¬ i + 6 = 2 by omega, show ¬ i + 6 = 3 by omega, show ¬ i + 6 = 4 by omega, show ¬ i + 6 = 5 by omega, if_true, if_false, Nat.add_sub_cancel]
theorem ob_lo {cA ad r} {i : Nat} (hi : i < 24) : obr cA ad r (i + 30) = .inl (cA 0, 4, .inl r) := by
  unfold obr; simp only [show i + 30 < 54 by omega, show ¬ i + 30 < 30 by omega, show ¬ i + 30 = 0 by omega, show ¬ i + 30 = 1 by omega, show ¬ i + 30 = 2 by omega, show ¬ i + 30 = 3 by omega, show ¬ i + 30 = 4 by omega, show ¬ i + 30 = 5 by omega, if_true, if_false]
theorem ob_sc {cA ad r} {i : Nat} (hi : i < 40) : obr cA ad r (i + 54) = .inr (5, scF r i) := by
  unfold obr; simp only [show i + 54 < 94 by omega, show ¬ i + 54 < 54 by omega, show ¬ i + 54 < 30 by omega, show ¬ i + 54 = 0 by omega, show ¬ i + 54 = 1 by omega, show ¬ i + 54 = 2 by omega, show ¬ i + 54 = 3 by omega, show ¬ i + 54 = 4 by omega, show ¬ i + 54 = 5 by omega, if_true, if_false, Nat.add_sub_cancel]
theorem ob_lk {cA ad r} {i : Nat} (hi : i < 2) : obr cA ad r (i + 94) = .inr (2, lkF r i) := by
  unfold obr; simp only [show i + 94 < 96 by omega, show ¬ i + 94 < 94 by omega, show ¬ i + 94 < 54 by omega, show ¬ i + 94 < 30 by omega, show ¬ i + 94 = 0 by omega, show ¬ i + 94 = 1 by omega, show ¬ i + 94 = 2 by omega, show ¬ i + 94 = 3 by omega, show ¬ i + 94 = 4 by omega, show ¬ i + 94 = 5 by omega, if_true, if_false, Nat.add_sub_cancel]
theorem ob_ch {cA ad r} {i : Nat} (hi : i < 2) : obr cA ad r (i + 96) = .inr (1, chF ad r i) := by
  unfold obr; simp only [show i + 96 < 98 by omega, show ¬ i + 96 < 96 by omega, show ¬ i + 96 < 94 by omega, show ¬ i + 96 < 54 by omega, show ¬ i + 96 < 30 by omega, show ¬ i + 96 = 0 by omega, show ¬ i + 96 = 1 by omega, show ¬ i + 96 = 2 by omega, show ¬ i + 96 = 3 by omega, show ¬ i + 96 = 4 by omega, show ¬ i + 96 = 5 by omega, if_true, if_false, Nat.add_sub_cancel]
theorem ob_va {cA ad r} {i : Nat} (hi : i < 2) : obr cA ad r (i + 98) = .inl (cA 0, 27, .inl r) := by
  unfold obr; simp only [show i + 98 < 100 by omega, show ¬ i + 98 < 98 by omega, show ¬ i + 98 < 96 by omega, show ¬ i + 98 < 94 by omega, show ¬ i + 98 < 54 by omega, show ¬ i + 98 < 30 by omega, show ¬ i + 98 = 0 by omega, show ¬ i + 98 = 1 by omega, show ¬ i + 98 = 2 by omega, show ¬ i + 98 = 3 by omega, show ¬ i + 98 = 4 by omega, show ¬ i + 98 = 5 by omega, if_true, if_false]
theorem w_tk {cA ad} {τ : Sg} {rest : va_W} {i : Nat} (hi : i < 24) : (wB cA ad τ ++ rest)[i + 6]? = some (ad (i + 6), .inr (7, tkF ad (τ (i + 6)) i)) := by rw [wB_at (by omega), ← ob_tk hi]
theorem w_lo {cA ad} {τ : Sg} {rest : va_W} {i : Nat} (hi : i < 24) : (wB cA ad τ ++ rest)[i + 30]? = some (ad (i + 30), .inl (cA 0, 4, .inl (τ (i + 30)))) := by rw [wB_at (by omega), ← ob_lo hi]
theorem w_sc {cA ad} {τ : Sg} {rest : va_W} {i : Nat} (hi : i < 40) : (wB cA ad τ ++ rest)[i + 54]? = some (ad (i + 54), .inr (5, scF (τ (i + 54)) i)) := by rw [wB_at (by omega), ← ob_sc hi]
theorem w_lk {cA ad} {τ : Sg} {rest : va_W} {i : Nat} (hi : i < 2) : (wB cA ad τ ++ rest)[i + 94]? = some (ad (i + 94), .inr (2, lkF (τ (i + 94)) i)) := by rw [wB_at (by omega), ← ob_lk hi]
theorem w_ch {cA ad} {τ : Sg} {rest : va_W} {i : Nat} (hi : i < 2) : (wB cA ad τ ++ rest)[i + 96]? = some (ad (i + 96), .inr (1, chF ad (τ (i + 96)) i)) := by rw [wB_at (by omega), ← ob_ch hi]
theorem w_va {cA ad} {τ : Sg} {rest : va_W} {i : Nat} (hi : i < 2) : (wB cA ad τ ++ rest)[i + 98]? = some (ad (i + 98), .inl (cA 0, 27, .inl (τ (i + 98)))) := by rw [wB_at (by omega), ← ob_va hi]
theorem w_ru {cA ad τ} {rest : va_W} : (wB cA ad τ ++ rest)[100]? = some (ad 100, .inr (4, ruF ad (τ 100))) := wB_at (by decide)
theorem w_an {cA ad τ} {rest : va_W} : (wB cA ad τ ++ rest)[101]? = some (ad 101, .inr (0, anF ad)) := wB_at (by decide)
-- what a store makes of the list
theorem u_tk {cA ad} {τ : Sg} {rest : va_W} {i j : Nat} {v : Int32} (hi : i < 24) (h1 : 2 ≤ j) (h2 : j < 17) : (wB cA ad τ ++ rest).set (i + 6) (ad (i + 6), .inr (7, (tkF ad (τ (i + 6)) i).set j (.int v))) = wB cA ad (up2 τ (i + 6) j v) ++ rest := by
  refine wB_up (by omega) ?_
  rw [ob_tk hi]
  have h : j = 2 ∨ j = 3 ∨ j = 4 ∨ j = 5 ∨ j = 6 ∨ j = 7 ∨ j = 8 ∨ j = 9 ∨ j = 10 ∨ j = 11 ∨ j = 12 ∨ j = 13 ∨ j = 14 ∨ j = 15 ∨ j = 16 := by omega
  rcases h with rfl | rfl | rfl | rfl | rfl | rfl | rfl | rfl | rfl | rfl | rfl | rfl | rfl | rfl | rfl <;> rfl
theorem u_sc {cA ad} {τ : Sg} {rest : va_W} {i j : Nat} {v : Int32} (hi : i < 40) (h1 : 1 ≤ j) (h2 : j < 14) : (wB cA ad τ ++ rest).set (i + 54) (ad (i + 54), .inr (5, (scF (τ (i + 54)) i).set j (.int v))) = wB cA ad (up2 τ (i + 54) j v) ++ rest := by
  refine wB_up (by omega) ?_
  rw [ob_sc hi]
  have h : j = 1 ∨ j = 2 ∨ j = 3 ∨ j = 4 ∨ j = 5 ∨ j = 6 ∨ j = 7 ∨ j = 8 ∨ j = 9 ∨ j = 10 ∨ j = 11 ∨ j = 12 ∨ j = 13 := by omega
  rcases h with rfl | rfl | rfl | rfl | rfl | rfl | rfl | rfl | rfl | rfl | rfl | rfl | rfl <;> rfl
theorem u_lk {cA ad} {τ : Sg} {rest : va_W} {i j : Nat} {v : Int32} (hi : i < 2) (h1 : 1 ≤ j) (h2 : j < 3) : (wB cA ad τ ++ rest).set (i + 94) (ad (i + 94), .inr (2, (lkF (τ (i + 94)) i).set j (.int v))) = wB cA ad (up2 τ (i + 94) j v) ++ rest := by
  refine wB_up (by omega) ?_
  rw [ob_lk hi]
  have h : j = 1 ∨ j = 2 := by omega
  rcases h with rfl | rfl <;> rfl
theorem u_ch {cA ad} {τ : Sg} {rest : va_W} {i j : Nat} {v : Int32} (hi : i < 2) (h1 : j ≠ 1) (h2 : j < 5) : (wB cA ad τ ++ rest).set (i + 96) (ad (i + 96), .inr (1, (chF ad (τ (i + 96)) i).set j (.int v))) = wB cA ad (up2 τ (i + 96) j v) ++ rest := by
  refine wB_up (by omega) ?_
  rw [ob_ch hi]
  have h : j = 0 ∨ j = 2 ∨ j = 3 ∨ j = 4 := by omega
  rcases h with rfl | rfl | rfl | rfl <;> rfl
theorem u_st {cA ad} {τ : Sg} {rest : va_W} {j : Nat} {v : Int32} (h : j = 1 ∨ j = 3 ∨ j = 7 ∨ j = 8 ∨ j = 9 ∨ j = 10 ∨ j = 11) : (wB cA ad τ ++ rest).set 0 (ad 0, .inr (6, (stF ad (τ 0)).set j (.int v))) = wB cA ad (up2 τ 0 j v) ++ rest := by
  refine wB_up (by omega) ?_
  rcases h with rfl | rfl | rfl | rfl | rfl | rfl | rfl <;> rfl
theorem u_ru {cA ad} {τ : Sg} {rest : va_W} {j : Nat} {v : Int32} (h : j = 2) : (wB cA ad τ ++ rest).set 100 (ad 100, .inr (4, (ruF ad (τ 100)).set j (.int v))) = wB cA ad (up2 τ 100 j v) ++ rest := by
  refine wB_up (by omega) ?_
  subst h; rfl
theorem u_a5 {cA ad} {τ : Sg} {rest : va_W} {j : Nat} {v : Int32} : (wB cA ad τ ++ rest).set 5 (ad 5, .inl (cA 0, 24, .inl (upd (τ 5) j v))) = wB cA ad (up2 τ 5 j v) ++ rest := wB_up (by omega) rfl
theorem u_lo {cA ad} {τ : Sg} {rest : va_W} {i j : Nat} {v : Int32} (hi : i < 24) : (wB cA ad τ ++ rest).set (i + 30) (ad (i + 30), .inl (cA 0, 4, .inl (upd (τ (i + 30)) j v))) = wB cA ad (up2 τ (i + 30) j v) ++ rest := wB_up (by omega) (by rw [ob_lo hi])
theorem u_va {cA ad} {τ : Sg} {rest : va_W} {i j : Nat} {v : Int32} (hi : i < 2) : (wB cA ad τ ++ rest).set (i + 98) (ad (i + 98), .inl (cA 0, 27, .inl (upd (τ (i + 98)) j v))) = wB cA ad (up2 τ (i + 98) j v) ++ rest := wB_up (by omega) (by rw [ob_va hi])
/-- what is known of the arrays' classes -/
def tyB (cA : Nat → ClassId) : List (ClassId × FieldType) := [(cA 0, .int), (cA 1, .object "ScopeRow$Task"), (cA 2, .object "ScopeRow$Scope"), (cA 3, .object "ScopeRow$Lock"), (cA 4, .object "ScopeRow$Channel")]
/-- a method's start and end, in a world of cells -/
def inW (D : va_G) (tys : List (ClassId × FieldType)) (ws : va_W) (sz : Nat) (U : State) : Prop := U.heap.size = sz ∧ va_P D vwCl ws U.heap ∧ va_K D vwCl tys U ∧ va_D (fun _ => True) ws
def outW (D : va_G) (tys : List (ClassId × FieldType)) (A : Nat → Prop) (ws : va_W) (t : State) : Prop := va_P D vwCl ws t.heap ∧ va_K D vwCl tys t ∧ va_D A ws
theorem inW_blind {D tys ws sz} {U : State} {g : JFrame} {mk : MethodId} {a : Array Value} (h : inW D tys ws sz U) : inW D tys ws sz (U.calling g mk a) := by
  obtain ⟨h1, h2, h3, h4⟩ := h
  exact ⟨h1, h2, va_K.moved (u := U) (U := U.calling g mk a) (Vm.Alike.refl U.vm) h3, h4⟩
def bI (b : Bool) : Int32 := if b then 1 else 0
/-! CALLS, STORES, ENDS AND LOOPS over whole worlds: the callee has the caller's world, all of it; nothing is cut out, nothing joined. -/
section XCALL
variable {p : Program} {l : Launch} {e : Env} {R : Room} {s : State} {m : MethodId} {args : Array Value} {below : List Frame} {meth : Method} {c : Code} {H : Heap} {locs : List Loc} {cells slots : Nat} {Q : State → Prop}
variable {cc bytes : ByteArray} {pc nL maxL index n : Nat} {ls : Array Slot} {st0 rest0 As : List Value} {D : va_G} {tys : List (ClassId × FieldType)} {ws : va_W} {A0 : Nat → Prop} {H0 : Heap} {Ts wsy : List Cond} {own C : String} {y : MethodName} {ret : Option FieldType} {rm : Room} {b ci : Nat} {fs : List Value} {T : u_T} {N : Nat}
theorem xA (hD : va_D A0 ws) (hS : va_S A0 H0 H locs) (hA : ∀ q, H0.size ≤ q → A0 q) : ∀ q, va_A ws H.size q → A0 q := by
  intro q h
  rcases h with ⟨k, e, h⟩ | h
  · exact hD.2 k (q, e) h
  · exact hA q (Nat.le_trans hS.1 h)
theorem x_Vi {S : Type} {post : Int32 → S → Prop} {wf : S → va_W} (F : CallFix p m c cc nL s args Ts own)
    (hM : Met l y wsy rm (va_Pc (.ref b :: As) (inW D tys ws H.size)) (va_Qi post (fun u => outW D tys (va_A ws H.size) (wf u)) (va_A ws H.size)) 0 0 (va_A ws H.size))
    (cw : CallW R s args own C index y bytes maxL ret wsy rm 0 0 n) (hK : va_K D vwCl tys s) (hP : va_P D vwCl ws H) (hD : va_D A0 ws) (hS : va_S A0 H0 H locs) (hA : ∀ q, H0.size ≤ q → A0 q)
    (q0 : Nat) (he : ws[q0]? = some (b, .inr (ci, fs))) (hc : vwCl[ci]? = some (C, T, N)) (hl : ls.size = nL) (hn : As.length = n) (hst : st0 = As.reverse ++ .ref b :: rest0) (hW : (rest0.map fun v => v.category).sum ≤ 8)
    (hf : cells ≤ R.cells ∧ slots ≤ R.slots) (hdg : decode cc pc = .ok (.invokevirtual index, 3))
    (kk : ∀ (r : Int32) (u : S) (H1 : Heap) (locs1 : List Loc), post r u → va_P D vwCl (wf u) H1 → va_D A0 (wf u) → va_S A0 H0 H1 locs1 → W p l e R s m args below meth c H1 locs1 cells slots Q (F0 m (pc + 3) ls (.int r :: rest0))) :
    W p l e R s m args below meth c H locs cells slots Q (F0 m pc ls st0) := by
  have hrv := va_recv hK hP hc he
  have hFc := xA hD hS hA
  refine va_calli (va_runV (As := As) (rest := rest0) F hM cw ⟨fun a U g mk q => ⟨q.1, inW_blind q.2⟩, hrv, fun U hU hW => ⟨rfl, by rw [hU], by rw [hU]; exact hP, va_K.moved hW.alike hK, hD.weaken (fun _ _ _ _ => trivial)⟩⟩ rfl hn hl hst (lv_room hW) hdg ⟨hf.1, hf.2⟩) hS (fun q _ h => hFc q h) hFc (fun r u t H1 locs1 ht hvm hw hB hz1 hk1 hS1 => ?_)
  obtain ⟨hP1, hK1, hD1⟩ := hB
  rw [ht] at hP1
  exact kk r u H1 locs1 hw hP1 (hD1.weaken (fun k q _ h => hFc q.1 h)) hS1
theorem x_Vl {S : Type} {post : Int64 → S → Prop} {wf : S → va_W} (F : CallFix p m c cc nL s args Ts own)
    (hM : Met l y wsy rm (va_Pc (.ref b :: As) (inW D tys ws H.size)) (va_Ql post (fun u => outW D tys (va_A ws H.size) (wf u)) (va_A ws H.size)) 0 0 (va_A ws H.size))
    (cw : CallW R s args own C index y bytes maxL ret wsy rm 0 0 n) (hK : va_K D vwCl tys s) (hP : va_P D vwCl ws H) (hD : va_D A0 ws) (hS : va_S A0 H0 H locs) (hA : ∀ q, H0.size ≤ q → A0 q)
    (q0 : Nat) (he : ws[q0]? = some (b, .inr (ci, fs))) (hc : vwCl[ci]? = some (C, T, N)) (hl : ls.size = nL) (hn : As.length = n) (hst : st0 = As.reverse ++ .ref b :: rest0) (hW : (rest0.map fun v => v.category).sum ≤ 8)
    (hf : cells ≤ R.cells ∧ slots ≤ R.slots) (hdg : decode cc pc = .ok (.invokevirtual index, 3))
    (kk : ∀ (r : Int64) (u : S) (H1 : Heap) (locs1 : List Loc), post r u → va_P D vwCl (wf u) H1 → va_D A0 (wf u) → va_S A0 H0 H1 locs1 → W p l e R s m args below meth c H1 locs1 cells slots Q (F0 m (pc + 3) ls (.long r :: rest0))) :
    W p l e R s m args below meth c H locs cells slots Q (F0 m pc ls st0) := by
  have hrv := va_recv hK hP hc he
  have hFc := xA hD hS hA
  refine va_calll (va_runV (As := As) (rest := rest0) F hM cw ⟨fun a U g mk q => ⟨q.1, inW_blind q.2⟩, hrv, fun U hU hW => ⟨rfl, by rw [hU], by rw [hU]; exact hP, va_K.moved hW.alike hK, hD.weaken (fun _ _ _ _ => trivial)⟩⟩ rfl hn hl hst (lv_room hW) hdg ⟨hf.1, hf.2⟩) hS (fun q _ h => hFc q h) hFc (fun r u t H1 locs1 ht hvm hw hB hz1 hk1 hS1 => ?_)
  obtain ⟨hP1, hK1, hD1⟩ := hB
  rw [ht] at hP1
  exact kk r u H1 locs1 hw hP1 (hD1.weaken (fun k q _ h => hFc q.1 h)) hS1
theorem x_Vv {S : Type} {post : S → Prop} {wf : S → va_W} (F : CallFix p m c cc nL s args Ts own)
    (hM : Met l y wsy rm (va_Pc (.ref b :: As) (inW D tys ws H.size)) (va_Qv post (fun u => outW D tys (va_A ws H.size) (wf u)) (va_A ws H.size)) 0 0 (va_A ws H.size))
    (cw : CallW R s args own C index y bytes maxL ret wsy rm 0 0 n) (hK : va_K D vwCl tys s) (hP : va_P D vwCl ws H) (hD : va_D A0 ws) (hS : va_S A0 H0 H locs) (hA : ∀ q, H0.size ≤ q → A0 q)
    (q0 : Nat) (he : ws[q0]? = some (b, .inr (ci, fs))) (hc : vwCl[ci]? = some (C, T, N)) (hl : ls.size = nL) (hn : As.length = n) (hst : st0 = As.reverse ++ .ref b :: rest0) (hW : (rest0.map fun v => v.category).sum ≤ 8)
    (hf : cells ≤ R.cells ∧ slots ≤ R.slots) (hdg : decode cc pc = .ok (.invokevirtual index, 3))
    (kk : ∀ (u : S) (H1 : Heap) (locs1 : List Loc), post u → va_P D vwCl (wf u) H1 → va_D A0 (wf u) → va_S A0 H0 H1 locs1 → W p l e R s m args below meth c H1 locs1 cells slots Q (F0 m (pc + 3) ls rest0)) :
    W p l e R s m args below meth c H locs cells slots Q (F0 m pc ls st0) := by
  have hrv := va_recv hK hP hc he
  have hFc := xA hD hS hA
  refine va_callv (va_runV (As := As) (rest := rest0) F hM cw ⟨fun a U g mk q => ⟨q.1, inW_blind q.2⟩, hrv, fun U hU hW => ⟨rfl, by rw [hU], by rw [hU]; exact hP, va_K.moved hW.alike hK, hD.weaken (fun _ _ _ _ => trivial)⟩⟩ rfl hn hl hst (lv_room hW) hdg ⟨hf.1, hf.2⟩) hS (fun q _ h => hFc q h) hFc (fun u t H1 locs1 ht hvm hw hB hz1 hk1 hS1 => ?_)
  obtain ⟨hP1, hK1, hD1⟩ := hB
  rw [ht] at hP1
  exact kk u H1 locs1 hw hP1 (hD1.weaken (fun k q _ h => hFc q.1 h)) hS1
theorem x_Vq {S : Type} {post : Option Nat → S → Prop} {wf : S → va_W} (F : CallFix p m c cc nL s args Ts own)
    (hM : Met l y wsy rm (va_Pc (.ref b :: As) (inW D tys ws H.size)) (va_Qq post (fun u => outW D tys (va_A ws H.size) (wf u)) (va_A ws H.size)) 0 0 (va_A ws H.size))
    (cw : CallW R s args own C index y bytes maxL ret wsy rm 0 0 n) (hK : va_K D vwCl tys s) (hP : va_P D vwCl ws H) (hD : va_D A0 ws) (hS : va_S A0 H0 H locs) (hA : ∀ q, H0.size ≤ q → A0 q)
    (q0 : Nat) (he : ws[q0]? = some (b, .inr (ci, fs))) (hc : vwCl[ci]? = some (C, T, N)) (hl : ls.size = nL) (hn : As.length = n) (hst : st0 = As.reverse ++ .ref b :: rest0) (hW : (rest0.map fun v => v.category).sum ≤ 8)
    (hf : cells ≤ R.cells ∧ slots ≤ R.slots) (hdg : decode cc pc = .ok (.invokevirtual index, 3))
    (kk : ∀ (r : Option Nat) (u : S) (H1 : Heap) (locs1 : List Loc), post r u → va_P D vwCl (wf u) H1 → va_D A0 (wf u) → va_S A0 H0 H1 locs1 → W p l e R s m args below meth c H1 locs1 cells slots Q (F0 m (pc + 3) ls (va_rf r :: rest0))) :
    W p l e R s m args below meth c H locs cells slots Q (F0 m pc ls st0) := by
  have hrv := va_recv hK hP hc he
  have hFc := xA hD hS hA
  refine va_callq (va_runV (As := As) (rest := rest0) F hM cw ⟨fun a U g mk q => ⟨q.1, inW_blind q.2⟩, hrv, fun U hU hW => ⟨rfl, by rw [hU], by rw [hU]; exact hP, va_K.moved hW.alike hK, hD.weaken (fun _ _ _ _ => trivial)⟩⟩ rfl hn hl hst (lv_room hW) hdg ⟨hf.1, hf.2⟩) hS (fun q _ h => hFc q h) hFc (fun r u t H1 locs1 ht hvm hw hB hz1 hk1 hS1 => ?_)
  obtain ⟨hP1, hK1, hD1⟩ := hB
  rw [ht] at hP1
  exact kk r u H1 locs1 hw hP1 (hD1.weaken (fun k q _ h => hFc q.1 h)) hS1
theorem x_Si {S : Type} {post : Int32 → S → Prop} {wf : S → va_W} (F : CallFix p m c cc nL s args Ts own)
    (hM : Met l y wsy rm (va_Pc As (inW D tys ws H.size)) (va_Qi post (fun u => outW D tys (va_A ws H.size) (wf u)) (va_A ws H.size)) 0 0 (va_A ws H.size))
    (cw : CallB R s args own index y bytes maxL ret wsy rm 0 0 n ∧ (Cond.static y).before args s = true) (hK : va_K D vwCl tys s) (hP : va_P D vwCl ws H) (hD : va_D A0 ws) (hS : va_S A0 H0 H locs) (hA : ∀ q, H0.size ≤ q → A0 q)
    (hl : ls.size = nL) (hn : As.length = n) (hst : st0 = As.reverse ++ rest0) (hW : (rest0.map fun v => v.category).sum ≤ 8)
    (hf : cells ≤ R.cells ∧ slots ≤ R.slots) (hdg : decode cc pc = .ok (.invokestatic index, 3))
    (kk : ∀ (r : Int32) (u : S) (H1 : Heap) (locs1 : List Loc), post r u → va_P D vwCl (wf u) H1 → va_D A0 (wf u) → va_S A0 H0 H1 locs1 → W p l e R s m args below meth c H1 locs1 cells slots Q (F0 m (pc + 3) ls (.int r :: rest0))) :
    W p l e R s m args below meth c H locs cells slots Q (F0 m pc ls st0) := by
  have hFc := xA hD hS hA
  refine va_calli (va_runS (As := As) (rest := rest0) F hM cw ⟨fun a U g mk q => ⟨q.1, inW_blind q.2⟩, fun U hU hW => ⟨rfl, by rw [hU], by rw [hU]; exact hP, va_K.moved hW.alike hK, hD.weaken (fun _ _ _ _ => trivial)⟩⟩ rfl hn hl hst (lv_room hW) hdg ⟨hf.1, hf.2⟩) hS (fun q _ h => hFc q h) hFc (fun r u t H1 locs1 ht hvm hw hB hz1 hk1 hS1 => ?_)
  obtain ⟨hP1, hK1, hD1⟩ := hB
  rw [ht] at hP1
  exact kk r u H1 locs1 hw hP1 (hD1.weaken (fun k q _ h => hFc q.1 h)) hS1
-- ends
theorem x_vret {S : Type} {post : S → Prop} {wf : S → va_W} {A : Nat → Prop} (hx : p.tables.exec = Jvm.exec) (hb : c.code = cc) (hr : meth.sig.returnType = none) (hlocks : meth.locks = false) (hK : va_K D vwCl tys s) (u : S) (hP : va_P D vwCl (wf u) H) (hD : va_D A (wf u)) (hS : va_S A s.heap H locs) (hdg : decode cc pc = .ok (.return_, 1)) (hp : post u) :
    W p l e R s m args below meth c H locs cells slots (MQ below (va_Qv post (fun u => outW D tys A (wf u)) A) args s cells slots A) (F0 m pc ls []) :=
  W.vret hx hb hr (fun t ht hW => ⟨⟨u, rfl, hp, by rw [ht]; exact hP, va_K.moved hW.alike hK, hD⟩, hS.F ht⟩) hS.2.2 hdg hlocks
theorem x_iret {S : Type} {post : Int32 → S → Prop} {wf : S → va_W} {A : Nat → Prop} {v : Int32} (hx : p.tables.exec = Jvm.exec) (hb : c.code = cc) (hr : meth.sig.returnType = some .int) (hlocks : meth.locks = false) (hK : va_K D vwCl tys s) (u : S) (hP : va_P D vwCl (wf u) H) (hD : va_D A (wf u)) (hS : va_S A s.heap H locs) (hdg : decode cc pc = .ok (.ireturn, 1)) (hp : post v u) :
    W p l e R s m args below meth c H locs cells slots (MQ below (va_Qi post (fun u => outW D tys A (wf u)) A) args s cells slots A) (F0 m pc ls [.int v]) :=
  W.iret (v := v) hx hb hr (fun t ht hW => ⟨⟨v, u, rfl, hp, by rw [ht]; exact hP, va_K.moved hW.alike hK, hD⟩, hS.F ht⟩) hS.2.2 hdg hlocks
theorem x_lret {S : Type} {post : Int64 → S → Prop} {wf : S → va_W} {A : Nat → Prop} {v : Int64} (hx : p.tables.exec = Jvm.exec) (hb : c.code = cc) (hr : meth.sig.returnType = some .long) (hlocks : meth.locks = false) (hK : va_K D vwCl tys s) (u : S) (hP : va_P D vwCl (wf u) H) (hD : va_D A (wf u)) (hS : va_S A s.heap H locs) (hdg : decode cc pc = .ok (.lreturn, 1)) (hp : post v u) :
    W p l e R s m args below meth c H locs cells slots (MQ below (va_Ql post (fun u => outW D tys A (wf u)) A) args s cells slots A) (F0 m pc ls [.long v]) :=
  W.lret (v := v) hx hb hr (fun t ht hW => ⟨⟨v, u, rfl, hp, by rw [ht]; exact hP, va_K.moved hW.alike hK, hD⟩, hS.F ht⟩) hS.2.2 hdg hlocks
theorem x_zret {S : Type} {post : Int32 → S → Prop} {wf : S → va_W} {A : Nat → Prop} {v : Int32} (hx : p.tables.exec = Jvm.exec) (hb : c.code = cc) (hr : meth.sig.returnType = some .boolean) (hn : narrow .boolean (.int v) = .int v) (hlocks : meth.locks = false) (hK : va_K D vwCl tys s) (u : S) (hP : va_P D vwCl (wf u) H) (hD : va_D A (wf u)) (hS : va_S A s.heap H locs) (hdg : decode cc pc = .ok (.ireturn, 1)) (hp : post v u) :
    W p l e R s m args below meth c H locs cells slots (MQ below (va_Qi post (fun u => outW D tys A (wf u)) A) args s cells slots A) (F0 m pc ls [.int v]) :=
  W.zret (v := v) hx hb hr hn (fun t ht hW => ⟨⟨v, u, rfl, hp, by rw [ht]; exact hP, va_K.moved hW.alike hK, hD⟩, hS.F ht⟩) hS.2.2 hdg hlocks
theorem x_aret {S : Type} {post : Option Nat → S → Prop} {wf : S → va_W} {A : Nat → Prop} {K : String} {v : Value} (hx : p.tables.exec = Jvm.exec) (hb : c.code = cc) (hr : meth.sig.returnType = some (.object K)) (hlocks : meth.locks = false) (hK : va_K D vwCl tys s) (q : Option Nat) (hq : v = va_rf q) (u : S) (hP : va_P D vwCl (wf u) H) (hD : va_D A (wf u)) (hS : va_S A s.heap H locs) (hdg : decode cc pc = .ok (.areturn, 1)) (hp : post q u) :
    W p l e R s m args below meth c H locs cells slots (MQ below (va_Qq post (fun u => outW D tys A (wf u)) A) args s cells slots A) (F0 m pc ls [v]) := by
  subst hq
  exact W.aret (v := va_rf q) hx hb hr (Or.inl ⟨K, rfl⟩) (by cases q with | none => exact Or.inl rfl | some a => exact Or.inr ⟨a, rfl⟩) (fun t ht hW => ⟨⟨q, u, rfl, hp, by rw [ht]; exact hP, va_K.moved hW.alike hK, hD⟩, hS.F ht⟩) hS.2.2 hdg hlocks
-- loops and cuts
theorem W_meas {pc0 : Nat} {st1 : List Value} (I : Nat → Heap → List Loc → Array Slot → Prop) (n0 : Nat) (h0 : I n0 H locs ls)
    (step : ∀ n : Nat, (∀ n' : Nat, n' < n → ∀ (H : Heap) (locs : List Loc) (ls : Array Slot), I n' H locs ls → W p l e R s m args below meth c H locs cells slots Q (F0 m pc0 ls st1)) → ∀ (H : Heap) (locs : List Loc) (ls : Array Slot), I n H locs ls → W p l e R s m args below meth c H locs cells slots Q (F0 m pc0 ls st1)) :
    W p l e R s m args below meth c H locs cells slots Q (F0 m pc0 ls st1) := by
  have key : ∀ n : Nat, ∀ (H : Heap) (locs : List Loc) (ls : Array Slot), I n H locs ls → W p l e R s m args below meth c H locs cells slots Q (F0 m pc0 ls st1) := by
    intro n
    induction n using Nat.strongRecOn with
    | _ n ih => exact step n ih
  exact key n0 H locs ls h0
theorem W_cut {pc2 : Nat} {g : JFrame} (P : Int32 → Prop) (ls2 : Array Slot) (st2 : List Value) (h : ∀ b : Int32, P b → W p l e R s m args below meth c H locs cells slots Q (F0 m pc2 ls2 (.int b :: st2))) (k : (∀ b : Int32, P b → W p l e R s m args below meth c H locs cells slots Q (F0 m pc2 ls2 (.int b :: st2))) → W p l e R s m args below meth c H locs cells slots Q g) : W p l e R s m args below meth c H locs cells slots Q g := k h
/-- two roads that meet, with the same stack -/
theorem W_join {pc2 : Nat} {g : JFrame} {lv : List (Nat × Value)} {nL2 : Nat} {st2 : List Value} (h : ∀ ls : Array Slot, lv_has ls nL2 lv → W p l e R s m args below meth c H locs cells slots Q (F0 m pc2 ls st2)) (k : (∀ ls : Array Slot, lv_has ls nL2 lv → W p l e R s m args below meth c H locs cells slots Q (F0 m pc2 ls st2)) → W p l e R s m args below meth c H locs cells slots Q g) : W p l e R s m args below meth c H locs cells slots Q g := k h
end XCALL
section XPUT
variable {p : Program} {l : Launch} {e : Env} {R : Room} {s : State} {m : MethodId} {args : Array Value} {below : List Frame} {meth : Method} {c : Code} {H : Heap} {locs : List Loc} {cells slots : Nat} {Q : State → Prop}
variable {cc : ByteArray} {pc index : Nat} {ls : Array Slot} {st0 : List Value} {D : va_G} {tys : List (ClassId × FieldType)} {cA : Nat → ClassId} {ad : Nat → Nat} {τ : Sg} {rest : va_W} {A : Nat → Prop} {H0 : Heap} {Ts : List Cond} {own ref : String} {x : Int32}
theorem p_tk (hx : p.tables.exec = Jvm.exec) (hb : c.code = cc) (hts : ∀ w ∈ Ts, w.before args s = true) (hin : ∀ w ∈ u_ws RX7 TX7 17, w ∈ Ts) (hown : s.vm.findClass own = some m.cls) (hK : va_K D vwCl tys s) (hP : va_P D vwCl (wB cA ad τ ++ rest) H) (hD : va_D A (wB cA ad τ ++ rest)) (hS : va_S A H0 H locs) {i : Nat} (hi : i < 24) (j : Nat) (h1 : 2 ≤ j) (h2 : j < 17) (hlink : (Cond.fieldLink own index ref (TX7 j).2.1 (TX7 j).2.2.1).before args s = true) (hsame : ∀ x, s.fieldFound? (TX7 j).1 (TX7 j).2.1 (TX7 j).2.2.1 = some x → s.fieldFound? ref (TX7 j).2.1 (TX7 j).2.2.1 = some x) (hfin : (TX7 j).2.2.2 = false) (hn : narrow (tyX7 j) (.int x) = .int x) (hfit : fits (tyX7 j) (.int x) = true) (hdg : decode cc pc = .ok (.putfield index, 3))
    (kk : ∀ (τ1 : Sg) (H1 : Heap) (locs1 : List Loc), τ1 = up2 τ (i + 6) j x → va_P D vwCl (wB cA ad τ1 ++ rest) H1 → va_D A (wB cA ad τ1 ++ rest) → va_S A H0 H1 locs1 → W p l e R s m args below meth c H1 locs1 cells slots Q (F0 m (pc + 3) ls st0)) : W p l e R s m args below meth c H locs cells slots Q (F0 m pc ls (.int x :: .ref (ad (i + 6)) :: st0)) := by
  refine va_put (D := D) (C := RX7) (T := TX7) (N := 17) (ci := 7) hx hb hts hin tyX7 tyX7_ok nmX7 hown hK hP hD hS (i + 6) (w_tk hi) rfl j h2 hlink hsame hfin (tyX7_ok j h2) hn hfit (by show j < (tkF ad (τ (i + 6)) i).length; simp only [tkF, List.length]; omega) hdg (fun H1 locs1 hP hD hS => ?_)
  rw [u_tk hi h1 h2] at hP hD
  exact kk _ H1 locs1 rfl hP hD hS
theorem p_sc (hx : p.tables.exec = Jvm.exec) (hb : c.code = cc) (hts : ∀ w ∈ Ts, w.before args s = true) (hin : ∀ w ∈ u_ws RX5 TX5 14, w ∈ Ts) (hown : s.vm.findClass own = some m.cls) (hK : va_K D vwCl tys s) (hP : va_P D vwCl (wB cA ad τ ++ rest) H) (hD : va_D A (wB cA ad τ ++ rest)) (hS : va_S A H0 H locs) {i : Nat} (hi : i < 40) (j : Nat) (h1 : 1 ≤ j) (h2 : j < 14) (hlink : (Cond.fieldLink own index ref (TX5 j).2.1 (TX5 j).2.2.1).before args s = true) (hsame : ∀ x, s.fieldFound? (TX5 j).1 (TX5 j).2.1 (TX5 j).2.2.1 = some x → s.fieldFound? ref (TX5 j).2.1 (TX5 j).2.2.1 = some x) (hfin : (TX5 j).2.2.2 = false) (hn : narrow (tyX5 j) (.int x) = .int x) (hfit : fits (tyX5 j) (.int x) = true) (hdg : decode cc pc = .ok (.putfield index, 3))
    (kk : ∀ (τ1 : Sg) (H1 : Heap) (locs1 : List Loc), τ1 = up2 τ (i + 54) j x → va_P D vwCl (wB cA ad τ1 ++ rest) H1 → va_D A (wB cA ad τ1 ++ rest) → va_S A H0 H1 locs1 → W p l e R s m args below meth c H1 locs1 cells slots Q (F0 m (pc + 3) ls st0)) : W p l e R s m args below meth c H locs cells slots Q (F0 m pc ls (.int x :: .ref (ad (i + 54)) :: st0)) := by
  refine va_put (D := D) (C := RX5) (T := TX5) (N := 14) (ci := 5) hx hb hts hin tyX5 tyX5_ok nmX5 hown hK hP hD hS (i + 54) (w_sc hi) rfl j h2 hlink hsame hfin (tyX5_ok j h2) hn hfit (by show j < (scF (τ (i + 54)) i).length; simp only [scF, List.length]; omega) hdg (fun H1 locs1 hP hD hS => ?_)
  rw [u_sc hi h1 h2] at hP hD
  exact kk _ H1 locs1 rfl hP hD hS
theorem p_lk (hx : p.tables.exec = Jvm.exec) (hb : c.code = cc) (hts : ∀ w ∈ Ts, w.before args s = true) (hin : ∀ w ∈ u_ws RX2 TX2 3, w ∈ Ts) (hown : s.vm.findClass own = some m.cls) (hK : va_K D vwCl tys s) (hP : va_P D vwCl (wB cA ad τ ++ rest) H) (hD : va_D A (wB cA ad τ ++ rest)) (hS : va_S A H0 H locs) {i : Nat} (hi : i < 2) (j : Nat) (h1 : 1 ≤ j) (h2 : j < 3) (hlink : (Cond.fieldLink own index ref (TX2 j).2.1 (TX2 j).2.2.1).before args s = true) (hsame : ∀ x, s.fieldFound? (TX2 j).1 (TX2 j).2.1 (TX2 j).2.2.1 = some x → s.fieldFound? ref (TX2 j).2.1 (TX2 j).2.2.1 = some x) (hfin : (TX2 j).2.2.2 = false) (hn : narrow (tyX2 j) (.int x) = .int x) (hfit : fits (tyX2 j) (.int x) = true) (hdg : decode cc pc = .ok (.putfield index, 3))
    (kk : ∀ (τ1 : Sg) (H1 : Heap) (locs1 : List Loc), τ1 = up2 τ (i + 94) j x → va_P D vwCl (wB cA ad τ1 ++ rest) H1 → va_D A (wB cA ad τ1 ++ rest) → va_S A H0 H1 locs1 → W p l e R s m args below meth c H1 locs1 cells slots Q (F0 m (pc + 3) ls st0)) : W p l e R s m args below meth c H locs cells slots Q (F0 m pc ls (.int x :: .ref (ad (i + 94)) :: st0)) := by
  refine va_put (D := D) (C := RX2) (T := TX2) (N := 3) (ci := 2) hx hb hts hin tyX2 tyX2_ok nmX2 hown hK hP hD hS (i + 94) (w_lk hi) rfl j h2 hlink hsame hfin (tyX2_ok j h2) hn hfit (by show j < (lkF (τ (i + 94)) i).length; simp only [lkF, List.length]; omega) hdg (fun H1 locs1 hP hD hS => ?_)
  rw [u_lk hi h1 h2] at hP hD
  exact kk _ H1 locs1 rfl hP hD hS
theorem p_ch (hx : p.tables.exec = Jvm.exec) (hb : c.code = cc) (hts : ∀ w ∈ Ts, w.before args s = true) (hin : ∀ w ∈ u_ws RX1 TX1 5, w ∈ Ts) (hown : s.vm.findClass own = some m.cls) (hK : va_K D vwCl tys s) (hP : va_P D vwCl (wB cA ad τ ++ rest) H) (hD : va_D A (wB cA ad τ ++ rest)) (hS : va_S A H0 H locs) {i : Nat} (hi : i < 2) (j : Nat) (h1 : j ≠ 1) (h2 : j < 5) (hlink : (Cond.fieldLink own index ref (TX1 j).2.1 (TX1 j).2.2.1).before args s = true) (hsame : ∀ x, s.fieldFound? (TX1 j).1 (TX1 j).2.1 (TX1 j).2.2.1 = some x → s.fieldFound? ref (TX1 j).2.1 (TX1 j).2.2.1 = some x) (hfin : (TX1 j).2.2.2 = false) (hn : narrow (tyX1 j) (.int x) = .int x) (hfit : fits (tyX1 j) (.int x) = true) (hdg : decode cc pc = .ok (.putfield index, 3))
    (kk : ∀ (τ1 : Sg) (H1 : Heap) (locs1 : List Loc), τ1 = up2 τ (i + 96) j x → va_P D vwCl (wB cA ad τ1 ++ rest) H1 → va_D A (wB cA ad τ1 ++ rest) → va_S A H0 H1 locs1 → W p l e R s m args below meth c H1 locs1 cells slots Q (F0 m (pc + 3) ls st0)) : W p l e R s m args below meth c H locs cells slots Q (F0 m pc ls (.int x :: .ref (ad (i + 96)) :: st0)) := by
  refine va_put (D := D) (C := RX1) (T := TX1) (N := 5) (ci := 1) hx hb hts hin tyX1 tyX1_ok nmX1 hown hK hP hD hS (i + 96) (w_ch hi) rfl j h2 hlink hsame hfin (tyX1_ok j h2) hn hfit (by show j < (chF ad (τ (i + 96)) i).length; simp only [chF, List.length]; omega) hdg (fun H1 locs1 hP hD hS => ?_)
  rw [u_ch hi h1 h2] at hP hD
  exact kk _ H1 locs1 rfl hP hD hS
theorem p_st (hx : p.tables.exec = Jvm.exec) (hb : c.code = cc) (hts : ∀ w ∈ Ts, w.before args s = true) (hin : ∀ w ∈ u_ws RX6 TX6 12, w ∈ Ts) (hown : s.vm.findClass own = some m.cls) (hK : va_K D vwCl tys s) (hP : va_P D vwCl (wB cA ad τ ++ rest) H) (hD : va_D A (wB cA ad τ ++ rest)) (hS : va_S A H0 H locs) (j : Nat) (h1 : j = 1 ∨ j = 3 ∨ j = 7 ∨ j = 8 ∨ j = 9 ∨ j = 10 ∨ j = 11) (h2 : j < 12) (hlink : (Cond.fieldLink own index ref (TX6 j).2.1 (TX6 j).2.2.1).before args s = true) (hsame : ∀ x, s.fieldFound? (TX6 j).1 (TX6 j).2.1 (TX6 j).2.2.1 = some x → s.fieldFound? ref (TX6 j).2.1 (TX6 j).2.2.1 = some x) (hfin : (TX6 j).2.2.2 = false) (hn : narrow (tyX6 j) (.int x) = .int x) (hfit : fits (tyX6 j) (.int x) = true) (hdg : decode cc pc = .ok (.putfield index, 3))
    (kk : ∀ (τ1 : Sg) (H1 : Heap) (locs1 : List Loc), τ1 = up2 τ (0) j x → va_P D vwCl (wB cA ad τ1 ++ rest) H1 → va_D A (wB cA ad τ1 ++ rest) → va_S A H0 H1 locs1 → W p l e R s m args below meth c H1 locs1 cells slots Q (F0 m (pc + 3) ls st0)) : W p l e R s m args below meth c H locs cells slots Q (F0 m pc ls (.int x :: .ref (ad (0)) :: st0)) := by
  refine va_put (D := D) (C := RX6) (T := TX6) (N := 12) (ci := 6) hx hb hts hin tyX6 tyX6_ok nmX6 hown hK hP hD hS (0) (w_st) rfl j h2 hlink hsame hfin (tyX6_ok j h2) hn hfit (by show j < (stF ad (τ 0)).length; simp only [stF, List.length]; omega) hdg (fun H1 locs1 hP hD hS => ?_)
  rw [u_st h1] at hP hD
  exact kk _ H1 locs1 rfl hP hD hS
theorem p_ru (hx : p.tables.exec = Jvm.exec) (hb : c.code = cc) (hts : ∀ w ∈ Ts, w.before args s = true) (hin : ∀ w ∈ u_ws RX4 TX4 3, w ∈ Ts) (hown : s.vm.findClass own = some m.cls) (hK : va_K D vwCl tys s) (hP : va_P D vwCl (wB cA ad τ ++ rest) H) (hD : va_D A (wB cA ad τ ++ rest)) (hS : va_S A H0 H locs) (j : Nat) (h1 : j = 2) (h2 : j < 3) (hlink : (Cond.fieldLink own index ref (TX4 j).2.1 (TX4 j).2.2.1).before args s = true) (hsame : ∀ x, s.fieldFound? (TX4 j).1 (TX4 j).2.1 (TX4 j).2.2.1 = some x → s.fieldFound? ref (TX4 j).2.1 (TX4 j).2.2.1 = some x) (hfin : (TX4 j).2.2.2 = false) (hn : narrow (tyX4 j) (.int x) = .int x) (hfit : fits (tyX4 j) (.int x) = true) (hdg : decode cc pc = .ok (.putfield index, 3))
    (kk : ∀ (τ1 : Sg) (H1 : Heap) (locs1 : List Loc), τ1 = up2 τ (100) j x → va_P D vwCl (wB cA ad τ1 ++ rest) H1 → va_D A (wB cA ad τ1 ++ rest) → va_S A H0 H1 locs1 → W p l e R s m args below meth c H1 locs1 cells slots Q (F0 m (pc + 3) ls st0)) : W p l e R s m args below meth c H locs cells slots Q (F0 m pc ls (.int x :: .ref (ad (100)) :: st0)) := by
  refine va_put (D := D) (C := RX4) (T := TX4) (N := 3) (ci := 4) hx hb hts hin tyX4 tyX4_ok nmX4 hown hK hP hD hS (100) (w_ru) rfl j h2 hlink hsame hfin (tyX4_ok j h2) hn hfit (by show j < (ruF ad (τ 100)).length; simp only [ruF, List.length]; omega) hdg (fun H1 locs1 hP hD hS => ?_)
  rw [u_ru h1] at hP hD
  exact kk _ H1 locs1 rfl hP hD hS
theorem p_a5 {tr : List (ClassId × FieldType)} (hx : p.tables.exec = Jvm.exec) (hb : c.code = cc) (hK : va_K D vwCl (tyB cA ++ tr) s) (hP : va_P D vwCl (wB cA ad τ ++ rest) H) (hD : va_D A (wB cA ad τ ++ rest)) (hS : va_S A H0 H locs) {k : Int32} {j : Nat} (hj : k.toNatClampNeg = j) (hin : vp_in k 24) (hdg : decode cc pc = .ok (.iastore, 1))
    (kk : ∀ (τ1 : Sg) (H1 : Heap) (locs1 : List Loc), τ1 = up2 τ (5) j x → va_P D vwCl (wB cA ad τ1 ++ rest) H1 → va_D A (wB cA ad τ1 ++ rest) → va_S A H0 H1 locs1 → W p l e R s m args below meth c H1 locs1 cells slots Q (F0 m (pc + 1) ls st0)) : W p l e R s m args below meth c H locs cells slots Q (F0 m pc ls (.int x :: .int k :: .ref (ad (5)) :: st0)) := by
  subst hj
  refine va_iast hx hb hK hP hD hS (5) 0 w_a5 rfl hin hdg (fun H1 locs1 hP hD hS => ?_)
  rw [u_a5] at hP hD
  exact kk _ H1 locs1 rfl hP hD hS
theorem l_a5 {tr : List (ClassId × FieldType)} (hx : p.tables.exec = Jvm.exec) (hb : c.code = cc) (hK : va_K D vwCl (tyB cA ++ tr) s) (hP : va_P D vwCl (wB cA ad τ ++ rest) H) {k : Int32} {j : Nat} (hj : k.toNatClampNeg = j) (hin : vp_in k 24) (hdg : decode cc pc = .ok (.iaload, 1))
    (kk : W p l e R s m args below meth c H locs cells slots Q (F0 m (pc + 1) ls (.int (τ (5) j) :: st0))) : W p l e R s m args below meth c H locs cells slots Q (F0 m pc ls (.int k :: .ref (ad (5)) :: st0)) := by
  subst hj
  exact va_iald hx hb hK hP (5) 0 w_a5 rfl hin hdg kk
theorem p_lo {tr : List (ClassId × FieldType)} (hx : p.tables.exec = Jvm.exec) (hb : c.code = cc) (hK : va_K D vwCl (tyB cA ++ tr) s) (hP : va_P D vwCl (wB cA ad τ ++ rest) H) (hD : va_D A (wB cA ad τ ++ rest)) (hS : va_S A H0 H locs) {i : Nat} (hi : i < 24) {k : Int32} {j : Nat} (hj : k.toNatClampNeg = j) (hin : vp_in k 4) (hdg : decode cc pc = .ok (.iastore, 1))
    (kk : ∀ (τ1 : Sg) (H1 : Heap) (locs1 : List Loc), τ1 = up2 τ (i + 30) j x → va_P D vwCl (wB cA ad τ1 ++ rest) H1 → va_D A (wB cA ad τ1 ++ rest) → va_S A H0 H1 locs1 → W p l e R s m args below meth c H1 locs1 cells slots Q (F0 m (pc + 1) ls st0)) : W p l e R s m args below meth c H locs cells slots Q (F0 m pc ls (.int x :: .int k :: .ref (ad (i + 30)) :: st0)) := by
  subst hj
  refine va_iast hx hb hK hP hD hS (i + 30) 0 (w_lo hi) rfl hin hdg (fun H1 locs1 hP hD hS => ?_)
  rw [u_lo hi] at hP hD
  exact kk _ H1 locs1 rfl hP hD hS
theorem l_lo {tr : List (ClassId × FieldType)} (hx : p.tables.exec = Jvm.exec) (hb : c.code = cc) (hK : va_K D vwCl (tyB cA ++ tr) s) (hP : va_P D vwCl (wB cA ad τ ++ rest) H) {i : Nat} (hi : i < 24) {k : Int32} {j : Nat} (hj : k.toNatClampNeg = j) (hin : vp_in k 4) (hdg : decode cc pc = .ok (.iaload, 1))
    (kk : W p l e R s m args below meth c H locs cells slots Q (F0 m (pc + 1) ls (.int (τ (i + 30) j) :: st0))) : W p l e R s m args below meth c H locs cells slots Q (F0 m pc ls (.int k :: .ref (ad (i + 30)) :: st0)) := by
  subst hj
  exact va_iald hx hb hK hP (i + 30) 0 (w_lo hi) rfl hin hdg kk
theorem p_va {tr : List (ClassId × FieldType)} (hx : p.tables.exec = Jvm.exec) (hb : c.code = cc) (hK : va_K D vwCl (tyB cA ++ tr) s) (hP : va_P D vwCl (wB cA ad τ ++ rest) H) (hD : va_D A (wB cA ad τ ++ rest)) (hS : va_S A H0 H locs) {i : Nat} (hi : i < 2) {k : Int32} {j : Nat} (hj : k.toNatClampNeg = j) (hin : vp_in k 27) (hdg : decode cc pc = .ok (.iastore, 1))
    (kk : ∀ (τ1 : Sg) (H1 : Heap) (locs1 : List Loc), τ1 = up2 τ (i + 98) j x → va_P D vwCl (wB cA ad τ1 ++ rest) H1 → va_D A (wB cA ad τ1 ++ rest) → va_S A H0 H1 locs1 → W p l e R s m args below meth c H1 locs1 cells slots Q (F0 m (pc + 1) ls st0)) : W p l e R s m args below meth c H locs cells slots Q (F0 m pc ls (.int x :: .int k :: .ref (ad (i + 98)) :: st0)) := by
  subst hj
  refine va_iast hx hb hK hP hD hS (i + 98) 0 (w_va hi) rfl hin hdg (fun H1 locs1 hP hD hS => ?_)
  rw [u_va hi] at hP hD
  exact kk _ H1 locs1 rfl hP hD hS
theorem l_va {tr : List (ClassId × FieldType)} (hx : p.tables.exec = Jvm.exec) (hb : c.code = cc) (hK : va_K D vwCl (tyB cA ++ tr) s) (hP : va_P D vwCl (wB cA ad τ ++ rest) H) {i : Nat} (hi : i < 2) {k : Int32} {j : Nat} (hj : k.toNatClampNeg = j) (hin : vp_in k 27) (hdg : decode cc pc = .ok (.iaload, 1))
    (kk : W p l e R s m args below meth c H locs cells slots Q (F0 m (pc + 1) ls (.int (τ (i + 98) j) :: st0))) : W p l e R s m args below meth c H locs cells slots Q (F0 m pc ls (.int k :: .ref (ad (i + 98)) :: st0)) := by
  subst hj
  exact va_iald hx hb hK hP (i + 98) 0 (w_va hi) rfl hin hdg kk
theorem l_a1 {tr : List (ClassId × FieldType)} (hx : p.tables.exec = Jvm.exec) (hb : c.code = cc) (hK : va_K D vwCl (tyB cA ++ tr) s) (hP : va_P D vwCl (wB cA ad τ ++ rest) H) {k : Int32} {j : Nat} (hj : k.toNatClampNeg = j) (hin : vp_in k 24) (hdg : decode cc pc = .ok (.aaload, 1))
    (kk : W p l e R s m args below meth c H locs cells slots Q (F0 m (pc + 1) ls (.ref (ad (j + 6)) :: st0))) : W p l e R s m args below meth c H locs cells slots Q (F0 m pc ls (.int k :: .ref (ad 1) :: st0)) := by
  subst hj
  exact va_aldq hx hb hK hP 1 1 w_a1 rfl hin hdg kk
theorem l_a2 {tr : List (ClassId × FieldType)} (hx : p.tables.exec = Jvm.exec) (hb : c.code = cc) (hK : va_K D vwCl (tyB cA ++ tr) s) (hP : va_P D vwCl (wB cA ad τ ++ rest) H) {k : Int32} {j : Nat} (hj : k.toNatClampNeg = j) (hin : vp_in k 40) (hdg : decode cc pc = .ok (.aaload, 1))
    (kk : W p l e R s m args below meth c H locs cells slots Q (F0 m (pc + 1) ls (.ref (ad (j + 54)) :: st0))) : W p l e R s m args below meth c H locs cells slots Q (F0 m pc ls (.int k :: .ref (ad 2) :: st0)) := by
  subst hj
  exact va_aldq hx hb hK hP 2 2 w_a2 rfl hin hdg kk
theorem l_a3 {tr : List (ClassId × FieldType)} (hx : p.tables.exec = Jvm.exec) (hb : c.code = cc) (hK : va_K D vwCl (tyB cA ++ tr) s) (hP : va_P D vwCl (wB cA ad τ ++ rest) H) {k : Int32} {j : Nat} (hj : k.toNatClampNeg = j) (hin : vp_in k 2) (hdg : decode cc pc = .ok (.aaload, 1))
    (kk : W p l e R s m args below meth c H locs cells slots Q (F0 m (pc + 1) ls (.ref (ad (j + 94)) :: st0))) : W p l e R s m args below meth c H locs cells slots Q (F0 m pc ls (.int k :: .ref (ad 3) :: st0)) := by
  subst hj
  exact va_aldq hx hb hK hP 3 3 w_a3 rfl hin hdg kk
theorem l_a4 {tr : List (ClassId × FieldType)} (hx : p.tables.exec = Jvm.exec) (hb : c.code = cc) (hK : va_K D vwCl (tyB cA ++ tr) s) (hP : va_P D vwCl (wB cA ad τ ++ rest) H) {k : Int32} {j : Nat} (hj : k.toNatClampNeg = j) (hin : vp_in k 2) (hdg : decode cc pc = .ok (.aaload, 1))
    (kk : W p l e R s m args below meth c H locs cells slots Q (F0 m (pc + 1) ls (.ref (ad (j + 96)) :: st0))) : W p l e R s m args below meth c H locs cells slots Q (F0 m pc ls (.int k :: .ref (ad 4) :: st0)) := by
  subst hj
  exact va_aldq hx hb hK hP 4 4 w_a4 rfl hin hdg kk
end XPUT
theorem in_of {x : Int32} {N : Nat} (h0 : ¬ x < 0) (h1 : ¬ nI N ≤ x) (hN : N < 2 ^ 31) : vp_in x N := by
  intro h
  rcases h with h | h
  · exact h0 h
  · apply h1
    rw [Int32.le_iff_toInt_le, nI_toInt hN]
    have h2 : 0 ≤ x.toInt := by
      rw [Int32.lt_iff_toInt_lt, Int32.toInt_zero] at h0; omega
    have h3 : x.toNatClampNeg = x.toInt.toNat := rfl
    omega
theorem in_lt {x : Int32} {N : Nat} (h : vp_in x N) : x.toNatClampNeg < N := Nat.not_le.mp fun q => h (Or.inr q)
