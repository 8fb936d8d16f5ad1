/-! CONSTRUCTORS: worlds laid anew, cells that are made one behind another, calls of constructors -/
theorem va_P.mem {D : va_G} {cl : List vw_C} {ws ws' : va_W} {H : Heap} (h : va_P D cl ws H) (hm : ∀ x ∈ ws', x ∈ ws) : va_P D cl ws' H := fun k q hk => by
  obtain ⟨i, hi⟩ := List.getElem?_of_mem (hm q (List.mem_of_getElem? hk))
  exact h i q hi
theorem xd_nd {A : Nat → Prop} {ws : va_W} : va_D A ws ↔ (ws.map Prod.fst).Nodup ∧ ∀ x ∈ ws, A x.1 := by
  refine ⟨fun h => ⟨?_, fun x hx => ?_⟩, fun h => ⟨fun i j p q hi hj e => ?_, fun k q hk => h.2 q (List.mem_of_getElem? hk)⟩⟩
  · rw [List.Nodup, List.pairwise_iff_getElem]
    intro i j hi hj hij he
    rw [List.getElem_map, List.getElem_map] at he
    rw [List.length_map] at hi hj
    have := h.1 i j _ _ (List.getElem?_eq_getElem hi) (List.getElem?_eq_getElem hj) he
    omega
  · obtain ⟨i, hi⟩ := List.getElem?_of_mem hx
    exact h.2 i x hi
  · have h1 := h.1
    rw [List.Nodup, List.pairwise_iff_getElem] at h1
    obtain ⟨li, ei⟩ := List.getElem?_eq_some_iff.mp hi
    obtain ⟨lj, ej⟩ := List.getElem?_eq_some_iff.mp hj
    rcases Nat.lt_trichotomy i j with hlt | heq | hlt
    · exact absurd (by rw [List.getElem_map, List.getElem_map, ei, ej]; exact e) (h1 i j (by rw [List.length_map]; exact li) (by rw [List.length_map]; exact lj) hlt)
    · exact heq
    · exact absurd (by rw [List.getElem_map, List.getElem_map, ei, ej]; exact e.symm) (h1 j i (by rw [List.length_map]; exact lj) (by rw [List.length_map]; exact li) hlt)
theorem va_D.perm {A : Nat → Prop} {ws ws' : va_W} (h : va_D A ws) (hp : ws.Perm ws') : va_D A ws' := by
  have h := xd_nd.mp h
  exact xd_nd.mpr ⟨(hp.map Prod.fst).nodup_iff.mp h.1, fun x hx => h.2 x (hp.mem_iff.mpr hx)⟩
theorem va_P.perm {D : va_G} {cl : List vw_C} {ws ws' : va_W} {H : Heap} (h : va_P D cl ws H) (hp : ws.Perm ws') : va_P D cl ws' H := h.mem (fun _ hx => hp.mem_iff.mpr hx)
theorem va_D.fst {A : Nat → Prop} {ws ws' : va_W} (h : va_D A ws) (e : ws.map Prod.fst = ws'.map Prod.fst) : va_D A ws' := by
  have h := xd_nd.mp h
  refine xd_nd.mpr ⟨by rw [← e]; exact h.1, fun x hx => ?_⟩
  have : x.1 ∈ ws.map Prod.fst := by rw [e]; exact List.mem_map.mpr ⟨x, hx, rfl⟩
  obtain ⟨y, hy, e2⟩ := List.mem_map.mp this
  rw [← e2]; exact h.2 y hy
/-- the same cell: a row of references told by another function, that is the same within its length -/
def va_same (x y : va_E) : Prop := x = y ∨ ∃ (c : ClassId) (n : Nat) (f g : Nat → Option Nat), x = .inl (c, n, .inr (.inr (.inr (.inr f)))) ∧ y = .inl (c, n, .inr (.inr (.inr (.inr g)))) ∧ ∀ j, j < n → f j = g j
theorem xarr_congr {c : ClassId} {n : Nat} {f g : Nat → Value} (h : ∀ j, j < n → f j = g j) : arrV c n f = arrV c n g := by
  unfold arrV
  congr 1
  apply Array.ext
  · rw [Array.size_ofFn, Array.size_ofFn]
  · intro i h1 h2
    rw [Array.getElem_ofFn, Array.getElem_ofFn]
    exact h i (by rw [Array.size_ofFn] at h1; exact h1)
theorem va_same.at {D : va_G} {cl : List vw_C} {a : Nat} {x y : va_E} {H : Heap} (h : va_same x y) (hx : va_at D cl (a, x) H) : va_at D cl (a, y) H := by
  rcases h with rfl | ⟨c, n, f, g, rfl, rfl, hfg⟩
  · exact hx
  · show H[a]? = some (vp_cell c (n, .inr (.inr (.inr (.inr g)))))
    have hx : H[a]? = some (vp_cell c (n, .inr (.inr (.inr (.inr f))))) := hx
    rw [hx, vp_cell_q, vp_cell_q, xarr_congr (fun j hj => by rw [hfg j hj])]
theorem va_P.same {D : va_G} {cl : List vw_C} {ws ws' : va_W} {H : Heap} (h : va_P D cl ws H) (hs : ∀ (k : Nat) (y : Nat × va_E), ws'[k]? = some y → ∃ x : Nat × va_E, x ∈ ws ∧ x.1 = y.1 ∧ va_same x.2 y.2) : va_P D cl ws' H := fun k y hk => by
  obtain ⟨x, hx, e, hs⟩ := hs k y hk
  obtain ⟨i, hi⟩ := List.getElem?_of_mem hx
  have := hs.at (h i x hi)
  rw [e] at this
  exact this
/-- the cell k of a block, by other addresses that are the same below 100 -/
theorem obr_same {cA : Nat → ClassId} {ad bd : Nat → Nat} {r : Nat → Int32} (h : ∀ k, k < 100 → ad k = bd k) {k : Nat} (hk : k < 100) : va_same (obr cA ad r k) (obr cA bd r k) := by
  unfold obr
  by_cases c0 : k = 0
  · rw [if_pos c0, if_pos c0]; left; unfold stF; rw [h 1 (by decide), h 2 (by decide), h 3 (by decide), h 4 (by decide), h 5 (by decide)]
  rw [if_neg c0, if_neg c0]
  by_cases c1 : k = 1
  · rw [if_pos c1, if_pos c1]; exact Or.inr ⟨_, _, _, _, rfl, rfl, fun j hj => by rw [h _ (by omega)]⟩
  rw [if_neg c1, if_neg c1]
  by_cases c2 : k = 2
  · rw [if_pos c2, if_pos c2]; exact Or.inr ⟨_, _, _, _, rfl, rfl, fun j hj => by rw [h _ (by omega)]⟩
  rw [if_neg c2, if_neg c2]
  by_cases c3 : k = 3
  · rw [if_pos c3, if_pos c3]; exact Or.inr ⟨_, _, _, _, rfl, rfl, fun j hj => by rw [h _ (by omega)]⟩
  rw [if_neg c3, if_neg c3]
  by_cases c4 : k = 4
  · rw [if_pos c4, if_pos c4]; exact Or.inr ⟨_, _, _, _, rfl, rfl, fun j hj => by rw [h _ (by omega)]⟩
  rw [if_neg c4, if_neg c4]
  by_cases c5 : k = 5
  · rw [if_pos c5, if_pos c5]; exact Or.inl rfl
  rw [if_neg c5, if_neg c5]
  by_cases c6 : k < 30
  · rw [if_pos c6, if_pos c6]; left; unfold tkF; rw [h _ (by omega)]
  rw [if_neg c6, if_neg c6]
  by_cases c7 : k < 54
  · rw [if_pos c7, if_pos c7]; exact Or.inl rfl
  rw [if_neg c7, if_neg c7]
  by_cases c8 : k < 94
  · rw [if_pos c8, if_pos c8]; exact Or.inl rfl
  rw [if_neg c8, if_neg c8]
  by_cases c9 : k < 96
  · rw [if_pos c9, if_pos c9]; exact Or.inl rfl
  rw [if_neg c9, if_neg c9]
  by_cases c10 : k < 98
  · rw [if_pos c10, if_pos c10]; left; unfold chF; rw [h _ (by omega)]
  rw [if_neg c10, if_neg c10]
  rw [if_pos hk, if_pos hk]; exact Or.inl rfl
/-- cells that were made: i objects, each with the array behind it; a row that names them -/
def mkTwo (e : Nat → Nat → va_E) (w : va_E) (f : Nat → Option Nat) (T L : va_W) (i : Nat) : Prop := T.length = i ∧ L.length = i ∧ ∀ j, j < i → ∃ q u, T[j]? = some (q, e j u) ∧ L[j]? = some (u, w) ∧ f j = some q
def mkOne (e : Nat → va_E) (f : Nat → Option Nat) (T : va_W) (i : Nat) : Prop := T.length = i ∧ ∀ j, j < i → ∃ q, T[j]? = some (q, e j) ∧ f j = some q
theorem mkTwo.z {e : Nat → Nat → va_E} {w : va_E} {f : Nat → Option Nat} : mkTwo e w f [] [] 0 := ⟨rfl, rfl, fun j hj => absurd hj (Nat.not_lt_zero j)⟩
theorem mkOne.z {e : Nat → va_E} {f : Nat → Option Nat} : mkOne e f [] 0 := ⟨rfl, fun j hj => absurd hj (Nat.not_lt_zero j)⟩
theorem snoc_at {α : Type} {T : List α} {x : α} {i : Nat} (h : T.length = i) : (T ++ [x])[i]? = some x := by
  subst h; rw [List.getElem?_append_right (Nat.le_refl _), Nat.sub_self]; rfl
theorem snoc_lt {α : Type} {T : List α} {x y : α} {j : Nat} (h : T[j]? = some y) : (T ++ [x])[j]? = some y := by
  rw [List.getElem?_append_left (List.getElem?_eq_some_iff.mp h).1]; exact h
theorem up_at {f : Nat → Option Nat} {i : Nat} {v : Option Nat} : va_up f i v i = v := if_pos rfl
theorem up_ne {f : Nat → Option Nat} {i j : Nat} {v : Option Nat} (h : j ≠ i) : va_up f i v j = f j := if_neg h
theorem mkTwo.s {e : Nat → Nat → va_E} {w : va_E} {f : Nat → Option Nat} {T L : va_W} {i q u : Nat} (h : mkTwo e w f T L i) : mkTwo e w (va_up f i (some q)) (T ++ [(q, e i u)]) (L ++ [(u, w)]) (i + 1) := by
  obtain ⟨h1, h2, h3⟩ := h
  refine ⟨by rw [List.length_append, h1]; rfl, by rw [List.length_append, h2]; rfl, fun j hj => ?_⟩
  by_cases c : j = i
  · subst c; exact ⟨q, u, snoc_at h1, snoc_at h2, up_at⟩
  · obtain ⟨q0, u0, g1, g2, g3⟩ := h3 j (by omega)
    exact ⟨q0, u0, snoc_lt g1, snoc_lt g2, by rw [up_ne c]; exact g3⟩
theorem mkOne.s {e : Nat → va_E} {f : Nat → Option Nat} {T : va_W} {i q : Nat} (h : mkOne e f T i) : mkOne e (va_up f i (some q)) (T ++ [(q, e i)]) (i + 1) := by
  obtain ⟨h1, h3⟩ := h
  refine ⟨by rw [List.length_append, h1]; rfl, fun j hj => ?_⟩
  by_cases c : j = i
  · subst c; exact ⟨q, snoc_at h1, up_at⟩
  · obtain ⟨q0, g1, g3⟩ := h3 j (by omega)
    exact ⟨q0, snoc_lt g1, by rw [up_ne c]; exact g3⟩
/-- a new object and its array go each to its own -/
theorem two_perm {X T L : va_W} {x y : Nat × va_E} : (((X ++ (T ++ L)) ++ [x]) ++ [y]).Perm (X ++ ((T ++ [x]) ++ (L ++ [y]))) := by
  simp only [List.append_assoc]
  refine List.Perm.append_left _ (List.Perm.append_left _ ?_)
  show (L ++ (x :: [y])).Perm (x :: (L ++ [y]))
  exact List.perm_middle
theorem cA_any {D : va_G} {tys : List (ClassId × FieldType)} {s : State} {c1 c2 : ClassId} {t0 : Nat} {C : String} (h1 : va_K D vwCl (tys ++ [(c2, .object C)]) s) (h2 : tys[t0]? = some (c1, .object C)) : c2 = c1 := by
  obtain ⟨_, _, _, _, _, e1⟩ := (h1.2 t0 (c1, .object C) (by rw [List.getElem?_append_left (List.getElem?_eq_some_iff.mp h2).1]; exact h2)).2
  obtain ⟨_, _, _, _, _, e2⟩ := (h1.2 tys.length (c2, .object C) (by rw [List.getElem?_append_right (Nat.le_refl _)]; simp)).2
  exact Option.some.inj (e2.symm.trans e1)
theorem xv_at {V C : va_W} {k : Nat} {x : Nat × va_E} (h : C[k]? = some x) : (V ++ C)[V.length + k]? = some x := by
  rw [List.getElem?_append_right (by omega), Nat.add_sub_cancel_left]; exact h
theorem xv_set {V C : va_W} {k : Nat} {x : Nat × va_E} : (V ++ C).set (V.length + k) x = V ++ C.set k x := by
  rw [List.set_append_right _ _ (by omega), Nat.add_sub_cancel_left]
theorem xv_new {V : va_W} {x : Nat × va_E} : (V ++ [x])[V.length]? = some x := by
  rw [List.getElem?_append_right (Nat.le_refl _), Nat.sub_self]; rfl
theorem xv_put {V : va_W} {x y : Nat × va_E} : (V ++ [x]).set V.length y = V ++ [y] := by
  rw [List.set_append_right _ _ (Nat.le_refl _), Nat.sub_self]; rfl
theorem xv_old {V C : va_W} {k : Nat} {x : Nat × va_E} (h : V[k]? = some x) : (V ++ C)[k]? = some x := by
  rw [List.getElem?_append_left (List.getElem?_eq_some_iff.mp h).1]; exact h
section XINIT
variable {p : Program} {l : Launch} {e : Env} {R : Room} {s : State} {m : MethodId} {args : Array Value} {below : List Frame} {meth : Method} {c : Code} {H : Heap} {locs : List Loc} {cells slots : Nat} {Q : State → Prop}
variable {cc bytes : ByteArray} {pc nL maxL index n : Nat} {ls : Array Slot} {st0 rest0 As : List Value} {D : va_G} {tys : List (ClassId × FieldType)} {ws : va_W} {A0 : Nat → Prop} {H0 : Heap} {Ts wsy : List Cond} {own host C : String} {y : MethodName} {rm : Room} {mc ms : Nat} {b : Nat}
/-- a constructor's call -/
theorem x_Iv {S : Type} {post : S → Prop} {wf : S → va_W} (E : State → Prop) (hE1 : ∀ (U : State) (g : JFrame) (mk : MethodId) (a : Array Value), E U → E (U.calling g mk a)) (hE2 : ∀ U : State, U.heap = H → s.WarmedH U.vm → E U) (F : CallFix p m c cc nL s args Ts own)
    (hM : Met l y wsy rm (va_Pc (.ref b :: As) (fun U => inW D tys ws H.size U ∧ E U)) (va_Qv post (fun u => outW D tys (va_A ws H.size) (wf u)) (va_A ws H.size)) mc ms (va_A ws H.size))
    (cw : CallB R s args own index y bytes maxL none wsy rm mc ms n ∧ y.name = "<init>" ∧ (Cond.instanceMethod y).before args s = true) (hK : va_K D vwCl tys s) (hP : va_P D vwCl ws H) (hD : va_D A0 ws) (hS : va_S A0 H0 H locs) (hA : ∀ q, H0.size ≤ q → A0 q)
    (hl : ls.size = nL) (hn : As.length = n) (hst : st0 = As.reverse ++ .ref b :: rest0) (hW : (rest0.map fun v => v.category).sum ≤ 8)
    (hf : cells + mc ≤ R.cells ∧ slots + ms ≤ R.slots) (hdg : decode cc pc = .ok (.invokespecial index, 3))
    (kk : ∀ (u : S) (H1 : Heap) (locs1 : List Loc), post u → va_P D vwCl (wf u) H1 → va_D A0 (wf u) → va_S A0 H0 H1 locs1 → W p l e R s m args below meth c H1 locs1 (cells + mc) (slots + ms) Q (F0 m (pc + 3) ls rest0)) :
    W p l e R s m args below meth c H locs cells slots Q (F0 m pc ls st0) := by
  have hFc := xA hD hS hA
  refine va_callv (va_runI (As := As) (rest := rest0) F hM cw ⟨fun a U g mk q => ⟨q.1, inW_blind q.2.1, hE1 _ _ _ _ q.2.2⟩, fun U hU hW => ⟨rfl, ⟨by rw [hU], by rw [hU]; exact hP, va_K.moved hW.alike hK, hD.weaken (fun _ _ _ _ => trivial)⟩, hE2 U hU hW⟩⟩ rfl hn hl hst (lv_room hW) hdg ⟨hf.1, hf.2⟩) hS (fun q _ h => hFc q h) hFc (fun u t H1 locs1 ht hvm hw hB hz1 hk1 hS1 => ?_)
  obtain ⟨hP1, hK1, hD1⟩ := hB
  rw [ht] at hP1
  exact kk u H1 locs1 hw hP1 (hD1.weaken (fun k q _ h => hFc q.1 h)) hS1
/-- the same of a nest mate, private -/
theorem x_IvN {S : Type} {post : S → Prop} {wf : S → va_W} (E : State → Prop) (hE1 : ∀ (U : State) (g : JFrame) (mk : MethodId) (a : Array Value), E U → E (U.calling g mk a)) (hE2 : ∀ U : State, U.heap = H → s.WarmedH U.vm → E U) (F : CallFix p m c cc nL s args Ts own)
    (hM : Met l y wsy rm (va_Pc (.ref b :: As) (fun U => inW D tys ws H.size U ∧ E U)) (va_Qv post (fun u => outW D tys (va_A ws H.size) (wf u)) (va_A ws H.size)) mc ms (va_A ws H.size))
    (cw : va_CN R s args own index y host bytes maxL none wsy rm mc ms n ∧ y.name = "<init>" ∧ (Cond.instanceMethod y).before args s = true) (hK : va_K D vwCl tys s) (hP : va_P D vwCl ws H) (hD : va_D A0 ws) (hS : va_S A0 H0 H locs) (hA : ∀ q, H0.size ≤ q → A0 q)
    (hl : ls.size = nL) (hn : As.length = n) (hst : st0 = As.reverse ++ .ref b :: rest0) (hW : (rest0.map fun v => v.category).sum ≤ 8)
    (hf : cells + mc ≤ R.cells ∧ slots + ms ≤ R.slots) (hdg : decode cc pc = .ok (.invokespecial index, 3))
    (kk : ∀ (u : S) (H1 : Heap) (locs1 : List Loc), post u → va_P D vwCl (wf u) H1 → va_D A0 (wf u) → va_S A0 H0 H1 locs1 → W p l e R s m args below meth c H1 locs1 (cells + mc) (slots + ms) Q (F0 m (pc + 3) ls rest0)) :
    W p l e R s m args below meth c H locs cells slots Q (F0 m pc ls st0) := by
  have hFc := xA hD hS hA
  refine va_callv (va_runIN (As := As) (rest := rest0) F hM cw ⟨fun a U g mk q => ⟨q.1, inW_blind q.2.1, hE1 _ _ _ _ q.2.2⟩, fun U hU hW => ⟨rfl, ⟨by rw [hU], by rw [hU]; exact hP, va_K.moved hW.alike hK, hD.weaken (fun _ _ _ _ => trivial)⟩, hE2 U hU hW⟩⟩ rfl hn hl hst (lv_room hW) hdg ⟨hf.1, hf.2⟩) hS (fun q _ h => hFc q h) hFc (fun u t H1 locs1 ht hvm hw hB hz1 hk1 hS1 => ?_)
  obtain ⟨hP1, hK1, hD1⟩ := hB
  rw [ht] at hP1
  exact kk u H1 locs1 hw hP1 (hD1.weaken (fun k q _ h => hFc q.1 h)) hS1
/-- a contract that asks for the world alone -/
theorem Met.andT {av : List Value} {B : State → Prop} {Qc : Array Value → State → Outcome → State → Prop} {free : Addr → Prop} (h : Met l y wsy rm (va_Pc av B) Qc mc ms free) : Met l y wsy rm (va_Pc av (fun U => B U ∧ True)) Qc mc ms free := by
  have e : (fun U => B U ∧ True) = B := funext fun U => by simp
  rw [e]; exact h
/-- a loop that makes cells -/
theorem W_measC {pc0 : Nat} {st1 : List Value} (I : Nat → Heap → List Loc → Array Slot → Nat → Nat → Prop) (n0 : Nat) (h0 : I n0 H locs ls cells slots)
    (step : ∀ n : Nat, (∀ n' : Nat, n' < n → ∀ (H : Heap) (locs : List Loc) (ls : Array Slot) (cells slots : Nat), I n' H locs ls cells slots → W p l e R s m args below meth c H locs cells slots Q (F0 m pc0 ls st1)) → ∀ (H : Heap) (locs : List Loc) (ls : Array Slot) (cells slots : Nat), I n H locs ls cells slots → W p l e R s m args below meth c H locs cells slots Q (F0 m pc0 ls st1)) :
    W p l e R s m args below meth c H locs cells slots Q (F0 m pc0 ls st1) := by
  have key : ∀ n : Nat, ∀ (H : Heap) (locs : List Loc) (ls : Array Slot) (cells slots : Nat), I n H locs ls cells slots → W p l e R s m args below meth c H locs cells slots Q (F0 m pc0 ls st1) := by
    intro n
    induction n using Nat.strongRecOn with
    | _ n ih => exact step n ih
  exact key n0 H locs ls cells slots h0
end XINIT
