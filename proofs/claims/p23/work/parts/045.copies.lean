/-! TWO BLOCKS IN ONE WORLD: the order of a world's cells doesn't matter; a block as a copy of another -/
theorem va_P_mem {D : va_G} {cl : List vw_C} {ws : va_W} {H : Heap} : va_P D cl ws H ↔ ∀ q ∈ ws, va_at D cl q H := by
  constructor
  · intro h q hq
    obtain ⟨k, hk⟩ := List.getElem?_of_mem hq
    exact h k q hk
  · intro h k q hk
    exact h q (List.mem_of_getElem? hk)
theorem va_D_nd {A : Nat → Prop} {ws : va_W} : va_D A ws ↔ (ws.map Prod.fst).Nodup ∧ ∀ q ∈ ws, A q.1 := by
  constructor
  · intro h
    refine ⟨?_, fun q hq => ?_⟩
    · rw [List.Nodup, List.pairwise_iff_getElem]
      intro i j hi hj hij e
      rw [List.length_map] at hi hj
      rw [List.getElem_map, List.getElem_map] at e
      have := h.1 i j ws[i] ws[j] (List.getElem?_eq_getElem hi) (List.getElem?_eq_getElem hj) e
      omega
    · obtain ⟨k, hk⟩ := List.getElem?_of_mem hq
      exact h.2 k q hk
  · intro h
    refine ⟨fun i j p q hi hj e => ?_, fun k q hk => h.2 q (List.mem_of_getElem? hk)⟩
    obtain ⟨hi1, hi2⟩ := List.getElem?_eq_some_iff.mp hi
    obtain ⟨hj1, hj2⟩ := List.getElem?_eq_some_iff.mp hj
    have hn := h.1
    rw [List.Nodup, List.pairwise_iff_getElem] at hn
    rcases Nat.lt_trichotomy i j with l | l | l
    · exact absurd (by rw [List.getElem_map, List.getElem_map, hi2, hj2]; exact e) (hn i j (by rw [List.length_map]; exact hi1) (by rw [List.length_map]; exact hj1) l)
    · exact l
    · exact absurd (by rw [List.getElem_map, List.getElem_map, hi2, hj2]; exact e.symm) (hn j i (by rw [List.length_map]; exact hj1) (by rw [List.length_map]; exact hi1) l)
theorem va_P_perm {D : va_G} {cl : List vw_C} {ws ws' : va_W} {H : Heap} (h : ws.Perm ws') : va_P D cl ws H ↔ va_P D cl ws' H := by
  rw [va_P_mem, va_P_mem]
  exact ⟨fun a q hq => a q (h.mem_iff.mpr hq), fun a q hq => a q (h.mem_iff.mp hq)⟩
theorem va_D_perm {A : Nat → Prop} {ws ws' : va_W} (h : ws.Perm ws') : va_D A ws ↔ va_D A ws' := by
  rw [va_D_nd, va_D_nd, (h.map Prod.fst).nodup_iff]
  exact ⟨fun a => ⟨a.1, fun q hq => a.2 q (h.mem_iff.mpr hq)⟩, fun a => ⟨a.1, fun q hq => a.2 q (h.mem_iff.mp hq)⟩⟩
theorem va_A_mem {ws : va_W} {sz q : Nat} : va_A ws sz q ↔ (∃ e, (q, e) ∈ ws) ∨ sz ≤ q := by
  unfold va_A
  constructor
  · rintro (⟨k, e, h⟩ | h)
    · exact Or.inl ⟨e, List.mem_of_getElem? h⟩
    · exact Or.inr h
  · rintro (⟨e, h⟩ | h)
    · obtain ⟨k, hk⟩ := List.getElem?_of_mem h
      exact Or.inl ⟨k, e, hk⟩
    · exact Or.inr h
theorem va_A_perm {ws ws' : va_W} {sz : Nat} (h : ws.Perm ws') : va_A ws sz = va_A ws' sz := by
  funext q
  rw [eq_iff_iff, va_A_mem, va_A_mem]
  constructor
  · rintro (⟨e, a⟩ | a)
    · exact Or.inl ⟨e, h.mem_iff.mp a⟩
    · exact Or.inr a
  · rintro (⟨e, a⟩ | a)
    · exact Or.inl ⟨e, h.mem_iff.mpr a⟩
    · exact Or.inr a
theorem inW_perm {D tys sz} {ws ws' : va_W} (h : ws.Perm ws') : inW D tys ws sz = inW D tys ws' sz := by
  funext U
  unfold inW
  rw [va_P_perm h, va_D_perm h]
theorem outW_perm {D tys A} {ws ws' : va_W} (h : ws.Perm ws') : outW D tys A ws = outW D tys A ws' := by
  funext U
  unfold outW
  rw [va_P_perm h, va_D_perm h]
theorem met_pi {l y w rm av D tys sz} {S : Type} {post : Int32 → S → Prop} {wf wf' : S → va_W} {ws ws' : va_W} (hp : ws.Perm ws') (hf : ∀ u, (wf u).Perm (wf' u)) (h : Met l y w rm (va_Pc av (inW D tys ws sz)) (va_Qi post (fun u => outW D tys (va_A ws sz) (wf u)) (va_A ws sz)) 0 0 (va_A ws sz)) : Met l y w rm (va_Pc av (inW D tys ws' sz)) (va_Qi post (fun u => outW D tys (va_A ws' sz) (wf' u)) (va_A ws' sz)) 0 0 (va_A ws' sz) := by
  have e : (fun u => outW D tys (va_A ws' sz) (wf u)) = (fun u => outW D tys (va_A ws' sz) (wf' u)) := funext fun u => outW_perm (hf u)
  rw [inW_perm hp, va_A_perm hp, e] at h
  exact h
theorem met_pv {l y w rm av D tys sz} {S : Type} {post : S → Prop} {wf wf' : S → va_W} {ws ws' : va_W} (hp : ws.Perm ws') (hf : ∀ u, (wf u).Perm (wf' u)) (h : Met l y w rm (va_Pc av (inW D tys ws sz)) (va_Qv post (fun u => outW D tys (va_A ws sz) (wf u)) (va_A ws sz)) 0 0 (va_A ws sz)) : Met l y w rm (va_Pc av (inW D tys ws' sz)) (va_Qv post (fun u => outW D tys (va_A ws' sz) (wf' u)) (va_A ws' sz)) 0 0 (va_A ws' sz) := by
  have e : (fun u => outW D tys (va_A ws' sz) (wf u)) = (fun u => outW D tys (va_A ws' sz) (wf' u)) := funext fun u => outW_perm (hf u)
  rw [inW_perm hp, va_A_perm hp, e] at h
  exact h
theorem perm_sw {a b r : va_W} : (a ++ (b ++ r)).Perm (b ++ (a ++ r)) := by
  rw [← List.append_assoc, ← List.append_assoc]
  exact List.Perm.append_right r List.perm_append_comm
-- the second block's cells
theorem w2 {cA ad bd} {τ ρ : Sg} {rest : va_W} {k : Nat} {q : Nat × va_E} (h : (wB cA bd ρ ++ rest)[k]? = some q) : (wB cA ad τ ++ (wB cA bd ρ ++ rest))[k + 102]? = some q := by rw [wB_rest (rest := wB cA bd ρ ++ rest) k]; exact h
theorem w2_st {cA ad bd} {τ ρ : Sg} {rest : va_W} : (wB cA ad τ ++ (wB cA bd ρ ++ rest))[0 + 102]? = some (bd 0, .inr (6, stF bd (ρ 0))) := w2 w_st
theorem w2_a1 {cA ad bd} {τ ρ : Sg} {rest : va_W} : (wB cA ad τ ++ (wB cA bd ρ ++ rest))[1 + 102]? = some (bd 1, .inl (cA 1, 24, .inr (.inr (.inr (.inr (fun j => some (bd (j + 6)))))))) := w2 w_a1
theorem w2_a2 {cA ad bd} {τ ρ : Sg} {rest : va_W} : (wB cA ad τ ++ (wB cA bd ρ ++ rest))[2 + 102]? = some (bd 2, .inl (cA 2, 40, .inr (.inr (.inr (.inr (fun j => some (bd (j + 54)))))))) := w2 w_a2
theorem w2_a3 {cA ad bd} {τ ρ : Sg} {rest : va_W} : (wB cA ad τ ++ (wB cA bd ρ ++ rest))[3 + 102]? = some (bd 3, .inl (cA 3, 2, .inr (.inr (.inr (.inr (fun j => some (bd (j + 94)))))))) := w2 w_a3
theorem w2_a4 {cA ad bd} {τ ρ : Sg} {rest : va_W} : (wB cA ad τ ++ (wB cA bd ρ ++ rest))[4 + 102]? = some (bd 4, .inl (cA 4, 2, .inr (.inr (.inr (.inr (fun j => some (bd (j + 96)))))))) := w2 w_a4
theorem w2_a5 {cA ad bd} {τ ρ : Sg} {rest : va_W} : (wB cA ad τ ++ (wB cA bd ρ ++ rest))[5 + 102]? = some (bd 5, .inl (cA 0, 24, .inl (ρ 5))) := w2 w_a5
theorem w2_tk {cA ad bd} {τ ρ : Sg} {rest : va_W} {i : Nat} (hi : i < 24) : (wB cA ad τ ++ (wB cA bd ρ ++ rest))[i + 6 + 102]? = some (bd (i + 6), .inr (7, tkF bd (ρ (i + 6)) i)) := w2 (w_tk hi)
theorem w2_lo {cA ad bd} {τ ρ : Sg} {rest : va_W} {i : Nat} (hi : i < 24) : (wB cA ad τ ++ (wB cA bd ρ ++ rest))[i + 30 + 102]? = some (bd (i + 30), .inl (cA 0, 4, .inl (ρ (i + 30)))) := w2 (w_lo hi)
theorem w2_sc {cA ad bd} {τ ρ : Sg} {rest : va_W} {i : Nat} (hi : i < 40) : (wB cA ad τ ++ (wB cA bd ρ ++ rest))[i + 54 + 102]? = some (bd (i + 54), .inr (5, scF (ρ (i + 54)) i)) := w2 (w_sc hi)
theorem w2_lk {cA ad bd} {τ ρ : Sg} {rest : va_W} {i : Nat} (hi : i < 2) : (wB cA ad τ ++ (wB cA bd ρ ++ rest))[i + 94 + 102]? = some (bd (i + 94), .inr (2, lkF (ρ (i + 94)) i)) := w2 (w_lk hi)
theorem w2_ch {cA ad bd} {τ ρ : Sg} {rest : va_W} {i : Nat} (hi : i < 2) : (wB cA ad τ ++ (wB cA bd ρ ++ rest))[i + 96 + 102]? = some (bd (i + 96), .inr (1, chF bd (ρ (i + 96)) i)) := w2 (w_ch hi)
theorem w2_va {cA ad bd} {τ ρ : Sg} {rest : va_W} {i : Nat} (hi : i < 2) : (wB cA ad τ ++ (wB cA bd ρ ++ rest))[i + 98 + 102]? = some (bd (i + 98), .inl (cA 0, 27, .inl (ρ (i + 98)))) := w2 (w_va hi)
section XTWO
variable {p : Program} {l : Launch} {e : Env} {R : Room} {s : State} {m : MethodId} {args : Array Value} {below : List Frame} {meth : Method} {c : Code} {H : Heap} {locs : List Loc} {cells slots : Nat} {Q : State → Prop}
variable {cc : ByteArray} {pc : Nat} {ls : Array Slot} {st0 : List Value} {D : va_G} {cA : Nat → ClassId} {ad bd : Nat → Nat} {τ ρ : Sg} {rest : va_W} {tr : List (ClassId × FieldType)}
theorem l2_a1 (hx : p.tables.exec = Jvm.exec) (hb : c.code = cc) (hK : va_K D vwCl (tyB cA ++ tr) s) (hP : va_P D vwCl (wB cA ad τ ++ (wB cA bd ρ ++ rest)) H) {k : Int32} {j : Nat} (hj : k.toNatClampNeg = j) (hin : vp_in k 24) (hdg : decode cc pc = .ok (.aaload, 1))
    (kk : W p l e R s m args below meth c H locs cells slots Q (F0 m (pc + 1) ls (.ref (bd (j + 6)) :: st0))) : W p l e R s m args below meth c H locs cells slots Q (F0 m pc ls (.int k :: .ref (bd 1) :: st0)) := by
  subst hj
  exact va_aldq hx hb hK hP (1 + 102) 1 w2_a1 rfl hin hdg kk
theorem l2_a2 (hx : p.tables.exec = Jvm.exec) (hb : c.code = cc) (hK : va_K D vwCl (tyB cA ++ tr) s) (hP : va_P D vwCl (wB cA ad τ ++ (wB cA bd ρ ++ rest)) H) {k : Int32} {j : Nat} (hj : k.toNatClampNeg = j) (hin : vp_in k 40) (hdg : decode cc pc = .ok (.aaload, 1))
    (kk : W p l e R s m args below meth c H locs cells slots Q (F0 m (pc + 1) ls (.ref (bd (j + 54)) :: st0))) : W p l e R s m args below meth c H locs cells slots Q (F0 m pc ls (.int k :: .ref (bd 2) :: st0)) := by
  subst hj
  exact va_aldq hx hb hK hP (2 + 102) 2 w2_a2 rfl hin hdg kk
theorem l2_a3 (hx : p.tables.exec = Jvm.exec) (hb : c.code = cc) (hK : va_K D vwCl (tyB cA ++ tr) s) (hP : va_P D vwCl (wB cA ad τ ++ (wB cA bd ρ ++ rest)) H) {k : Int32} {j : Nat} (hj : k.toNatClampNeg = j) (hin : vp_in k 2) (hdg : decode cc pc = .ok (.aaload, 1))
    (kk : W p l e R s m args below meth c H locs cells slots Q (F0 m (pc + 1) ls (.ref (bd (j + 94)) :: st0))) : W p l e R s m args below meth c H locs cells slots Q (F0 m pc ls (.int k :: .ref (bd 3) :: st0)) := by
  subst hj
  exact va_aldq hx hb hK hP (3 + 102) 3 w2_a3 rfl hin hdg kk
theorem l2_a4 (hx : p.tables.exec = Jvm.exec) (hb : c.code = cc) (hK : va_K D vwCl (tyB cA ++ tr) s) (hP : va_P D vwCl (wB cA ad τ ++ (wB cA bd ρ ++ rest)) H) {k : Int32} {j : Nat} (hj : k.toNatClampNeg = j) (hin : vp_in k 2) (hdg : decode cc pc = .ok (.aaload, 1))
    (kk : W p l e R s m args below meth c H locs cells slots Q (F0 m (pc + 1) ls (.ref (bd (j + 96)) :: st0))) : W p l e R s m args below meth c H locs cells slots Q (F0 m pc ls (.int k :: .ref (bd 4) :: st0)) := by
  subst hj
  exact va_aldq hx hb hK hP (4 + 102) 4 w2_a4 rfl hin hdg kk
theorem l2_a5 (hx : p.tables.exec = Jvm.exec) (hb : c.code = cc) (hK : va_K D vwCl (tyB cA ++ tr) s) (hP : va_P D vwCl (wB cA ad τ ++ (wB cA bd ρ ++ rest)) H) {k : Int32} {j : Nat} (hj : k.toNatClampNeg = j) (hin : vp_in k 24) (hdg : decode cc pc = .ok (.iaload, 1))
    (kk : W p l e R s m args below meth c H locs cells slots Q (F0 m (pc + 1) ls (.int (ρ 5 j) :: st0))) : W p l e R s m args below meth c H locs cells slots Q (F0 m pc ls (.int k :: .ref (bd 5) :: st0)) := by
  subst hj
  exact va_iald hx hb hK hP (5 + 102) 0 w2_a5 rfl hin hdg kk
end XTWO
/-- a cell's own ints, those that it uses: the world is the same -/
theorem arrV_congr {c : ClassId} {n : Nat} {f g : Nat → Value} (h : ∀ j, j < n → f j = g j) : arrV c n f = arrV c n g := by
  unfold arrV
  have : (fun j : Fin n => f j.val) = (fun j : Fin n => g j.val) := funext fun j => h j.val j.isLt
  rw [this]
theorem va_at_arr {D : va_G} {cl : List vw_C} {a n : Nat} {c : ClassId} {f g : Nat → Int32} {H : Heap} (h : ∀ j, j < n → f j = g j) (hat : va_at D cl (a, .inl (c, n, .inl f)) H) : va_at D cl (a, .inl (c, n, .inl g)) H := by
  have e : arrV c n (fun j => .int (f j)) = arrV c n (fun j => .int (g j)) := arrV_congr (fun j hj => by rw [h j hj])
  show H[a]? = some (arrV c n (fun j => .int (g j)))
  rw [← e]
  exact hat
theorem wB_conv {D : va_G} {cA ad} {τ τ' : Sg} {R : va_W} {H : Heap} (h : ∀ k, k < 102 → va_at D vwCl (ad k, ob cA ad τ k) H → va_at D vwCl (ad k, ob cA ad τ' k) H) (hP : va_P D vwCl (wB cA ad τ ++ R) H) : va_P D vwCl (wB cA ad τ' ++ R) H := by
  intro k q hk
  by_cases h1 : k < 102
  · rw [wB_at h1] at hk
    cases hk
    exact h k h1 (hP k _ (wB_at h1))
  · obtain ⟨b, rfl⟩ : ∃ b, k = b + 102 := ⟨k - 102, by omega⟩
    rw [wB_rest] at hk
    exact hP (b + 102) q (by rw [wB_rest]; exact hk)
theorem wB_convD {A : Nat → Prop} {cA ad} {τ τ' : Sg} {R : va_W} (hD : va_D A (wB cA ad τ ++ R)) : va_D A (wB cA ad τ' ++ R) := by
  have key : ∀ (k : Nat) (q : Nat × va_E), (wB cA ad τ' ++ R)[k]? = some q → ∃ e, (wB cA ad τ ++ R)[k]? = some (q.1, e) := by
    intro k q hk
    by_cases h1 : k < 102
    · rw [wB_at h1] at hk
      cases hk
      exact ⟨_, wB_at h1⟩
    · obtain ⟨b, rfl⟩ : ∃ b, k = b + 102 := ⟨k - 102, by omega⟩
      rw [wB_rest] at hk
      exact ⟨q.2, by rw [wB_rest]; exact hk⟩
  refine ⟨fun i j p q hi hj e => ?_, fun k q hk => ?_⟩
  · obtain ⟨e1, h1⟩ := key i p hi
    obtain ⟨e2, h2⟩ := key j q hj
    exact hD.1 i j (p.1, e1) (q.1, e2) h1 h2 e
  · obtain ⟨e1, h1⟩ := key k q hk
    exact hD.2 k (q.1, e1) h1
/-- a whole cell taken over -/
def setC (τ : Sg) (k : Nat) (r : Nat → Int32) : Sg := fun a => if a = k then r else τ a
theorem setC_k {τ : Sg} {k : Nat} {r} : setC τ k r k = r := if_pos rfl
theorem setC_ne {τ : Sg} {k a : Nat} {r} (h : a ≠ k) : setC τ k r a = τ a := if_neg h
theorem cv_tk {D : va_G} {cA ad} {τ τ' : Sg} {R : va_W} {H : Heap} {i : Nat} {r q : Nat → Int32} (hi : i < 24) (h0 : ∀ a, a ≠ i + 6 → a ≠ i + 30 → τ' a = τ a) (h1 : ∀ j, 2 ≤ j → j < 17 → τ' (i + 6) j = r j) (h2 : ∀ j, j < 4 → τ' (i + 30) j = q j) (hP : va_P D vwCl (wB cA ad τ' ++ R) H) : va_P D vwCl (wB cA ad (setC (setC τ (i + 30) q) (i + 6) r) ++ R) H := by
  refine wB_conv (fun k hk hat => ?_) hP
  show va_at D vwCl (ad k, obr cA ad (setC (setC τ (i + 30) q) (i + 6) r k) k) H
  have hat : va_at D vwCl (ad k, obr cA ad (τ' k) k) H := hat
  by_cases e1 : k = i + 6
  · subst e1
    rw [setC_k, ob_tk hi]
    rw [ob_tk hi] at hat
    have e : tkF ad (τ' (i + 6)) i = tkF ad r i := by simp only [tkF, h1 _ (show 2 ≤ 2 by decide) (by decide), h1 3 (by decide) (by decide), h1 4 (by decide) (by decide), h1 5 (by decide) (by decide), h1 6 (by decide) (by decide), h1 7 (by decide) (by decide), h1 8 (by decide) (by decide), h1 9 (by decide) (by decide), h1 10 (by decide) (by decide), h1 11 (by decide) (by decide), h1 12 (by decide) (by decide), h1 13 (by decide) (by decide), h1 14 (by decide) (by decide), h1 15 (by decide) (by decide), h1 16 (by decide) (by decide)]
    rw [← e]; exact hat
  · rw [setC_ne e1]
    by_cases e2 : k = i + 30
    · subst e2
      rw [setC_k, ob_lo hi]
      rw [ob_lo hi] at hat
      exact va_at_arr h2 hat
    · rw [setC_ne e2, ← h0 k e1 e2]; exact hat
theorem cv_sc {D : va_G} {cA ad} {τ τ' : Sg} {R : va_W} {H : Heap} {i : Nat} {r : Nat → Int32} (hi : i < 40) (h0 : ∀ a, a ≠ i + 54 → τ' a = τ a) (h1 : ∀ j, 1 ≤ j → j < 14 → τ' (i + 54) j = r j) (hP : va_P D vwCl (wB cA ad τ' ++ R) H) : va_P D vwCl (wB cA ad (setC τ (i + 54) r) ++ R) H := by
  refine wB_conv (fun k hk hat => ?_) hP
  show va_at D vwCl (ad k, obr cA ad (setC τ (i + 54) r k) k) H
  have hat : va_at D vwCl (ad k, obr cA ad (τ' k) k) H := hat
  by_cases e1 : k = i + 54
  · subst e1
    rw [setC_k, ob_sc hi]
    rw [ob_sc hi] at hat
    have e : scF (τ' (i + 54)) i = scF r i := by simp only [scF, h1 1 (by decide) (by decide), h1 2 (by decide) (by decide), h1 3 (by decide) (by decide), h1 4 (by decide) (by decide), h1 5 (by decide) (by decide), h1 6 (by decide) (by decide), h1 7 (by decide) (by decide), h1 8 (by decide) (by decide), h1 9 (by decide) (by decide), h1 10 (by decide) (by decide), h1 11 (by decide) (by decide), h1 12 (by decide) (by decide), h1 13 (by decide) (by decide)]
    rw [← e]; exact hat
  · rw [setC_ne e1, ← h0 k e1]; exact hat
theorem cv_lk {D : va_G} {cA ad} {τ τ' : Sg} {R : va_W} {H : Heap} {i : Nat} {r : Nat → Int32} (hi : i < 2) (h0 : ∀ a, a ≠ i + 94 → τ' a = τ a) (h1 : ∀ j, 1 ≤ j → j < 3 → τ' (i + 94) j = r j) (hP : va_P D vwCl (wB cA ad τ' ++ R) H) : va_P D vwCl (wB cA ad (setC τ (i + 94) r) ++ R) H := by
  refine wB_conv (fun k hk hat => ?_) hP
  show va_at D vwCl (ad k, obr cA ad (setC τ (i + 94) r k) k) H
  have hat : va_at D vwCl (ad k, obr cA ad (τ' k) k) H := hat
  by_cases e1 : k = i + 94
  · subst e1
    rw [setC_k, ob_lk hi]
    rw [ob_lk hi] at hat
    have e : lkF (τ' (i + 94)) i = lkF r i := by simp only [lkF, h1 1 (by decide) (by decide), h1 2 (by decide) (by decide)]
    rw [← e]; exact hat
  · rw [setC_ne e1, ← h0 k e1]; exact hat
theorem cv_ch {D : va_G} {cA ad} {τ τ' : Sg} {R : va_W} {H : Heap} {i : Nat} {r q : Nat → Int32} (hi : i < 2) (h0 : ∀ a, a ≠ i + 96 → a ≠ i + 98 → τ' a = τ a) (h1 : ∀ j, j ≠ 1 → j < 5 → τ' (i + 96) j = r j) (h2 : ∀ j, j < 27 → τ' (i + 98) j = q j) (hP : va_P D vwCl (wB cA ad τ' ++ R) H) : va_P D vwCl (wB cA ad (setC (setC τ (i + 98) q) (i + 96) r) ++ R) H := by
  refine wB_conv (fun k hk hat => ?_) hP
  show va_at D vwCl (ad k, obr cA ad (setC (setC τ (i + 98) q) (i + 96) r k) k) H
  have hat : va_at D vwCl (ad k, obr cA ad (τ' k) k) H := hat
  by_cases e1 : k = i + 96
  · subst e1
    rw [setC_k, ob_ch hi]
    rw [ob_ch hi] at hat
    have e : chF ad (τ' (i + 96)) i = chF ad r i := by simp only [chF, h1 0 (by decide) (by decide), h1 2 (by decide) (by decide), h1 3 (by decide) (by decide), h1 4 (by decide) (by decide)]
    rw [← e]; exact hat
  · rw [setC_ne e1]
    by_cases e2 : k = i + 98
    · subst e2
      rw [setC_k, ob_va hi]
      rw [ob_va hi] at hat
      exact va_at_arr h2 hat
    · rw [setC_ne e2, ← h0 k e1 e2]; exact hat
theorem up2_ap (τ : Sg) (k j : Nat) (v : Int32) (a b : Nat) : up2 τ k j v a b = if a = k then (if b = j then v else τ a b) else τ a b := by
  by_cases h : a = k
  · subst h; rw [up2_k, if_pos rfl]; rfl
  · rw [up2_ne h, if_neg h]
theorem wB_setC {cA ad} {τ : Sg} {rest : va_W} {k : Nat} {r : Nat → Int32} {e : va_E} (hk : k < 102) (he : e = obr cA ad r k) : (wB cA ad τ ++ rest).set k (ad k, e) = wB cA ad (setC τ k r) ++ rest := by
  have h := wB_set (cA := cA) (ad := ad) (τ := τ) (τ' := setC τ k r) (rest := rest) (k := k) (fun a ha => setC_ne ha)
  rw [if_pos hk] at h
  rw [← h, he]
  show _ = List.set _ k (ad k, obr cA ad (setC τ k r k) k)
  rw [setC_k]
theorem mp0 (τ : Sg) (i : Nat) (v : Int32) : m_putLocal τ i 0 v = up2 τ (i + 30) 0 v := by unfold m_putLocal; rw [if_neg (by decide), if_neg (by decide)]; rfl
theorem mp1 (τ : Sg) (i : Nat) (v : Int32) : m_putLocal τ i 1 v = up2 τ (i + 30) 1 v := by unfold m_putLocal; rw [if_neg (by decide), if_neg (by decide)]; rfl
theorem mp2 (τ : Sg) (i : Nat) (v : Int32) : m_putLocal τ i 2 v = up2 τ (i + 30) 2 v := by unfold m_putLocal; rw [if_neg (by decide), if_neg (by decide)]; rfl
theorem mp3 (τ : Sg) (i : Nat) (v : Int32) : m_putLocal τ i 3 v = up2 τ (i + 30) 3 v := by unfold m_putLocal; rw [if_neg (by decide), if_neg (by decide)]; rfl
theorem ml0 (τ : Sg) (i : Nat) : m_localAt τ i 0 = τ (i + 30) 0 := by unfold m_localAt; rw [if_neg (by decide), if_neg (by decide)]; rfl
theorem ml1 (τ : Sg) (i : Nat) : m_localAt τ i 1 = τ (i + 30) 1 := by unfold m_localAt; rw [if_neg (by decide), if_neg (by decide)]; rfl
theorem ml2 (τ : Sg) (i : Nat) : m_localAt τ i 2 = τ (i + 30) 2 := by unfold m_localAt; rw [if_neg (by decide), if_neg (by decide)]; rfl
theorem ml3 (τ : Sg) (i : Nat) : m_localAt τ i 3 = τ (i + 30) 3 := by unfold m_localAt; rw [if_neg (by decide), if_neg (by decide)]; rfl
def m_c1 (τ ρ : Sg) (j : Nat) : Sg := fun a => if a = 5 then (fun q => if q < j then ρ 5 q else τ 5 q) else if 6 ≤ a ∧ a < 6 + j then ρ a else if 30 ≤ a ∧ a < 30 + j then ρ a else τ a
theorem m_c1_0 (τ ρ : Sg) : m_c1 τ ρ 0 = τ := by
  funext a
  unfold m_c1
  by_cases h : a = 5
  · subst h; funext q; simp
  · rw [if_neg h, if_neg (by omega), if_neg (by omega)]
theorem m_c1_s (τ ρ : Sg) (j : Nat) (hj : j < 24) : up2 (setC (setC (m_c1 τ ρ j) (j + 30) (ρ (j + 30))) (j + 6) (ρ (j + 6))) 5 j (ρ 5 j) = m_c1 τ ρ (j + 1) := by
  funext a
  by_cases h : a = 5
  · subst h
    funext q
    rw [up2_ap, if_pos rfl, setC_ne (by omega), setC_ne (by omega)]
    unfold m_c1
    rw [if_pos rfl, if_pos rfl]
    by_cases hq : q = j
    · subst hq; rw [if_pos rfl, if_pos (by omega)]
    · rw [if_neg hq]
      by_cases h2 : q < j
      · rw [if_pos h2, if_pos (by omega)]
      · rw [if_neg h2, if_neg (by omega)]
  · rw [up2_ne h]
    by_cases h1 : a = j + 6
    · subst h1; rw [setC_k]; unfold m_c1; rw [if_neg h, if_pos (by omega)]
    · rw [setC_ne h1]
      by_cases h2 : a = j + 30
      · subst h2; rw [setC_k]; unfold m_c1; rw [if_neg h, if_neg (by omega), if_pos (by omega)]
      · rw [setC_ne h2]
        unfold m_c1
        rw [if_neg h, if_neg h]
        by_cases h3 : 6 ≤ a ∧ a < 6 + j
        · rw [if_pos h3, if_pos (by omega)]
        · rw [if_neg h3, if_neg (show ¬ (6 ≤ a ∧ a < 6 + (j + 1)) by omega)]
          by_cases h4 : 30 ≤ a ∧ a < 30 + j
          · rw [if_pos h4, if_pos (by omega)]
          · rw [if_neg h4, if_neg (by omega)]
def m_c2 (τ ρ : Sg) (j : Nat) : Sg := fun a => if 54 ≤ a ∧ a < 54 + j then ρ a else τ a
theorem m_c2_0 (τ ρ : Sg) : m_c2 τ ρ 0 = τ := by
  funext a; unfold m_c2; rw [if_neg (by omega)]
theorem m_c2_s (τ ρ : Sg) (j : Nat) : setC (m_c2 τ ρ j) (j + 54) (ρ (j + 54)) = m_c2 τ ρ (j + 1) := by
  funext a
  by_cases h : a = j + 54
  · subst h; rw [setC_k]; unfold m_c2; rw [if_pos (by omega)]
  · rw [setC_ne h]
    unfold m_c2
    by_cases h3 : 54 ≤ a ∧ a < 54 + j
    · rw [if_pos h3, if_pos (by omega)]
    · rw [if_neg h3, if_neg (by omega)]
/-- the other block's ints, its own Runner -/
def m_copy (τ ρ : Sg) : Sg := fun a => if a < 100 then ρ a else τ a
theorem cv_all {D : va_G} {cA ad} {τ ρ τ' : Sg} {R : va_W} {H : Heap} (h1 : ∀ j, j = 1 ∨ j = 3 ∨ j = 7 ∨ j = 8 ∨ j = 9 ∨ j = 10 ∨ j = 11 → τ' 0 j = ρ 0 j) (h2 : ∀ j, j < 24 → τ' 5 j = ρ 5 j) (h3 : ∀ a, 6 ≤ a → a < 100 → τ' a = ρ a) (h4 : ∀ a, 100 ≤ a → τ' a = τ a) (hP : va_P D vwCl (wB cA ad τ' ++ R) H) : va_P D vwCl (wB cA ad (m_copy τ ρ) ++ R) H := by
  refine wB_conv (fun k hk hat => ?_) hP
  show va_at D vwCl (ad k, obr cA ad (m_copy τ ρ k) k) H
  have hat : va_at D vwCl (ad k, obr cA ad (τ' k) k) H := hat
  by_cases e1 : 100 ≤ k
  · rw [show m_copy τ ρ k = τ k from if_neg (by omega), ← h4 k e1]; exact hat
  · rw [show m_copy τ ρ k = ρ k from if_pos (by omega)]
    by_cases e2 : 6 ≤ k
    · rw [← h3 k e2 (by omega)]; exact hat
    · have e3 : k = 0 ∨ k = 1 ∨ k = 2 ∨ k = 3 ∨ k = 4 ∨ k = 5 := by omega
      rcases e3 with rfl | rfl | rfl | rfl | rfl | rfl
      · have e : stF ad (τ' 0) = stF ad (ρ 0) := by simp only [stF, h1 1 (by decide), h1 3 (by decide), h1 7 (by decide), h1 8 (by decide), h1 9 (by decide), h1 10 (by decide), h1 11 (by decide)]
        have hat : va_at D vwCl (ad 0, .inr (6, stF ad (τ' 0))) H := hat
        rw [e] at hat; exact hat
      · exact hat
      · exact hat
      · exact hat
      · exact hat
      · exact va_at_arr (f := τ' 5) (g := ρ 5) h2 hat
/-- a block's flags are 0 or 1 -/
def m_flags (τ : Sg) : Prop := (∀ i, i < 24 → (τ (i + 6) 11 = 0 ∨ τ (i + 6) 11 = 1) ∧ (τ (i + 6) 14 = 0 ∨ τ (i + 6) 14 = 1)) ∧ (∀ i, i < 40 → (τ (i + 54) 5 = 0 ∨ τ (i + 54) 5 = 1) ∧ (τ (i + 54) 6 = 0 ∨ τ (i + 54) 6 = 1)) ∧ (∀ i, i < 2 → τ (i + 96) 3 = 0 ∨ τ (i + 96) 3 = 1)
theorem c_X7_localAt_2 (l : Launch) (D : va_G) (cA : Nat → ClassId) (ad : Nat → Nat) (tr : List (ClassId × FieldType)) (rest : va_W) (sz : Nat) (τ : Sg) (bd : Nat → Nat) (ρ : Sg) (i : Nat) (hi : i < 24) (x : Int32) : Met l yX7_localAt wsX7_localAt ({ frames := 0, cells := 0, slots := 0, locals := 0 }) (va_Pc [.ref (bd (i + 6)), .int x] (inW D (tyB cA ++ tr) (wB cA ad τ ++ (wB cA bd ρ ++ rest)) sz)) (va_Qi (fun (r : Int32) (_ : Unit) => r = m_localAt ρ i x) (fun _ : Unit => outW D (tyB cA ++ tr) (va_A (wB cA ad τ ++ (wB cA bd ρ ++ rest)) sz) (wB cA ad τ ++ (wB cA bd ρ ++ rest))) (va_A (wB cA ad τ ++ (wB cA bd ρ ++ rest)) sz)) 0 0 (va_A (wB cA ad τ ++ (wB cA bd ρ ++ rest)) sz) :=
  met_pi (wf := fun _ : Unit => wB cA bd ρ ++ (wB cA ad τ ++ rest)) perm_sw (fun _ => perm_sw) (c_X7_localAt l D cA bd tr (wB cA ad τ ++ rest) sz ρ i hi x)

set_option maxHeartbeats 4000000 in
set_option maxRecDepth 100000 in
theorem c_X7_copyFrom (l : Launch) (D : va_G) (cA : Nat → ClassId) (ad : Nat → Nat) (tr : List (ClassId × FieldType)) (rest : va_W) (sz : Nat) (τ : Sg) (bd : Nat → Nat) (ρ : Sg) (i : Nat) (hi : i < 24) (h11 : ρ (i + 6) 11 = 0 ∨ ρ (i + 6) 11 = 1) (h14 : ρ (i + 6) 14 = 0 ∨ ρ (i + 6) 14 = 1) : Met l yX7_copyFrom wsX7_copyFrom ({ frames := 1, cells := 0, slots := 0, locals := 22 }) (va_Pc [.ref (ad (i + 6)), .ref (bd (i + 6))] (inW D (tyB cA ++ tr) (wB cA ad τ ++ (wB cA bd ρ ++ rest)) sz)) (va_Qv (fun u : Sg => u = setC (setC τ (i + 30) (ρ (i + 30))) (i + 6) (ρ (i + 6))) (fun u : Sg => outW D (tyB cA ++ tr) (va_A (wB cA ad τ ++ (wB cA bd ρ ++ rest)) sz) (wB cA ad u ++ (wB cA bd ρ ++ rest))) (va_A (wB cA ad τ ++ (wB cA bd ρ ++ rest)) sz)) 0 0 (va_A (wB cA ad τ ++ (wB cA bd ρ ++ rest)) sz) := by
  refine Met.ofW (cc := cX7_copyFrom) (maxL := 3) (ret := none) (by decide) rfl ?_
  intro p e s m args below meth c s₁ B hml hv
  obtain ⟨rfl, hsz, hP, hK, hD0⟩ := hv
  have hx := B.exec
  have hb := B.bytes
  have hr := B.returns
  have hts := atoms_spec (ws := wsX7_copyFrom) B.pre
  have hown : s.vm.findClass RX7 = some m.cls := findClass_of_methodNamed B.named
  have hlocks := B.notSynchronized
  subst hsz
  have hD := hD0.self (sz := s.heap.size)
  clear hD0
  generalize hAe : va_A (wB cA ad τ ++ (wB cA bd ρ ++ rest)) s.heap.size = A at hD ⊢
  have hA : ∀ q : Nat, s.heap.size ≤ q → A q := fun q h => by rw [← hAe]; exact Or.inr h
  clear hAe
  have hS : va_S A s.heap s.heap [] := va_S.rf
  have hP : va_P D vwCl (wB cA ad τ ++ (wB cA bd ρ ++ rest)) s.heap := hP
  have hl := lv_entry ([.ref (ad (i + 6)), .ref (bd (i + 6))]) (n := 3) (Nat.le_of_ble_eq_true rfl)
  rw [lg_entry_eq]
  generalize (lg_sl ([.ref (ad (i + 6)), .ref (bd (i + 6))]) ++ List.replicate (3 - (lg_sl ([.ref (ad (i + 6)), .ref (bd (i + 6))])).length) Slot.unset).toArray = ls at hl ⊢
  have hl : lv_has ls 3 [(0, .ref (ad (i + 6))), (1, .ref (bd (i + 6)))] := hl
  have nX7 : ∀ w ∈ u_ws RX7 TX7 17, w ∈ wsX7_copyFrom := by decide +kernel
  have k39 := hts (.fieldLink RX7 39 "ScopeRow$Task" "body" "I") (by decide +kernel)
  have k15 := hts (.fieldLink RX7 15 "ScopeRow$Task" "state" "I") (by decide +kernel)
  have k42 := hts (.fieldLink RX7 42 "ScopeRow$Task" "line" "I") (by decide +kernel)
  have k45 := hts (.fieldLink RX7 45 "ScopeRow$Task" "there" "I") (by decide +kernel)
  have k19 := hts (.fieldLink RX7 19 "ScopeRow$Task" "in" "I") (by decide +kernel)
  have k22 := hts (.fieldLink RX7 22 "ScopeRow$Task" "top" "I") (by decide +kernel)
  have k48 := hts (.fieldLink RX7 48 "ScopeRow$Task" "depth" "I") (by decide +kernel)
  have k28 := hts (.fieldLink RX7 28 "ScopeRow$Task" "behind" "I") (by decide +kernel)
  have k51 := hts (.fieldLink RX7 51 "ScopeRow$Task" "target" "I") (by decide +kernel)
  have k54 := hts (.fieldLink RX7 54 "ScopeRow$Task" "picks" "Z") (by decide +kernel)
  have k58 := hts (.fieldLink RX7 58 "ScopeRow$Task" "until" "I") (by decide +kernel)
  have k61 := hts (.fieldLink RX7 61 "ScopeRow$Task" "value" "I") (by decide +kernel)
  have k64 := hts (.fieldLink RX7 64 "ScopeRow$Task" "given" "Z") (by decide +kernel)
  have k67 := hts (.fieldLink RX7 67 "ScopeRow$Task" "fault" "I") (by decide +kernel)
  have k70 := hts (.fieldLink RX7 70 "ScopeRow$Task" "since" "I") (by decide +kernel)
  refine lv_iconst (v := 0) hx hb dX7_copyFrom_0 (by decide) ?_
  refine lv_istore_n (lv' := [(2, .int 0), (0, .ref (ad (i + 6))), (1, .ref (bd (i + 6)))]) hx hb dX7_copyFrom_1 rfl hl (by decide) rfl (fun ls hl => ?_)
  refine lv_iload_n hx hb dX7_copyFrom_2 rfl (lv_at hl 0 rfl) ?_
  refine lv_iconst (v := 4) hx hb dX7_copyFrom_3 (by decide) ?_
  refine lv_icmp_ge (tgt := 23) hx hb dX7_copyFrom_4 (by decide) (fun c_4_1 => ?_) (fun c_4_1 => ?_)
  -- 4 jumps
  · exact absurd c_4_1 (by decide)
  -- 4 goes on
  · skip
    refine lv_aload_n hx hb dX7_copyFrom_7 rfl (lv_at hl 1 rfl) ?_
    refine lv_iload_n hx hb dX7_copyFrom_8 rfl (lv_at hl 0 rfl) ?_
    refine lv_aload_n hx hb dX7_copyFrom_9 rfl (lv_at hl 2 rfl) ?_
    refine lv_iload_n hx hb dX7_copyFrom_10 rfl (lv_at hl 0 rfl) ?_
    refine x_Vi (As := [.int 0]) (rest0 := [.int 0, .ref (ad (i + 6))]) ⟨hx, hb, hml, hown, hts⟩ (c_X7_localAt_2 l D cA ad tr rest s.heap.size τ bd ρ i hi 0) (cwV 1 hts gX7_copyFrom_X7_localAt rfl rfl rfl (by decide +kernel) ⟨Nat.le_of_ble_eq_true rfl, Nat.le_of_ble_eq_true rfl⟩) hK hP hD hS hA ((i + 6) + 102) (w2_tk hi) rfl hl.1 rfl rfl (Nat.le_of_ble_eq_true rfl) ⟨Nat.zero_le _, Nat.zero_le _⟩ dX7_copyFrom_11 (fun r2 _ H locs hw hP hD hS => ?_)
    have er2 := hw
    refine x_Vv (As := [.int 0, .int r2]) (rest0 := []) ⟨hx, hb, hml, hown, hts⟩ (c_X7_putLocal l D cA ad tr (wB cA bd ρ ++ rest) H.size τ i hi 0 r2) (cwV 2 hts gX7_copyFrom_X7_putLocal rfl rfl rfl (by decide +kernel) ⟨Nat.le_of_ble_eq_true rfl, Nat.le_of_ble_eq_true rfl⟩) hK hP hD hS hA (i + 6) (w_tk hi) rfl hl.1 rfl rfl (Nat.le_of_ble_eq_true rfl) ⟨Nat.zero_le _, Nat.zero_le _⟩ dX7_copyFrom_14 (fun τ3 H locs hw hP hD hS => ?_)
    have eτ3 := hw
    refine lv_iinc (v := 1) (lv' := [(2, .int 1), (0, .ref (ad (i + 6))), (1, .ref (bd (i + 6)))]) hx hb dX7_copyFrom_17 hl (k := 0) rfl (by decide) (by decide) rfl (fun ls hl => ?_)
    refine lv_goto (tgt := 2) hx hb dX7_copyFrom_20 (by decide) ?_
    refine lv_iload_n hx hb dX7_copyFrom_2 rfl (lv_at hl 0 rfl) ?_
    refine lv_iconst (v := 4) hx hb dX7_copyFrom_3 (by decide) ?_
    refine lv_icmp_ge (tgt := 23) hx hb dX7_copyFrom_4 (by decide) (fun c_4_4 => ?_) (fun c_4_4 => ?_)
    -- 4 jumps
    · exact absurd c_4_4 (by decide)
    -- 4 goes on
    · skip
      refine lv_aload_n hx hb dX7_copyFrom_7 rfl (lv_at hl 1 rfl) ?_
      refine lv_iload_n hx hb dX7_copyFrom_8 rfl (lv_at hl 0 rfl) ?_
      refine lv_aload_n hx hb dX7_copyFrom_9 rfl (lv_at hl 2 rfl) ?_
      refine lv_iload_n hx hb dX7_copyFrom_10 rfl (lv_at hl 0 rfl) ?_
      refine x_Vi (As := [.int 1]) (rest0 := [.int 1, .ref (ad (i + 6))]) ⟨hx, hb, hml, hown, hts⟩ (c_X7_localAt_2 l D cA ad tr rest H.size τ3 bd ρ i hi 1) (cwV 1 hts gX7_copyFrom_X7_localAt rfl rfl rfl (by decide +kernel) ⟨Nat.le_of_ble_eq_true rfl, Nat.le_of_ble_eq_true rfl⟩) hK hP hD hS hA ((i + 6) + 102) (w2_tk hi) rfl hl.1 rfl rfl (Nat.le_of_ble_eq_true rfl) ⟨Nat.zero_le _, Nat.zero_le _⟩ dX7_copyFrom_11 (fun r5 _ H locs hw hP hD hS => ?_)
      have er5 := hw
      refine x_Vv (As := [.int 1, .int r5]) (rest0 := []) ⟨hx, hb, hml, hown, hts⟩ (c_X7_putLocal l D cA ad tr (wB cA bd ρ ++ rest) H.size τ3 i hi 1 r5) (cwV 2 hts gX7_copyFrom_X7_putLocal rfl rfl rfl (by decide +kernel) ⟨Nat.le_of_ble_eq_true rfl, Nat.le_of_ble_eq_true rfl⟩) hK hP hD hS hA (i + 6) (w_tk hi) rfl hl.1 rfl rfl (Nat.le_of_ble_eq_true rfl) ⟨Nat.zero_le _, Nat.zero_le _⟩ dX7_copyFrom_14 (fun τ6 H locs hw hP hD hS => ?_)
      have eτ6 := hw
      refine lv_iinc (v := 2) (lv' := [(2, .int 2), (0, .ref (ad (i + 6))), (1, .ref (bd (i + 6)))]) hx hb dX7_copyFrom_17 hl (k := 0) rfl (by decide) (by decide) rfl (fun ls hl => ?_)
      refine lv_goto (tgt := 2) hx hb dX7_copyFrom_20 (by decide) ?_
      refine lv_iload_n hx hb dX7_copyFrom_2 rfl (lv_at hl 0 rfl) ?_
      refine lv_iconst (v := 4) hx hb dX7_copyFrom_3 (by decide) ?_
      refine lv_icmp_ge (tgt := 23) hx hb dX7_copyFrom_4 (by decide) (fun c_4_7 => ?_) (fun c_4_7 => ?_)
      -- 4 jumps
      · exact absurd c_4_7 (by decide)
      -- 4 goes on
      · skip
        refine lv_aload_n hx hb dX7_copyFrom_7 rfl (lv_at hl 1 rfl) ?_
        refine lv_iload_n hx hb dX7_copyFrom_8 rfl (lv_at hl 0 rfl) ?_
        refine lv_aload_n hx hb dX7_copyFrom_9 rfl (lv_at hl 2 rfl) ?_
        refine lv_iload_n hx hb dX7_copyFrom_10 rfl (lv_at hl 0 rfl) ?_
        refine x_Vi (As := [.int 2]) (rest0 := [.int 2, .ref (ad (i + 6))]) ⟨hx, hb, hml, hown, hts⟩ (c_X7_localAt_2 l D cA ad tr rest H.size τ6 bd ρ i hi 2) (cwV 1 hts gX7_copyFrom_X7_localAt rfl rfl rfl (by decide +kernel) ⟨Nat.le_of_ble_eq_true rfl, Nat.le_of_ble_eq_true rfl⟩) hK hP hD hS hA ((i + 6) + 102) (w2_tk hi) rfl hl.1 rfl rfl (Nat.le_of_ble_eq_true rfl) ⟨Nat.zero_le _, Nat.zero_le _⟩ dX7_copyFrom_11 (fun r8 _ H locs hw hP hD hS => ?_)
        have er8 := hw
        refine x_Vv (As := [.int 2, .int r8]) (rest0 := []) ⟨hx, hb, hml, hown, hts⟩ (c_X7_putLocal l D cA ad tr (wB cA bd ρ ++ rest) H.size τ6 i hi 2 r8) (cwV 2 hts gX7_copyFrom_X7_putLocal rfl rfl rfl (by decide +kernel) ⟨Nat.le_of_ble_eq_true rfl, Nat.le_of_ble_eq_true rfl⟩) hK hP hD hS hA (i + 6) (w_tk hi) rfl hl.1 rfl rfl (Nat.le_of_ble_eq_true rfl) ⟨Nat.zero_le _, Nat.zero_le _⟩ dX7_copyFrom_14 (fun τ9 H locs hw hP hD hS => ?_)
        have eτ9 := hw
        refine lv_iinc (v := 3) (lv' := [(2, .int 3), (0, .ref (ad (i + 6))), (1, .ref (bd (i + 6)))]) hx hb dX7_copyFrom_17 hl (k := 0) rfl (by decide) (by decide) rfl (fun ls hl => ?_)
        refine lv_goto (tgt := 2) hx hb dX7_copyFrom_20 (by decide) ?_
        refine lv_iload_n hx hb dX7_copyFrom_2 rfl (lv_at hl 0 rfl) ?_
        refine lv_iconst (v := 4) hx hb dX7_copyFrom_3 (by decide) ?_
        refine lv_icmp_ge (tgt := 23) hx hb dX7_copyFrom_4 (by decide) (fun c_4_10 => ?_) (fun c_4_10 => ?_)
        -- 4 jumps
        · exact absurd c_4_10 (by decide)
        -- 4 goes on
        · skip
          refine lv_aload_n hx hb dX7_copyFrom_7 rfl (lv_at hl 1 rfl) ?_
          refine lv_iload_n hx hb dX7_copyFrom_8 rfl (lv_at hl 0 rfl) ?_
          refine lv_aload_n hx hb dX7_copyFrom_9 rfl (lv_at hl 2 rfl) ?_
          refine lv_iload_n hx hb dX7_copyFrom_10 rfl (lv_at hl 0 rfl) ?_
          refine x_Vi (As := [.int 3]) (rest0 := [.int 3, .ref (ad (i + 6))]) ⟨hx, hb, hml, hown, hts⟩ (c_X7_localAt_2 l D cA ad tr rest H.size τ9 bd ρ i hi 3) (cwV 1 hts gX7_copyFrom_X7_localAt rfl rfl rfl (by decide +kernel) ⟨Nat.le_of_ble_eq_true rfl, Nat.le_of_ble_eq_true rfl⟩) hK hP hD hS hA ((i + 6) + 102) (w2_tk hi) rfl hl.1 rfl rfl (Nat.le_of_ble_eq_true rfl) ⟨Nat.zero_le _, Nat.zero_le _⟩ dX7_copyFrom_11 (fun r11 _ H locs hw hP hD hS => ?_)
          have er11 := hw
          refine x_Vv (As := [.int 3, .int r11]) (rest0 := []) ⟨hx, hb, hml, hown, hts⟩ (c_X7_putLocal l D cA ad tr (wB cA bd ρ ++ rest) H.size τ9 i hi 3 r11) (cwV 2 hts gX7_copyFrom_X7_putLocal rfl rfl rfl (by decide +kernel) ⟨Nat.le_of_ble_eq_true rfl, Nat.le_of_ble_eq_true rfl⟩) hK hP hD hS hA (i + 6) (w_tk hi) rfl hl.1 rfl rfl (Nat.le_of_ble_eq_true rfl) ⟨Nat.zero_le _, Nat.zero_le _⟩ dX7_copyFrom_14 (fun τ12 H locs hw hP hD hS => ?_)
          have eτ12 := hw
          refine lv_iinc (v := 4) (lv' := [(2, .int 4), (0, .ref (ad (i + 6))), (1, .ref (bd (i + 6)))]) hx hb dX7_copyFrom_17 hl (k := 0) rfl (by decide) (by decide) rfl (fun ls hl => ?_)
          refine lv_goto (tgt := 2) hx hb dX7_copyFrom_20 (by decide) ?_
          refine lv_iload_n hx hb dX7_copyFrom_2 rfl (lv_at hl 0 rfl) ?_
          refine lv_iconst (v := 4) hx hb dX7_copyFrom_3 (by decide) ?_
          refine lv_icmp_ge (tgt := 23) hx hb dX7_copyFrom_4 (by decide) (fun c_4_13 => ?_) (fun c_4_13 => ?_)
          -- 4 jumps
          · skip
            refine lv_aload_n hx hb dX7_copyFrom_23 rfl (lv_at hl 1 rfl) ?_
            refine lv_aload_n hx hb dX7_copyFrom_24 rfl (lv_at hl 2 rfl) ?_
            refine va_get (D := D) (C := RX7) (T := TX7) (N := 17) (ci := 7) (v := .int (ρ (i + 6) 2)) hx hb hts nX7 hown hK hP ((i + 6) + 102) (w2_tk hi) rfl 2 (by decide) k39 (fun _ h9 => h9) rfl dX7_copyFrom_25 ?_
            refine p_tk hx hb hts nX7 hown hK hP hD hS hi 2 (by decide) (by decide) k39 (fun _ h9 => h9) rfl rfl rfl dX7_copyFrom_28 (fun τ14 H locs eτ14 hP hD hS => ?_)
            refine lv_aload_n hx hb dX7_copyFrom_31 rfl (lv_at hl 1 rfl) ?_
            refine lv_aload_n hx hb dX7_copyFrom_32 rfl (lv_at hl 2 rfl) ?_
            refine va_get (D := D) (C := RX7) (T := TX7) (N := 17) (ci := 7) (v := .int (ρ (i + 6) 3)) hx hb hts nX7 hown hK hP ((i + 6) + 102) (w2_tk hi) rfl 3 (by decide) k15 (fun _ h9 => h9) rfl dX7_copyFrom_33 ?_
            refine p_tk hx hb hts nX7 hown hK hP hD hS hi 3 (by decide) (by decide) k15 (fun _ h9 => h9) rfl rfl rfl dX7_copyFrom_36 (fun τ15 H locs eτ15 hP hD hS => ?_)
            refine lv_aload_n hx hb dX7_copyFrom_39 rfl (lv_at hl 1 rfl) ?_
            refine lv_aload_n hx hb dX7_copyFrom_40 rfl (lv_at hl 2 rfl) ?_
            refine va_get (D := D) (C := RX7) (T := TX7) (N := 17) (ci := 7) (v := .int (ρ (i + 6) 4)) hx hb hts nX7 hown hK hP ((i + 6) + 102) (w2_tk hi) rfl 4 (by decide) k42 (fun _ h9 => h9) rfl dX7_copyFrom_41 ?_
            refine p_tk hx hb hts nX7 hown hK hP hD hS hi 4 (by decide) (by decide) k42 (fun _ h9 => h9) rfl rfl rfl dX7_copyFrom_44 (fun τ16 H locs eτ16 hP hD hS => ?_)
            refine lv_aload_n hx hb dX7_copyFrom_47 rfl (lv_at hl 1 rfl) ?_
            refine lv_aload_n hx hb dX7_copyFrom_48 rfl (lv_at hl 2 rfl) ?_
            refine va_get (D := D) (C := RX7) (T := TX7) (N := 17) (ci := 7) (v := .int (ρ (i + 6) 5)) hx hb hts nX7 hown hK hP ((i + 6) + 102) (w2_tk hi) rfl 5 (by decide) k45 (fun _ h9 => h9) rfl dX7_copyFrom_49 ?_
            refine p_tk hx hb hts nX7 hown hK hP hD hS hi 5 (by decide) (by decide) k45 (fun _ h9 => h9) rfl rfl rfl dX7_copyFrom_52 (fun τ17 H locs eτ17 hP hD hS => ?_)
            refine lv_aload_n hx hb dX7_copyFrom_55 rfl (lv_at hl 1 rfl) ?_
            refine lv_aload_n hx hb dX7_copyFrom_56 rfl (lv_at hl 2 rfl) ?_
            refine va_get (D := D) (C := RX7) (T := TX7) (N := 17) (ci := 7) (v := .int (ρ (i + 6) 6)) hx hb hts nX7 hown hK hP ((i + 6) + 102) (w2_tk hi) rfl 6 (by decide) k19 (fun _ h9 => h9) rfl dX7_copyFrom_57 ?_
            refine p_tk hx hb hts nX7 hown hK hP hD hS hi 6 (by decide) (by decide) k19 (fun _ h9 => h9) rfl rfl rfl dX7_copyFrom_60 (fun τ18 H locs eτ18 hP hD hS => ?_)
            refine lv_aload_n hx hb dX7_copyFrom_63 rfl (lv_at hl 1 rfl) ?_
            refine lv_aload_n hx hb dX7_copyFrom_64 rfl (lv_at hl 2 rfl) ?_
            refine va_get (D := D) (C := RX7) (T := TX7) (N := 17) (ci := 7) (v := .int (ρ (i + 6) 7)) hx hb hts nX7 hown hK hP ((i + 6) + 102) (w2_tk hi) rfl 7 (by decide) k22 (fun _ h9 => h9) rfl dX7_copyFrom_65 ?_
            refine p_tk hx hb hts nX7 hown hK hP hD hS hi 7 (by decide) (by decide) k22 (fun _ h9 => h9) rfl rfl rfl dX7_copyFrom_68 (fun τ19 H locs eτ19 hP hD hS => ?_)
            refine lv_aload_n hx hb dX7_copyFrom_71 rfl (lv_at hl 1 rfl) ?_
            refine lv_aload_n hx hb dX7_copyFrom_72 rfl (lv_at hl 2 rfl) ?_
            refine va_get (D := D) (C := RX7) (T := TX7) (N := 17) (ci := 7) (v := .int (ρ (i + 6) 8)) hx hb hts nX7 hown hK hP ((i + 6) + 102) (w2_tk hi) rfl 8 (by decide) k48 (fun _ h9 => h9) rfl dX7_copyFrom_73 ?_
            refine p_tk hx hb hts nX7 hown hK hP hD hS hi 8 (by decide) (by decide) k48 (fun _ h9 => h9) rfl rfl rfl dX7_copyFrom_76 (fun τ20 H locs eτ20 hP hD hS => ?_)
            refine lv_aload_n hx hb dX7_copyFrom_79 rfl (lv_at hl 1 rfl) ?_
            refine lv_aload_n hx hb dX7_copyFrom_80 rfl (lv_at hl 2 rfl) ?_
            refine va_get (D := D) (C := RX7) (T := TX7) (N := 17) (ci := 7) (v := .int (ρ (i + 6) 9)) hx hb hts nX7 hown hK hP ((i + 6) + 102) (w2_tk hi) rfl 9 (by decide) k28 (fun _ h9 => h9) rfl dX7_copyFrom_81 ?_
            refine p_tk hx hb hts nX7 hown hK hP hD hS hi 9 (by decide) (by decide) k28 (fun _ h9 => h9) rfl rfl rfl dX7_copyFrom_84 (fun τ21 H locs eτ21 hP hD hS => ?_)
            refine lv_aload_n hx hb dX7_copyFrom_87 rfl (lv_at hl 1 rfl) ?_
            refine lv_aload_n hx hb dX7_copyFrom_88 rfl (lv_at hl 2 rfl) ?_
            refine va_get (D := D) (C := RX7) (T := TX7) (N := 17) (ci := 7) (v := .int (ρ (i + 6) 10)) hx hb hts nX7 hown hK hP ((i + 6) + 102) (w2_tk hi) rfl 10 (by decide) k51 (fun _ h9 => h9) rfl dX7_copyFrom_89 ?_
            refine p_tk hx hb hts nX7 hown hK hP hD hS hi 10 (by decide) (by decide) k51 (fun _ h9 => h9) rfl rfl rfl dX7_copyFrom_92 (fun τ22 H locs eτ22 hP hD hS => ?_)
            refine lv_aload_n hx hb dX7_copyFrom_95 rfl (lv_at hl 1 rfl) ?_
            refine lv_aload_n hx hb dX7_copyFrom_96 rfl (lv_at hl 2 rfl) ?_
            refine va_get (D := D) (C := RX7) (T := TX7) (N := 17) (ci := 7) (v := .int (ρ (i + 6) 11)) hx hb hts nX7 hown hK hP ((i + 6) + 102) (w2_tk hi) rfl 11 (by decide) k54 (fun _ h9 => h9) rfl dX7_copyFrom_97 ?_
            refine p_tk hx hb hts nX7 hown hK hP hD hS hi 11 (by decide) (by decide) k54 (fun _ h9 => h9) rfl (by rcases h11 with h | h <;> rw [h] <;> rfl) (by rcases h11 with h | h <;> rw [h] <;> rfl) dX7_copyFrom_100 (fun τ23 H locs eτ23 hP hD hS => ?_)
            refine lv_aload_n hx hb dX7_copyFrom_103 rfl (lv_at hl 1 rfl) ?_
            refine lv_aload_n hx hb dX7_copyFrom_104 rfl (lv_at hl 2 rfl) ?_
            refine va_get (D := D) (C := RX7) (T := TX7) (N := 17) (ci := 7) (v := .int (ρ (i + 6) 12)) hx hb hts nX7 hown hK hP ((i + 6) + 102) (w2_tk hi) rfl 12 (by decide) k58 (fun _ h9 => h9) rfl dX7_copyFrom_105 ?_
            refine p_tk hx hb hts nX7 hown hK hP hD hS hi 12 (by decide) (by decide) k58 (fun _ h9 => h9) rfl rfl rfl dX7_copyFrom_108 (fun τ24 H locs eτ24 hP hD hS => ?_)
            refine lv_aload_n hx hb dX7_copyFrom_111 rfl (lv_at hl 1 rfl) ?_
            refine lv_aload_n hx hb dX7_copyFrom_112 rfl (lv_at hl 2 rfl) ?_
            refine va_get (D := D) (C := RX7) (T := TX7) (N := 17) (ci := 7) (v := .int (ρ (i + 6) 13)) hx hb hts nX7 hown hK hP ((i + 6) + 102) (w2_tk hi) rfl 13 (by decide) k61 (fun _ h9 => h9) rfl dX7_copyFrom_113 ?_
            refine p_tk hx hb hts nX7 hown hK hP hD hS hi 13 (by decide) (by decide) k61 (fun _ h9 => h9) rfl rfl rfl dX7_copyFrom_116 (fun τ25 H locs eτ25 hP hD hS => ?_)
            refine lv_aload_n hx hb dX7_copyFrom_119 rfl (lv_at hl 1 rfl) ?_
            refine lv_aload_n hx hb dX7_copyFrom_120 rfl (lv_at hl 2 rfl) ?_
            refine va_get (D := D) (C := RX7) (T := TX7) (N := 17) (ci := 7) (v := .int (ρ (i + 6) 14)) hx hb hts nX7 hown hK hP ((i + 6) + 102) (w2_tk hi) rfl 14 (by decide) k64 (fun _ h9 => h9) rfl dX7_copyFrom_121 ?_
            refine p_tk hx hb hts nX7 hown hK hP hD hS hi 14 (by decide) (by decide) k64 (fun _ h9 => h9) rfl (by rcases h14 with h | h <;> rw [h] <;> rfl) (by rcases h14 with h | h <;> rw [h] <;> rfl) dX7_copyFrom_124 (fun τ26 H locs eτ26 hP hD hS => ?_)
            refine lv_aload_n hx hb dX7_copyFrom_127 rfl (lv_at hl 1 rfl) ?_
            refine lv_aload_n hx hb dX7_copyFrom_128 rfl (lv_at hl 2 rfl) ?_
            refine va_get (D := D) (C := RX7) (T := TX7) (N := 17) (ci := 7) (v := .int (ρ (i + 6) 15)) hx hb hts nX7 hown hK hP ((i + 6) + 102) (w2_tk hi) rfl 15 (by decide) k67 (fun _ h9 => h9) rfl dX7_copyFrom_129 ?_
            refine p_tk hx hb hts nX7 hown hK hP hD hS hi 15 (by decide) (by decide) k67 (fun _ h9 => h9) rfl rfl rfl dX7_copyFrom_132 (fun τ27 H locs eτ27 hP hD hS => ?_)
            refine lv_aload_n hx hb dX7_copyFrom_135 rfl (lv_at hl 1 rfl) ?_
            refine lv_aload_n hx hb dX7_copyFrom_136 rfl (lv_at hl 2 rfl) ?_
            refine va_get (D := D) (C := RX7) (T := TX7) (N := 17) (ci := 7) (v := .int (ρ (i + 6) 16)) hx hb hts nX7 hown hK hP ((i + 6) + 102) (w2_tk hi) rfl 16 (by decide) k70 (fun _ h9 => h9) rfl dX7_copyFrom_137 ?_
            refine p_tk hx hb hts nX7 hown hK hP hD hS hi 16 (by decide) (by decide) k70 (fun _ h9 => h9) rfl rfl rfl dX7_copyFrom_140 (fun τ28 H locs eτ28 hP hD hS => ?_)
            have hP : va_P D vwCl (wB cA ad (setC (setC τ (i + 30) (ρ (i + 30))) (i + 6) (ρ (i + 6))) ++ (wB cA bd ρ ++ rest)) H := cv_tk (τ := τ) hi (by intro a ha hb; subst eτ28 eτ27 eτ26 eτ25 eτ24 eτ23 eτ22 eτ21 eτ20 eτ19 eτ18 eτ17 eτ16 eτ15 eτ14 eτ12 er11 eτ9 er8 eτ6 er5 eτ3 er2; simp [mp0, mp1, mp2, mp3, ml0, ml1, ml2, ml3, up2_ne ha, up2_ne hb]) (by intro j h2 h3; subst eτ28 eτ27 eτ26 eτ25 eτ24 eτ23 eτ22 eτ21 eτ20 eτ19 eτ18 eτ17 eτ16 eτ15 eτ14 eτ12 er11 eτ9 er8 eτ6 er5 eτ3 er2; have hq : j = 2 ∨ j = 3 ∨ j = 4 ∨ j = 5 ∨ j = 6 ∨ j = 7 ∨ j = 8 ∨ j = 9 ∨ j = 10 ∨ j = 11 ∨ j = 12 ∨ j = 13 ∨ j = 14 ∨ j = 15 ∨ j = 16 := (by omega); rcases hq with rfl | rfl | rfl | rfl | rfl | rfl | rfl | rfl | rfl | rfl | rfl | rfl | rfl | rfl | rfl <;> simp [mp0, mp1, mp2, mp3, ml0, ml1, ml2, ml3, up2_ap]) (by intro j h3; subst eτ28 eτ27 eτ26 eτ25 eτ24 eτ23 eτ22 eτ21 eτ20 eτ19 eτ18 eτ17 eτ16 eτ15 eτ14 eτ12 er11 eτ9 er8 eτ6 er5 eτ3 er2; have hq : j = 0 ∨ j = 1 ∨ j = 2 ∨ j = 3 := (by omega); rcases hq with rfl | rfl | rfl | rfl <;> simp [mp0, mp1, mp2, mp3, ml0, ml1, ml2, ml3, up2_ap]) hP
            have hD : va_D A (wB cA ad (setC (setC τ (i + 30) (ρ (i + 30))) (i + 6) (ρ (i + 6))) ++ (wB cA bd ρ ++ rest)) := wB_convD hD
            exact x_vret hx hb hr hlocks hK (setC (setC τ (i + 30) (ρ (i + 30))) (i + 6) (ρ (i + 6))) hP hD hS dX7_copyFrom_143 rfl
          -- 4 goes on
          · exact absurd c_4_13 (by decide)

set_option maxHeartbeats 4000000 in
set_option maxRecDepth 100000 in
theorem c_X5_copyFrom (l : Launch) (D : va_G) (cA : Nat → ClassId) (ad : Nat → Nat) (tr : List (ClassId × FieldType)) (rest : va_W) (sz : Nat) (τ : Sg) (bd : Nat → Nat) (ρ : Sg) (i : Nat) (hi : i < 40) (h5 : ρ (i + 54) 5 = 0 ∨ ρ (i + 54) 5 = 1) (h6 : ρ (i + 54) 6 = 0 ∨ ρ (i + 54) 6 = 1) : Met l yX5_copyFrom wsX5_copyFrom ({ frames := 0, cells := 0, slots := 0, locals := 0 }) (va_Pc [.ref (ad (i + 54)), .ref (bd (i + 54))] (inW D (tyB cA ++ tr) (wB cA ad τ ++ (wB cA bd ρ ++ rest)) sz)) (va_Qv (fun u : Sg => u = setC τ (i + 54) (ρ (i + 54))) (fun u : Sg => outW D (tyB cA ++ tr) (va_A (wB cA ad τ ++ (wB cA bd ρ ++ rest)) sz) (wB cA ad u ++ (wB cA bd ρ ++ rest))) (va_A (wB cA ad τ ++ (wB cA bd ρ ++ rest)) sz)) 0 0 (va_A (wB cA ad τ ++ (wB cA bd ρ ++ rest)) sz) := by
  refine Met.ofW (cc := cX5_copyFrom) (maxL := 2) (ret := none) (by decide) rfl ?_
  intro p e s m args below meth c s₁ B hml hv
  obtain ⟨rfl, hsz, hP, hK, hD0⟩ := hv
  have hx := B.exec
  have hb := B.bytes
  have hr := B.returns
  have hts := atoms_spec (ws := wsX5_copyFrom) B.pre
  have hown : s.vm.findClass RX5 = some m.cls := findClass_of_methodNamed B.named
  have hlocks := B.notSynchronized
  subst hsz
  have hD := hD0.self (sz := s.heap.size)
  clear hD0
  generalize hAe : va_A (wB cA ad τ ++ (wB cA bd ρ ++ rest)) s.heap.size = A at hD ⊢
  have hA : ∀ q : Nat, s.heap.size ≤ q → A q := fun q h => by rw [← hAe]; exact Or.inr h
  clear hAe
  have hS : va_S A s.heap s.heap [] := va_S.rf
  have hP : va_P D vwCl (wB cA ad τ ++ (wB cA bd ρ ++ rest)) s.heap := hP
  have hl := lv_entry ([.ref (ad (i + 54)), .ref (bd (i + 54))]) (n := 2) (Nat.le_of_ble_eq_true rfl)
  rw [lg_entry_eq]
  generalize (lg_sl ([.ref (ad (i + 54)), .ref (bd (i + 54))]) ++ List.replicate (2 - (lg_sl ([.ref (ad (i + 54)), .ref (bd (i + 54))])).length) Slot.unset).toArray = ls at hl ⊢
  have hl : lv_has ls 2 [(0, .ref (ad (i + 54))), (1, .ref (bd (i + 54)))] := hl
  have nX5 : ∀ w ∈ u_ws RX5 TX5 14, w ∈ wsX5_copyFrom := by decide +kernel
  have k9 := hts (.fieldLink RX5 9 "ScopeRow$Scope" "state" "I") (by decide +kernel)
  have k24 := hts (.fieldLink RX5 24 "ScopeRow$Scope" "opener" "I") (by decide +kernel)
  have k30 := hts (.fieldLink RX5 30 "ScopeRow$Scope" "below" "I") (by decide +kernel)
  have k36 := hts (.fieldLink RX5 36 "ScopeRow$Scope" "outer" "I") (by decide +kernel)
  have k49 := hts (.fieldLink RX5 49 "ScopeRow$Scope" "cancelled" "Z") (by decide +kernel)
  have k39 := hts (.fieldLink RX5 39 "ScopeRow$Scope" "shield" "Z") (by decide +kernel)
  have k43 := hts (.fieldLink RX5 43 "ScopeRow$Scope" "deadline" "I") (by decide +kernel)
  have k46 := hts (.fieldLink RX5 46 "ScopeRow$Scope" "goesOnAt" "I") (by decide +kernel)
  have k52 := hts (.fieldLink RX5 52 "ScopeRow$Scope" "leavingFor" "I") (by decide +kernel)
  have k55 := hts (.fieldLink RX5 55 "ScopeRow$Scope" "entered" "I") (by decide +kernel)
  have k58 := hts (.fieldLink RX5 58 "ScopeRow$Scope" "over" "I") (by decide +kernel)
  have k61 := hts (.fieldLink RX5 61 "ScopeRow$Scope" "failed" "I") (by decide +kernel)
  have k15 := hts (.fieldLink RX5 15 "ScopeRow$Scope" "firstFailed" "I") (by decide +kernel)
  refine lv_aload_n hx hb dX5_copyFrom_0 rfl (lv_at hl 0 rfl) ?_
  refine lv_aload_n hx hb dX5_copyFrom_1 rfl (lv_at hl 1 rfl) ?_
  refine va_get (D := D) (C := RX5) (T := TX5) (N := 14) (ci := 5) (v := .int (ρ (i + 54) 1)) hx hb hts nX5 hown hK hP ((i + 54) + 102) (w2_sc hi) rfl 1 (by decide) k9 (fun _ h9 => h9) rfl dX5_copyFrom_2 ?_
  refine p_sc hx hb hts nX5 hown hK hP hD hS hi 1 (by decide) (by decide) k9 (fun _ h9 => h9) rfl rfl rfl dX5_copyFrom_5 (fun τ1 H locs eτ1 hP hD hS => ?_)
  refine lv_aload_n hx hb dX5_copyFrom_8 rfl (lv_at hl 0 rfl) ?_
  refine lv_aload_n hx hb dX5_copyFrom_9 rfl (lv_at hl 1 rfl) ?_
  refine va_get (D := D) (C := RX5) (T := TX5) (N := 14) (ci := 5) (v := .int (ρ (i + 54) 2)) hx hb hts nX5 hown hK hP ((i + 54) + 102) (w2_sc hi) rfl 2 (by decide) k24 (fun _ h9 => h9) rfl dX5_copyFrom_10 ?_
  refine p_sc hx hb hts nX5 hown hK hP hD hS hi 2 (by decide) (by decide) k24 (fun _ h9 => h9) rfl rfl rfl dX5_copyFrom_13 (fun τ2 H locs eτ2 hP hD hS => ?_)
  refine lv_aload_n hx hb dX5_copyFrom_16 rfl (lv_at hl 0 rfl) ?_
  refine lv_aload_n hx hb dX5_copyFrom_17 rfl (lv_at hl 1 rfl) ?_
  refine va_get (D := D) (C := RX5) (T := TX5) (N := 14) (ci := 5) (v := .int (ρ (i + 54) 3)) hx hb hts nX5 hown hK hP ((i + 54) + 102) (w2_sc hi) rfl 3 (by decide) k30 (fun _ h9 => h9) rfl dX5_copyFrom_18 ?_
  refine p_sc hx hb hts nX5 hown hK hP hD hS hi 3 (by decide) (by decide) k30 (fun _ h9 => h9) rfl rfl rfl dX5_copyFrom_21 (fun τ3 H locs eτ3 hP hD hS => ?_)
  refine lv_aload_n hx hb dX5_copyFrom_24 rfl (lv_at hl 0 rfl) ?_
  refine lv_aload_n hx hb dX5_copyFrom_25 rfl (lv_at hl 1 rfl) ?_
  refine va_get (D := D) (C := RX5) (T := TX5) (N := 14) (ci := 5) (v := .int (ρ (i + 54) 4)) hx hb hts nX5 hown hK hP ((i + 54) + 102) (w2_sc hi) rfl 4 (by decide) k36 (fun _ h9 => h9) rfl dX5_copyFrom_26 ?_
  refine p_sc hx hb hts nX5 hown hK hP hD hS hi 4 (by decide) (by decide) k36 (fun _ h9 => h9) rfl rfl rfl dX5_copyFrom_29 (fun τ4 H locs eτ4 hP hD hS => ?_)
  refine lv_aload_n hx hb dX5_copyFrom_32 rfl (lv_at hl 0 rfl) ?_
  refine lv_aload_n hx hb dX5_copyFrom_33 rfl (lv_at hl 1 rfl) ?_
  refine va_get (D := D) (C := RX5) (T := TX5) (N := 14) (ci := 5) (v := .int (ρ (i + 54) 5)) hx hb hts nX5 hown hK hP ((i + 54) + 102) (w2_sc hi) rfl 5 (by decide) k49 (fun _ h9 => h9) rfl dX5_copyFrom_34 ?_
  refine p_sc hx hb hts nX5 hown hK hP hD hS hi 5 (by decide) (by decide) k49 (fun _ h9 => h9) rfl (by rcases h5 with h | h <;> rw [h] <;> rfl) (by rcases h5 with h | h <;> rw [h] <;> rfl) dX5_copyFrom_37 (fun τ5 H locs eτ5 hP hD hS => ?_)
  refine lv_aload_n hx hb dX5_copyFrom_40 rfl (lv_at hl 0 rfl) ?_
  refine lv_aload_n hx hb dX5_copyFrom_41 rfl (lv_at hl 1 rfl) ?_
  refine va_get (D := D) (C := RX5) (T := TX5) (N := 14) (ci := 5) (v := .int (ρ (i + 54) 6)) hx hb hts nX5 hown hK hP ((i + 54) + 102) (w2_sc hi) rfl 6 (by decide) k39 (fun _ h9 => h9) rfl dX5_copyFrom_42 ?_
  refine p_sc hx hb hts nX5 hown hK hP hD hS hi 6 (by decide) (by decide) k39 (fun _ h9 => h9) rfl (by rcases h6 with h | h <;> rw [h] <;> rfl) (by rcases h6 with h | h <;> rw [h] <;> rfl) dX5_copyFrom_45 (fun τ6 H locs eτ6 hP hD hS => ?_)
  refine lv_aload_n hx hb dX5_copyFrom_48 rfl (lv_at hl 0 rfl) ?_
  refine lv_aload_n hx hb dX5_copyFrom_49 rfl (lv_at hl 1 rfl) ?_
  refine va_get (D := D) (C := RX5) (T := TX5) (N := 14) (ci := 5) (v := .int (ρ (i + 54) 7)) hx hb hts nX5 hown hK hP ((i + 54) + 102) (w2_sc hi) rfl 7 (by decide) k43 (fun _ h9 => h9) rfl dX5_copyFrom_50 ?_
  refine p_sc hx hb hts nX5 hown hK hP hD hS hi 7 (by decide) (by decide) k43 (fun _ h9 => h9) rfl rfl rfl dX5_copyFrom_53 (fun τ7 H locs eτ7 hP hD hS => ?_)
  refine lv_aload_n hx hb dX5_copyFrom_56 rfl (lv_at hl 0 rfl) ?_
  refine lv_aload_n hx hb dX5_copyFrom_57 rfl (lv_at hl 1 rfl) ?_
  refine va_get (D := D) (C := RX5) (T := TX5) (N := 14) (ci := 5) (v := .int (ρ (i + 54) 8)) hx hb hts nX5 hown hK hP ((i + 54) + 102) (w2_sc hi) rfl 8 (by decide) k46 (fun _ h9 => h9) rfl dX5_copyFrom_58 ?_
  refine p_sc hx hb hts nX5 hown hK hP hD hS hi 8 (by decide) (by decide) k46 (fun _ h9 => h9) rfl rfl rfl dX5_copyFrom_61 (fun τ8 H locs eτ8 hP hD hS => ?_)
  refine lv_aload_n hx hb dX5_copyFrom_64 rfl (lv_at hl 0 rfl) ?_
  refine lv_aload_n hx hb dX5_copyFrom_65 rfl (lv_at hl 1 rfl) ?_
  refine va_get (D := D) (C := RX5) (T := TX5) (N := 14) (ci := 5) (v := .int (ρ (i + 54) 9)) hx hb hts nX5 hown hK hP ((i + 54) + 102) (w2_sc hi) rfl 9 (by decide) k52 (fun _ h9 => h9) rfl dX5_copyFrom_66 ?_
  refine p_sc hx hb hts nX5 hown hK hP hD hS hi 9 (by decide) (by decide) k52 (fun _ h9 => h9) rfl rfl rfl dX5_copyFrom_69 (fun τ9 H locs eτ9 hP hD hS => ?_)
  refine lv_aload_n hx hb dX5_copyFrom_72 rfl (lv_at hl 0 rfl) ?_
  refine lv_aload_n hx hb dX5_copyFrom_73 rfl (lv_at hl 1 rfl) ?_
  refine va_get (D := D) (C := RX5) (T := TX5) (N := 14) (ci := 5) (v := .int (ρ (i + 54) 10)) hx hb hts nX5 hown hK hP ((i + 54) + 102) (w2_sc hi) rfl 10 (by decide) k55 (fun _ h9 => h9) rfl dX5_copyFrom_74 ?_
  refine p_sc hx hb hts nX5 hown hK hP hD hS hi 10 (by decide) (by decide) k55 (fun _ h9 => h9) rfl rfl rfl dX5_copyFrom_77 (fun τ10 H locs eτ10 hP hD hS => ?_)
  refine lv_aload_n hx hb dX5_copyFrom_80 rfl (lv_at hl 0 rfl) ?_
  refine lv_aload_n hx hb dX5_copyFrom_81 rfl (lv_at hl 1 rfl) ?_
  refine va_get (D := D) (C := RX5) (T := TX5) (N := 14) (ci := 5) (v := .int (ρ (i + 54) 11)) hx hb hts nX5 hown hK hP ((i + 54) + 102) (w2_sc hi) rfl 11 (by decide) k58 (fun _ h9 => h9) rfl dX5_copyFrom_82 ?_
  refine p_sc hx hb hts nX5 hown hK hP hD hS hi 11 (by decide) (by decide) k58 (fun _ h9 => h9) rfl rfl rfl dX5_copyFrom_85 (fun τ11 H locs eτ11 hP hD hS => ?_)
  refine lv_aload_n hx hb dX5_copyFrom_88 rfl (lv_at hl 0 rfl) ?_
  refine lv_aload_n hx hb dX5_copyFrom_89 rfl (lv_at hl 1 rfl) ?_
  refine va_get (D := D) (C := RX5) (T := TX5) (N := 14) (ci := 5) (v := .int (ρ (i + 54) 12)) hx hb hts nX5 hown hK hP ((i + 54) + 102) (w2_sc hi) rfl 12 (by decide) k61 (fun _ h9 => h9) rfl dX5_copyFrom_90 ?_
  refine p_sc hx hb hts nX5 hown hK hP hD hS hi 12 (by decide) (by decide) k61 (fun _ h9 => h9) rfl rfl rfl dX5_copyFrom_93 (fun τ12 H locs eτ12 hP hD hS => ?_)
  refine lv_aload_n hx hb dX5_copyFrom_96 rfl (lv_at hl 0 rfl) ?_
  refine lv_aload_n hx hb dX5_copyFrom_97 rfl (lv_at hl 1 rfl) ?_
  refine va_get (D := D) (C := RX5) (T := TX5) (N := 14) (ci := 5) (v := .int (ρ (i + 54) 13)) hx hb hts nX5 hown hK hP ((i + 54) + 102) (w2_sc hi) rfl 13 (by decide) k15 (fun _ h9 => h9) rfl dX5_copyFrom_98 ?_
  refine p_sc hx hb hts nX5 hown hK hP hD hS hi 13 (by decide) (by decide) k15 (fun _ h9 => h9) rfl rfl rfl dX5_copyFrom_101 (fun τ13 H locs eτ13 hP hD hS => ?_)
  have hP : va_P D vwCl (wB cA ad (setC τ (i + 54) (ρ (i + 54))) ++ (wB cA bd ρ ++ rest)) H := cv_sc (τ := τ) hi (by intro a ha; subst eτ13 eτ12 eτ11 eτ10 eτ9 eτ8 eτ7 eτ6 eτ5 eτ4 eτ3 eτ2 eτ1; simp [up2_ne ha]) (by intro j h2 h3; subst eτ13 eτ12 eτ11 eτ10 eτ9 eτ8 eτ7 eτ6 eτ5 eτ4 eτ3 eτ2 eτ1; have hq : j = 1 ∨ j = 2 ∨ j = 3 ∨ j = 4 ∨ j = 5 ∨ j = 6 ∨ j = 7 ∨ j = 8 ∨ j = 9 ∨ j = 10 ∨ j = 11 ∨ j = 12 ∨ j = 13 := (by omega); rcases hq with rfl | rfl | rfl | rfl | rfl | rfl | rfl | rfl | rfl | rfl | rfl | rfl | rfl <;> simp [up2_ap]) hP
  have hD : va_D A (wB cA ad (setC τ (i + 54) (ρ (i + 54))) ++ (wB cA bd ρ ++ rest)) := wB_convD hD
  exact x_vret hx hb hr hlocks hK (setC τ (i + 54) (ρ (i + 54))) hP hD hS dX5_copyFrom_104 rfl

set_option maxHeartbeats 4000000 in
set_option maxRecDepth 100000 in
theorem c_X2_copyFrom (l : Launch) (D : va_G) (cA : Nat → ClassId) (ad : Nat → Nat) (tr : List (ClassId × FieldType)) (rest : va_W) (sz : Nat) (τ : Sg) (bd : Nat → Nat) (ρ : Sg) (i : Nat) (hi : i < 2) : Met l yX2_copyFrom wsX2_copyFrom ({ frames := 0, cells := 0, slots := 0, locals := 0 }) (va_Pc [.ref (ad (i + 94)), .ref (bd (i + 94))] (inW D (tyB cA ++ tr) (wB cA ad τ ++ (wB cA bd ρ ++ rest)) sz)) (va_Qv (fun u : Sg => u = setC τ (i + 94) (ρ (i + 94))) (fun u : Sg => outW D (tyB cA ++ tr) (va_A (wB cA ad τ ++ (wB cA bd ρ ++ rest)) sz) (wB cA ad u ++ (wB cA bd ρ ++ rest))) (va_A (wB cA ad τ ++ (wB cA bd ρ ++ rest)) sz)) 0 0 (va_A (wB cA ad τ ++ (wB cA bd ρ ++ rest)) sz) := by
  refine Met.ofW (cc := cX2_copyFrom) (maxL := 2) (ret := none) (by decide) rfl ?_
  intro p e s m args below meth c s₁ B hml hv
  obtain ⟨rfl, hsz, hP, hK, hD0⟩ := hv
  have hx := B.exec
  have hb := B.bytes
  have hr := B.returns
  have hts := atoms_spec (ws := wsX2_copyFrom) B.pre
  have hown : s.vm.findClass RX2 = some m.cls := findClass_of_methodNamed B.named
  have hlocks := B.notSynchronized
  subst hsz
  have hD := hD0.self (sz := s.heap.size)
  clear hD0
  generalize hAe : va_A (wB cA ad τ ++ (wB cA bd ρ ++ rest)) s.heap.size = A at hD ⊢
  have hA : ∀ q : Nat, s.heap.size ≤ q → A q := fun q h => by rw [← hAe]; exact Or.inr h
  clear hAe
  have hS : va_S A s.heap s.heap [] := va_S.rf
  have hP : va_P D vwCl (wB cA ad τ ++ (wB cA bd ρ ++ rest)) s.heap := hP
  have hl := lv_entry ([.ref (ad (i + 94)), .ref (bd (i + 94))]) (n := 2) (Nat.le_of_ble_eq_true rfl)
  rw [lg_entry_eq]
  generalize (lg_sl ([.ref (ad (i + 94)), .ref (bd (i + 94))]) ++ List.replicate (2 - (lg_sl ([.ref (ad (i + 94)), .ref (bd (i + 94))])).length) Slot.unset).toArray = ls at hl ⊢
  have hl : lv_has ls 2 [(0, .ref (ad (i + 94))), (1, .ref (bd (i + 94)))] := hl
  have nX2 : ∀ w ∈ u_ws RX2 TX2 3, w ∈ wsX2_copyFrom := by decide +kernel
  have k9 := hts (.fieldLink RX2 9 "ScopeRow$Lock" "holder" "I") (by decide +kernel)
  have k21 := hts (.fieldLink RX2 21 "ScopeRow$Lock" "heldEver" "I") (by decide +kernel)
  refine lv_aload_n hx hb dX2_copyFrom_0 rfl (lv_at hl 0 rfl) ?_
  refine lv_aload_n hx hb dX2_copyFrom_1 rfl (lv_at hl 1 rfl) ?_
  refine va_get (D := D) (C := RX2) (T := TX2) (N := 3) (ci := 2) (v := .int (ρ (i + 94) 1)) hx hb hts nX2 hown hK hP ((i + 94) + 102) (w2_lk hi) rfl 1 (by decide) k9 (fun _ h9 => h9) rfl dX2_copyFrom_2 ?_
  refine p_lk hx hb hts nX2 hown hK hP hD hS hi 1 (by decide) (by decide) k9 (fun _ h9 => h9) rfl rfl rfl dX2_copyFrom_5 (fun τ1 H locs eτ1 hP hD hS => ?_)
  refine lv_aload_n hx hb dX2_copyFrom_8 rfl (lv_at hl 0 rfl) ?_
  refine lv_aload_n hx hb dX2_copyFrom_9 rfl (lv_at hl 1 rfl) ?_
  refine va_get (D := D) (C := RX2) (T := TX2) (N := 3) (ci := 2) (v := .int (ρ (i + 94) 2)) hx hb hts nX2 hown hK hP ((i + 94) + 102) (w2_lk hi) rfl 2 (by decide) k21 (fun _ h9 => h9) rfl dX2_copyFrom_10 ?_
  refine p_lk hx hb hts nX2 hown hK hP hD hS hi 2 (by decide) (by decide) k21 (fun _ h9 => h9) rfl rfl rfl dX2_copyFrom_13 (fun τ2 H locs eτ2 hP hD hS => ?_)
  have hP : va_P D vwCl (wB cA ad (setC τ (i + 94) (ρ (i + 94))) ++ (wB cA bd ρ ++ rest)) H := cv_lk (τ := τ) hi (by intro a ha; subst eτ2 eτ1; simp [up2_ne ha]) (by intro j h2 h3; subst eτ2 eτ1; have hq : j = 1 ∨ j = 2 := (by omega); rcases hq with rfl | rfl <;> simp [up2_ap]) hP
  have hD : va_D A (wB cA ad (setC τ (i + 94) (ρ (i + 94))) ++ (wB cA bd ρ ++ rest)) := wB_convD hD
  exact x_vret hx hb hr hlocks hK (setC τ (i + 94) (ρ (i + 94))) hP hD hS dX2_copyFrom_16 rfl

set_option maxHeartbeats 4000000 in
set_option maxRecDepth 100000 in
theorem c_X1_copyFrom (l : Launch) (D : va_G) (cA : Nat → ClassId) (ad : Nat → Nat) (tr : List (ClassId × FieldType)) (rest : va_W) (sz : Nat) (τ : Sg) (bd : Nat → Nat) (ρ : Sg) (i : Nat) (hi : i < 2) (h3 : ρ (i + 96) 3 = 0 ∨ ρ (i + 96) 3 = 1) : Met l yX1_copyFrom wsX1_copyFrom ({ frames := 1, cells := 0, slots := 0, locals := 60 }) (va_Pc [.ref (ad (i + 96)), .ref (bd (i + 96))] (inW D (tyB cA ++ tr) (wB cA ad τ ++ (wB cA bd ρ ++ rest)) sz)) (va_Qv (fun u : Sg => u = setC (setC τ (i + 98) (ρ (i + 98))) (i + 96) (ρ (i + 96))) (fun u : Sg => outW D (tyB cA ++ tr) (va_A (wB cA ad τ ++ (wB cA bd ρ ++ rest)) sz) (wB cA ad u ++ (wB cA bd ρ ++ rest))) (va_A (wB cA ad τ ++ (wB cA bd ρ ++ rest)) sz)) 0 0 (va_A (wB cA ad τ ++ (wB cA bd ρ ++ rest)) sz) := by
  refine Met.ofW (cc := cX1_copyFrom) (maxL := 2) (ret := none) (by decide) rfl ?_
  intro p e s m args below meth c s₁ B hml hv
  obtain ⟨rfl, hsz, hP, hK, hD0⟩ := hv
  have hx := B.exec
  have hb := B.bytes
  have hr := B.returns
  have hts := atoms_spec (ws := wsX1_copyFrom) B.pre
  have hown : s.vm.findClass RX1 = some m.cls := findClass_of_methodNamed B.named
  have hlocks := B.notSynchronized
  subst hsz
  have hD := hD0.self (sz := s.heap.size)
  clear hD0
  generalize hAe : va_A (wB cA ad τ ++ (wB cA bd ρ ++ rest)) s.heap.size = A at hD ⊢
  have hA : ∀ q : Nat, s.heap.size ≤ q → A q := fun q h => by rw [← hAe]; exact Or.inr h
  clear hAe
  have hS : va_S A s.heap s.heap [] := va_S.rf
  have hP : va_P D vwCl (wB cA ad τ ++ (wB cA bd ρ ++ rest)) s.heap := hP
  have hl := lv_entry ([.ref (ad (i + 96)), .ref (bd (i + 96))]) (n := 2) (Nat.le_of_ble_eq_true rfl)
  rw [lg_entry_eq]
  generalize (lg_sl ([.ref (ad (i + 96)), .ref (bd (i + 96))]) ++ List.replicate (2 - (lg_sl ([.ref (ad (i + 96)), .ref (bd (i + 96))])).length) Slot.unset).toArray = ls at hl ⊢
  have hl : lv_has ls 2 [(0, .ref (ad (i + 96))), (1, .ref (bd (i + 96)))] := hl
  have nX1 : ∀ w ∈ u_ws RX1 TX1 5, w ∈ wsX1_copyFrom := by decide +kernel
  have k9 := hts (.fieldLink RX1 9 "ScopeRow$Channel" "room" "I") (by decide +kernel)
  have k15 := hts (.fieldLink RX1 15 "ScopeRow$Channel" "values" "[I") (by decide +kernel)
  have k19 := hts (.fieldLink RX1 19 "ScopeRow$Channel" "count" "I") (by decide +kernel)
  have k28 := hts (.fieldLink RX1 28 "ScopeRow$Channel" "ended" "Z") (by decide +kernel)
  have k32 := hts (.fieldLink RX1 32 "ScopeRow$Channel" "taken" "I") (by decide +kernel)
  refine lv_aload_n hx hb dX1_copyFrom_0 rfl (lv_at hl 0 rfl) ?_
  refine lv_aload_n hx hb dX1_copyFrom_1 rfl (lv_at hl 1 rfl) ?_
  refine va_get (D := D) (C := RX1) (T := TX1) (N := 5) (ci := 1) (v := .int (ρ (i + 96) 0)) hx hb hts nX1 hown hK hP ((i + 96) + 102) (w2_ch hi) rfl 0 (by decide) k9 (fun _ h9 => h9) rfl dX1_copyFrom_2 ?_
  refine p_ch hx hb hts nX1 hown hK hP hD hS hi 0 (by decide) (by decide) k9 (fun _ h9 => h9) rfl rfl rfl dX1_copyFrom_5 (fun τ1 H locs eτ1 hP hD hS => ?_)
  refine lv_aload_n hx hb dX1_copyFrom_8 rfl (lv_at hl 1 rfl) ?_
  refine va_get (D := D) (C := RX1) (T := TX1) (N := 5) (ci := 1) (v := .ref (bd (i + 98))) hx hb hts nX1 hown hK hP ((i + 96) + 102) (w2_ch hi) rfl 1 (by decide) k15 (fun _ h9 => h9) rfl dX1_copyFrom_9 ?_
  refine lv_iconst (v := 0) hx hb dX1_copyFrom_12 (by decide) ?_
  refine lv_aload_n hx hb dX1_copyFrom_13 rfl (lv_at hl 0 rfl) ?_
  refine va_get (D := D) (C := RX1) (T := TX1) (N := 5) (ci := 1) (v := .ref (ad (i + 98))) hx hb hts nX1 hown hK hP (i + 96) (w_ch hi) rfl 1 (by decide) k15 (fun _ h9 => h9) rfl dX1_copyFrom_14 ?_
  refine lv_iconst (v := 0) hx hb dX1_copyFrom_17 (by decide) ?_
  refine lv_bipush (v := 27) hx hb dX1_copyFrom_18 (by decide) ?_
  refine va_copyi (rest := []) hx hb (hml.trans hl.1.symm) hown (hts (.methodLink RX1 22 arraycopyName) (by decide +kernel)) (hts (.native arraycopyName) (by decide +kernel)) (hts (.static arraycopyName) (by decide +kernel)) (hts (.initialized "java/lang/System") (by decide +kernel)) hK hP hD hS (i + 98 + 102) (i + 98) 0 0 (w2_va hi) (w_va hi) rfl rfl rfl (by decide) (by decide) (by decide) (by decide) (by decide) (fun _ _ => rfl) (Nat.le_of_ble_eq_true rfl) (Nat.le_of_ble_eq_true rfl) dX1_copyFrom_20 (fun H locs hP hD hS => ?_)
  obtain ⟨τ2, eτ2⟩ : ∃ z : Sg, z = setC τ1 (i + 98) (va_cpy (ρ (i + 98)) (τ1 (i + 98)) (Int32.toNatClampNeg 0) (Int32.toNatClampNeg 0) (Int32.toNatClampNeg 27)) := ⟨_, rfl⟩
  rw [wB_setC (show i + 98 < 102 by omega) (ob_va hi).symm, ← eτ2] at hP hD
  refine lv_aload_n hx hb dX1_copyFrom_23 rfl (lv_at hl 0 rfl) ?_
  refine lv_aload_n hx hb dX1_copyFrom_24 rfl (lv_at hl 1 rfl) ?_
  refine va_get (D := D) (C := RX1) (T := TX1) (N := 5) (ci := 1) (v := .int (ρ (i + 96) 2)) hx hb hts nX1 hown hK hP ((i + 96) + 102) (w2_ch hi) rfl 2 (by decide) k19 (fun _ h9 => h9) rfl dX1_copyFrom_25 ?_
  refine p_ch hx hb hts nX1 hown hK hP hD hS hi 2 (by decide) (by decide) k19 (fun _ h9 => h9) rfl rfl rfl dX1_copyFrom_28 (fun τ3 H locs eτ3 hP hD hS => ?_)
  refine lv_aload_n hx hb dX1_copyFrom_31 rfl (lv_at hl 0 rfl) ?_
  refine lv_aload_n hx hb dX1_copyFrom_32 rfl (lv_at hl 1 rfl) ?_
  refine va_get (D := D) (C := RX1) (T := TX1) (N := 5) (ci := 1) (v := .int (ρ (i + 96) 3)) hx hb hts nX1 hown hK hP ((i + 96) + 102) (w2_ch hi) rfl 3 (by decide) k28 (fun _ h9 => h9) rfl dX1_copyFrom_33 ?_
  refine p_ch hx hb hts nX1 hown hK hP hD hS hi 3 (by decide) (by decide) k28 (fun _ h9 => h9) rfl (by rcases h3 with h | h <;> rw [h] <;> rfl) (by rcases h3 with h | h <;> rw [h] <;> rfl) dX1_copyFrom_36 (fun τ4 H locs eτ4 hP hD hS => ?_)
  refine lv_aload_n hx hb dX1_copyFrom_39 rfl (lv_at hl 0 rfl) ?_
  refine lv_aload_n hx hb dX1_copyFrom_40 rfl (lv_at hl 1 rfl) ?_
  refine va_get (D := D) (C := RX1) (T := TX1) (N := 5) (ci := 1) (v := .int (ρ (i + 96) 4)) hx hb hts nX1 hown hK hP ((i + 96) + 102) (w2_ch hi) rfl 4 (by decide) k32 (fun _ h9 => h9) rfl dX1_copyFrom_41 ?_
  refine p_ch hx hb hts nX1 hown hK hP hD hS hi 4 (by decide) (by decide) k32 (fun _ h9 => h9) rfl rfl rfl dX1_copyFrom_44 (fun τ5 H locs eτ5 hP hD hS => ?_)
  have hP : va_P D vwCl (wB cA ad (setC (setC τ (i + 98) (ρ (i + 98))) (i + 96) (ρ (i + 96))) ++ (wB cA bd ρ ++ rest)) H := cv_ch (τ := τ) hi (by intro a ha hb; subst eτ5 eτ4 eτ3 eτ2 eτ1; simp [up2_ne ha, setC_ne hb]) (by intro j h2 h3; subst eτ5 eτ4 eτ3 eτ2 eτ1; have hq : j = 0 ∨ j = 2 ∨ j = 3 ∨ j = 4 := (by omega); rcases hq with rfl | rfl | rfl | rfl <;> simp [up2_ap, setC]) (by intro j h3; subst eτ5 eτ4 eτ3 eτ2 eτ1; simp [up2_ap, setC, va_cpy]; intro h9; omega) hP
  have hD : va_D A (wB cA ad (setC (setC τ (i + 98) (ρ (i + 98))) (i + 96) (ρ (i + 96))) ++ (wB cA bd ρ ++ rest)) := wB_convD hD
  exact x_vret hx hb hr hlocks hK (setC (setC τ (i + 98) (ρ (i + 98))) (i + 96) (ρ (i + 96))) hP hD hS dX1_copyFrom_47 rfl
