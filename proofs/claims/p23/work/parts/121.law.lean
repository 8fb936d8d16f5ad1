/-! worlds with new cells behind; a static method that makes cells -/
theorem wL_app {cA ad pd bd tp} {τ π ρ : Sg} {R Y : va_W} : (wB cA ad τ ++ (wPg cA ad pd π ++ (wB cA bd ρ ++ ((tp, .inr (8, tpF ad bd)) :: R)))) ++ Y = wB cA ad τ ++ (wPg cA ad pd π ++ (wB cA bd ρ ++ ((tp, .inr (8, tpF ad bd)) :: (R ++ Y)))) := by
  rw [List.append_assoc, List.append_assoc, List.append_assoc]; rfl
theorem wL_at {cA ad pd bd tp} {τ π ρ : Sg} {R : va_W} (k : Nat) : (wB cA ad τ ++ (wPg cA ad pd π ++ (wB cA bd ρ ++ ((tp, .inr (8, tpF ad bd)) :: R))))[k + 210]? = R[k]? := by
  rw [show k + 210 = (k + 103) + 107 by omega, w_far (R := wB cA bd ρ ++ ((tp, .inr (8, tpF ad bd)) :: R)) (k + 103), show k + 103 = (k + 1) + 102 by omega, wB_rest (rest := (tp, .inr (8, tpF ad bd)) :: R) (k + 1)]
  rfl
theorem wL_len {cA ad pd bd tp} {τ π ρ : Sg} : (wB cA ad τ ++ (wPg cA ad pd π ++ (wB cA bd ρ ++ ([(tp, .inr (8, tpF ad bd))] : va_W)))).length = 210 := by
  rw [List.length_append, List.length_append, List.length_append, wB_len, wB_len, wPg_len]; rfl
theorem wL_set {cA ad pd bd tp} {τ π ρ : Sg} {R : va_W} {k : Nat} {x : Nat × va_E} : (wB cA ad τ ++ (wPg cA ad pd π ++ (wB cA bd ρ ++ ((tp, .inr (8, tpF ad bd)) :: R)))).set (k + 210) x = wB cA ad τ ++ (wPg cA ad pd π ++ (wB cA bd ρ ++ ((tp, .inr (8, tpF ad bd)) :: R.set k x))) := by
  have e : ∀ Y : va_W, wB cA ad τ ++ (wPg cA ad pd π ++ (wB cA bd ρ ++ ((tp, .inr (8, tpF ad bd)) :: Y))) = (wB cA ad τ ++ (wPg cA ad pd π ++ (wB cA bd ρ ++ [(tp, .inr (8, tpF ad bd))]))) ++ Y := fun Y => by
    rw [wL_app]; rfl
  rw [e R, e (R.set k x), List.set_append_right _ _ (by rw [wL_len]; omega), wL_len]
  rw [Nat.add_sub_cancel]
theorem wN_at {rest X : va_W} (i : Nat) : (rest ++ X)[i + rest.length]? = X[i]? := by
  rw [List.getElem?_append_right (by omega), Nat.add_sub_cancel]
theorem wN_set {rest X : va_W} {i : Nat} {x : Nat × va_E} : (rest ++ X).set (i + rest.length) x = rest ++ X.set i x := by
  rw [List.set_append_right _ _ (by omega), Nat.add_sub_cancel]
/-- a new cell i behind rest -/
theorem wNew {cA ad pd bd tp} {τ π ρ : Sg} {rest X : va_W} {i : Nat} {x : Nat × va_E} (h : X[i]? = some x) : (wB cA ad τ ++ (wPg cA ad pd π ++ (wB cA bd ρ ++ ((tp, .inr (8, tpF ad bd)) :: (rest ++ X)))))[i + rest.length + 210]? = some x := by
  rw [wL_at, wN_at]; exact h
theorem wNewS {cA ad pd bd tp} {τ π ρ : Sg} {rest X : va_W} {i : Nat} {x : Nat × va_E} : (wB cA ad τ ++ (wPg cA ad pd π ++ (wB cA bd ρ ++ ((tp, .inr (8, tpF ad bd)) :: (rest ++ X))))).set (i + rest.length + 210) x = wB cA ad τ ++ (wPg cA ad pd π ++ (wB cA bd ρ ++ ((tp, .inr (8, tpF ad bd)) :: (rest ++ X.set i x)))) := by
  rw [wL_set, wN_set]
theorem wNewR {cA ad pd bd tp} {τ π ρ : Sg} {rest X R : va_W} {i : Nat} {x : Nat × va_E} (e : R = rest ++ X) (h : X[i]? = some x) : (wB cA ad τ ++ (wPg cA ad pd π ++ (wB cA bd ρ ++ ((tp, .inr (8, tpF ad bd)) :: R))))[i + rest.length + 210]? = some x := by
  rw [e]; exact wNew h
theorem wNewSR {cA ad pd bd tp} {τ π ρ : Sg} {rest X R : va_W} (e : R = rest ++ X) {i : Nat} {x : Nat × va_E} : (wB cA ad τ ++ (wPg cA ad pd π ++ (wB cA bd ρ ++ ((tp, .inr (8, tpF ad bd)) :: R)))).set (i + rest.length + 210) x = wB cA ad τ ++ (wPg cA ad pd π ++ (wB cA bd ρ ++ ((tp, .inr (8, tpF ad bd)) :: (rest ++ X.set i x)))) := by
  rw [e]; exact wNewS
theorem wOldAt {cA ad pd bd tp} {τ π ρ : Sg} {rest X : va_W} {i : Nat} {x : Nat × va_E} (h : rest[i]? = some x) : (wB cA ad τ ++ (wPg cA ad pd π ++ (wB cA bd ρ ++ ((tp, .inr (8, tpF ad bd)) :: (rest ++ X)))))[i + 210]? = some x := by
  rw [wL_at, List.getElem?_append_left (List.getElem?_eq_some_iff.mp h).1]; exact h
theorem wP_l {D : va_G} {cl : List vw_C} {ws X : va_W} {H : Heap} (h : va_P D cl (ws ++ X) H) : va_P D cl ws H := fun k q hk => h k q (by rw [List.getElem?_append_left (List.getElem?_eq_some_iff.mp hk).1]; exact hk)
theorem wD_l {A : Nat → Prop} {ws X : va_W} (h : va_D A (ws ++ X)) : va_D A ws := ⟨fun i j p q hi hj e => h.1 i j p q (by rw [List.getElem?_append_left (List.getElem?_eq_some_iff.mp hi).1]; exact hi) (by rw [List.getElem?_append_left (List.getElem?_eq_some_iff.mp hj).1]; exact hj) e, fun k q hk => h.2 k q (by rw [List.getElem?_append_left (List.getElem?_eq_some_iff.mp hk).1]; exact hk)⟩
theorem ty_new {cA : Nat → ClassId} {tr : List (ClassId × FieldType)} {x : ClassId × FieldType} : (tyB cA ++ (tr ++ [x]))[tr.length + 5]? = some x := by
  rw [show tr.length + 5 = (tyB cA).length + tr.length from by rw [show (tyB cA).length = 5 from rfl]; omega, List.getElem?_append_right (by omega), Nat.add_sub_cancel_left, List.getElem?_append_right (Nat.le_refl _), Nat.sub_self]; rfl
section XLAW
variable {p : Program} {l : Launch} {e : Env} {R : Room} {s : State} {m : MethodId} {args : Array Value} {below : List Frame} {meth : Method} {c : Code} {H : Heap} {locs : List Loc} {cells slots : Nat} {Q : State → Prop}
variable {cc bytes : ByteArray} {pc nL maxL index n : Nat} {ls : Array Slot} {st0 rest0 As : List Value} {D : va_G} {tys : List (ClassId × FieldType)} {ws : va_W} {A0 : Nat → Prop} {H0 : Heap} {Ts wsy : List Cond} {own C : String} {y : MethodName} {ret : Option FieldType} {rm : Room} {mc ms : Nat}
/-- a static method that makes cells of its own, and leaves the world as it says -/
theorem x_SiN {S : Type} {post : Int32 → S → Prop} {wf : S → va_W} (F : CallFix p m c cc nL s args Ts own)
    (hM : Met l y wsy rm (va_Pc As (inW D tys ws H.size)) (va_Qi post (fun u => outW D tys (va_A ws H.size) (wf u)) (va_A ws H.size)) mc ms (va_A ws H.size))
    (cw : CallB R s args own index y bytes maxL ret wsy rm mc ms n ∧ (Cond.static y).before args s = true) (hK : va_K D vwCl tys s) (hP : va_P D vwCl ws H) (hD : va_D A0 ws) (hS : va_S A0 H0 H locs) (hA : ∀ q, H0.size ≤ q → A0 q)
    (hl : ls.size = nL) (hn : As.length = n) (hst : st0 = As.reverse ++ rest0) (hW : (rest0.map fun v => v.category).sum ≤ 8)
    (hf : cells + mc ≤ R.cells ∧ slots + ms ≤ R.slots) (hdg : decode cc pc = .ok (.invokestatic index, 3))
    (kk : ∀ (r : Int32) (u : S) (H1 : Heap) (locs1 : List Loc), post r u → va_P D vwCl (wf u) H1 → va_D A0 (wf u) → va_S A0 H0 H1 locs1 → W p l e R s m args below meth c H1 locs1 (cells + mc) (slots + ms) Q (F0 m (pc + 3) ls (.int r :: rest0))) :
    W p l e R s m args below meth c H locs cells slots Q (F0 m pc ls st0) := by
  have hFc := xA hD hS hA
  refine va_calli (va_runS (As := As) (rest := rest0) F hM cw ⟨fun a U g mk q => ⟨q.1, inW_blind q.2⟩, fun U hU hW => ⟨rfl, by rw [hU], by rw [hU]; exact hP, va_K.moved hW.alike hK, hD.weaken (fun _ _ _ _ => trivial)⟩⟩ rfl hn hl hst (lv_room hW) hdg ⟨hf.1, hf.2⟩) hS (fun q _ h => hFc q h) hFc (fun r u t H1 locs1 ht hvm hw hB hz1 hk1 hS1 => ?_)
  obtain ⟨hP1, hK1, hD1⟩ := hB
  rw [ht] at hP1
  exact kk r u H1 locs1 hw hP1 (hD1.weaken (fun k q _ h => hFc q.1 h)) hS1
/-- roads that meet, in the same world -/
theorem W_meet {pc2 : Nat} {g : JFrame} {cl : List vw_C} {lv : List (Nat × Value)} {nL2 : Nat} {st2 : List Value} (h : ∀ (H : Heap) (locs : List Loc) (ls : Array Slot), va_P D cl ws H → va_D A0 ws → va_S A0 H0 H locs → lv_has ls nL2 lv → W p l e R s m args below meth c H locs cells slots Q (F0 m pc2 ls st2))
    (k : (∀ (H : Heap) (locs : List Loc) (ls : Array Slot), va_P D cl ws H → va_D A0 ws → va_S A0 H0 H locs → lv_has ls nL2 lv → W p l e R s m args below meth c H locs cells slots Q (F0 m pc2 ls st2)) → W p l e R s m args below meth c H locs cells slots Q g) : W p l e R s m args below meth c H locs cells slots Q g := k h
end XLAW
