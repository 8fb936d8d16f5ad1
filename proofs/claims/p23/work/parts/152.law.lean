/-! the law: its calls -/
theorem vx_noX {l : Launch} {y : MethodName} {ws : List Cond} {rm : Room} {Pc : Array Value → State → Prop} {Qc : Array Value → State → Outcome → State → Prop} {mc ms : Nat} {free : Addr → Prop} (h : vx_Met l y ws rm Pc Qc (fun _ _ _ => False) mc ms free) : vx_Met l y ws rm Pc Qc (vx_X (fun _ : Unit => False) (fun _ _ _ => False) (fun _ => False)) mc ms free := by
  have e : (fun _ _ _ => False : String → State → State → Prop) = vx_X (fun _ : Unit => False) (fun _ _ _ => False) (fun _ => False) := by
    funext E st t
    simp [vx_X]
  rw [← e]; exact h
theorem TH.of {E tx : String} {is sa : Nat} {A : Nat → Prop} {s : State} {args : Array Value} (hw : ∀ w ∈ bdw E, va_Nw w s) (h1 : vk_R RX8 is tx sa s) (h2 : (Cond.laysStatic Bundle.tN "UNASSIGNED_STACK" Bundle.steD).before args s = true) (h3 : (Cond.initialized Bundle.tN).before args s = true) (h4 : (Cond.isRef (.static Bundle.tN "UNASSIGNED_STACK" Bundle.steD)).before args s = true) (h5 : (Cond.laysStatic Bundle.tN "SUPPRESSED_SENTINEL" Bundle.listD).before args s = true) (h6 : (Cond.isRef (.static Bundle.tN "SUPPRESSED_SENTINEL" Bundle.listD)).before args s = true) (hA : ∀ a : Nat, a < s.heap.size → ¬ A a) : TH E is tx sa A s s.heap :=
  ⟨hw, h1, vx_Zqof h2 h3 h4 hA, vx_Zqof h5 h3 h6 hA⟩
section XLAW3
variable {p : Program} {l : Launch} {e : Env} {R : Room} {s : State} {m : MethodId} {args : Array Value} {below : List Frame} {meth : Method} {c : Code} {H : Heap} {locs : List Loc} {cells slots : Nat} {Q : State → Prop}
variable {cc bytes : ByteArray} {pc nL maxL index n : Nat} {ls : Array Slot} {st0 rest0 As : List Value} {D : va_G} {tys : List (ClassId × FieldType)} {ws : va_W} {A0 : Nat → Prop} {H0 : Heap} {Ts wsy : List Cond} {own : String} {y : MethodName} {ret : Option FieldType} {rm : Room} {mc ms : Nat} {hh : List (Nat × Nat × Nat × Nat)}
/-- a static method with a table of its own, out of which nothing comes -/
theorem x_SiX {S : Type} {post : Int32 → S → Prop} {wf : S → va_W} (E : State → Prop) (hE1 : ∀ (U : State) (g : JFrame) (mk : MethodId) (a : Array Value), E U → E (U.calling g mk a)) (hE2 : ∀ U : State, U.heap = H → s.WarmedH U.vm → E U) (F : CallFix p m c cc nL s args Ts own)
    (hM : vx_Met l y wsy rm (va_Pc As (fun U => inW D tys ws H.size U ∧ E U)) (va_Qi post (fun u => outW D tys (va_A ws H.size) (wf u)) (va_A ws H.size)) (fun _ _ _ => False) mc ms (va_A ws H.size))
    (cw : vx_CSW R s args own index y bytes maxL ret hh wsy rm mc ms n) (hK : va_K D vwCl tys s) (hP : va_P D vwCl ws H) (hD : va_D A0 ws) (hS : va_S A0 H0 H locs) (hA : ∀ q, H0.size ≤ q → A0 q)
    (hl : ls.size = nL) (hn : As.length = n) (hst : st0 = As.reverse ++ rest0) (hW : (rest0.map fun v => v.category).sum ≤ 8)
    (hf : cells + mc ≤ R.cells ∧ slots + ms ≤ R.slots) (hdg : decode cc pc = .ok (.invokestatic index, 3))
    (kk : ∀ (r : Int32) (u : S) (H1 : Heap) (locs1 : List Loc), post r u → va_P D vwCl (wf u) H1 → va_D A0 (wf u) → va_S A0 H0 H1 locs1 → W p l e R s m args below meth c H1 locs1 (cells + mc) (slots + ms) Q (F0 m (pc + 3) ls (.int r :: rest0))) :
    W p l e R s m args below meth c H locs cells slots Q (F0 m pc ls st0) := by
  have hFc := xA hD hS hA
  refine vx_calli (mc := mc) (ms := ms) (vx_runSX (As := As) (rest := rest0) F (vx_noX hM) cw ⟨fun a U g mk q => ⟨q.1, inW_blind q.2.1, hE1 _ _ _ _ q.2.2⟩, fun U hU hW => ⟨rfl, ⟨by rw [hU], by rw [hU]; exact hP, va_K.moved hW.alike hK, hD.weaken (fun _ _ _ _ => trivial)⟩, hE2 U hU hW⟩⟩ rfl hn hl hst (lv_room hW) hdg ⟨hf.1, hf.2⟩) hS (fun q _ h => hFc q h) hFc (fun _ _ h => h.elim) (fun E ce q9 u t H1 locs1 ht hvm hpo => hpo.elim) (fun r u t H1 locs1 ht hvm hw hB hz1 hk1 hS1 => ?_)
  obtain ⟨hP1, hK1, hD1⟩ := hB
  rw [ht] at hP1
  exact kk r u H1 locs1 hw hP1 (hD1.weaken (fun k q _ h => hFc q.1 h)) hS1
end XLAW3
/-- the script lies where it lay -/
theorem x_scr {s : State} {H : Heap} {locs : List Loc} {A : Nat → Prop} {b L : Nat} {xs : Nat → Int32} (hX : va_X b L xs s s.heap) (hbl : b < s.heap.size) (hbA : ¬ A b) (hS : va_S A s.heap H locs) : va_X b L xs s H := by
  obtain ⟨scr, h1, h2⟩ := hX
  exact ⟨scr, by rw [hS.2.1 b hbl hbA]; exact h1, h2⟩
theorem XE.call {b L : Nat} {xs : Nat → Int32} {U : State} {g : JFrame} {mk : MethodId} {a : Array Value} (h : XE b L xs U) : XE b L xs (U.calling g mk a) := va_X.moved (u := U) (U := U.calling g mk a) (Vm.Alike.refl U.vm) h
theorem XE.warm {b L : Nat} {xs : Nat → Int32} {s U : State} {H : Heap} (h : va_X b L xs s H) (hU : U.heap = H) (hW : s.WarmedH U.vm) : XE b L xs U := by
  show va_X b L xs U U.heap
  rw [hU]; exact va_X.moved hW.alike h
theorem AE.call {c2 c1 : ClassId} {U : State} {g : JFrame} {mk : MethodId} {a : Array Value} (h : AE c2 c1 U) : AE c2 c1 (U.calling g mk a) := AE.moved (u := U) (U := U.calling g mk a) (Vm.Alike.refl U.vm) h
