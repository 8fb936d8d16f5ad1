/-! the law: from its entry to its end -/
set_option maxHeartbeats 8000000 in
set_option maxRecDepth 100000 in
theorem whole_start {p : Program} {e : Env} {s : State} {m : MethodId} {below : List Frame} {meth : Method} {c : Code} (l : Launch) (hflags : l.flags = flags0) {b L : Nat} {xs : Nat → Int32} (hL : L ≤ 260) (C0 : lw_At p s m meth c b L xs) : W p l e room_1 s m #[Value.ref b] below meth c s.heap [] 0 0 (lw_Z below #[Value.ref b] s) (entryFrame m ([Value.ref b] : List Value).toArray 9) := by
  obtain ⟨hx, hb, hr, hml, hown, hts, hX, hbl, hlocks, hgv⟩ := id C0
  have hown : s.vm.findClass RL = some m.cls := hown
  have hs := flat_of_before _ hgv
  have htr : l.stackTraces = false := by unfold Launch.stackTraces; rw [hflags]; decide +kernel
  obtain ⟨A, eA⟩ : ∃ A : Nat → Prop, A = fun q => s.heap.size ≤ q := ⟨_, rfl⟩
  have hA : ∀ q, s.heap.size ≤ q → A q := fun q h => by rw [eA]; exact h
  have hA2 : ∀ q, A q → s.heap.size ≤ q := fun q h => by rw [eA] at h; exact h
  have hbA : ¬ A b := fun z => absurd (hA2 b z) (Nat.not_le.mpr hbl)
  have hA3 : ∀ a : Nat, a < s.heap.size → ¬ A a := fun a ha z => absurd (hA2 a z) (Nat.not_le.mpr ha)
  obtain ⟨c0, i0, h0⟩ := u_known (C := RX0) (T := TX0) (N := 2) (n := 2) hts (fun z hz => (gt_wsX00 z hz).1) (hts (.instantiable RX0 2) (by decide +kernel))
  obtain ⟨c1, i1, h1⟩ := u_known (C := RX1) (T := TX1) (N := 5) (n := 5) hts (fun z hz => (gt_wsX10 z hz).1) (hts (.instantiable RX1 5) (by decide +kernel))
  obtain ⟨c2, i2, h2⟩ := u_known (C := RX2) (T := TX2) (N := 3) (n := 3) hts (fun z hz => (gt_wsX20 z hz).1) (hts (.instantiable RX2 3) (by decide +kernel))
  obtain ⟨c3, i3, h3⟩ := u_known (C := RX3) (T := TX3) (N := 5) (n := 5) hts (fun z hz => (gt_wsX30 z hz).1) (hts (.instantiable RX3 5) (by decide +kernel))
  obtain ⟨c4, i4, h4⟩ := u_known (C := RX4) (T := TX4) (N := 3) (n := 3) hts (fun z hz => (gt_wsX40 z hz).1) (hts (.instantiable RX4 3) (by decide +kernel))
  obtain ⟨c5, i5, h5⟩ := u_known (C := RX5) (T := TX5) (N := 14) (n := 14) hts (fun z hz => (gt_wsX50 z hz).1) (hts (.instantiable RX5 14) (by decide +kernel))
  obtain ⟨c6, i6, h6⟩ := u_known (C := RX6) (T := TX6) (N := 12) (n := 12) hts (fun z hz => (gt_wsX60 z hz).1) (hts (.instantiable RX6 12) (by decide +kernel))
  obtain ⟨c7, i7, h7⟩ := u_known (C := RX7) (T := TX7) (N := 17) (n := 17) hts (fun z hz => (gt_wsX70 z hz).1) (hts (.instantiable RX7 17) (by decide +kernel))
  obtain ⟨c8, i8, h8⟩ := u_known (C := RX8) (T := TX8) (N := 7) (n := 7) hts (fun z hz => (gt_wsX80 z hz).1) (hts (.instantiable RX8 7) (by decide +kernel))
  obtain ⟨c9, i9, h9⟩ := u_known (C := RX9) (T := TX9) (N := 3) (n := 3) hts (fun z hz => (gt_wsX90 z hz).1) (hts (.instantiable RX9 3) (by decide +kernel))
  obtain ⟨dC, dI, hKc⟩ : ∃ (dC : Nat → ClassId) (dI : Nat → Nat → Nat), ∀ (k : Nat) (q : vw_C), vwCl[k]? = some q → u_Kn s q.1 q.2.1 q.2.2 (dC k) (dI k) := by
    refine ⟨fun k => match k with | 0 => c0 | 1 => c1 | 2 => c2 | 3 => c3 | 4 => c4 | 5 => c5 | 6 => c6 | 7 => c7 | 8 => c8 | _ => c9, fun k => match k with | 0 => i0 | 1 => i1 | 2 => i2 | 3 => i3 | 4 => i4 | 5 => i5 | 6 => i6 | 7 => i7 | 8 => i8 | _ => i9, ?_⟩
    intro k q hq
    match k, hq with
    | 0, hq => cases hq; exact h0
    | 1, hq => cases hq; exact h1
    | 2, hq => cases hq; exact h2
    | 3, hq => cases hq; exact h3
    | 4, hq => cases hq; exact h4
    | 5, hq => cases hq; exact h5
    | 6, hq => cases hq; exact h6
    | 7, hq => cases hq; exact h7
    | 8, hq => cases hq; exact h8
    | 9, hq => cases hq; exact h9
    | k + 10, hq => simp at hq
  obtain ⟨a0, k0, p0, e0, g0, t0⟩ := Cond.arrayClass_spec (hts (.arrayClass .int) (by decide +kernel))
  have o1 : va_AO RX7 s := va_AO.of (hts (.arrayOver (.object RX7)) (by decide +kernel))
  obtain ⟨p1, a1, k1, e1, _, g1, t1, m1⟩ := Cond.arrayOver_spec o1
  have o2 : va_AO RX5 s := va_AO.of (hts (.arrayOver (.object RX5)) (by decide +kernel))
  obtain ⟨p2, a2, k2, e2, _, g2, t2, m2⟩ := Cond.arrayOver_spec o2
  have o3 : va_AO RX2 s := va_AO.of (hts (.arrayOver (.object RX2)) (by decide +kernel))
  obtain ⟨p3, a3, k3, e3, _, g3, t3, m3⟩ := Cond.arrayOver_spec o3
  have o4 : va_AO RX1 s := va_AO.of (hts (.arrayOver (.object RX1)) (by decide +kernel))
  obtain ⟨p4, a4, k4, e4, _, g4, t4, m4⟩ := Cond.arrayOver_spec o4
  have o5 : va_AOA .int s := va_AOA.of (hts (.arrayOver (.array .int)) (by decide +kernel))
  have o6 : va_AOA (.array .int) s := va_AOA.of (hts (.arrayOver (.array (.array .int))) (by decide +kernel))
  obtain ⟨c20, y20, z20⟩ := AOA_ty o5
  obtain ⟨c30, y30, z30⟩ := AOA_ty o6
  obtain ⟨cA, ecA⟩ : ∃ f : Nat → ClassId, f = fun k => match k with | 0 => a0 | 1 => a1 | 2 => a2 | 3 => a3 | _ => a4 := ⟨_, rfl⟩
  have ecA0 : cA 0 = a0 := by subst ecA; rfl
  have hK : va_K (dC, dI) vwCl (tyB cA ++ [(c20, .array .int), (c30, .array (.array .int))]) s := by
    refine ⟨hKc, fun k q hq => ?_⟩
    rw [ecA] at hq
    match k, hq with
    | 0, hq => cases hq; exact ⟨fun N z => ⟨(fun k h => by cases h), k0, g0, p0, t0⟩, e0⟩
    | 1, hq => cases hq; exact ⟨fun N z => ⟨(fun k h => by cases h), k1, g1, p1, t1⟩, ⟨k1, p1, g1, t1, e1, m1⟩⟩
    | 2, hq => cases hq; exact ⟨fun N z => ⟨(fun k h => by cases h), k2, g2, p2, t2⟩, ⟨k2, p2, g2, t2, e2, m2⟩⟩
    | 3, hq => cases hq; exact ⟨fun N z => ⟨(fun k h => by cases h), k3, g3, p3, t3⟩, ⟨k3, p3, g3, t3, e3, m3⟩⟩
    | 4, hq => cases hq; exact ⟨fun N z => ⟨(fun k h => by cases h), k4, g4, p4, t4⟩, ⟨k4, p4, g4, t4, e4, m4⟩⟩
    | 5, hq => cases hq; exact ⟨y20, z20⟩
    | 6, hq => cases hq; exact ⟨y30, z30⟩
    | k + 7, hq => simp [tyB] at hq
  have hAE : AE c20 (cA 0) s := by
    obtain ⟨c9, e9, h9⟩ := AE.of o5 (show s.vm.findClass "[I" = some a0 from e0)
    have : c9 = c20 := Option.some.inj (e9.symm.trans z20)
    rw [ecA0, ← this]; exact h9
  obtain ⟨sa1, _, _, _, es1, _⟩ := Cond.exactly_spec (hs (.exactly (.string "ScopeRow" 178) "java/lang/String") (by decide +kernel))
  have hw1 : ∀ w ∈ bdw IOE, va_Nw w s := by
    intro w hw
    unfold bdw at hw
    rcases List.mem_cons.mp hw with e | hw
    · rw [e]; exact va_Nw.of rfl (hts _ (by decide +kernel))
    rcases List.mem_cons.mp hw with e | hw
    · rw [e]; exact va_Nw.of rfl (hts _ (by decide +kernel))
    rcases List.mem_cons.mp hw with e | hw
    · rw [e]; exact va_Nw.of rfl (hts _ (by decide +kernel))
    rcases List.mem_cons.mp hw with e | hw
    · rw [e]; exact va_Nw.of rfl (hts _ (by decide +kernel))
    · cases hw
  have hTH1 : TH IOE 178 "there is none of that number" sa1 A s s.heap := TH.of hw1 (vk_R.of (hts (.stringRef RX8 178 "there is none of that number") (by decide +kernel)) es1) (hts _ (by decide +kernel)) (hts _ (by decide +kernel)) (hs _ (by decide +kernel)) (hts _ (by decide +kernel)) (hs _ (by decide +kernel)) hA3
  obtain ⟨sa2, _, _, _, es2, _⟩ := Cond.exactly_spec (hs (.exactly (.string "ScopeRow" 106) "java/lang/String") (by decide +kernel))
  have hw2 : ∀ w ∈ bdw ISE, va_Nw w s := by
    intro w hw
    unfold bdw at hw
    rcases List.mem_cons.mp hw with e | hw
    · rw [e]; exact va_Nw.of rfl (hts _ (by decide +kernel))
    rcases List.mem_cons.mp hw with e | hw
    · rw [e]; exact va_Nw.of rfl (hts _ (by decide +kernel))
    rcases List.mem_cons.mp hw with e | hw
    · rw [e]; exact va_Nw.of rfl (hts _ (by decide +kernel))
    rcases List.mem_cons.mp hw with e | hw
    · rw [e]; exact va_Nw.of rfl (hts _ (by decide +kernel))
    · cases hw
  have hTH2 : TH ISE 106 "there are 24 tasks" sa2 A s s.heap := TH.of hw2 (vk_R.of (hts (.stringRef RX8 106 "there are 24 tasks") (by decide +kernel)) es2) (hts _ (by decide +kernel)) (hts _ (by decide +kernel)) (hs _ (by decide +kernel)) (hts _ (by decide +kernel)) (hs _ (by decide +kernel)) hA3
  have hNc : va_Nc ISE IOE s := va_Nc.of (hs (.not (.castable ISE IOE)) (by decide +kernel))
  have hN44 : va_Nw (.methodLinkNest RX6 44 yX1_init RX8) s := va_Nw.of rfl (hts _ (by decide +kernel))
  have hN11 : va_Nw (.methodLinkNest RX8 11 yX3_init RX8) s := va_Nw.of rfl (hts _ (by decide +kernel))
  have hN14 : va_Nw (.methodLinkNest RL 14 yX9_init RL) s := va_Nw.of rfl (hts _ (by decide +kernel))
  have hN32 : va_Nw (.methodLinkNest RX9 32 yL_below RL) s := va_Nw.of rfl (hts _ (by decide +kernel))
  have hN99 : va_Nw (.fieldLinkNest RL 99 RX9 "lines" "[[[I" RL) s := va_Nw.of rfl (hts _ (by decide +kernel))
  have hE8 : EX8 s := ⟨⟨o1, o2, o3, o4, hN44⟩, hN11⟩
  have hE9 : EX9 s := ⟨o5, o6⟩
  have hL2 : L < 2 ^ 31 := by omega
  have hl := lv_entry ([.ref b]) (n := 9) (Nat.le_of_ble_eq_true rfl)
  rw [lg_entry_eq]
  generalize (lg_sl ([.ref b]) ++ List.replicate (9 - (lg_sl ([.ref b])).length) Slot.unset).toArray = ls at hl ⊢
  have hl : lv_has ls 9 [(0, .ref b)] := hl
  refine law_A l hx hb hml hown hts hK hA hE8 hE9 hN14 (j2 := 0) (j3 := 1) rfl rfl hl (fun ad pd bd tp oq la sq lb H locs ls h102 hl hP hD hS => ?_)
  refine law_B l hx hb hml hown hts hK hA ad pd bd tp oq s0 (fun _ _ => 0) s0 (oW (cA 0) c20 c30 oq la sq (nI 0) lb (fun _ _ => none) (fun _ => 0)) hl hP hD hS (fun qk kf H locs ls hkf hl hP hD hS => ?_)
  refine law_C l hx hb hml hown hts hK hA ad pd bd tp h102 (j2 := 0) (j3 := 1) rfl rfl oq la sq lb hX hL2 hbl hbA hAE hN32 qk kf hkf (fun _ _ => 0) _ OI0 hl hP hD hS (fun π R H locs ls hO hl hP hD hS => ?_)
  refine law_D l hx hb hml hown hts hK hA ad pd bd tp (j2 := 0) rfl oq qk o5 s0 π s0 R hl hP hD hS (fun lq cq lr cr H locs ls hl hP hD hS => ?_)
  obtain ⟨R0, eR0⟩ : ∃ z : va_W, z = R ++ XX (cA 0) c20 lq lr cq cr (fun _ _ => 0) (fun _ _ => 0) := ⟨_, rfl⟩
  rw [← eR0] at hP hD
  refine law_E l hx hb hml hown hts hK hA htr ad pd bd tp h102 (j2 := 0) (j3 := 1) rfl rfl oq la sq lb _ hX hL2 hbl hbA sa1 sa2 _ _ hTH1 hTH2 hNc hN99 lq cq lr cr qk R hO R0 eR0 hl hP hD hS (fun τ R1 T S t U st H locs ls h hFL ht hU hl hP hD hS => ?_)
  obtain ⟨_, _, _, _, hIP, _, _, _, hPB⟩ := id hO
  refine law_F l hx hb hml hown hts hK hA ad pd bd tp h102 lq cq qk oq R1 h hFL ht hU hIP hPB hl hP hD hS (fun H locs ls hS => ?_)
  refine va_forget (fun q hq => hA2 _ (hS.2.2 q hq)) ?_
  refine W.widen (k := 600104) (n := 7301314) (by omega) (by omega) ?_
  exact lw_ret hx hb hr hlocks dL_law_662
