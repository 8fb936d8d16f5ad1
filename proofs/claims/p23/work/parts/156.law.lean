/-! the law: its two rows of rows -/
def xO (c2 : ClassId) (n q : Nat) (r : Nat → Nat) : Nat × va_E := (q, .inl (c2, n, .inr (.inr (.inr (.inr (fun i => if i < n then some (r i) else none))))))
def xR (c0 : ClassId) (n : Nat) (r : Nat → Nat) (F : Nat → Nat → Int32) : va_W := (List.range n).map (fun i => (r i, .inl (c0, 2, .inl (F i))))
def XX (c0 c2 : ClassId) (lq : Nat) (lr : Nat → Nat) (cq : Nat) (cr : Nat → Nat) (F G : Nat → Nat → Int32) : va_W := xO c2 24 lq lr :: (xR c0 24 lr F ++ (xO c2 40 cq cr :: xR c0 40 cr G))
section XX
variable {c0 c2 : ClassId} {lq cq : Nat} {lr cr : Nat → Nat} {F G : Nat → Nat → Int32}
theorem xR_len {n : Nat} {r : Nat → Nat} : (xR c0 n r F).length = n := by simp [xR]
theorem xR_at {n : Nat} {r : Nat → Nat} {i : Nat} (hi : i < n) : (xR c0 n r F)[i]? = some (r i, .inl (c0, 2, .inl (F i))) := by simp [xR, hi]
theorem xR_set {n : Nat} {r : Nat → Nat} {i : Nat} (hi : i < n) {g : Nat → Int32} : (xR c0 n r F).set i (r i, .inl (c0, 2, .inl g)) = xR c0 n r (fun j => if j = i then g else F j) := by
  apply List.ext_getElem?
  intro a
  by_cases ha : a = i
  · subst ha
    rw [List.getElem?_set_self (by rw [xR_len]; exact hi), xR_at hi, if_pos rfl]
  · rw [List.getElem?_set_ne (Ne.symm ha)]
    by_cases h1 : a < n
    · rw [xR_at h1, xR_at h1, if_neg ha]
    · rw [List.getElem?_eq_none (by rw [xR_len]; omega), List.getElem?_eq_none (by rw [xR_len]; omega)]
theorem XX_0 : (XX c0 c2 lq lr cq cr F G)[0]? = some (xO c2 24 lq lr) := rfl
theorem XX_F {i : Nat} (hi : i < 24) : (XX c0 c2 lq lr cq cr F G)[i + 1]? = some (lr i, .inl (c0, 2, .inl (F i))) := by
  show (xR c0 24 lr F ++ _)[i]? = _
  rw [List.getElem?_append_left (by rw [xR_len]; exact hi)]; exact xR_at hi
theorem XX_25 : (XX c0 c2 lq lr cq cr F G)[25]? = some (xO c2 40 cq cr) := by
  show (xR c0 24 lr F ++ _)[24]? = _
  rw [List.getElem?_append_right (by rw [xR_len]; omega), xR_len]; rfl
theorem XX_G {i : Nat} (hi : i < 40) : (XX c0 c2 lq lr cq cr F G)[i + 26]? = some (cr i, .inl (c0, 2, .inl (G i))) := by
  show (xR c0 24 lr F ++ _)[i + 25]? = _
  rw [List.getElem?_append_right (by rw [xR_len]; omega), xR_len, show i + 25 - 24 = i + 1 by omega]; exact xR_at hi
theorem XX_setF {i : Nat} (hi : i < 24) {g : Nat → Int32} : (XX c0 c2 lq lr cq cr F G).set (i + 1) (lr i, .inl (c0, 2, .inl g)) = XX c0 c2 lq lr cq cr (fun j => if j = i then g else F j) G := by
  show xO c2 24 lq lr :: (xR c0 24 lr F ++ _).set i _ = _
  rw [List.set_append_left _ _ (by rw [xR_len]; exact hi), xR_set hi]; rfl
theorem XX_setG {i : Nat} (hi : i < 40) {g : Nat → Int32} : (XX c0 c2 lq lr cq cr F G).set (i + 26) (cr i, .inl (c0, 2, .inl g)) = XX c0 c2 lq lr cq cr F (fun j => if j = i then g else G j) := by
  show xO c2 24 lq lr :: (xR c0 24 lr F ++ _).set (i + 25) _ = _
  rw [List.set_append_right _ _ (by rw [xR_len]; omega), xR_len, show i + 25 - 24 = i + 1 by omega]
  show _ :: (_ ++ (xO c2 40 cq cr :: (xR c0 40 cr G).set i _)) = _
  rw [xR_set hi]; rfl
end XX
set_option maxHeartbeats 4000000 in
set_option maxRecDepth 100000 in
theorem law_D (l : Launch) {p : Program} {e : Env} {s : State} {m : MethodId} {below : List Frame} {meth : Method} {c : Code} {b : Nat} {Q : State → Prop} (hx : p.tables.exec = Jvm.exec) (hb : c.code = code) (hml : c.maxLocals = 9) (hown : s.vm.findClass RL = some m.cls) (hts : ∀ w ∈ lw_tbl, w.before #[Value.ref b] s = true) {D : va_G} {cA : Nat → ClassId} {tr : List (ClassId × FieldType)} (hK : va_K D vwCl (tyB cA ++ tr) s) {A : Nat → Prop} (hA : ∀ q, s.heap.size ≤ q → A q) (ad pd bd : Nat → Nat) (tp : Nat) {c2 : ClassId} {j2 : Nat} (ht2 : tr[j2]? = some (c2, .array .int)) (oq qk : Nat) (hAO : va_AOA .int s) (τ π ρ : Sg) (R : va_W) {H : Heap} {locs : List Loc} {ls : Array Slot} (hl : lv_has ls 9 [(3, .ref qk), (2, .ref oq), (1, .ref tp), (0, .ref b)]) (hP : va_P D vwCl (wB cA ad τ ++ (wPg cA ad pd π ++ (wB cA bd ρ ++ ((tp, .inr (8, tpF ad bd)) :: R)))) H) (hD : va_D A (wB cA ad τ ++ (wPg cA ad pd π ++ (wB cA bd ρ ++ ((tp, .inr (8, tpF ad bd)) :: R))))) (hS : va_S A s.heap H locs) (kk : ∀ (lq cq : Nat) (lr cr : Nat → Nat) (H : Heap) (locs : List Loc) (ls : Array Slot), lv_has ls 9 [(5, .ref cq), (4, .ref lq), (3, .ref qk), (2, .ref oq), (1, .ref tp), (0, .ref b)] → va_P D vwCl (wB cA ad τ ++ (wPg cA ad pd π ++ (wB cA bd ρ ++ ((tp, .inr (8, tpF ad bd)) :: (R ++ XX (cA 0) c2 lq lr cq cr (fun _ _ => 0) (fun _ _ => 0)))))) H → va_D A (wB cA ad τ ++ (wPg cA ad pd π ++ (wB cA bd ρ ++ ((tp, .inr (8, tpF ad bd)) :: (R ++ XX (cA 0) c2 lq lr cq cr (fun _ _ => 0) (fun _ _ => 0)))))) → va_S A s.heap H locs → W p l e room_1 s m #[Value.ref b] below meth c H locs 348 3307 Q (F0 m 336 ls [])) : W p l e room_1 s m #[Value.ref b] below meth c H locs (222 + 12 * 5) (2935 + 36 * 5) Q (F0 m 318 ls []) := by
  refine lv_bipush (v := 24) hx hb dL_law_318 (by decide) ?_
  refine lv_iconst (v := 2) hx hb dL_law_320 (by decide) ?_
  refine x_mna (ty := .int) (N' := 24) (K' := 2) (z := (2, .inl (fun _ => 0))) hx hb (j2 + 5) hown (by rw [show ("[" ++ (FieldType.array .int).toString) = "[[I" from by decide]; exact hts (.classLink RL 37 "[[I") (by decide +kernel)) hAO (hts (.arrayClass .int) (by decide +kernel)) (hK.2 0 (cA 0, .int) rfl).2 hK (ty_at ht2) hP hD hS hA (by decide) (by decide) rfl rfl (Nat.le_of_ble_eq_true rfl) (Nat.le_of_ble_eq_true rfl) (Nat.le_of_ble_eq_true rfl) rfl rfl (Nat.le_of_ble_eq_true rfl) (Nat.le_of_ble_eq_true rfl) (fun c => arrV_new c 2 (.int 0)) dL_law_321 (fun lq lr H hP hD hS => ?_)
  rw [wL_app] at hP hD
  refine W.widen (k := 307) (n := 3187) (by omega) (by omega) ?_
  refine lv_astore (lv' := [(4, .ref lq), (3, .ref qk), (2, .ref oq), (1, .ref tp), (0, .ref b)]) hx hb dL_law_325 hl (by decide) rfl (fun ls hl => ?_)
  refine lv_bipush (v := 40) hx hb dL_law_327 (by decide) ?_
  refine lv_iconst (v := 2) hx hb dL_law_329 (by decide) ?_
  refine x_mna (ty := .int) (N' := 40) (K' := 2) (z := (2, .inl (fun _ => 0))) hx hb (j2 + 5) hown (by rw [show ("[" ++ (FieldType.array .int).toString) = "[[I" from by decide]; exact hts (.classLink RL 37 "[[I") (by decide +kernel)) hAO (hts (.arrayClass .int) (by decide +kernel)) (hK.2 0 (cA 0, .int) rfl).2 hK (ty_at ht2) hP hD hS hA (by decide) (by decide) rfl rfl (Nat.le_of_ble_eq_true rfl) (Nat.le_of_ble_eq_true rfl) (Nat.le_of_ble_eq_true rfl) rfl rfl (Nat.le_of_ble_eq_true rfl) (Nat.le_of_ble_eq_true rfl) (fun c => arrV_new c 2 (.int 0)) dL_law_330 (fun cq cr H hP hD hS => ?_)
  rw [wL_app] at hP hD
  refine W.widen (k := 348) (n := 3307) (by omega) (by omega) ?_
  refine lv_astore (lv' := [(5, .ref cq), (4, .ref lq), (3, .ref qk), (2, .ref oq), (1, .ref tp), (0, .ref b)]) hx hb dL_law_334 hl (by decide) rfl (fun ls hl => ?_)
  rw [List.append_assoc] at hP hD
  exact kk lq cq lr cr H locs ls hl hP hD hS
