/-! WHAT HOLDS OF ALL, family by family; each with what most moves do to it -/
theorem Fr.dead {τ σ : Sg} (h : Fr τ σ) {k : Nat} (hk : k < 40) (hl : m_isLive τ k ≠ true) : σ (k + 54) 5 = τ (k + 54) 5 := by
  by_cases e : σ (k + 54) 5 = τ (k + 54) 5
  · exact e
  · exact absurd (h.2.2.1 k hk e) hl
/-- how many there are, and which states -/
def IT (τ : Sg) (T S : Nat) : Prop := T ≤ 24 ∧ S ≤ 40 ∧ τ 0 1 = nI T ∧ τ 0 3 = nI S ∧ (∀ q, q < T → ali τ q ∨ ovr τ q) ∧ (∀ q, T ≤ q → q < 24 → τ (q + 6) 3 = -1 ∧ τ (q + 6) 6 = -1 ∧ τ (q + 6) 7 = -1 ∧ τ (q + 6) 8 = 0 ∧ τ (q + 6) 9 = 0 ∧ τ (q + 6) 4 = 0) ∧
  (∀ k, k < S → τ (k + 54) 1 = 0 ∨ τ (k + 54) 1 = 1 ∨ τ (k + 54) 1 = 2) ∧ ∀ k, S ≤ k → k < 40 → τ (k + 54) 1 = -1 ∧ τ (k + 54) 5 = 0 ∧ τ (k + 54) 10 = 0 ∧ τ (k + 54) 11 = 0 ∧ τ (k + 54) 12 = 0 ∧ τ (k + 54) 13 = -1
theorem not_live {τ : Sg} {k : Nat} (h : τ (k + 54) 1 = -1) : m_isLive τ k ≠ true := by
  intro z
  rcases live_iff.mp z with e | e <;> rw [h] at e <;> exact absurd e (by decide)
theorem not_live2 {τ : Sg} {k : Nat} (h : τ (k + 54) 1 = 2) : m_isLive τ k ≠ true := by
  intro z
  rcases live_iff.mp z with e | e <;> rw [h] at e <;> exact absurd e (by decide)
theorem IT.fr {τ σ : Sg} {T S : Nat} (h : IT τ T S) (hf : Fr τ σ) : IT σ T S := by
  obtain ⟨a, b, c, d, e, f, g, j⟩ := h
  refine ⟨a, b, by rw [hf.2.2.2 1 (by omega)]; exact c, by rw [hf.2.2.2 3 (by omega)]; exact d, fun q hq => ?_, fun q h1 h2 => ?_, fun k hk => ?_, fun k h1 h2 => ?_⟩
  · rcases e q hq with z | z
    · exact Or.inl ((hf.al (by omega)).mpr z)
    · exact Or.inr ((hf.ovq (by omega)).mpr z)
  · obtain ⟨e3, e6, e7, e8, e9, e4⟩ := f q h1 h2
    have ov := hf.ov h2 (by rw [e3]; decide) (by rw [e3]; decide)
    rw [ov 3, ov 6, ov 7, ov 8, ov 9, ov 4]; exact ⟨e3, e6, e7, e8, e9, e4⟩
  · rw [hf.sc (b := 1) (by omega) (by decide)]; exact g k hk
  · obtain ⟨e1, e5, e10, e11, e12, e13⟩ := j k h1 h2
    rw [hf.dead h2 (not_live e1), hf.sc (b := 1) h2 (by decide), hf.sc (b := 10) h2 (by decide), hf.sc (b := 11) h2 (by decide), hf.sc (b := 12) h2 (by decide), hf.sc (b := 13) h2 (by decide)]
    exact ⟨e1, e5, e10, e11, e12, e13⟩
/-- a TASK that isn't over was made -/
theorem IT.lt {τ : Sg} {T S : Nat} (h : IT τ T S) {q : Nat} (hq : q < 24) (hn : τ (q + 6) 3 ≠ -1) : q < T := by
  rcases Nat.lt_or_ge q T with z | z
  · exact z
  · exact absurd (h.2.2.2.2.2.1 q z hq).1 hn
theorem IT.ltA {τ : Sg} {T S : Nat} (h : IT τ T S) {q : Nat} (hq : q < 24) (ha : ali τ q) : q < T := h.lt hq (by
  rcases ha with e | e <;> rw [e] <;> decide)
theorem IT.slt {τ : Sg} {T S : Nat} (h : IT τ T S) {k : Nat} (hk : k < 40) (hn : τ (k + 54) 1 ≠ -1) : k < S := by
  rcases Nat.lt_or_ge k S with z | z
  · exact z
  · exact absurd (h.2.2.2.2.2.2.2 k z hk).1 hn
theorem IT.sltL {τ : Sg} {T S : Nat} (h : IT τ T S) {k : Nat} (hk : k < 40) (hl : m_isLive τ k = true) : k < S := h.slt hk (fun e => not_live e hl)
/-- the stacks; of those that are over they are empty -/
def IS (τ : Sg) (r : Option Nat) (st : Nat → List Nat) : Prop := Stacks τ r st ∧ ∀ q, q < 24 → ¬ ali τ q → st q = []
theorem IS.fr {τ σ : Sg} {r : Option Nat} {st : Nat → List Nat} (h : IS τ r st) (hf : Fr τ σ) : IS σ r st := by
  refine ⟨⟨fun o ho => ?_, fun k hk hl => h.1.2 k hk ?_⟩, fun q hq hn => h.2 q hq (fun z => hn ((hf.al hq).mpr z))⟩
  · have hlt : ∀ k ∈ st o, k < 40 := Chain.lt _ _ (h.1.1 o ho).1
    exact (h.1.1 o ho).keep (hf.fld ho (by omega)) (hf.fld ho (by omega)) (fun k hk => ⟨hf.sc (hlt k hk) (by decide), hf.sc (hlt k hk) (by decide), hf.sc (hlt k hk) (by decide)⟩) (fun _ => hf.mode ho r)
  · rw [← hf.live hk]; exact hl
/-- who opened a SCOPE, and what lies outwards -/
def IU (τ : Sg) (T S : Nat) : Prop := ∀ k, k < S → ∃ o, o < T ∧ τ (k + 54) 2 = nI o ∧ ((τ (k + 54) 3 = -1 ∧ τ (k + 54) 4 = τ (o + 6) 6) ∨ ∃ q, q < k ∧ τ (k + 54) 3 = nI q ∧ τ (k + 54) 4 = nI q)
theorem IU.fr {τ σ : Sg} {T S : Nat} (h : IU τ T S) (hT : T ≤ 24) (hS : S ≤ 40) (hf : Fr τ σ) : IU σ T S := fun k hk => by
  obtain ⟨o, h1, h2, h3⟩ := h k hk
  refine ⟨o, h1, ?_, ?_⟩
  · rw [hf.sc (b := 2) (by omega) (by decide)]; exact h2
  · rw [hf.sc (b := 3) (by omega) (by decide), hf.sc (b := 4) (by omega) (by decide), hf.fld (q := o) (b := 6) (by omega) (by omega)]; exact h3
/-- who is IN a SCOPE -/
def E1 (τ : Sg) (S : Nat) (x : Option Nat) : Prop := ∀ q, q < 24 → τ (q + 6) 6 = -1 ∨ ∃ k, k < S ∧ τ (q + 6) 6 = nI k ∧ (∃ o, o < q ∧ τ (k + 54) 2 = nI o) ∧ ((ali τ q ∨ x = some q) → m_isLive τ k = true)
theorem E1.fr {τ σ : Sg} {S : Nat} {x : Option Nat} (h : E1 τ S x) (hS : S ≤ 40) (hf : Fr τ σ) : E1 σ S x := fun q hq => by
  rw [hf.fld (q := q) (b := 6) hq (by omega)]
  rcases h q hq with a | ⟨k, a1, a2, ⟨o, a3, a4⟩, a5⟩
  · exact Or.inl a
  · refine Or.inr ⟨k, a1, a2, ⟨o, a3, ?_⟩, fun z => ?_⟩
    · rw [hf.sc (b := 2) (by omega) (by decide)]; exact a4
    · rw [hf.live (by omega)]
      exact a5 (z.elim (fun y => Or.inl ((hf.al hq).mp y)) Or.inr)
def isI (τ : Sg) (k q : Nat) : Bool := decide (τ (q + 6) 6 = nI k)
def ovI (τ : Sg) (x : Option Nat) (k q : Nat) : Bool := decide (τ (q + 6) 6 = nI k ∧ ovr τ q ∧ x ≠ some q)
def faI (τ : Sg) (x : Option Nat) (k q : Nat) : Bool := decide (τ (q + 6) 6 = nI k ∧ τ (q + 6) 3 = 3 ∧ x ≠ some q)
def E2 (τ : Sg) (S : Nat) (x : Option Nat) : Prop := ∀ k, k < S → τ (k + 54) 10 = nI (cnt (isI τ k) 24) ∧ τ (k + 54) 11 = nI (cnt (ovI τ x k) 24) ∧ τ (k + 54) 12 = nI (cnt (faI τ x k) 24)
theorem E2.fr {τ σ : Sg} {S : Nat} {x : Option Nat} (h : E2 τ S x) (hS : S ≤ 40) (hf : Fr τ σ) : E2 σ S x := fun k hk => by
  have e1 : cnt (isI σ k) 24 = cnt (isI τ k) 24 := cnt_congr 24 (fun q hq => by
    unfold isI; rw [hf.fld (q := q) (b := 6) hq (by omega)])
  have e2 : cnt (ovI σ x k) 24 = cnt (ovI τ x k) 24 := cnt_congr 24 (fun q hq => by
    unfold ovI; rw [decide_eq_decide, hf.fld (q := q) (b := 6) hq (by omega), hf.ovq hq])
  have e3 : cnt (faI σ x k) 24 = cnt (faI τ x k) 24 := cnt_congr 24 (fun q hq => by
    unfold faI; rw [decide_eq_decide, hf.fld (q := q) (b := 6) hq (by omega), hf.is hq (by decide) (by decide)])
  rw [e1, e2, e3, hf.sc (b := 10) (by omega) (by decide), hf.sc (b := 11) (by omega) (by decide), hf.sc (b := 12) (by omega) (by decide)]
  exact h k hk
/-- the first that failed in it -/
def E3 (τ : Sg) (S : Nat) (x : Option Nat) : Prop := ∀ k, k < S → (τ (k + 54) 13 = -1 ∧ ∀ q, q < 24 → τ (q + 6) 6 = nI k → τ (q + 6) 3 = 3 → x = some q) ∨ ∃ q, q < 24 ∧ τ (k + 54) 13 = nI q ∧ τ (q + 6) 6 = nI k ∧ τ (q + 6) 3 = 3 ∧ x ≠ some q ∧ τ (k + 54) 5 ≠ 0
theorem E3.fr {τ σ : Sg} {S : Nat} {x : Option Nat} (h : E3 τ S x) (hS : S ≤ 40) (hf : Fr τ σ) : E3 σ S x := fun k hk => by
  rw [hf.sc (b := 13) (by omega) (by decide)]
  rcases h k hk with ⟨a1, a2⟩ | ⟨q, a1, a2, a3, a4, a5, a6⟩
  · refine Or.inl ⟨a1, fun q hq h1 h2 => a2 q hq ?_ ?_⟩
    · rw [← hf.fld (q := q) (b := 6) hq (by omega)]; exact h1
    · exact (hf.is hq (by decide) (by decide)).mp h2
  · refine Or.inr ⟨q, a1, a2, ?_, ?_, a5, ?_⟩
    · rw [hf.fld (q := q) (b := 6) a1 (by omega)]; exact a3
    · exact (hf.is a1 (by decide) (by decide)).mpr a4
    · rcases hf.can (k := k) (by omega) with z | z
      · rw [z]; exact a6
      · rw [z.2]; decide
/-- one that is LEAVING waits for somebody -/
def E4 (τ : Sg) (S : Nat) (x : Option Nat) : Prop := ∀ k, k < S → τ (k + 54) 1 = 1 → ∃ q, q < 24 ∧ τ (q + 6) 6 = nI k ∧ (ali τ q ∨ x = some q)
theorem E4.fr {τ σ : Sg} {S : Nat} {x : Option Nat} (h : E4 τ S x) (hS : S ≤ 40) (hf : Fr τ σ) : E4 σ S x := fun k hk h1 => by
  rw [hf.sc (b := 1) (by omega) (by decide)] at h1
  obtain ⟨q, a1, a2, a3⟩ := h k hk h1
  refine ⟨q, a1, ?_, a3.elim (fun y => Or.inl ((hf.al a1).mpr y)) Or.inr⟩
  rw [hf.fld (q := q) (b := 6) a1 (by omega)]; exact a2
/-- a FAIL has a number -/
def E5 (τ : Sg) : Prop := ∀ q, q < 24 → τ (q + 6) 3 = 3 → 0 < τ (q + 6) 5
theorem E5.fr {τ σ : Sg} (h : E5 τ) (hf : Fr τ σ) : E5 σ := fun q hq h3 => by
  have e := (hf.is hq (v := 3) (by decide) (by decide)).mp h3
  rw [hf.ov hq (by rw [e]; decide) (by rw [e]; decide) 5]
  exact h q hq e
/-- one that WAITS, not for a SCOPE, isn't HIT -/
def IH (τ : Sg) : Prop := ∀ q, q < 24 → τ (q + 6) 3 = 1 → τ (q + 6) 9 ≠ 5 → m_isHit τ q (-1) = false
theorem IH.fr {τ σ : Sg} (h : IH τ) (hf : Fr τ σ) (hc : ∀ k, k < 40 → σ (k + 54) 5 = τ (k + 54) 5) : IH σ := fun q hq h3 h9 => by
  obtain ⟨e, ee⟩ := hf.wt hq h3
  rw [← h q hq e (by rw [← ee 9]; exact h9)]
  refine isHit_congr (fun k hk b hb => ?_) (ee 6) (ee 7)
  rcases hb with z | z | z | z
  · rw [z]; exact hf.sc hk (by decide)
  · rw [z]; exact hf.sc hk (by decide)
  · rw [z]; exact hc k hk
  · rw [z]; exact hf.sc hk (by decide)
theorem ih_cancel {τ : Sg} {r : Option Nat} {k : Nat} (hk : k < 40) (hR : RS τ r) (h : IH τ) : IH (m_cancelScope τ k) := by
  obtain ⟨⟨L, hL⟩, hr⟩ := hR
  obtain ⟨_, g2, g3, g4⟩ := cancel_spec hk hL (fun i hi => (hr i hi).2)
  cases c : m_cancels τ k with
  | false => rw [g4 c]; exact h
  | true =>
    obtain ⟨c1, c2⟩ := g3 c
    intro q hq h3 h9
    have e9 : m_cancelScope τ k (q + 6) 9 = τ (q + 6) 9 := g2 _ _ (by omega) (by omega) (by omega) (by omega)
    have e : m_isHit (m_cancelScope τ k) q (-1) = m_isHit (up2 τ (k + 54) 5 1) q (-1) := by
      refine isHit_congr (fun p hp b hb => ?_) ?_ ?_
      · by_cases d : p = k ∧ b = 5
        · obtain ⟨d1, d2⟩ := d
          subst d1; subst d2
          rw [c1, up2_same]
        · rw [g2 _ _ (by omega) (by omega) (by omega) (by omega), up2_o (by omega)]
      · rw [g2 _ _ (by omega) (by omega) (by omega) (by omega), up2_o (by omega)]
      · rw [g2 _ _ (by omega) (by omega) (by omega) (by omega), up2_o (by omega)]
    rw [e]
    rw [c2 q hq] at h3
    rw [e9] at h9
    cases d : m_isHit (up2 τ (k + 54) 5 1) q (-1) with
    | false => rfl
    | true =>
      by_cases z : τ (q + 6) 3 = 1 ∧ τ (q + 6) 9 ≠ 5 ∧ m_isHit (up2 τ (k + 54) 5 1) q (-1) = true
      · rw [if_pos z] at h3; exact absurd h3 (by decide)
      · rw [if_neg z] at h3; exact absurd ⟨h3, h9, d⟩ z
/-- the KIND of a LINE at which one WAITS -/
def wkd (k w : Int32) : Prop := (k = 12 ∧ w = 1) ∨ (k = 13 ∧ w = 2) ∨ (k = 15 ∧ w = 3) ∨ ((k = 16 ∨ k = 18) ∧ w = 4)
def tgt01 (τ : Sg) (q : Nat) : Prop := τ (q + 6) 10 = 0 ∨ τ (q + 6) 10 = 1
/-- one that WAITS, not for a SCOPE: at a LINE that is there, for what that says -/
def WA (τ π : Sg) (q b l : Nat) : Prop := nI l < π 1 b ∧ wkd (π 2 (b * 12 + l)) (τ (q + 6) 9) ∧ τ (q + 6) 14 = 0 ∧ τ (q + 6) 15 = 0 ∧ (τ (q + 6) 9 = 2 ∨ τ (q + 6) 9 = 3 → tgt01 τ q ∧ τ (q + 6) 11 = 0) ∧ (τ (q + 6) 9 = 4 → (tgt01 τ q ∧ τ (q + 6) 11 = 0) ∨ τ (q + 6) 11 ≠ 0)
theorem WA.same {τ σ π : Sg} {q b l : Nat} (h : WA τ π q b l) (he : ∀ b, σ (q + 6) b = τ (q + 6) b) : WA σ π q b l := by
  unfold WA tgt01 at h ⊢
  rw [he 9, he 10, he 11, he 14, he 15]; exact h
/-- where a TASK stands in its BODY -/
def IG (τ π : Sg) (T : Nat) (m : Option Nat) (st : Nat → List Nat) : Prop := ∀ q, q < T → ∃ b, b < 8 ∧ τ (q + 6) 2 = nI b ∧ (ali τ q → ∃ l, l ≤ 12 ∧ τ (q + 6) 4 = nI l ∧ (m ≠ some q → τ (q + 6) 9 ≠ 0 → τ (q + 6) 9 ≠ 5 → l < 12) ∧ (τ (q + 6) 3 = 1 → (τ (q + 6) 9 = 5 ∧ st q ≠ []) ∨ (τ (q + 6) 9 ≠ 5 ∧ WA τ π q b l)))
theorem IG.fr {τ σ π : Sg} {T : Nat} {m : Option Nat} {st : Nat → List Nat} (h : IG τ π T m st) (hT : T ≤ 24) (hf : Fr τ σ) (hl : ∀ q, q < T → τ (q + 6) 3 = 0 → σ (q + 6) 4 = τ (q + 6) 4 ∨ (m = some q ∧ ∃ l, l ≤ 12 ∧ σ (q + 6) 4 = nI l)) : IG σ π T m st := fun q hq => by
  have hq24 : q < 24 := by omega
  obtain ⟨b, h1, h2, h3⟩ := h q hq
  refine ⟨b, h1, by rw [hf.fld hq24 (by omega)]; exact h2, fun ha => ?_⟩
  have ha2 := (hf.al hq24).mp ha
  obtain ⟨l, g1, g2, g3, g4⟩ := h3 ha2
  have key : ∃ l', l' ≤ 12 ∧ σ (q + 6) 4 = nI l' ∧ (σ (q + 6) 4 = τ (q + 6) 4 ∧ l' = l ∨ m = some q ∧ τ (q + 6) 3 = 0) := by
    by_cases e : τ (q + 6) 3 = 0
    · rcases hl q hq e with z | ⟨z1, l', z2, z3⟩
      · exact ⟨l, g1, by rw [z]; exact g2, Or.inl ⟨z, rfl⟩⟩
      · exact ⟨l', z2, z3, Or.inr ⟨z1, e⟩⟩
    · have z := (hf.line hq24 e).1
      exact ⟨l, g1, by rw [z]; exact g2, Or.inl ⟨z, rfl⟩⟩
  obtain ⟨l', k1, k2, k3⟩ := key
  refine ⟨l', k1, k2, ?_, fun hs => ?_⟩
  · rw [hf.fld hq24 (b := 9) (by omega)]
    intro a1 a2 a3
    rcases k3 with ⟨_, z⟩ | ⟨z, _⟩
    · rw [z]; exact g3 a1 a2 a3
    · exact absurd z a1
  · obtain ⟨e, ee⟩ := hf.wt hq24 hs
    rcases k3 with ⟨_, z⟩ | ⟨_, z⟩
    · rw [z, ee 9]
      rcases g4 e with y | y
      · exact Or.inl y
      · exact Or.inr ⟨y.1, y.2.same ee⟩
    · rw [e] at z; exact absurd z (by decide)
/-- the same, where nobody's LINE changes -/
theorem IG.fr0 {τ σ π : Sg} {T : Nat} {m : Option Nat} {st : Nat → List Nat} (h : IG τ π T m st) (hT : T ≤ 24) (hf : Fr τ σ) (hl : ∀ q, q < 24 → σ (q + 6) 4 = τ (q + 6) 4) : IG σ π T m st := h.fr hT hf (fun q hq _ => Or.inl (hl q (by omega)))
/-- who WAITS for a LOCK or a CHANNEL, behind a move -/
theorem Fr.wf {τ σ : Sg} (h : Fr τ σ) {q : Nat} (hq : q < 24) {w x : Int32} (hw : m_waitsFor σ q w x = true) : m_waitsFor τ q w x = true := by
  obtain ⟨a, b, c⟩ := waitsFor_iff.mp hw
  obtain ⟨e, ee⟩ := h.wt hq a
  rw [ee 9] at b
  rw [ee 10, ee 11] at c
  exact waitsFor_iff.mpr ⟨e, b, c⟩
/-- LOCKS: while any wait, one that isn't over holds it -/
def IK (τ : Sg) (x : Option Nat) : Prop := ∀ c, c < 2 → (τ (c + 94) 1 = -1 ∧ ∀ q, q < 24 → m_waitsFor τ q 2 (nI c) ≠ true) ∨ ∃ h, h < 24 ∧ τ (c + 94) 1 = nI h ∧ (ali τ h ∨ x = some h) ∧ m_waitsFor τ h 2 (nI c) ≠ true
theorem IK.fr {τ σ : Sg} {x : Option Nat} (h : IK τ x) (hf : Fr τ σ) (hl : ∀ c, c < 2 → σ (c + 94) 1 = τ (c + 94) 1) : IK σ x := fun c hc => by
  rw [hl c hc]
  rcases h c hc with ⟨a, b⟩ | ⟨p, a1, a2, a3, a4⟩
  · exact Or.inl ⟨a, fun q hq z => b q hq (hf.wf hq z)⟩
  · exact Or.inr ⟨p, a1, a2, a3.elim (fun y => Or.inl ((hf.al a1).mpr y)) Or.inr, fun z => a4 (hf.wf a1 z)⟩
/-- CHANNELS: what is in them, and who may WAIT; U: how many VALUES can have been taken -/
def gvI (τ : Sg) (r : Option Nat) (c q : Nat) : Bool := decide (τ (q + 6) 3 = 0 ∧ τ (q + 6) 14 ≠ 0 ∧ τ (q + 6) 9 = 4 ∧ τ (q + 6) 10 = nI c ∧ r ≠ some q)
def IC1 (τ : Sg) (c : Nat) : Prop := τ (c + 96) 0 = 1 ∧ ∃ n, n ≤ 27 ∧ τ (c + 96) 2 = nI n ∧ (∀ q, q < 24 → m_waitsFor τ q 3 (nI c) = true → 1 ≤ n ∧ τ (c + 96) 3 = 0 ∧ ∀ p, p < 24 → m_waitsFor τ p 4 (nI c) ≠ true) ∧ (∀ q, q < 24 → m_waitsFor τ q 4 (nI c) = true → n = 0)
def IC2 (τ : Sg) (r : Option Nat) (U c : Nat) : Prop := ∃ n, n ≤ U ∧ τ (c + 96) 4 = nI n ∧ cnt (gvI τ r c) 24 ≤ n
theorem IC1.fr {τ σ : Sg} {c : Nat} (h : IC1 τ c) (hf : Fr τ σ) (h0 : σ (c + 96) 0 = τ (c + 96) 0) (h2 : σ (c + 96) 2 = τ (c + 96) 2) (h3 : σ (c + 96) 3 = τ (c + 96) 3) : IC1 σ c := by
  obtain ⟨a, n, b1, b2, b3, b4⟩ := h
  refine ⟨by rw [h0]; exact a, n, b1, by rw [h2]; exact b2, fun q hq hw => ?_, fun q hq hw => b4 q hq (hf.wf hq hw)⟩
  obtain ⟨d1, d2, d3⟩ := b3 q hq (hf.wf hq hw)
  exact ⟨d1, by rw [h3]; exact d2, fun p hp z => d3 p hp (hf.wf hp z)⟩
/-- DEADLINES -/
def ID (τ : Sg) (S t : Nat) : Prop := τ 0 8 = nI t ∧ t < 100000 ∧ ∀ k, k < S → (τ (k + 54) 6 ≠ 0 → τ (k + 54) 7 = -1) ∧ (m_isLive τ k = true → τ (k + 54) 5 = 0 → τ (k + 54) 7 = -1 ∨ ∃ d, t < d ∧ d ≤ t + 20 ∧ τ (k + 54) 7 = nI d)
theorem ID.fr {τ σ : Sg} {S t : Nat} (h : ID τ S t) (hS : S ≤ 40) (hf : Fr τ σ) : ID σ S t := by
  refine ⟨by rw [hf.2.2.2 8 (by omega)]; exact h.1, h.2.1, fun k hk => ?_⟩
  obtain ⟨a, b⟩ := h.2.2 k hk
  rw [hf.sc (b := 6) (by omega) (by decide), hf.sc (b := 7) (by omega) (by decide), hf.live (by omega)]
  refine ⟨a, fun hl h5 => b hl ?_⟩
  rcases hf.can (k := k) (by omega) with z | z
  · rw [← z]; exact h5
  · exact z.1
theorem WayOk.fr {τ σ : Sg} (h : WayOk τ) (hf : Fr τ σ) : WayOk σ := fun k hk => by
  rw [hf.sc (b := 9) hk (by decide)]; exact h k hk
