/-! THE SMALL MOVES leave the SCOPES and the State's own ints alone, but for the row's length -/
def SZ (τ σ : Sg) : Prop := ∀ a b, (a = 0 ∧ b ≠ 7) ∨ (54 ≤ a ∧ a < 94) → σ a b = τ a b
theorem SZ.refl (τ : Sg) : SZ τ τ := fun _ _ _ => rfl
theorem SZ.trans {τ σ ρ : Sg} (h1 : SZ τ σ) (h2 : SZ σ ρ) : SZ τ ρ := fun a b h => by rw [h2 a b h, h1 a b h]
theorem SZ.up {τ σ : Sg} {k j : Nat} {v : Int32} (h : SZ τ σ) (hk : ¬ (k = 0 ∨ (54 ≤ k ∧ k < 94))) : SZ τ (up2 σ k j v) := fun a b hab => by
  rw [up2_a (by omega)]; exact h a b hab
theorem SZ.mr {τ σ : Sg} {i : Nat} (h : SZ τ σ) (hi : i < 24) : SZ τ (m_makeReady σ i) := fun a b hab => by
  rw [mr_other (by omega) (by omega) (by omega)]; exact h a b hab
theorem sz_giveTo {τ σ : Sg} {k t : Nat} (hk : k < 2) (h : SZ τ σ) : SZ τ (m_giveTo σ k t) := fun a b hab => by
  rw [giveTo_other (by omega)]; exact h a b hab
theorem sz_freeLock {τ : Sg} {k : Nat} (hk : k < 2) : SZ τ (m_freeLock τ k) := by
  have h1 : SZ τ (up2 τ (k + 94) 1 (-1)) := (SZ.refl τ).up (by omega)
  unfold m_freeLock
  dsimp only
  cases e : m_firstWaiting (up2 τ (k + 94) 1 (-1)) 2 (nI k) with
  | none => exact h1
  | some t =>
    have ht := (firstWaiting_some e).1
    exact ((sz_giveTo hk h1).up (by omega)).mr ht
theorem sz_giveValue {τ : Sg} {t : Nat} {x v : Int32} (ht : t < 24) : SZ τ (m_giveValue τ t x v) := by
  unfold m_giveValue
  cases e : m_at x 2 with
  | none => exact SZ.refl τ
  | some k =>
    have hk := m_at_lt e (by decide)
    dsimp only
    exact (((((SZ.refl τ).up (by omega)).up (by omega)).up (by omega)).up (by omega)).mr ht
theorem sz_dropFirst {τ : Sg} {k : Nat} (hk : k < 2) : SZ τ (m_dropFirst τ k) := fun a b hab => dropFirst_other (by omega) (by omega)
theorem sz_addLast {τ : Sg} {k : Nat} {v : Int32} (hk : k < 2) : SZ τ (m_addLast τ k v) := fun a b hab => addLast_other (by omega) (by omega)
theorem sz_addFirst {τ : Sg} {k : Nat} {v : Int32} (hk : k < 2) : SZ τ (m_addFirst τ k v) := fun a b hab => addFirst_other (by omega) (by omega)
theorem sz_takeValue {τ : Sg} {x : Int32} : SZ τ (m_takeValueW τ x) := by
  unfold m_takeValueW
  cases e : m_at x 2 with
  | none => exact SZ.refl τ
  | some k =>
    have hk := m_at_lt e (by decide)
    dsimp only
    cases f : m_firstWaiting τ 3 x with
    | none => exact (sz_dropFirst hk).up (by omega)
    | some q =>
      have hq := (firstWaiting_some f).1
      dsimp only
      refine SZ.up ?_ (by omega)
      by_cases c : τ (k + 96) 2 = 0
      · rw [if_pos c]; exact (SZ.refl τ).mr hq
      · rw [if_neg c]; exact ((sz_dropFirst hk).trans (sz_addLast hk)).mr hq
theorem sz_giveBack {τ : Sg} {t : Nat} {w : Int32} : SZ τ (m_giveBack τ t w) := by
  unfold m_giveBack
  by_cases c : τ (t + 6) 14 = 0
  · rw [if_pos c]; exact SZ.refl τ
  rw [if_neg c]
  have hL : SZ τ (m_giveBackL τ t w) := by
    unfold m_giveBackL
    by_cases c2 : w = 2
    · rw [if_pos c2]
      cases e : m_at (τ (t + 6) 10) 2 with
      | none => exact SZ.refl τ
      | some k => exact sz_freeLock (m_at_lt e (by decide))
    · rw [if_neg c2]; exact SZ.refl τ
  refine hL.trans ?_
  generalize m_giveBackL τ t w = σ
  unfold m_giveBackC
  by_cases c2 : w = 4
  · rw [if_pos c2]
    cases e : m_at (σ (t + 6) 10) 2 with
    | none => exact SZ.refl σ
    | some k =>
      have hk := m_at_lt e (by decide)
      have h1 : SZ σ (up2 σ (k + 96) 4 (σ (k + 96) 4 - 1)) := (SZ.refl σ).up (by omega)
      dsimp only
      cases f : m_firstWaiting (up2 σ (k + 96) 4 (σ (k + 96) 4 - 1)) 4 (up2 σ (k + 96) 4 (σ (k + 96) 4 - 1) (t + 6) 10) with
      | none => exact h1.trans (sz_addFirst hk)
      | some q => exact h1.trans (sz_giveValue (firstWaiting_some f).1)
  · rw [if_neg c2]; exact SZ.refl σ
theorem sz_endLoop {x p0 : Int32} : ∀ (n : Nat) (τ : Sg), SZ τ (m_endLoop x p0 n τ) := by
  intro n
  induction n with
  | zero => intro τ; exact SZ.refl τ
  | succ n ih =>
    intro τ
    unfold m_endLoop
    cases e : m_firstInVain τ x p0 with
    | none => exact SZ.refl τ
    | some q =>
      have hq := (firstInVain_some e).1
      dsimp only
      exact (((SZ.refl τ).up (by omega)).mr hq).trans (ih _)
theorem sz_putEnd {τ : Sg} {x : Int32} : SZ τ (m_putEnd τ x) := by
  unfold m_putEnd
  cases e : m_at x 2 with
  | none => exact SZ.refl τ
  | some k =>
    have hk := m_at_lt e (by decide)
    exact ((SZ.refl τ).up (by omega)).trans (sz_endLoop 24 _)
/-! WHAT MOST MOVES ARE: TASKS that WAIT, not for a SCOPE, may become READY; of READY ones the LINE and what is there may change; SCOPES that are not CLOSED may be CANCELLED -/
abbrev ali (τ : Sg) (q : Nat) : Prop := τ (q + 6) 3 = 0 ∨ τ (q + 6) 3 = 1
abbrev ovr (τ : Sg) (q : Nat) : Prop := τ (q + 6) 3 = 2 ∨ τ (q + 6) 3 = 3 ∨ τ (q + 6) 3 = 4
theorem live_iff {τ : Sg} {k : Nat} : m_isLive τ k = true ↔ τ (k + 54) 1 = 0 ∨ τ (k + 54) 1 = 1 := by
  unfold m_isLive
  by_cases c1 : τ (k + 54) 1 = 0
  · rw [if_pos c1]; exact ⟨fun _ => Or.inl c1, fun _ => rfl⟩
  · rw [if_neg c1]
    by_cases c2 : τ (k + 54) 1 = 1
    · rw [if_pos c2]; exact ⟨fun _ => Or.inr c2, fun _ => rfl⟩
    · rw [if_neg c2]; exact ⟨fun q => (by cases q), fun q => q.elim (fun z => absurd z c1) (fun z => absurd z c2)⟩
theorem over_iff {τ : Sg} {q : Nat} : m_isOver τ q = true ↔ ovr τ q := by
  unfold m_isOver ovr
  by_cases c1 : τ (q + 6) 3 = 2
  · rw [if_pos c1]; exact ⟨fun _ => Or.inl c1, fun _ => rfl⟩
  · rw [if_neg c1]
    by_cases c2 : τ (q + 6) 3 = 3
    · rw [if_pos c2]; exact ⟨fun _ => Or.inr (Or.inl c2), fun _ => rfl⟩
    · rw [if_neg c2]
      by_cases c3 : τ (q + 6) 3 = 4
      · rw [if_pos c3]; exact ⟨fun _ => Or.inr (Or.inr c3), fun _ => rfl⟩
      · rw [if_neg c3]
        exact ⟨fun z => (by cases z), fun z => by
          rcases z with z | z | z
          · exact absurd z c1
          · exact absurd z c2
          · exact absurd z c3⟩
theorem ali_not_ovr {τ : Sg} {q : Nat} (h : ali τ q) : ¬ ovr τ q := by
  intro z
  unfold ovr at z
  rcases h with h | h <;> rw [h] at z <;> rcases z with z | z | z <;> exact absurd z (by decide)
def Fr (τ σ : Sg) : Prop := (∀ q, q < 24 → (σ (q + 6) 3 = τ (q + 6) 3 ∧ (∀ b, b ≠ 4 → b ≠ 5 → σ (q + 6) b = τ (q + 6) b) ∧ (τ (q + 6) 3 ≠ 0 → ∀ b, σ (q + 6) b = τ (q + 6) b)) ∨ (τ (q + 6) 3 = 1 ∧ σ (q + 6) 3 = 0 ∧ τ (q + 6) 9 ≠ 5 ∧ ∀ b, b ≠ 3 → b ≠ 10 → b ≠ 13 → b ≠ 14 → b ≠ 15 → σ (q + 6) b = τ (q + 6) b)) ∧
  SC τ σ 40 ∧ (∀ k, k < 40 → σ (k + 54) 5 ≠ τ (k + 54) 5 → m_isLive τ k = true) ∧ (∀ b, b = 1 ∨ b = 3 ∨ b = 8 → σ 0 b = τ 0 b)
theorem Fr.of5 {τ σ : Sg} (h : T5 τ σ 24 24) (hs : SC τ σ 40) (hl : ∀ k, k < 40 → σ (k + 54) 5 ≠ τ (k + 54) 5 → m_isLive τ k = true) (hz : ∀ b, b = 1 ∨ b = 3 ∨ b = 8 → σ 0 b = τ 0 b) : Fr τ σ := by
  refine ⟨fun q hq => ?_, hs, hl, hz⟩
  rcases h q hq (by omega) (by omega) with a | ⟨a1, a2, a3, a4⟩
  · exact Or.inl ⟨a 3, fun b _ _ => a b, fun _ b => a b⟩
  · exact Or.inr ⟨a1, a2, a3, a4⟩
theorem Fr.of {τ σ : Sg} (h : T5 τ σ 24 24) (hz : SZ τ σ) : Fr τ σ :=
  Fr.of5 h (SC.cell (fun k hk _ b => hz _ b (by omega))) (fun k hk hn => absurd (hz _ 5 (by omega)) hn) (fun b hb => hz 0 b (by omega))
/-- what the one whose turn it is does for itself -/
def Lcl (τ σ : Sg) (i : Nat) : Prop := ∀ a b, ¬ (a = i + 6 ∧ (b = 4 ∨ b = 5)) → a ≠ i + 30 → a ≠ 100 → ¬ (a = 0 ∧ (b = 9 ∨ b = 10)) → σ a b = τ a b
theorem Lcl.refl (τ : Sg) (i : Nat) : Lcl τ τ i := fun _ _ _ _ _ _ => rfl
theorem Lcl.trans {τ σ ρ : Sg} {i : Nat} (h1 : Lcl τ σ i) (h2 : Lcl σ ρ i) : Lcl τ ρ i := fun a b h3 h4 h5 h6 => by rw [h2 a b h3 h4 h5 h6, h1 a b h3 h4 h5 h6]
theorem Lcl.up {τ σ : Sg} {i k j : Nat} {v : Int32} (h : Lcl τ σ i) (hk : (k = i + 6 ∧ (j = 4 ∨ j = 5)) ∨ k = i + 30 ∨ k = 100 ∨ (k = 0 ∧ (j = 9 ∨ j = 10))) : Lcl τ (up2 σ k j v) i := fun a b h3 h4 h5 h6 => by
  rw [up2_o (by omega)]; exact h a b h3 h4 h5 h6
theorem Fr.loc {τ σ : Sg} {i : Nat} (hi : i < 24) (h0 : τ (i + 6) 3 = 0) (h : Lcl τ σ i) : Fr τ σ := by
  refine ⟨fun q hq => Or.inl ⟨h _ _ (by omega) (by omega) (by omega) (by omega), fun b b4 b5 => h _ _ (by omega) (by omega) (by omega) (by omega), fun hn b => ?_⟩, SC.cell (fun k hk _ b => h _ _ (by omega) (by omega) (by omega) (by omega)), fun k hk hn => absurd (h _ _ (by omega) (by omega) (by omega) (by omega)) hn, fun b hb => h _ _ (by omega) (by omega) (by omega) (by omega)⟩
  by_cases e : q = i
  · subst e; exact absurd h0 hn
  · exact h _ _ (by omega) (by omega) (by omega) (by omega)
theorem Fr.refl (τ : Sg) : Fr τ τ := ⟨fun _ _ => Or.inl ⟨rfl, fun _ _ _ => rfl, fun _ _ => rfl⟩, SC.refl τ 40, fun _ _ h => absurd rfl h, fun _ _ => rfl⟩
theorem Fr.fld {τ σ : Sg} (h : Fr τ σ) {q b : Nat} (hq : q < 24) (hb : b = 2 ∨ b = 6 ∨ b = 7 ∨ b = 8 ∨ b = 9 ∨ b = 11 ∨ b = 12 ∨ b = 16) : σ (q + 6) b = τ (q + 6) b := by
  rcases h.1 q hq with ⟨_, a, _⟩ | ⟨_, _, _, a⟩
  · exact a b (by omega) (by omega)
  · exact a b (by omega) (by omega) (by omega) (by omega) (by omega)
theorem Fr.st {τ σ : Sg} (h : Fr τ σ) {q : Nat} (hq : q < 24) : σ (q + 6) 3 = τ (q + 6) 3 ∨ (τ (q + 6) 3 = 1 ∧ σ (q + 6) 3 = 0 ∧ τ (q + 6) 9 ≠ 5) := by
  rcases h.1 q hq with ⟨a, _, _⟩ | ⟨a, b, c, _⟩
  · exact Or.inl a
  · exact Or.inr ⟨a, b, c⟩
theorem Fr.wt {τ σ : Sg} (h : Fr τ σ) {q : Nat} (hq : q < 24) (hs : σ (q + 6) 3 = 1) : τ (q + 6) 3 = 1 ∧ ∀ b, σ (q + 6) b = τ (q + 6) b := by
  rcases h.1 q hq with ⟨a, _, c⟩ | ⟨_, b, _, _⟩
  · have e : τ (q + 6) 3 = 1 := by rw [← a]; exact hs
    exact ⟨e, c (by rw [e]; decide)⟩
  · rw [hs] at b; exact absurd b (by decide)
theorem Fr.ov {τ σ : Sg} (h : Fr τ σ) {q : Nat} (hq : q < 24) (h0 : τ (q + 6) 3 ≠ 0) (h1 : τ (q + 6) 3 ≠ 1) : ∀ b, σ (q + 6) b = τ (q + 6) b := by
  rcases h.1 q hq with ⟨_, _, c⟩ | ⟨b, _, _, _⟩
  · exact c h0
  · exact absurd b h1
theorem Fr.line {τ σ : Sg} (h : Fr τ σ) {q : Nat} (hq : q < 24) (h0 : τ (q + 6) 3 ≠ 0) : σ (q + 6) 4 = τ (q + 6) 4 ∧ σ (q + 6) 5 = τ (q + 6) 5 := by
  rcases h.1 q hq with ⟨_, _, c⟩ | ⟨_, _, _, a⟩
  · exact ⟨c h0 4, c h0 5⟩
  · exact ⟨a 4 (by decide) (by decide) (by decide) (by decide) (by decide), a 5 (by decide) (by decide) (by decide) (by decide) (by decide)⟩
theorem Fr.al {τ σ : Sg} (h : Fr τ σ) {q : Nat} (hq : q < 24) : ali σ q ↔ ali τ q := by
  unfold ali
  rcases h.st hq with a | ⟨a, b, _⟩
  · rw [a]
  · rw [a, b]; exact ⟨fun _ => Or.inr rfl, fun _ => Or.inl rfl⟩
theorem Fr.is {τ σ : Sg} (h : Fr τ σ) {q : Nat} (hq : q < 24) {v : Int32} (h0 : v ≠ 0) (h1 : v ≠ 1) : σ (q + 6) 3 = v ↔ τ (q + 6) 3 = v := by
  rcases h.st hq with a | ⟨a, b, _⟩
  · rw [a]
  · rw [a, b]; exact ⟨fun z => absurd z.symm h0, fun z => absurd z.symm h1⟩
theorem Fr.ovq {τ σ : Sg} (h : Fr τ σ) {q : Nat} (hq : q < 24) : ovr σ q ↔ ovr τ q := by
  unfold ovr
  rw [h.is hq (by decide) (by decide), h.is hq (by decide) (by decide), h.is hq (by decide) (by decide)]
theorem Fr.sc {τ σ : Sg} (h : Fr τ σ) {k b : Nat} (hk : k < 40) (hb : b ≠ 5) : σ (k + 54) b = τ (k + 54) b := (h.2.1 k hk (by omega)).1 b hb
theorem Fr.can {τ σ : Sg} (h : Fr τ σ) {k : Nat} (hk : k < 40) : σ (k + 54) 5 = τ (k + 54) 5 ∨ (τ (k + 54) 5 = 0 ∧ σ (k + 54) 5 = 1) := (h.2.1 k hk (by omega)).2
theorem Fr.live {τ σ : Sg} (h : Fr τ σ) {k : Nat} (hk : k < 40) : m_isLive σ k = m_isLive τ k := by
  unfold m_isLive
  rw [h.sc hk (by decide)]
theorem Fr.mode {τ σ : Sg} (h : Fr τ σ) {q : Nat} (hq : q < 24) (r : Option Nat) : m_mode σ r q = m_mode τ r q := by
  unfold m_mode
  rw [h.fld hq (b := 9) (by omega)]
  rcases h.st hq with a | ⟨a, b, c⟩
  · rw [a]
  · rw [if_neg c, if_neg c]
-- the moves
theorem fr_cancel {τ : Sg} {k : Nat} : Fr τ (m_cancelScope τ k) := by
  refine Fr.of5 t5_cancel sc_cancel (fun q hq hn => ?_) (fun b hb => cancelScope_other (by omega) (by omega) (by omega) (by omega))
  by_cases e : q = k
  · subst e
    cases c : m_isLive τ q with
    | true => rfl
    | false =>
      refine absurd ?_ hn
      unfold m_cancelScope
      rw [c, if_neg (by decide)]
  · exact absurd (cancelScope_other (by omega) (by omega) (by omega) (by omega)) hn
theorem fr_freeLock {τ : Sg} {k : Nat} (hk : k < 2) : Fr τ (m_freeLock τ k) := Fr.of t5_freeLock (sz_freeLock hk)
theorem fr_giveTo {τ : Sg} {k t : Nat} (hk : k < 2) : Fr τ (m_giveTo τ k t) := Fr.of t5_giveTo (sz_giveTo hk (SZ.refl τ))
theorem fr_giveValue {τ : Sg} {t : Nat} {x v : Int32} (ht : t < 24) (hs : τ (t + 6) 3 = 1) (h9 : τ (t + 6) 9 ≠ 5) : Fr τ (m_giveValue τ t x v) := Fr.of (t5_giveValue ht hs h9) (sz_giveValue ht)
theorem fr_addLast {τ : Sg} {k : Nat} {v : Int32} (hk : k < 2) : Fr τ (m_addLast τ k v) := Fr.of t5_addLast (sz_addLast hk)
theorem fr_takeValue {τ : Sg} {x : Int32} : Fr τ (m_takeValueW τ x) := Fr.of t5_takeValue sz_takeValue
theorem fr_giveBack {τ : Sg} {t : Nat} {w : Int32} : Fr τ (m_giveBack τ t w) := Fr.of t5_giveBack sz_giveBack
theorem fr_putEnd {τ : Sg} {x : Int32} : Fr τ (m_putEnd τ x) := Fr.of t5_putEnd sz_putEnd
