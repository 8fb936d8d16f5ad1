/-! THE STACKS: from a TASK's top by what is below -/
def Chain (τ : Sg) : List Nat → Int32 → Prop
  | [], x => x = -1
  | k :: L, x => x = nI k ∧ k < 40 ∧ Chain τ L (τ (k + 54) 3)
theorem Chain.keep {τ σ : Sg} : ∀ (L : List Nat) (x : Int32), (∀ k ∈ L, σ (k + 54) 3 = τ (k + 54) 3) → Chain τ L x → Chain σ L x := by
  intro L
  induction L with
  | nil => intro x _ h; exact h
  | cons k L ih =>
    intro x hk h
    obtain ⟨h1, h2, h3⟩ := h
    refine ⟨h1, h2, ?_⟩
    rw [hk k List.mem_cons_self]
    exact ih _ (fun q hq => hk q (List.mem_cons_of_mem _ hq)) h3
theorem Chain.lt {τ : Sg} : ∀ (L : List Nat) (x : Int32), Chain τ L x → ∀ k ∈ L, k < 40 := by
  intro L
  induction L with
  | nil => intro x _ k hk; cases hk
  | cons q L ih =>
    intro x h k hk
    rcases List.mem_cons.mp hk with e | e
    · rw [e]; exact h.2.1
    · exact ih _ h.2.2 k e
theorem Chain.top {τ : Sg} {L : List Nat} {x : Int32} {k : Nat} (h : Chain τ L x) (hk : m_at x 40 = some k) : ∃ L', L = k :: L' ∧ Chain τ L' (τ (k + 54) 3) := by
  cases L with
  | nil =>
    have e : x = -1 := h
    rw [e, m_at_neg] at hk; cases hk
  | cons q L =>
    obtain ⟨h1, h2, h3⟩ := h
    rw [h1, m_at_nI h2 (by decide)] at hk
    cases hk
    exact ⟨L, rfl, h3⟩
theorem Chain.none {τ : Sg} {L : List Nat} {x : Int32} (h : Chain τ L x) (hk : m_at x 40 = none) : L = [] := by
  cases L with
  | nil => rfl
  | cons q L =>
    obtain ⟨h1, h2, h3⟩ := h
    rw [h1, m_at_nI h2 (by decide)] at hk
    cases hk
/-- how the SCOPE on top of a TASK's stack stands: OPEN, LEAVING, CLOSED -/
def m_mode (τ : Sg) (r : Option Nat) (o : Nat) : Int32 := if r = some o then 0 else if τ (o + 6) 9 = 5 then (if τ (o + 6) 3 = 1 then 1 else 2) else 0
/-- one TASK's stack -/
def StackOf (τ : Sg) (r : Option Nat) (o : Nat) (L : List Nat) : Prop := Chain τ L (τ (o + 6) 7) ∧ τ (o + 6) 8 = nI L.length ∧ L.Nodup ∧ (∀ k ∈ L, τ (k + 54) 2 = nI o) ∧ (∀ k L', L = k :: L' → τ (k + 54) 1 = m_mode τ r o) ∧ ∀ k ∈ L.tail, τ (k + 54) 1 = 0
/-- all stacks; st is no part of the ints -/
def Stacks (τ : Sg) (r : Option Nat) (st : Nat → List Nat) : Prop := (∀ o, o < 24 → StackOf τ r o (st o)) ∧ ∀ k, k < 40 → m_isLive τ k = true → ∃ o, o < 24 ∧ k ∈ st o
theorem StackOf.keep {τ σ : Sg} {r r' : Option Nat} {o : Nat} {L : List Nat} (h : StackOf τ r o L) (h7 : σ (o + 6) 7 = τ (o + 6) 7) (h8 : σ (o + 6) 8 = τ (o + 6) 8) (hs : ∀ k ∈ L, σ (k + 54) 1 = τ (k + 54) 1 ∧ σ (k + 54) 2 = τ (k + 54) 2 ∧ σ (k + 54) 3 = τ (k + 54) 3) (hm : L ≠ [] → m_mode σ r' o = m_mode τ r o) : StackOf σ r' o L := by
  obtain ⟨a, b, c, d, e, f⟩ := h
  refine ⟨?_, by rw [h8]; exact b, c, fun k hk => by rw [(hs k hk).2.1]; exact d k hk, fun k L' hL => ?_, fun k hk => ?_⟩
  · rw [h7]; exact Chain.keep L _ (fun k hk => (hs k hk).2.2) a
  · rw [hm (by rw [hL]; exact List.cons_ne_nil k L'), (hs k (by rw [hL]; exact List.mem_cons_self)).1]; exact e k L' hL
  · rw [(hs k (List.mem_of_mem_tail hk)).1]; exact f k hk
