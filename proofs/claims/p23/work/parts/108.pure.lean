/-! THE FIRST STATE; A COPY; what would be; a checksum twice -/
def s0 : Sg := fun a b => if 6 ≤ a ∧ a < 30 then (if b = 3 ∨ b = 6 ∨ b = 7 then -1 else 0) else if 54 ≤ a ∧ a < 94 then (if b = 1 ∨ b = 13 then -1 else 0) else if 94 ≤ a ∧ a < 96 then (if b = 1 then -1 else 0) else if 96 ≤ a ∧ a < 98 then (if b = 0 then 1 else 0) else 0
theorem s0_tk {q : Nat} (hq : q < 24) (b : Nat) : s0 (q + 6) b = if b = 3 ∨ b = 6 ∨ b = 7 then -1 else 0 := by
  unfold s0; rw [if_pos (by omega)]
theorem s0_sc {k : Nat} (hk : k < 40) (b : Nat) : s0 (k + 54) b = if b = 1 ∨ b = 13 then -1 else 0 := by
  unfold s0; rw [if_neg (by omega), if_pos (by omega)]
theorem s0_lk {c : Nat} (hc : c < 2) (b : Nat) : s0 (c + 94) b = if b = 1 then -1 else 0 := by
  unfold s0; rw [if_neg (by omega), if_neg (by omega), if_pos (by omega)]
theorem s0_ch {c : Nat} (hc : c < 2) (b : Nat) : s0 (c + 96) b = if b = 0 then 1 else 0 := by
  unfold s0; rw [if_neg (by omega), if_neg (by omega), if_neg (by omega), if_pos (by omega)]
theorem s0_0 {a b : Nat} (ha : a < 6 ∨ (30 ≤ a ∧ a < 54) ∨ 98 ≤ a) : s0 a b = 0 := by
  unfold s0; rw [if_neg (by omega), if_neg (by omega), if_neg (by omega), if_neg (by omega)]
theorem inv_s0 (π : Sg) : Inv π 0 0 0 0 (fun _ => []) none none none s0 := by
  have n3 : ∀ q, q < 24 → s0 (q + 6) 3 = -1 := fun q hq => by rw [s0_tk hq, if_pos (by omega)]
  have n6 : ∀ q, q < 24 → s0 (q + 6) 6 = -1 := fun q hq => by rw [s0_tk hq, if_pos (by omega)]
  have n7 : ∀ q, q < 24 → s0 (q + 6) 7 = -1 := fun q hq => by rw [s0_tk hq, if_pos (by omega)]
  have nz : ∀ q, q < 24 → ∀ b, b ≠ 3 → b ≠ 6 → b ≠ 7 → s0 (q + 6) b = 0 := fun q hq b h1 h2 h3 => by rw [s0_tk hq, if_neg (by omega)]
  have na : ∀ q, q < 24 → ¬ ali s0 q := fun q hq z => by
    unfold ali at z; rw [n3 q hq] at z
    rcases z with z | z <;> exact absurd z (by decide)
  have s1 : ∀ k, k < 40 → s0 (k + 54) 1 = -1 := fun k hk => by rw [s0_sc hk, if_pos (by omega)]
  have nl : ∀ k, k < 40 → m_isLive s0 k ≠ true := fun k hk => not_live (s1 k hk)
  have nw : ∀ q, q < 24 → ∀ w x, m_waitsFor s0 q w x ≠ true := fun q hq w x z => by
    have := waits_one z
    rw [n3 q hq] at this; exact absurd this (by decide)
  refine ⟨⟨?_, fun k hk => by omega, ⟨⟨fun o ho => ?_, fun k hk hl => absurd hl (nl k hk)⟩, fun _ _ _ => rfl⟩, ?_⟩, ⟨fun q hq => Or.inl (n6 q hq), fun k hk => by omega, fun k hk => by omega, fun k hk => by omega, fun q hq h3 => ?_, ⟨fun k hk => ?_, fun k hk => by omega⟩⟩, ⟨fun q hq h1 => ?_, fun q hq => by omega⟩, ⟨fun c hc => Or.inl ⟨?_, fun q hq => nw q hq _ _⟩, fun c hc => ⟨?_, 0, by omega, ?_, fun q hq z => absurd z (nw q hq _ _), fun q hq z => absurd z (nw q hq _ _)⟩, fun c hc => ⟨0, Nat.le_refl _, ?_, ?_⟩⟩, ⟨s0_0 (by omega), by omega, fun k hk => by omega⟩⟩
  · refine ⟨by omega, by omega, s0_0 (by omega), s0_0 (by omega), fun q hq => by omega, fun q _ h2 => ⟨n3 q h2, n6 q h2, n7 q h2, nz q h2 8 (by decide) (by decide) (by decide), nz q h2 9 (by decide) (by decide) (by decide), nz q h2 4 (by decide) (by decide) (by decide)⟩, fun k hk => by omega, fun k _ h2 => ⟨s1 k h2, ?_, ?_, ?_, ?_, ?_⟩⟩
    · rw [s0_sc h2, if_neg (by omega)]
    · rw [s0_sc h2, if_neg (by omega)]
    · rw [s0_sc h2, if_neg (by omega)]
    · rw [s0_sc h2, if_neg (by omega)]
    · rw [s0_sc h2, if_pos (by omega)]
  · exact ⟨n7 o ho, nz o ho 8 (by decide) (by decide) (by decide), List.nodup_nil, fun k hk => (by cases hk), fun k L hL => (by cases hL), fun k hk => (by cases hk)⟩
  · refine ⟨⟨[], ⟨s0_0 (by omega), by decide, fun j i hj => (by cases hj)⟩, List.nodup_nil, fun i hi => (by cases hi), fun i hi h0 _ => ?_⟩, fun i hi => (by cases hi)⟩
    rw [n3 i hi] at h0; exact absurd h0 (by decide)
  · rw [n3 q hq] at h3; exact absurd h3 (by decide)
  · rw [s0_sc hk, if_neg (by omega)]; decide
  · rw [n3 q hq] at h1; exact absurd h1 (by decide)
  · rw [s0_lk hc, if_pos rfl]
  · rw [s0_ch hc, if_pos rfl]
  · rw [s0_ch hc, if_neg (by decide)]; rfl
  · rw [s0_ch hc, if_neg (by decide)]; rfl
  · refine Nat.le_trans (cnt_mono2 (Q := fun _ => false) 24 (fun q hq hz => ?_)) (by decide)
    unfold gvI at hz
    rw [decide_eq_true_iff, n3 q hq] at hz
    exact absurd hz.1 (by decide)
theorem tb_s0 : TB s0 := fun a b hab => by
  unfold inB at hab
  have : s0 a b = 0 := by
    unfold s0
    by_cases h1 : 6 ≤ a ∧ a < 30
    · rw [if_pos h1, if_neg (by omega)]
    · rw [if_neg h1]
      by_cases h2 : 54 ≤ a ∧ a < 94
      · rw [if_pos h2, if_neg (by omega)]
      · rw [if_neg h2, if_neg (by omega), if_neg (by omega)]
  rw [this]; decide
theorem fl_s0 : FL s0 := fun a b hab => by
  unfold inF at hab
  refine Or.inl ?_
  unfold s0
  by_cases h1 : 6 ≤ a ∧ a < 30
  · rw [if_pos h1, if_neg (by omega)]
  · rw [if_neg h1]
    by_cases h2 : 54 ≤ a ∧ a < 94
    · rw [if_pos h2, if_neg (by omega)]
    · rw [if_neg h2, if_neg (by omega), if_pos (by omega), if_neg (by omega)]
section INV
variable {π τ σ ρ : Sg} {T S t U : Nat} {st : Nat → List Nat} {r m x : Option Nat}
theorem copy_lt {ρ τ : Sg} {a : Nat} (ha : a < 100) (b : Nat) : m_copy ρ τ a b = τ a b := by
  unfold m_copy; rw [if_pos ha]
theorem inv_copy (h : Inv π T S t U st none none none τ) : Inv π T S t U st none none none (m_copy ρ τ) := inv_off (fun a b _ ha _ => copy_lt ha b) (h.1.2.2.2.keep (copy_lt (by omega) _) (fun j => copy_lt (by omega) _) (fun q hq => copy_lt (by omega) _)) h
/-- who is over stays so: at least as many -/
theorem over_le {n : Nat} (h : Mt τ σ) : cnt (m_isOver τ) 24 ≤ cnt (m_isOver σ) 24 := cnt_mono2 24 (fun q hq hz => by
  have ho := over_iff.mp hz
  refine over_iff.mpr ?_
  unfold ovr; rw [h q hq ho 3]; exact ho)
theorem overBy_le {B : Nat} (hP : IP π B) (h : Inv π T S t U st none none none τ) (hU : U + 100 < 2 ^ 31 - 1) (ht : t + 1 < 100000) : m_countOver τ ≤ m_countOver (m_overS π 1 1 (m_copy ρ τ)) := by
  rw [m_countOver_eq, m_countOver_eq]
  have h1 := inv_copy (ρ := ρ) h
  obtain ⟨h2, mo⟩ := inv_tick ht h1
  obtain ⟨T', S', st', d, _, _, mt, _⟩ := inv_turns hP 1 0 _ T S U st h2 (by omega)
  have e : cnt (m_isOver τ) 24 = cnt (m_isOver (m_copy ρ τ)) 24 := cnt_congr 24 (fun q hq => by
    unfold m_isOver; rw [copy_lt (by omega)])
  rw [e]
  exact over_le (n := 24) (mo.1.trans mt)
-- a checksum twice
theorem offJ_tick (h : offJ τ σ) : offJ (m_tickOnceW τ) (m_tickOnceW σ) := by
  refine ⟨offR_tick h.1, fun j hj => ?_⟩
  have c1 : CP τ (m_tickOnceW τ) := cp_tick (fun _ _ _ => rfl)
  have c2 : CP σ (m_tickOnceW σ) := cp_tick (fun _ _ _ => rfl)
  rw [c1 100 j (Or.inr ⟨rfl, hj⟩), c2 100 j (Or.inr ⟨rfl, hj⟩)]; exact h.2 j hj
theorem offJ_take (h : offJ τ σ) : offJ (m_takeReadyW τ) (m_takeReadyW σ) ∧ m_takeReady τ = m_takeReady σ := by
  obtain ⟨a, b⟩ := offR_take h.1
  refine ⟨⟨a, fun j hj => ?_⟩, b⟩
  have c1 : CP τ (m_takeReadyW τ) := cp_takeReady (fun _ _ _ => rfl)
  have c2 : CP σ (m_takeReadyW σ) := cp_takeReady (fun _ _ _ => rfl)
  rw [c1 100 j (Or.inr ⟨rfl, hj⟩), c2 100 j (Or.inr ⟨rfl, hj⟩)]; exact h.2 j hj
theorem offJ_turns : ∀ (n k : Nat) (τ σ : Sg), offJ τ σ → offJ (m_turns π n k τ).1 (m_turns π n k σ).1 := by
  intro n
  induction n with
  | zero => intro k τ σ h; exact h
  | succ n ih =>
    intro k τ σ h
    obtain ⟨a, b⟩ := offJ_take h
    unfold m_turns
    rw [b]
    cases e : m_takeReady σ with
    | none => exact a
    | some i =>
      dsimp only
      rw [turn_off a]
      exact ih (k + 1) _ _ ⟨fun _ _ => rfl, fun _ _ => rfl⟩
theorem offJ_overS (U' : Nat) : ∀ (n : Nat) (τ σ : Sg), offJ τ σ → offJ (m_overS π U' n τ) (m_overS π U' n σ) := by
  intro n
  induction n with
  | zero => intro τ σ h; exact h
  | succ n ih => intro τ σ h; exact ih _ _ (offJ_turns U' 0 _ _ (offJ_tick h))
theorem offR_over (h : offR τ σ) : m_countOver τ = m_countOver σ := by
  rw [m_countOver_eq, m_countOver_eq]
  exact cnt_congr 24 (fun q hq => by unfold m_isOver; rw [offR_at h (show q + 6 < 100 by omega)])
theorem cp_overS {c0 : Sg} (hp : ∀ q, bnd (π 3 q)) (U' : Nat) : ∀ (n : Nat) (τ : Sg), CP c0 τ → CP c0 (m_overS π U' n τ) := by
  intro n
  induction n with
  | zero => intro τ h; exact h
  | succ n ih => intro τ h; exact ih _ (cp_turns (fun _ => trivial) U' 0 _ (cp_tick h))
theorem cp_copy (ρ τ : Sg) : CP ρ (m_copy ρ τ) := fun a b hab => by
  unfold inC at hab
  unfold m_copy; rw [if_neg (by omega)]
theorem cp_copy2 {c0 : Sg} (h : CP c0 ρ) : CP c0 (m_copy ρ τ) := fun a b hab => by rw [cp_copy ρ τ a b hab, h a b hab]
theorem offJ_copy (h : CP ρ σ) : offJ (m_copy ρ τ) (m_copy σ τ) := by
  refine ⟨fun k hk => ?_, fun j hj => ?_⟩
  · funext b
    by_cases c : k < 100
    · rw [copy_lt c, copy_lt c]
    · have e : inC k b := Or.inl (by omega)
      rw [cp_copy ρ τ k b e, cp_copy σ τ k b e, h k b e]
  · have e : inC 100 j := Or.inr ⟨rfl, hj⟩
    rw [cp_copy ρ τ 100 j e, cp_copy σ τ 100 j e, h 100 j e]
/-- what the trial held before doesn't matter -/
theorem dig_same (hp : ∀ q, bnd (π 3 q)) (h : CP ρ σ) (T V : Nat) : m_dig τ π ρ T V = m_dig τ π σ T V := by
  have h1 := offJ_overS (π := π) 10 1 _ _ (offJ_copy (τ := τ) h)
  have c1 : CP ρ (m_overS π 10 1 (m_copy ρ τ)) := cp_overS hp 10 1 _ (cp_copy ρ τ)
  have c2 : CP ρ (m_overS π 10 1 (m_copy σ τ)) := cp_overS hp 10 1 _ (cp_copy2 h)
  have c3 : CP (m_overS π 10 1 (m_copy ρ τ)) (m_overS π 10 1 (m_copy σ τ)) := fun a b hab => by rw [c2 a b hab, c1 a b hab]
  have h2 := offJ_overS (π := π) 10 5 _ _ (offJ_copy (τ := τ) c3)
  unfold m_dig
  rw [offR_over h1.1, offR_over h2.1]
end INV
