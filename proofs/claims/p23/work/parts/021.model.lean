/-! WHAT EACH METHOD DOES, AS A FUNCTION OF THE INTS: the same roads, the same order of the stores. Cells: 0 State, 5 row, i + 6 Task i, i + 30 its LOCALS, i + 54 Scope i, i + 94 Lock i, i + 96 Channel i, i + 98 its VALUES. -/
/-- the element that a number names; none outside -/
def m_at (x : Int32) (N : Nat) : Option Nat := if x < 0 then none else if nI N ≤ x then none else some x.toNatClampNeg
theorem m_at_lt {x : Int32} {N i : Nat} (h : m_at x N = some i) (hN : N < 2 ^ 31) : i < N := by
  unfold m_at at h
  by_cases h0 : x < 0
  · rw [if_pos h0] at h; cases h
  · rw [if_neg h0] at h
    by_cases h1 : nI N ≤ x
    · rw [if_pos h1] at h; cases h
    · rw [if_neg h1] at h
      cases h
      exact in_lt (in_of h0 h1 hN)
-- Task
def m_isOver (τ : Sg) (i : Nat) : Bool := if τ (i + 6) 3 = 2 then true else if τ (i + 6) 3 = 3 then true else if τ (i + 6) 3 = 4 then true else false
def m_waitsAt (τ : Sg) (i : Nat) (what : Int32) : Bool := if τ (i + 6) 3 = 1 then (if τ (i + 6) 9 = what then true else false) else false
def m_localAt (τ : Sg) (i : Nat) (place : Int32) : Int32 := if place < 0 then 0 else if 4 ≤ place then 0 else τ (i + 30) place.toNatClampNeg
def m_putLocal (τ : Sg) (i : Nat) (place what : Int32) : Sg := if place < 0 then τ else if 4 ≤ place then τ else up2 τ (i + 30) place.toNatClampNeg what
-- Scope
def m_isLive (τ : Sg) (i : Nat) : Bool := if τ (i + 54) 1 = 0 then true else if τ (i + 54) 1 = 1 then true else false
def m_begin (τ : Sg) (i t : Nat) (shield deadline line : Int32) : Sg :=
  let τ1 := up2 τ (i + 54) 1 0
  let τ2 := up2 τ1 (i + 54) 2 (nI t)
  let τ3 := up2 τ2 (i + 54) 3 (τ2 (t + 6) 7)
  let τ4 := up2 τ3 (i + 54) 4 (if τ3 (t + 6) 7 = -1 then τ3 (t + 6) 6 else τ3 (t + 6) 7)
  let τ5 := up2 τ4 (i + 54) 6 shield
  let τ6 := up2 τ5 (i + 54) 7 deadline
  up2 τ6 (i + 54) 8 line
-- Lock
def m_giveTo (τ : Sg) (i t : Nat) : Sg :=
  let τ1 := up2 τ (i + 94) 1 (nI t)
  up2 τ1 (i + 94) 2 (τ1 (i + 94) 2 + 1)
-- Channel
def m_first (τ : Sg) (i : Nat) : Int32 := if τ (i + 96) 2 ≤ 0 then 0 else τ (i + 98) 0
def m_addLast (τ : Sg) (i : Nat) (v : Int32) : Sg :=
  if τ (i + 96) 2 < 0 then τ else if 27 ≤ τ (i + 96) 2 then τ else
  let τ1 := up2 τ (i + 98) (τ (i + 96) 2).toNatClampNeg v
  up2 τ1 (i + 96) 2 (τ1 (i + 96) 2 + 1)
-- State
def m_makeReady (τ : Sg) (i : Nat) : Sg :=
  let τ1 := up2 τ (i + 6) 3 0
  if τ1 0 7 < 0 then τ1 else if 24 ≤ τ1 0 7 then τ1 else
  let τ2 := up2 τ1 5 (τ1 0 7).toNatClampNeg (nI i)
  up2 τ2 0 7 (τ2 0 7 + 1)
def m_shift : Nat → Nat → Sg → Sg
  | 0, _, τ => τ
  | n + 1, j, τ => if τ 0 7 ≤ nI (j + 1) then τ else if 24 ≤ nI (j + 1) then τ else m_shift n (j + 1) (up2 τ 5 j (τ 5 (j + 1)))
def m_takeReadyW (τ : Sg) : Sg := if ¬ 0 < τ 0 7 then τ else
  let τ1 := m_shift 24 0 τ
  up2 τ1 0 7 (τ1 0 7 - 1)
def m_takeReady (τ : Sg) : Option Nat := if ¬ 0 < τ 0 7 then none else m_at (τ 5 0) 24
def m_beginWait (τ : Sg) (i : Nat) (what target : Int32) : Sg :=
  let τ1 := up2 τ (i + 6) 3 1
  let τ2 := up2 τ1 (i + 6) 9 what
  let τ3 := up2 τ2 (i + 6) 10 target
  let τ4 := up2 τ3 (i + 6) 11 0
  let τ5 := up2 τ4 (i + 6) 14 0
  let τ6 := up2 τ5 (i + 6) 15 0
  let τ7 := up2 τ6 (i + 6) 16 (τ6 0 11)
  up2 τ7 0 11 (τ7 0 11 + 1)
def m_waitsFor (τ : Sg) (i : Nat) (what target : Int32) : Bool := if m_waitsAt τ i what = true then (if τ (i + 6) 10 = target then true else if τ (i + 6) 11 = 0 then false else true) else false
/-- the same test, as firstWaiting has it inline -/
def m_fwc (τ : Sg) (i : Nat) (what target : Int32) : Bool := if τ (i + 6) 3 = 1 then (if τ (i + 6) 9 = what then (if τ (i + 6) 10 = target then true else if τ (i + 6) 11 = 0 then false else true) else false) else false
def m_sel (τ : Sg) (j : Nat) (a : Option Nat) : Option Nat := match a with
  | none => some j
  | some b => if τ (b + 6) 16 ≤ τ (j + 6) 16 then some b else some j
def m_fw (τ : Sg) (what target : Int32) : Nat → Nat → Option Nat → Option Nat
  | 0, _, a => a
  | n + 1, j, a => m_fw τ what target n (j + 1) (if m_fwc τ j what target = true then m_sel τ j a else a)
def m_firstWaiting (τ : Sg) (what target : Int32) : Option Nat := m_fw τ what target 24 0 none
def m_hit (τ : Sg) (also : Int32) : Nat → Int32 → Bool
  | 0, _ => false
  | n + 1, x => if x < 0 then false else if 40 ≤ x then false else
    if τ (x.toNatClampNeg + 54) 1 = 2 then m_hit τ also n (τ (x.toNatClampNeg + 54) 4) else
    if τ (x.toNatClampNeg + 54) 5 = 0 then (if x = also then true else if τ (x.toNatClampNeg + 54) 6 = 0 then m_hit τ also n (τ (x.toNatClampNeg + 54) 4) else false) else true
def m_isHit (τ : Sg) (i : Nat) (also : Int32) : Bool := m_hit τ also 40 (if τ (i + 6) 7 = -1 then τ (i + 6) 6 else τ (i + 6) 7)
