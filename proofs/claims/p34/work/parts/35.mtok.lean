/-! part 35: the reference's reading of any token -/
/-- what a first letter begins: 0 @, 1 # or b, 2 M, 4 r, 5 |, 6 [, 7 ], 8 (, 9 ), else a note 3 -/
def yK (T : Int → Int) (p : Int) : Int := if T p = 64 then 0 else if T p = 35 then 1 else if T p = 98 then 1 else if T p = 77 then 2 else if T p = 114 then 4 else if T p = 124 then 5 else if T p = 91 then 6 else if T p = 93 then 7 else if T p = 40 then 8 else if T p = 41 then 9 else 3
/-- the end of the token at p, or -1 -/
def yE (T : Int → Int) (p : Int) : Int :=
  if yK T p = 0 then (if T (p + 1) = 71 ∨ T (p + 1) = 70 ∨ T (p + 1) = 67 then p + 2 else -1)
  else if yK T p = 1 then (if 48 ≤ T (p + 1) ∧ T (p + 1) ≤ 55 then p + 2 else -1)
  else if yK T p = 2 then (if yMet (T (p + 1)) (T (p + 2)) (T (p + 3)) = 0 then -1 else p + 4)
  else if yK T p = 4 then yTe (T (p + 1)) (T (p + 2)) (p + 1)
  else if yK T p = 7 then (if 50 ≤ T (p + 1) ∧ T (p + 1) ≤ 52 then p + 2 else -1)
  else if yK T p = 8 then (if (49 ≤ T (p + 1) ∧ T (p + 1) ≤ 52) ∧ T (p + 2) = 58 then p + 3 else -1)
  else if yK T p = 3 then (if yNt T p = -1 then -1 else yNt T p + yNi T p)
  else p + 1
def yU (T : Int → Int) (p : Int) : Int :=
  if yK T p = 0 then (if T (p + 1) = 71 then 0 else if T (p + 1) = 70 then 1 else 2)
  else if yK T p = 1 then (if T p = 35 then T (p + 1) - 48 else 48 - T (p + 1))
  else if yK T p = 2 then yMet (T (p + 1)) (T (p + 2)) (T (p + 3))
  else if yK T p = 7 then T (p + 1) - 48
  else if yK T p = 8 then T (p + 1) - 48
  else if yK T p = 3 then yNs T p
  else 0
def yG (T : Int → Int) (p : Int) : Int := if yK T p = 3 then ySg (T p) else 0
def yI (T : Int → Int) (p : Int) : Int := if yK T p = 3 then yNi T p else 0
/-- the cell of the last length that was read -/
def yL (T : Int → Int) (p l : Int) : Int := if yK T p = 4 then yTk (T (p + 1)) (T (p + 2)) else if yK T p = 3 then yNl T p l else l
def yC (T : Int → Int) (p : Int) : Int := if yK T p = 4 then yTk (T (p + 1)) (T (p + 2)) else if yK T p = 3 then yNl T p 0 else 0
theorem yK_cs (T : Int → Int) (p : Int) : (T p = 64 ∧ yK T p = 0) ∨ (T p = 35 ∧ yK T p = 1) ∨ (T p = 98 ∧ yK T p = 1) ∨ (T p = 77 ∧ yK T p = 2) ∨ (T p = 114 ∧ yK T p = 4) ∨ (T p = 124 ∧ yK T p = 5) ∨ (T p = 91 ∧ yK T p = 6) ∨ (T p = 93 ∧ yK T p = 7) ∨ (T p = 40 ∧ yK T p = 8) ∨ (T p = 41 ∧ yK T p = 9) ∨ ((T p ≠ 64 ∧ T p ≠ 35 ∧ T p ≠ 98 ∧ T p ≠ 77 ∧ T p ≠ 114 ∧ T p ≠ 124 ∧ T p ≠ 91 ∧ T p ≠ 93 ∧ T p ≠ 40 ∧ T p ≠ 41) ∧ yK T p = 3) := by
  unfold yK
  repeat' split
  all_goals omega
theorem yC_note {T : Int → Int} {p l : Int} (h : yNt T p ≠ -1) : yNl T p l = yNl T p 0 := by
  unfold yNl
  unfold yNt at h
  split
  · rfl
  · rename_i hk
    rw [if_neg hk] at h
    exact absurd rfl h
section
variable {V : zVt} {J : zJt} {d : Nat → Nat → UInt64}
end
