/-! part 34: the reference's reading of a note and of any token -/
def ySg (c : Int) : Int := if c = 94 then 1 else if c = 95 then 2 else if c = 61 then 3 else 0
theorem ySg_cs (c : Int) : (c = 94 ∧ ySg c = 1) ∨ (c = 95 ∧ ySg c = 2) ∨ (c = 61 ∧ ySg c = 3) ∨ ((c ≠ 94 ∧ c ≠ 95 ∧ c ≠ 61) ∧ ySg c = 0) := by
  unfold ySg
  repeat' split
  all_goals omega
/-- behind the digits at b; their number -/
def yDe (T : Int → Int) (b : Int) : Int := if 48 ≤ T b ∧ T b ≤ 57 then (if 48 ≤ T (b + 1) ∧ T (b + 1) ≤ 57 then b + 2 else b + 1) else b
def yDv (T : Int → Int) (b : Int) : Int := if 48 ≤ T b ∧ T b ≤ 57 then (if 48 ≤ T (b + 1) ∧ T (b + 1) ≤ 57 then 10 * (T b - 48) + (T (b + 1) - 48) else T b - 48) else 0
theorem yD_cs (T : Int → Int) (b : Int) : ((T b < 48 ∨ 57 < T b) ∧ yDe T b = b ∧ yDv T b = 0) ∨ ((48 ≤ T b ∧ T b ≤ 57) ∧ (T (b + 1) < 48 ∨ 57 < T (b + 1)) ∧ yDe T b = b + 1 ∧ yDv T b = T b - 48) ∨ ((48 ≤ T b ∧ T b ≤ 57) ∧ (48 ≤ T (b + 1) ∧ T (b + 1) ≤ 57) ∧ yDe T b = b + 2 ∧ yDv T b = 10 * (T b - 48) + (T (b + 1) - 48)) := by
  unfold yDe yDv
  repeat' split
  all_goals omega
def yNa (T : Int → Int) (p : Int) : Int := p + (if ySg (T p) = 0 then 0 else 1)
def yNm (T : Int → Int) (a : Int) : Int := if T a = 45 then 1 else 0
def yNb (T : Int → Int) (p : Int) : Int := yNa T p + yNm T (yNa T p)
/-- a signed number m (below 0 or not), its digits at b, ended at e -/
def yVs (m v : Int) : Int := if m = 0 then v else -v
abbrev yOk (b e s : Int) : Prop := e ≠ b ∧ -9 ≤ s ∧ s ≤ 19
section
variable {V : zVt} {J : zJt} {d : Nat → Nat → UInt64}
end
/-- a note's place, its end ahead of a tie, the ticks' cell -/
def yNe (T : Int → Int) (p : Int) : Int := yDe T (yNb T p)
def yNs (T : Int → Int) (p : Int) : Int := yVs (yNm T (yNa T p)) (yDv T (yNb T p))
abbrev yNo (T : Int → Int) (p : Int) : Prop := yOk (yNb T p) (yNe T p) (yNs T p)
def yNt (T : Int → Int) (p : Int) : Int := if yNo T p then yTe (T (yNe T p)) (T (yNe T p + 1)) (yNe T p) else -1
def yNl (T : Int → Int) (p l : Int) : Int := if yNo T p then yTk (T (yNe T p)) (T (yNe T p + 1)) else l
def yNi (T : Int → Int) (p : Int) : Int := if T (yNt T p) = 126 then 1 else 0
theorem yN_rng (T : Int → Int) (p : Int) (hT : ∀ q, p ≤ q → 0 ≤ T q ∧ T q ≤ 126) : (p ≤ yNa T p ∧ yNa T p ≤ p + 1) ∧ (yNa T p ≤ yNb T p ∧ yNb T p ≤ yNa T p + 1) ∧ (yNb T p ≤ yNe T p ∧ yNe T p ≤ yNb T p + 2) ∧ (0 ≤ yDv T (yNb T p) ∧ yDv T (yNb T p) < 100) := by
  have h1 : p ≤ yNa T p ∧ yNa T p ≤ p + 1 := by
    unfold yNa
    split <;> omega
  have h2 : yNa T p ≤ yNb T p ∧ yNb T p ≤ yNa T p + 1 := by
    unfold yNb yNm
    split <;> omega
  refine ⟨h1, h2, ?_⟩
  unfold yNe
  rcases yD_cs T (yNb T p) with ⟨e1, e5, e6⟩ | ⟨e1, e4, e5, e6⟩ | ⟨e1, e4, e5, e6⟩
  all_goals omega
theorem yNt_rng (T : Int → Int) (p : Int) (hT : ∀ q, p ≤ q → 0 ≤ T q ∧ T q ≤ 126) (hp : 0 ≤ p) : (yNt T p = -1 ∨ p + 1 ≤ yNt T p ∧ yNt T p ≤ p + 6) ∧ 0 ≤ yNi T p ∧ yNi T p ≤ 1 := by
  have h2 := yN_rng T p hT
  have h3 := yTe_yTk (T (yNe T p)) (T (yNe T p + 1)) (yNe T p)
  constructor
  · unfold yNt
    split
    · rename_i hk
      have := hk.1
      omega
    · exact Or.inl rfl
  · unfold yNi
    split <;> omega
section
variable {V : zVt} {J : zJt} {d : Nat → Nat → UInt64}
end
