/-! part 60: the reference's singing: leaves -/
def yPi (b : Int) : Int := if b = 0 then -2 else if 128 ≤ b then b - 128 else b
def yBg (b : Int) : Int := if 128 ≤ b then 1 else 0
def yMb (b : Int) : Int := if b = 0 then 0 else if 128 ≤ b then b - 126 else b + 2
theorem yBg_01 (b : Int) : yBg b = 0 ∨ yBg b = 1 := by
  unfold yBg
  split <;> omega
section
variable {V : zVt} {J : zJt} {d : Nat → Nat → UInt64}
/-- no signs -/
def mNs (V : zVt) (p : Int) : zVt := vst V 447 (fun s => if 0 ≤ s ∧ s < p then 9 else V 447 s)
end
section
variable {J : zJt} {d : Nat → Nat → UInt64}
end
