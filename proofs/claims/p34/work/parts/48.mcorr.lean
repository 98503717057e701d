/-! part 48: the reference's corrections -/
section
variable {J : zJt} {d : Nat → Nat → UInt64}
/-- the reference's tokens when the first p of them are corrected -/
def mApd (V V0 : zVt) (H : Int → Int) (cnt p : Int) : Prop := ∀ k, 0 ≤ k →
  (k < p → V 433 k = (if foi H (V0 457) (V0 458) (V0 459) k 4 4 0 cnt = 1 then 4 else V0 433 k) ∧ V 435 k = foi H (V0 457) (V0 458) (V0 459) k 0 1 (V0 435 k) cnt ∧ V 436 k = foi H (V0 457) (V0 458) (V0 459) k 2 2 (V0 436 k) cnt ∧ V 437 k = foi H (V0 457) (V0 458) (V0 459) k 3 3 (V0 437 k) cnt ∧ V 438 k = (if foi H (V0 457) (V0 458) (V0 459) k 4 4 0 cnt = 1 then 0 else V0 438 k)) ∧
  (p ≤ k → V 433 k = V0 433 k ∧ V 435 k = V0 435 k ∧ V 436 k = V0 436 k ∧ V 437 k = V0 437 k ∧ V 438 k = V0 438 k)
/-- what correcting leaves -/
def mFc (V V' : zVt) : Prop := ∀ o : Nat, ¬(o = 433 ∨ (435 ≤ o ∧ o ≤ 438)) → V' o = V o
end
