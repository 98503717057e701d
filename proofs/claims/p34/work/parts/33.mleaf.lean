/-! part 33: letters; the reference's reading of a token -/
/-- a letter of a part's text: lengths L, letters X -/
def zt (L X : Int → Int) (w p : Int) : Int := if 0 ≤ p ∧ p < L w then X (160 * w + p) else 0
/-- the texts are in order -/
def zTx (L X : Int → Int) : Prop := ∀ w, 0 ≤ w → w < 12 → (0 ≤ L w ∧ L w ≤ 160) ∧ ∀ p, 0 ≤ p → p < L w → 32 ≤ X (160 * w + p) ∧ X (160 * w + p) ≤ 126
theorem zt_rng {L X : Int → Int} (h : zTx L X) {w : Int} (hw : 0 ≤ w ∧ w < 12) (p : Int) (hp : 0 ≤ p) : 0 ≤ zt L X w p ∧ zt L X w p ≤ 126 := by
  unfold zt
  split
  · rename_i q
    have := (h w hw.1 hw.2).2 p hp q.2
    omega
  · omega
theorem zt_end {L X : Int → Int} (h : zTx L X) {w : Int} (hw : 0 ≤ w ∧ w < 12) (p : Int) (hp : 160 ≤ p) : zt L X w p = 0 := by
  have := (h w hw.1 hw.2).1
  exact if_neg (by omega)
section
variable {V : zVt} {J : zJt} {d : Nat → Nat → UInt64}
end
/-- a length's ticks by its letter, then with a point -/
def yDur (c : Int) : Int := if c = 119 then 16 else if c = 104 then 8 else if c = 113 then 4 else if c = 101 then 2 else if c = 115 then 1 else 0
def yTk (c n : Int) : Int := if 1 < yDur c ∧ n = 46 then yDur c + yDur c / 2 else yDur c
def yTe (c n p : Int) : Int := if 1 < yDur c ∧ n = 46 then p + 2 else if yDur c = 0 then -1 else p + 1
theorem yDur_cs (c : Int) : (c = 119 ∧ yDur c = 16) ∨ (c = 104 ∧ yDur c = 8) ∨ (c = 113 ∧ yDur c = 4) ∨ (c = 101 ∧ yDur c = 2) ∨ (c = 115 ∧ yDur c = 1) ∨ ((c ≠ 119 ∧ c ≠ 104 ∧ c ≠ 113 ∧ c ≠ 101 ∧ c ≠ 115) ∧ yDur c = 0) := by
  unfold yDur
  repeat' split
  all_goals omega
theorem yDur_rng (c : Int) : 0 ≤ yDur c ∧ yDur c ≤ 16 := by
  unfold yDur
  repeat' split
  all_goals omega
theorem yTe_yTk (c n p : Int) : (yTe c n p = -1 ∧ yTk c n = 0 ∨ yTe c n p = p + 1 ∧ 1 ≤ yTk c n ∨ yTe c n p = p + 2 ∧ 1 ≤ yTk c n) ∧ 0 ≤ yTk c n ∧ yTk c n ≤ 24 ∨ p = -2 := by
  have := yDur_rng c
  unfold yTk yTe
  repeat' split
  all_goals omega
section
variable {V : zVt} {J : zJt} {d : Nat → Nat → UInt64}
end
/-- the five cells that a token's reading writes -/
def yIs (V : zVt) (n a b s t i : Int) : zVt := vup (vup (vup (vup (vup V 433 n a) 435 n b) 436 n s) 437 n t) 438 n i
theorem yIs_n {V : zVt} {n a b s t i : Int} {o : Nat} (h : o ≠ 433 ∧ o ≠ 435 ∧ o ≠ 436 ∧ o ≠ 437 ∧ o ≠ 438) : yIs V n a b s t i o = V o := by
  unfold yIs
  rw [vup_fn h.2.2.2.2, vup_fn h.2.2.2.1, vup_fn h.2.2.1, vup_fn h.2.1, vup_fn h.1]
theorem yIs_s (V : zVt) (n a b s t i s2 : Int) : vup (yIs V n a b s t i) 436 n s2 = yIs V n a b s2 t i := by
  unfold yIs
  funext o k
  simp only [vup]
  repeat' split
  all_goals first
    | rfl
    | omega
theorem yIs_t (V : zVt) (n a b s t i t2 : Int) : vup (yIs V n a b s t i) 437 n t2 = yIs V n a b s t2 i := by
  unfold yIs
  funext o k
  simp only [vup]
  repeat' split
  all_goals first
    | rfl
    | omega
theorem yIs_i (V : zVt) (n a b s t i i2 : Int) : vup (yIs V n a b s t i) 438 n i2 = yIs V n a b s t i2 := by
  unfold yIs
  exact vup_vup _ _ _ _ _
theorem yIs_i5 (V : zVt) (n a b s t i : Int) : yIs V n a b s t i 438 n = i := vup_at _ _ _ _
section
variable {V : zVt} {J : zJt} {d : Nat → Nat → UInt64}
end
def yMet (c1 c2 c3 : Int) : Int := if (49 ≤ c1 ∧ c1 ≤ 57) ∧ c2 = 47 ∧ c3 = 52 ∧ 4 * (c1 - 48) ≤ 16 then 4 * (c1 - 48) else if (49 ≤ c1 ∧ c1 ≤ 57) ∧ c2 = 47 ∧ c3 = 56 ∧ 2 * (c1 - 48) ≤ 16 then 2 * (c1 - 48) else 0
section
variable {V : zVt} {J : zJt} {d : Nat → Nat → UInt64}
end
