/-! part 99c: learns, rehearses of the reference -/
/-- what the reference has learned, by the singers below s -/
def oLD (U : zVt) (I : zJt) (r s : Int) (W : zVt) (K : zJt) : Prop := ∀ i, (∀ j, U 455 j < s → oCn U r j i → W 472 i = oNv U I j i ∧ W 471 i = U (233 + 5 * j.toNat) 3 ∧ W 470 i = yHr (fun t => yBg (cSd I (233 + 5 * j.toNat) (i % 40) t)) 16 ∧ ∀ q, 0 ≤ q → q < 8 → zby (K 468 i) q = yMb (cSd I (233 + 5 * j.toNat) (i % 40) q) ∧ zby (K 469 i) q = yMb (cSd I (233 + 5 * j.toNat) (i % 40) (q + 8))) ∧ ((∀ j, U 455 j < s → ¬ oCn U r j i) → W 472 i = U 472 i ∧ W 471 i = U 471 i ∧ W 470 i = U 470 i ∧ K 468 i = I 468 i ∧ K 469 i = I 469 i)
section
variable {U W : zVt} {I K : zJt} {N r : Int} {d : Nat → Nat → UInt64}
theorem rMus_lr {M : Nat} {i x y z : Int} {L1 L2 : Int64} {s : Int} (h : rMus U I M W K s) : rMus U I M (vup (vup (vup W 472 i x) 471 i y) 470 i z) (jup (jup K 468 i L1) 469 i L2) s := by
  unfold rMus mBar at h ⊢
  rw [vup_fn (by decide), vup_fn (by decide), vup_fn (by decide), vup_fn (by decide), vup_fn (by decide), vup_fn (by decide), vup_fn (by decide), vup_fn (by decide), vup_fn (by decide), vup_fn (by decide), vup_fn (by decide), vup_fn (by decide), jup_fn (by decide), jup_fn (by decide), jup_fn (by decide), jup_fn (by decide)]
  exact h
end
