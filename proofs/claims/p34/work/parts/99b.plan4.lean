/-! part 99b: learns of the reference -/
/-- the reference but what a rehearsal changes -/
abbrev pMp (U W : zVt) : Prop := (∀ o : Nat, (o = 481 ∨ o = 432 ∨ (454 ≤ o ∧ o ≤ 460) ∨ (463 ≤ o ∧ o ≤ 466) ∨ o = 468 ∨ o = 469) → W o = U o) ∧ (W 480 37 = U 480 37 ∧ W 480 42 = U 480 42 ∧ W 480 46 = U 480 46 ∧ W 480 52 = U 480 52 ∧ W 480 59 = U 480 59)
section
variable {V W : zVt} {J K : zJt} {N s w b : Int} {d : Nat → Nat → UInt64}
end
