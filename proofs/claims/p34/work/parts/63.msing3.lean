/-! part 63: the reference's sings -/
section
variable {d : Nat → Nat → UInt64} {s : Int} {P : zVt} {D : Int → Int} {O : Int → Int → Int}
/-- the end of the text: what is left of the relation -/
def mEnd (W : zVt) (J : zJt) (s : Int) (P S : zVt) : Prop := mTs W P ∧ W 480 13 = S 0 7 ∧ (S 0 7 ≠ 0 → W 480 14 = S 0 8) ∧ (S 0 7 = 0 → W 480 25 = S 0 3 ∧ ∀ b, 0 ≤ b → b < S 0 3 → mBar W J (40 * s + b) (fun t => S 4 (16 * b + t)))
theorem mEnd_of {W : zVt} {J : zJt} {S : zVt} (h : mSg W J s P O S) : mEnd W J s P S := ⟨h.1, h.2.1, h.2.2.1, fun q => ⟨(h.2.2.2 q).2.2.2.2.2.1, (h.2.2.2 q).2.2.2.2.2.2.2.2⟩⟩
theorem mEnd_ns {W : zVt} {J : zJt} {S : zVt} (h : mEnd (mNs W 64) J s P S) : mEnd W J s P S := by
  have rd : ∀ o : Nat, o ≠ 447 → mNs W 64 o = W o := fun o ho => vst_o ho
  unfold mEnd mTs mBar at *
  rw [rd 480 (by decide), rd 433 (by decide), rd 435 (by decide), rd 436 (by decide), rd 437 (by decide), rd 438 (by decide), rd 439 (by decide), rd 440 (by decide), rd 453 (by decide)] at h
  exact h
end
