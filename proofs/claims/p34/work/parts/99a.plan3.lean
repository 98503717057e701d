/-! part 99a: finds and isFree of the reference -/
/-- the copies of singers for request r -/
def oSi (U : zVt) (r : Int) (S : Int → Int) : Prop := ∀ s, 0 ≤ s → s < 12 → (S s = -1 ∧ ¬∃ k, oSg U r k ∧ U 455 k = s) ∨ (oSg U r (S s) ∧ U 455 (S s) = s)
theorem oSi_ex (U : zVt) (r : Int) : ∃ S, oSi U r S := by
  have hex : ∀ s : Int, ∃ y, (y = -1 ∧ ¬∃ k, oSg U r k ∧ U 455 k = s) ∨ (oSg U r y ∧ U 455 y = s) := fun s => by
    by_cases q : ∃ k, oSg U r k ∧ U 455 k = s
    · obtain ⟨k, k1⟩ := q
      exact ⟨k, Or.inr k1⟩
    · exact ⟨-1, Or.inl ⟨rfl, q⟩⟩
  obtain ⟨S, hS⟩ := Classical.axiomOfChoice hex
  exact ⟨S, fun s _ _ => hS s⟩
section
variable {U W : zVt} {I K : zJt} {N r : Int} {d : Nat → Nat → UInt64}
theorem oSi_g {S g : Int → Int} (hS : oSi U r S) (hg : oGs U r (U 480 37) g) {s : Int} (hs : 0 ≤ s ∧ s < 12) : g s = 1 ↔ S s ≠ -1 := by
  rw [hg.2.1 s hs.1 hs.2]
  rcases hS s hs.1 hs.2 with ⟨a1, a2⟩ | ⟨a1, a2⟩
  · constructor
    · rintro ⟨j, j1, j2, j3⟩
      exact absurd ⟨j, j2, j3⟩ a2
    · intro w
      exact absurd a1 w
  · constructor
    · intro _ w
      have := a1.1.1.1
      omega
    · intro _
      exact ⟨S s, a1.1.1.2, a1, a2⟩
theorem oCt_S (g : Int → Int) : oS g 12 = oCt g := by
  show 0 + g 0 + g 1 + g 2 + g 3 + g 4 + g 5 + g 6 + g 7 + g 8 + g 9 + g 10 + g 11 = oCt g
  rw [Int.zero_add]
end
