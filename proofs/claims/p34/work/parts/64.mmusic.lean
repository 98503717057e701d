/-! part 64: the reference's music -/
/-- a fault of singing is at a token, or at the end -/
def y8 (P S : zVt) : Prop := S 0 7 ≠ 0 → 7 ≤ S 0 7 ∧ (S 0 8 = -1 ∨ 0 ≤ S 0 8 ∧ S 0 8 < P 8 0)
theorem y8_fl {P S : zVt} {f t : Int} (hf : 7 ≤ f) (ht : t = -1 ∨ 0 ≤ t ∧ t < P 8 0) : y8 P (yFl S f t) := by
  intro _
  rw [yFl_7]
  refine ⟨hf, ?_⟩
  unfold yFl
  rw [vup_at]
  exact ht
theorem y8_0 {P S : zVt} (h : S 0 7 = 0) : y8 P S := fun q => absurd h q
theorem y8_at {P S : zVt} {z : Int} (h : y8 P S) : y8 P (vup S 0 0 z) := by
  unfold y8
  rw [vup_k (by decide), vup_k (by decide)]
  exact h
theorem yBar_8 {P S : zVt} {a : Int} (h7 : S 0 7 = 0) (ha : a = -1 ∨ 0 ≤ a ∧ a < P 8 0) : y8 P (yBar P S a) := by
  unfold yBar
  split
  · exact y8_fl (by decide) ha
  · split
    · exact y8_fl (by decide) ha
    · exact y8_0 (by simp (disch := decide) only [vst_o, vup_k]; exact h7)
theorem yStep_8 {P S : zVt} {D : Int → Int} (h : yInv P D S) (hn : S 0 0 < P 8 0) : y8 P (yStep P S) := by
  have h7 : S 0 7 = 0 := h.2.2.2.2.2.2.2.2.2.2
  have ha := h.1
  have ht := h.2.2.2.2.2.2.2.2.1
  unfold yStep
  split
  · refine y8_at ?_
    unfold yNote
    split
    · rename_i hb
      exact y8_fl (by decide) (by have := hb.1; omega)
    · split
      · exact y8_fl (by decide) (by omega)
      · refine y8_0 ?_
        rw [vup_k (by decide), vup_k (by decide), vup_k (by decide)]
        split
        · rw [vup_o (by decide), yFil_0 (by decide), h7]
        · rw [yFil_0 (by decide), h7]
  · split
    · refine y8_at ?_
      unfold yRest
      split
      · exact y8_fl (by decide) (by omega)
      · split
        · exact y8_fl (by decide) (by omega)
        · exact y8_0 (by rw [yFil_0 (by decide), h7])
    · split
      · exact y8_at (yBar_8 h7 (by omega))
      · split
        · exact y8_0 (by rw [vup_k (by decide), vup_k (by decide), vup_o (by decide), h7])
        · split
          · split
            · exact y8_0 (by rw [vup_k (by decide), vup_o (by decide), h7])
            · exact y8_0 (by rw [vup_k (by decide), vup_k (by decide), h7])
          · split
            · exact y8_0 (by rw [vup_k (by decide), h7])
            · exact y8_0 (by rw [vup_k (by decide), h7])
theorem yRun_8 {P : zVt} {D : Int → Int} {O : Int → Int → Int} (hP : yTok P D O) : ∀ (j : Nat) (S : zVt), (yInv P D S ∨ S 0 7 ≠ 0) → y8 P S → y8 P (yRun P j S)
  | 0, S, _, h8 => h8
  | j + 1, S, h, h8 => by
    unfold yRun
    split
    · rename_i hc
      have hi : yInv P D S := by
        rcases h with q | q
        · exact q
        · exact absurd hc.2 q
      refine yRun_8 hP j _ ?_ (yStep_8 hi hc.1)
      by_cases w : yStep P S 0 7 = 0
      · exact Or.inl (yStep_inv hP hi hc.1 w).1
      · exact Or.inr w
    · exact h8
theorem yAll_8 {P : zVt} {D : Int → Int} {O : Int → Int → Int} (hP : yTok P D O) : y8 P (yAll P) := by
  have h8 : y8 P (ySong P) := yRun_8 hP 3904 yBeg (Or.inl (yBeg_inv hP)) (y8_0 rfl)
  unfold yAll
  by_cases hs : ySong P 0 7 = 0
  · rw [if_pos hs]
    have hi : yInv P D (ySong P) := by
      rcases yRun_inv hP 3904 yBeg (Or.inl (yBeg_inv hP)) with w | w
      · exact w
      · exact absurd hs w
    have ht := hi.2.2.2.2.2.2.2.2.1
    unfold yFin
    split
    · exact y8_fl (by decide) (by omega)
    · split
      · exact yBar_8 hs (Or.inl rfl)
      · exact h8
  · rw [if_neg hs]
    exact h8
/-- what music leaves: s the place of music -/
def mFm (s : Int) (W : zVt) (J : zJt) (W' : zVt) (J' : zJt) : Prop := (∀ o : Nat, ¬(o = 480 ∨ (433 ≤ o ∧ o ≤ 450) ∨ o = 453) → W' o = W o) ∧ (∀ k : Int, ¬(10 ≤ k ∧ k ≤ 28) → W' 480 k = W 480 k) ∧ (∀ j, ¬(40 * s ≤ j ∧ j < 40 * s + 40) → W' 453 j = W 453 j) ∧ (∀ j, j ≠ s → W' 448 j = W 448 j ∧ W' 449 j = W 449 j ∧ W' 450 j = W 450 j) ∧ (∀ o, o ≠ 451 → o ≠ 452 → J' o = J o) ∧ ∀ j, ¬(40 * s ≤ j ∧ j < 40 * s + 40) → J' 451 j = J 451 j ∧ J' 452 j = J 452 j
/-- where errorAt finds the fault: fault f at pos -/
def mEat (W : zVt) (f pos len : Int) : Prop := (f = 0 → pos = -1) ∧ (f = 1 → W 480 11 = pos) ∧ (f ≠ 0 → f ≠ 1 → W 480 14 = -1 ∧ pos = len ∨ (0 ≤ W 480 14 ∧ W 480 14 < 60) ∧ W 434 (W 480 14) = pos)
section
variable {d : Nat → Nat → UInt64}
end
