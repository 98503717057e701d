/-! part 51: singing ends within 3904 tokens -/
/-- the stamp of a code: place, passes -/
def yTc (D : Int → Int) (O : Int → Int → Int) (c : Int) : Int := yTm (D (c / 64)) (c / 64) (c / 16 % 4 + 1) (c / 4 % 4 + 1) (c % 4 + 1) (O (c / 64) 0) (O (c / 64) 1) (O (c / 64) 2)
def yCo (D : Int → Int) (S : zVt) : Int := S 0 0 * 64 + (if 0 < D (S 0 0) then (S 1 0 - 1) * 16 else 0) + (if 1 < D (S 0 0) then (S 1 1 - 1) * 4 else 0) + (if 2 < D (S 0 0) then S 1 2 - 1 else 0)
theorem yTc_co {P S : zVt} {D : Int → Int} {O : Int → Int → Int} (h : yCtl P D S) : yTc D O (yCo D S) = yTs D O S := by
  obtain ⟨h1, h2, h3, h4⟩ := h
  rw [h2] at h4
  unfold yTc yCo yTs
  rcases (show D (S 0 0) = 0 ∨ D (S 0 0) = 1 ∨ D (S 0 0) = 2 ∨ D (S 0 0) = 3 by omega) with e | e | e | e
  · rw [if_neg (by omega), if_neg (by omega), if_neg (by omega), show (S 0 0 * 64 + 0 + 0 + 0) / 64 = S 0 0 by omega, e]
    unfold yTm
    simp only [Int.reduceLE, ↓reduceIte]
  · have := h4 0 (by omega) (by omega)
    rw [if_pos (by omega), if_neg (by omega), if_neg (by omega), show (S 0 0 * 64 + (S 1 0 - 1) * 16 + 0 + 0) / 64 = S 0 0 by omega, show (S 0 0 * 64 + (S 1 0 - 1) * 16 + 0 + 0) / 16 % 4 + 1 = S 1 0 by omega, e]
    unfold yTm
    simp only [Int.reduceLE, ↓reduceIte]
  · have := h4 0 (by omega) (by omega)
    have := h4 1 (by omega) (by omega)
    rw [if_pos (by omega), if_pos (by omega), if_neg (by omega), show (S 0 0 * 64 + (S 1 0 - 1) * 16 + (S 1 1 - 1) * 4 + 0) / 64 = S 0 0 by omega, show (S 0 0 * 64 + (S 1 0 - 1) * 16 + (S 1 1 - 1) * 4 + 0) / 16 % 4 + 1 = S 1 0 by omega, show (S 0 0 * 64 + (S 1 0 - 1) * 16 + (S 1 1 - 1) * 4 + 0) / 4 % 4 + 1 = S 1 1 by omega, e]
    unfold yTm
    simp only [Int.reduceLE, Int.reduceEq, ↓reduceIte]
  · have := h4 0 (by omega) (by omega)
    have := h4 1 (by omega) (by omega)
    have := h4 2 (by omega) (by omega)
    rw [if_pos (by omega), if_pos (by omega), if_pos (by omega), show (S 0 0 * 64 + (S 1 0 - 1) * 16 + (S 1 1 - 1) * 4 + (S 1 2 - 1)) / 64 = S 0 0 by omega, show (S 0 0 * 64 + (S 1 0 - 1) * 16 + (S 1 1 - 1) * 4 + (S 1 2 - 1)) / 16 % 4 + 1 = S 1 0 by omega, show (S 0 0 * 64 + (S 1 0 - 1) * 16 + (S 1 1 - 1) * 4 + (S 1 2 - 1)) / 4 % 4 + 1 = S 1 1 by omega, show (S 0 0 * 64 + (S 1 0 - 1) * 16 + (S 1 1 - 1) * 4 + (S 1 2 - 1)) % 4 + 1 = S 1 2 by omega]
theorem yCo_rng {P S : zVt} {D : Int → Int} (h : yCtl P D S) (hn : P 8 0 ≤ 60) : 0 ≤ yCo D S ∧ yCo D S < 3904 := by
  obtain ⟨h1, h2, h3, h4⟩ := h
  rw [h2] at h4
  unfold yCo
  have a0 : 0 < D (S 0 0) → 1 ≤ S 1 0 ∧ S 1 0 ≤ 4 := fun q => h4 0 (by omega) q
  have a1 : 1 < D (S 0 0) → 1 ≤ S 1 1 ∧ S 1 1 ≤ 4 := fun q => h4 1 (by omega) q
  have a2 : 2 < D (S 0 0) → 1 ≤ S 1 2 ∧ S 1 2 ≤ 4 := fun q => h4 2 (by omega) q
  repeat' split
  all_goals omega
/-- how many of the codes below n are stamped ahead of t -/
def yCount (f : Int → Int) (t : Int) : Nat → Nat
  | 0 => 0
  | n + 1 => yCount f t n + (if f n < t then 1 else 0)
theorem yCount_le (f : Int → Int) (t : Int) : ∀ n, yCount f t n ≤ n
  | 0 => Nat.le_refl 0
  | n + 1 => by
    have := yCount_le f t n
    unfold yCount
    split <;> omega
theorem yCount_mono {f : Int → Int} {t u : Int} (h : t ≤ u) : ∀ n, yCount f t n ≤ yCount f u n
  | 0 => Nat.le_refl 0
  | n + 1 => by
    have := yCount_mono h (f := f) n
    unfold yCount
    split <;> split <;> omega
theorem yCount_lt {f : Int → Int} {t u : Int} (h : t ≤ u) {c : Int} (hc0 : 0 ≤ c) (h1 : t ≤ f c) (h2 : f c < u) : ∀ n : Nat, c < n → yCount f t n < yCount f u n
  | 0, hc => by omega
  | n + 1, hc => by
    have hm := yCount_mono h (f := f) n
    by_cases hcn : c = n
    · subst hcn
      unfold yCount
      rw [if_neg (by omega), if_pos h2]
      omega
    · have := yCount_lt h hc0 h1 h2 n (by omega)
      unfold yCount
      split <;> split <;> omega
theorem yCount_at {f : Int → Int} {t : Int} {c : Int} (hc0 : 0 ≤ c) (h1 : t ≤ f c) : ∀ n : Nat, c < n → yCount f t n < n
  | 0, hc => by omega
  | n + 1, hc => by
    have hle := yCount_le f t n
    by_cases hcn : c = n
    · subst hcn
      unfold yCount
      rw [if_neg (by omega)]
      omega
    · have := yCount_at hc0 h1 n (by omega)
      unfold yCount
      split <;> omega
theorem yRun_end {P : zVt} {D : Int → Int} {O : Int → Int → Int} (hP : yTok P D O) {M : Nat} (hM : (M : Int) = 3904) : ∀ (j : Nat) (S : zVt), yInv P D S → M ≤ yCount (yTc D O) (yTs D O S) M + j → yDone P (yRun P j S)
  | 0, S, h, hj => by
    exfalso
    have hc := (yInv_iff.mp h).1
    have r := yCo_rng hc hP.1.2
    have := yCount_at (f := yTc D O) (t := yTs D O S) r.1 (by rw [yTc_co hc]; exact Int.le_refl _) M (by omega)
    omega
  | j + 1, S, h, hj => by
    unfold yRun
    by_cases hd : S 0 0 < P 8 0 ∧ S 0 7 = 0
    · rw [if_pos hd]
      by_cases h7 : yStep P S 0 7 = 0
      · obtain ⟨i1, i2⟩ := yStep_inv hP h hd.1 h7
        have hc := (yInv_iff.mp h).1
        have r := yCo_rng hc hP.1.2
        have q := yCount_lt (f := yTc D O) (t := yTs D O S) (u := yTs D O (yStep P S)) (by omega) r.1 (by rw [yTc_co hc]; exact Int.le_refl _) (by rw [yTc_co hc]; exact i2) M (by omega)
        exact yRun_end hP hM j _ i1 (by omega)
      · cases j with
        | zero => exact Or.inr h7
        | succ j =>
          unfold yRun
          rw [if_neg (fun w => h7 w.2)]
          exact Or.inr h7
    · rw [if_neg hd]
      unfold yDone
      omega
theorem yBeg_inv {P : zVt} {D : Int → Int} {O : Int → Int → Int} (hP : yTok P D O) : yInv P D yBeg := by
  obtain ⟨p1, p2, p3, p4, p5⟩ := hP
  refine ⟨?_, ?_, ?_, ?_, ?_, ?_, ?_, ?_, ?_, ?_, rfl⟩
  · show 3 ≤ (3 : Int) ∧ (3 : Int) ≤ P 8 0
    omega
  · show (0 : Int) = D 3
    rw [p4]
  · show 0 ≤ D 3 ∧ D 3 ≤ 3
    rw [p4]
    omega
  · show ∀ i, 0 ≤ i → i < (0 : Int) → _
    intro i i0 i1
    omega
  · show 0 ≤ (0 : Int) ∧ (0 : Int) ≤ P 8 1
    omega
  · show ∀ t, 0 ≤ t → t < (0 : Int) → _
    intro i i0 i1
    omega
  · intro s _ _
    exact Or.inl rfl
  · show 0 ≤ (0 : Int) ∧ (0 : Int) ≤ 40
    omega
  · exact Or.inl rfl
  · show ∀ j, 0 ≤ j → j < 16 * (0 : Int) → _
    intro j j0 j1
    omega
/-- the end of singing -/
def ySong (P : zVt) : zVt := yRun P 3904 yBeg
theorem ySong_end {P : zVt} {D : Int → Int} {O : Int → Int → Int} (hP : yTok P D O) : yDone P (ySong P) := yRun_end hP (M := 3904) rfl 3904 yBeg (yBeg_inv hP) (Nat.le_add_left _ _)
theorem yRun_inv {P : zVt} {D : Int → Int} {O : Int → Int → Int} (hP : yTok P D O) : ∀ (j : Nat) (S : zVt), yInv P D S ∨ S 0 7 ≠ 0 → yInv P D (yRun P j S) ∨ yRun P j S 0 7 ≠ 0
  | 0, S, h => h
  | j + 1, S, h => by
    unfold yRun
    by_cases hd : S 0 0 < P 8 0 ∧ S 0 7 = 0
    · rw [if_pos hd]
      rcases h with h | h
      · refine yRun_inv hP j _ ?_
        by_cases h7 : yStep P S 0 7 = 0
        · exact Or.inl (yStep_inv hP h hd.1 h7).1
        · exact Or.inr h7
      · exact absurd hd.2 h
    · rw [if_neg hd]
      exact h
/-- the end of the text -/
def yAll (P : zVt) : zVt := if ySong P 0 7 = 0 then yFin P (ySong P) else ySong P
