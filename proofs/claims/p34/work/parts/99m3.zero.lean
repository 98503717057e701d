/-! part 99m3: at the start all is in order -/
/-- at the start: what the constructor leaves, and the ghosts with it -/
def V0 : zVt := fun o k => if 0 ≤ k then (if o = 43 ∧ k < 4 then 4 else if o = 460 ∧ k < 4 then 4 else if 230 ≤ o ∧ o < 430 ∧ (o - 230) % 5 = 0 ∧ k = 1 then -1 else 0) else 0
def J0 : zJt := fun _ _ => 0
theorem V0_eq (o : Nat) (k : Int) : V0 o k = if 0 ≤ k then (if o = 43 ∧ k < 4 then 4 else if o = 460 ∧ k < 4 then 4 else if 230 ≤ o ∧ o < 430 ∧ (o - 230) % 5 = 0 ∧ k = 1 then -1 else 0) else 0 := rfl
theorem V0_zi {o k : Nat} (h : o < 432) : zi (V0 o k) = zI0 o k := by
  rw [V0_eq, if_pos (by omega)]
  unfold zI0
  by_cases a : o = 43 ∧ k < 4
  · rw [if_pos a, if_pos (by omega)]
    rfl
  · rw [if_neg a, if_neg (by omega), if_neg (by omega)]
    by_cases c : 230 ≤ o ∧ o < 430 ∧ (o - 230) % 5 = 0 ∧ k = 1
    · rw [if_pos c, if_pos (by omega)]
      rfl
    · rw [if_neg c, if_neg (by omega)]
      rfl
theorem v0z {o : Nat} {k : Int} (h1 : o ≠ 43) (h2 : o ≠ 460) (h3 : ¬(230 ≤ o ∧ o < 430 ∧ (o - 230) % 5 = 0)) : V0 o k = 0 := by
  rw [V0_eq]
  split
  · rw [if_neg (by omega), if_neg (by omega), if_neg (by omega)]
  · rfl
theorem v0f {o : Nat} (h1 : o ≠ 43) (h2 : o ≠ 460) (h3 : ¬(230 ≤ o ∧ o < 430 ∧ (o - 230) % 5 = 0)) : V0 o = fun _ => 0 := by
  funext k
  exact v0z h1 h2 h3
theorem v0c {j : Nat} (hj : j < 40) (k : Int) : V0 (230 + 5 * j) k = if k = 1 then -1 else 0 := by
  rw [V0_eq]
  split
  · rw [if_neg (by omega), if_neg (by omega)]
    by_cases h : k = 1
    · rw [if_pos (by omega), if_pos h]
    · rw [if_neg (by omega), if_neg h]
  · rw [if_neg (by omega)]
theorem iMk_0 {M : Nat} {e : Int} (h1 : V0 M = fun _ => 0) (h2 : V0 (M + 1) = fun _ => 0) : iMk V0 M e := by
  unfold iMk
  rw [h1, h2, v0f (o := 456) (by omega) (by omega) (by omega), yCt_0]
  · exact ⟨fun c _ _ => ⟨rfl, Or.inl rfl, fun _ => rfl⟩, rfl⟩
  · exact fun _ _ _ => rfl
theorem zInv_0 : zInv 0 V0 J0 := by
  have f0 : ∀ o : Nat, o ≠ 43 → o ≠ 460 → ¬(230 ≤ o ∧ o < 430 ∧ (o - 230) % 5 = 0) → V0 o = fun _ => 0 := fun o h1 h2 h3 => v0f h1 h2 h3
  have e480 := f0 480 (by omega) (by omega) (by omega)
  have e432 := f0 432 (by omega) (by omega) (by omega)
  refine ⟨⟨?_, ?_⟩, ?_, ?_, ?_, ?_, ?_, ?_, ?_, ?_, ?_⟩
  · intro w _ _
    rw [e432]
    dsimp only
    exact ⟨⟨by omega, by omega⟩, fun p p0 p1 => by have p1 : p < 0 := p1; omega⟩
  · intro w hw
    rw [e432, f0 (50 + 15 * w) (by omega) (by omega) (by omega)]
    dsimp only
    exact ⟨rfl, fun p p0 p1 => by have p1 : p < 0 := p1; omega⟩
  · unfold iCor
    rw [e480, f0 3 (by omega) (by omega) (by omega), f0 4 (by omega) (by omega) (by omega), f0 5 (by omega) (by omega) (by omega), f0 6 (by omega) (by omega) (by omega), f0 457 (by omega) (by omega) (by omega), f0 458 (by omega) (by omega) (by omega), f0 459 (by omega) (by omega) (by omega)]
    dsimp only
    exact ⟨⟨by omega, by omega⟩, rfl, rfl, rfl, rfl⟩
  · intro w hw
    unfold iPart
    rw [e480, f0 (50 + 15 * w) (by omega) (by omega) (by omega), f0 (62 + 15 * w) (by omega) (by omega) (by omega)]
    dsimp only
    refine ⟨Or.inl rfl, Or.inl rfl, ⟨fun q => absurd q (by decide), fun q => ?_⟩, iMk_0 (f0 _ (by omega) (by omega) (by omega)) (f0 _ (by omega) (by omega) (by omega)), fun _ _ _ _ => rfl, fun q => absurd q (by decide), fun q => absurd q (by decide)⟩
    obtain ⟨j, ⟨j0, j1⟩, -⟩ := q
    have j1 : j < 0 := j1
    omega
  · rw [e480, f0 0 (by omega) (by omega) (by omega)]
    dsimp only
    exact ⟨⟨by omega, by omega⟩, rfl⟩
  · intro j hj
    unfold iCopy
    rw [e480]
    refine ⟨iMk_0 (f0 _ (by omega) (by omega) (by omega)) (f0 _ (by omega) (by omega) (by omega)), fun q => ?_, fun _ => ⟨?_, fun c _ _ => ?_⟩⟩
    · have q : (j : Int) < 0 := q
      omega
    · rw [v0c hj, if_pos rfl]
    · exact v0z (by omega) (by omega) (by omega)
  · intro j k j0 j1
    rw [e480] at j1
    have j1 : j < 0 := j1
    omega
  · unfold iReh
    rw [e480, f0 44 (by omega) (by omega) (by omega), f0 461 (by omega) (by omega) (by omega), f0 45 (by omega) (by omega) (by omega), f0 462 (by omega) (by omega) (by omega), f0 37 (by omega) (by omega) (by omega)]
    dsimp only
    refine ⟨fun r r0 r1 => ?_, fun _ _ _ => ⟨rfl, Or.inl rfl⟩, fun t _ _ => ⟨?_, fun _ _ _ => Or.inl rfl⟩, rfl, ⟨by omega, by omega⟩, rfl, ⟨by omega, by omega⟩, fun k k0 k1 => by have k1 : k < 0 := k1; omega⟩
    · have a : V0 43 r = 4 := by rw [V0_eq, if_pos r0, if_pos ⟨rfl, r1⟩]
      have b : V0 460 r = 4 := by rw [V0_eq, if_pos r0, if_neg (by omega), if_pos ⟨rfl, r1⟩]
      rw [a, b]
      omega
    · have e : (fun s : Int => if s < 12 then (0 : Int) else 0) = fun _ => 0 := by
        funext s
        split <;> rfl
      show (0 : Int) = yHr (fun s : Int => if s < 12 then (0 : Int) else 0) 16
      rw [e]
      decide
  · intro i _ _
    rw [f0 47 (by omega) (by omega) (by omega), f0 472 (by omega) (by omega) (by omega)]
    dsimp only
    exact ⟨rfl, ⟨by omega, by omega⟩, fun q => by have q : (0 : Int) < 0 := q; omega⟩
  · rw [f0 0 (by omega) (by omega) (by omega), e480]
    dsimp only
    exact ⟨rfl, by omega, by omega⟩
  · omega
