/-! part 79: a copy changes hands -/
section
variable {V V' : zVt} {J J' : zJt}
theorem zInv_cp {N : Int} {c : Nat} (h : zInv N V J) (hc : (c : Int) < V 480 37)
    (hf : ∀ o : Nat, ¬(230 + 5 * c ≤ o ∧ o ≤ 233 + 5 * c) → ¬(7 ≤ o ∧ o ≤ 36) → o ≠ 480 → ¬(433 ≤ o ∧ o ≤ 450) → o ≠ 453 → o ≠ 455 → o ≠ 456 → V' o = V o) (hj : ∀ o : Nat, o ≠ 234 + 5 * c → o ≤ 473 → o ≠ 451 → o ≠ 452 → J' o = J o) (hC0 : V' (230 + 5 * c) 0 = V (230 + 5 * c) 0) (hC1 : V' (230 + 5 * c) 1 = V' 455 c ∧ -1 ≤ V' 455 c ∧ V' 455 c < 12) (h455 : ∀ j : Int, j ≠ c → V' 455 j = V 455 j) (h456 : ∀ x : Int, ¬(200 * c ≤ x ∧ x < 200 * c + 200) → V' 456 x = V 456 x) (hmk : iMk V' (231 + 5 * c) c) (hms : iMs V' J' (233 + 5 * c) (V 454 c).toNat (V' (232 + 5 * c))) (h480 : V' 480 37 = V 480 37 ∧ V' 480 42 = V 480 42 ∧ V' 480 46 = V 480 46 ∧ V' 480 52 = V 480 52 ∧ V' 480 59 = V 480 59)
    (hone : ∀ j : Int, 0 ≤ j → j < V 480 37 → j ≠ c → V' 455 c ≠ -1 → V 455 j = V' 455 c → V 454 j / 4 = V 454 c / 4 → False) : zInv N V' J' := by
  obtain ⟨a1, a2, a3, a4, a5, a6, a7, a8, a9, a10⟩ := h
  have hc4 : c < 40 := by omega
  have f : ∀ o : Nat, ¬(230 + 5 * c ≤ o ∧ o ≤ 233 + 5 * c) → ¬(7 ≤ o ∧ o ≤ 36) → o ≠ 480 → ¬(433 ≤ o ∧ o ≤ 450) → o ≠ 453 → o ≠ 455 → o ≠ 456 → V' o = V o := hf
  have f481 : V' 481 = V 481 := hf _ (by omega) (by omega) (by omega) (by omega) (by omega) (by omega) (by omega)
  have f432 : V' 432 = V 432 := hf _ (by omega) (by omega) (by omega) (by omega) (by omega) (by omega) (by omega)
  have f454 : V' 454 = V 454 := hf _ (by omega) (by omega) (by omega) (by omega) (by omega) (by omega) (by omega)
  have fs : ∀ o : Nat, o ≤ 6 → V' o = V o := fun o _ => hf _ (by omega) (by omega) (by omega) (by omega) (by omega) (by omega) (by omega)
  have fr : ∀ o : Nat, 37 ≤ o → o < 230 → V' o = V o := fun o _ _ => hf _ (by omega) (by omega) (by omega) (by omega) (by omega) (by omega) (by omega)
  have fh : ∀ o : Nat, (457 ≤ o ∧ o ≠ 480) → V' o = V o := fun o _ => hf _ (by omega) (by omega) (by omega) (by omega) (by omega) (by omega) (by omega)
  have fc : ∀ j : Nat, j < 40 → j ≠ c → ∀ o : Nat, 230 + 5 * j ≤ o → o < 235 + 5 * j → V' o = V o := fun j _ _ o _ _ => hf _ (by omega) (by omega) (by omega) (by omega) (by omega) (by omega) (by omega)
  have h4 : V' 4 = V 4 ∧ V' 5 = V 5 ∧ V' 6 = V 6 := ⟨fs 4 (by omega), fs 5 (by omega), fs 6 (by omega)⟩
  have h3 := fs 3 (by omega)
  have hmf : ∀ (M : Nat) (e : Int), (e < c ∨ (c : Int) < e) → V' M = V M → V' (M + 1) = V (M + 1) → iMk V M e → iMk V' M e := fun M e he m1 m2 m3 => by
    unfold iMk at *
    rw [m1, m2, h480.2.1]
    refine ⟨fun x x0 x1 => ?_, m3.2⟩
    rw [h456 _ (by omega)]
    exact m3.1 x x0 x1
  refine ⟨?_, ?_, ?_, ?_, ?_, ?_, ?_, ?_, ?_, a10⟩
  · unfold iTxt at *
    rw [f481, f432]
    refine ⟨a1.1, fun w w1 => ?_⟩
    rw [fr (50 + 15 * w) (by omega) (by omega), fr (51 + 15 * w) (by omega) (by omega)]
    exact a1.2 w w1
  · unfold iCor at *
    rw [h480.2.1, h3, h4.1, h4.2.1, h4.2.2, fh 457 (by omega), fh 458 (by omega), fh 459 (by omega)]
    exact a2
  · intro w w1
    obtain ⟨b1, b2, b3, b4, b5, b6, b7⟩ := a3 w w1
    unfold iPart
    rw [fr (50 + 15 * w) (by omega) (by omega), fr (62 + 15 * w) (by omega) (by omega), h480.1, f454]
    exact ⟨b1, b2, b3, hmf _ _ (by omega) (fr _ (by omega) (by omega)) (fr _ (by omega) (by omega)) b4, b5, fun q => iRd_fr (fun o h1 h2 => fr o (by omega) (by omega)) (hj _ (by omega) (by omega) (by omega) (by omega)) f481 f432 h3 h4 (b6 q), b7⟩
  · rw [h480.1, fs 0 (by omega)]
    exact a4
  · intro j j1
    obtain ⟨b1, b2, b3⟩ := a5 j j1
    by_cases e : j = c
    · subst e
      obtain ⟨c1, c2, c3, c4, c5⟩ := b2 hc
      unfold iCopy
      rw [f454, h480.1, hC0]
      exact ⟨hmk, fun _ => ⟨c1, c2, hC1.1, hC1.2, hms⟩, fun q => by omega⟩
    · unfold iCopy
      rw [f454, h480.1, h455 j (by omega), fc j j1 e (230 + 5 * j) (by omega) (by omega), fc j j1 e (232 + 5 * j) (by omega) (by omega)]
      refine ⟨hmf _ _ (by omega) (fc j j1 e _ (by omega) (by omega)) (fc j j1 e _ (by omega) (by omega)) b1, fun q => ?_, b3⟩
      obtain ⟨c1, c2, c3, c4, c5⟩ := b2 q
      exact ⟨c1, c2, c3, c4, iMs_fr (fc j j1 e _ (by omega) (by omega)) (hj _ (by omega) (by omega) (by omega) (by omega)) f481 f432 h3 h4 c5⟩
  · intro j l j0 j1 l0 l1 q1 q2 q3
    rw [h480.1] at j1 l1
    rw [f454] at q3
    by_cases e : j = c
    · by_cases e2 : l = c
      · omega
      · subst e
        rw [h455 l e2] at q2
        exact absurd (hone l l0 l1 e2 q1 q2.symm q3.symm) (fun w => w)
    · by_cases e2 : l = c
      · subst e2
        rw [h455 j e] at q1 q2
        exact absurd (hone j j0 j1 e (by rw [← q2]; exact q1) q2 q3) (fun w => w)
      · rw [h455 j e] at q1
        rw [h455 j e, h455 l e2] at q2
        exact a6 j l j0 j1 l0 l1 q1 q2 q3
  · unfold iReh at *
    rw [fr 43 (by omega) (by omega), fr 44 (by omega) (by omega), fr 45 (by omega) (by omega), fr 37 (by omega) (by omega), fr 38 (by omega) (by omega), fr 39 (by omega) (by omega), fr 40 (by omega) (by omega), fr 41 (by omega) (by omega), fr 42 (by omega) (by omega), fh 460 (by omega), fh 461 (by omega), fh 462 (by omega), fh 463 (by omega), fh 464 (by omega), fh 465 (by omega), fh 466 (by omega), fh 467 (by omega), h480.2.2.1, h480.2.2.2.1]
    exact a7
  · intro i i0 i1
    obtain ⟨b1, b2, b3⟩ := a8 i i0 i1
    rw [fr 47 (by omega) (by omega), fh 472 (by omega)]
    refine ⟨b1, b2, fun q => ?_⟩
    obtain ⟨c1, c2, c3⟩ := b3 q
    unfold iLb yTt at *
    rw [fh 471 (by omega), fh 470 (by omega), f481, f432, hj 48 (by omega) (by omega) (by omega) (by omega), hj 49 (by omega) (by omega) (by omega) (by omega), hj 468 (by omega) (by omega) (by omega) (by omega), hj 469 (by omega) (by omega) (by omega) (by omega), fr (50 + 15 * (i / 40 % 12).toNat) (by omega) (by omega)]
    exact ⟨c1, c2, c3⟩
  · rw [fs 0 (by omega), h480.2.2.2.2]
    exact a9
end
