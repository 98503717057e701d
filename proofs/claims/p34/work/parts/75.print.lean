/-! part 75: print -/
section
variable {V V' : zVt} {J J' : zJt}
theorem iRd_f2 {w : Nat} (hr : ∀ o : Nat, 52 + 15 * w ≤ o → o < 65 + 15 * w → V' o = V o) (hp : V' (50 + 15 * w) 4 = V (50 + 15 * w) 4 ∧ V' (50 + 15 * w) 5 = V (50 + 15 * w) 5) (h2 : J' (64 + 15 * w) = J (64 + 15 * w)) (h3 : V' 481 = V 481) (h4 : V' 432 = V 432) (h5 : V' 3 = V 3) (h6 : V' 4 = V 4 ∧ V' 5 = V 5 ∧ V' 6 = V 6) (h : iRd V J w) : iRd V' J' w := by
  unfold iRd at *
  refine ⟨?_, ?_⟩
  · obtain ⟨n, b, F, A, fa, c1, c2, c3⟩ := h.1
    refine ⟨n, b, F, A, fa, ?_, ?_, ?_⟩
    · unfold cRow cTok7 yTt at *
      rw [h3, h4, hr (52 + 15 * w) (by omega) (by omega), hr (52 + 15 * w + 1) (by omega) (by omega), hr (52 + 15 * w + 2) (by omega) (by omega), hr (52 + 15 * w + 3) (by omega) (by omega), hr (52 + 15 * w + 4) (by omega) (by omega), hr (52 + 15 * w + 5) (by omega) (by omega), hr (52 + 15 * w + 6) (by omega) (by omega), hr (52 + 15 * w + 7) (by omega) (by omega), hr (52 + 15 * w + 8) (by omega) (by omega)]
      exact c1
    · unfold yTt at *
      rw [h3, h4, h5, h6.1, h6.2.1, h6.2.2, hp.1]
      exact c2
    · unfold yTt at *
      rw [h3, h4, h5, h6.1, h6.2.1, h6.2.2, hp.2]
      exact c3
  · rw [hr (62 + 15 * w) (by omega) (by omega)]
    exact iMs_fr (hr _ (by omega) (by omega)) (by rw [show 63 + 15 * w + 1 = 64 + 15 * w by omega]; exact h2) h3 h4 h5 h6 h.2
theorem zInv_pr {N : Int} {w0 k : Nat} (hw0 : w0 < 12) (h : zInv N V J) (hk : V 480 37 = k) (hk4 : k < 40) (hp2 : V (50 + 15 * w0) 2 = 1) (hp4 : V (50 + 15 * w0) 4 = 0)
    (hf : ∀ o : Nat, o ≠ 50 + 15 * w0 → o ≠ 0 → o ≠ 230 + 5 * k → o ≠ 233 + 5 * k → ¬(7 ≤ o ∧ o ≤ 36) → o ≠ 480 → ¬(433 ≤ o ∧ o ≤ 450) → o ≠ 453 → o ≠ 454 → o ≠ 455 → V' o = V o) (hj : ∀ o : Nat, o ≠ 234 + 5 * k → o ≤ 473 → o ≠ 451 → o ≠ 452 → J' o = J o) (h0 : V' 0 2 = k + 1 ∧ V' 0 11 = V 0 11) (hP3 : V' (50 + 15 * w0) 3 = 1) (hPx : ∀ x, x ≠ 3 → V' (50 + 15 * w0) x = V (50 + 15 * w0) x) (hC : V' (230 + 5 * k) 0 = w0 ∧ V' (230 + 5 * k) 1 = V (230 + 5 * k) 1)
    (h454 : ∀ j, V' 454 j = if j = k then (w0 : Int) else V 454 j) (h455 : ∀ j, V' 455 j = if j = k then -1 else V 455 j) (h480 : V' 480 37 = k + 1 ∧ V' 480 42 = V 480 42 ∧ V' 480 46 = V 480 46 ∧ V' 480 52 = V 480 52 ∧ V' 480 59 = V 480 59) (hm : iMs V' J' (233 + 5 * k) w0 (V (232 + 5 * k))) : zInv N V' J' := by
  obtain ⟨a1, a2, a3, a4, a5, a6, a7, a8, a9, a10⟩ := h
  have f481 : V' 481 = V 481 := hf _ (by omega) (by omega) (by omega) (by omega) (by omega) (by omega) (by omega) (by omega) (by omega) (by omega)
  have f432 : V' 432 = V 432 := hf _ (by omega) (by omega) (by omega) (by omega) (by omega) (by omega) (by omega) (by omega) (by omega) (by omega)
  have fs : ∀ o : Nat, 1 ≤ o → o ≤ 6 → V' o = V o := fun o _ _ => hf _ (by omega) (by omega) (by omega) (by omega) (by omega) (by omega) (by omega) (by omega) (by omega) (by omega)
  have fr : ∀ o : Nat, 37 ≤ o → o ≤ 49 → V' o = V o := fun o _ _ => hf _ (by omega) (by omega) (by omega) (by omega) (by omega) (by omega) (by omega) (by omega) (by omega) (by omega)
  have fh : ∀ o : Nat, (456 ≤ o ∧ o ≠ 480) → V' o = V o := fun o _ => hf _ (by omega) (by omega) (by omega) (by omega) (by omega) (by omega) (by omega) (by omega) (by omega) (by omega)
  have fp : ∀ o : Nat, 51 ≤ o → o < 230 → o ≠ 50 + 15 * w0 → V' o = V o := fun o _ _ _ => hf _ (by omega) (by omega) (by omega) (by omega) (by omega) (by omega) (by omega) (by omega) (by omega) (by omega)
  have fpp : ∀ o : Nat, 50 ≤ o → o < 230 → o ≠ 50 + 15 * w0 → V' o = V o := fun o _ _ _ => hf _ (by omega) (by omega) (by omega) (by omega) (by omega) (by omega) (by omega) (by omega) (by omega) (by omega)
  have fc : ∀ o : Nat, 230 ≤ o → o ≤ 429 → o ≠ 230 + 5 * k → o ≠ 233 + 5 * k → V' o = V o := fun o _ _ _ _ => hf _ (by omega) (by omega) (by omega) (by omega) (by omega) (by omega) (by omega) (by omega) (by omega) (by omega)
  have h456 : V' 4 = V 4 ∧ V' 5 = V 5 ∧ V' 6 = V 6 := ⟨fs 4 (by omega) (by omega), fs 5 (by omega) (by omega), fs 6 (by omega) (by omega)⟩
  have h3 := fs 3 (by omega) (by omega)
  have hex : ∀ w : Int, (∃ j, (0 ≤ j ∧ j < V' 480 37) ∧ V' 454 j = w) ↔ (w = w0 ∨ ∃ j, (0 ≤ j ∧ j < V 480 37) ∧ V 454 j = w) := fun w => by
    constructor
    · rintro ⟨j, j1, j2⟩
      rw [h454] at j2
      by_cases e : j = k
      · rw [if_pos e] at j2
        exact Or.inl j2.symm
      · rw [if_neg e] at j2
        exact Or.inr ⟨j, ⟨j1.1, by omega⟩, j2⟩
    · rintro (e | ⟨j, j1, j2⟩)
      · exact ⟨k, ⟨by omega, by omega⟩, by rw [h454, if_pos rfl, e]⟩
      · exact ⟨j, ⟨j1.1, by omega⟩, by rw [h454, if_neg (by omega)]; exact j2⟩
  refine ⟨?_, ?_, ?_, ?_, ?_, ?_, ?_, ?_, ?_, a10⟩
  · unfold iTxt at *
    rw [f481, f432]
    refine ⟨a1.1, fun w w1 => ?_⟩
    have q := a1.2 w w1
    rw [fp (51 + 15 * w) (by omega) (by omega) (by omega)]
    by_cases e : w = w0
    · subst e
      rw [hPx 1 (by decide)]
      exact q
    · rw [fpp (50 + 15 * w) (by omega) (by omega) (by omega)]
      exact q
  · unfold iCor at *
    rw [h480.2.1, h3, h456.1, h456.2.1, h456.2.2, fh 457 (by omega), fh 458 (by omega), fh 459 (by omega)]
    exact a2
  · intro w w1
    obtain ⟨b1, b2, b3, b4, b5, b6, b7⟩ := a3 w w1
    have f61 : V' (61 + 15 * w) = V (61 + 15 * w) := fp _ (by omega) (by omega) (by omega)
    have f62 : V' (62 + 15 * w) = V (62 + 15 * w) := fp _ (by omega) (by omega) (by omega)
    have hmk := iMk_fr (V' := V') f61 (by rw [show 61 + 15 * w + 1 = 62 + 15 * w by omega]; exact f62) (fh 456 (by omega)) h480.2.1 b4
    by_cases e : w = w0
    · subst e
      unfold iPart
      rw [hP3, hex, f62, hPx 2 (by decide), hPx 4 (by decide)]
      exact ⟨b1, Or.inr rfl, ⟨fun _ => Or.inl rfl, fun _ => rfl⟩, hmk, fun q => by omega, fun q => iRd_f2 (fun o h1 h2 => fp o (by omega) (by omega) (by omega)) ⟨hPx 4 (by decide), hPx 5 (by decide)⟩ (hj _ (by omega) (by omega) (by omega) (by omega)) f481 f432 h3 h456 (b6 q), fun _ => ⟨hp2, hp4⟩⟩
    · unfold iPart
      rw [hex, f62, fpp (50 + 15 * w) (by omega) (by omega) (by omega)]
      refine ⟨b1, b2, ?_, hmk, b5, fun q => iRd_fr (fun o h1 h2 => fpp o (by omega) (by omega) (by omega)) (hj _ (by omega) (by omega) (by omega) (by omega)) f481 f432 h3 h456 (b6 q), b7⟩
      rw [b3]
      exact ⟨fun q => Or.inr q, fun q => q.elim (fun w => by omega) id⟩
  · rw [h480.1, h0.1]
    omega
  · intro j j1
    obtain ⟨b1, b2, b3⟩ := a5 j j1
    have f2 : V' (231 + 5 * j) = V (231 + 5 * j) := fc _ (by omega) (by omega) (by omega) (by omega)
    have f3 : V' (232 + 5 * j) = V (232 + 5 * j) := fc _ (by omega) (by omega) (by omega) (by omega)
    have hmk := iMk_fr (V' := V') f2 (by rw [show 231 + 5 * j + 1 = 232 + 5 * j by omega]; exact f3) (fh 456 (by omega)) h480.2.1 b1
    by_cases e : j = k
    · subst e
      unfold iCopy
      rw [f3, h454, if_pos rfl, h455, if_pos rfl, hC.1, hC.2, (b3 (by omega)).1]
      exact ⟨hmk, fun _ => ⟨⟨by omega, by omega⟩, rfl, rfl, ⟨by omega, by omega⟩, by rw [show ((w0 : Nat) : Int).toNat = w0 from rfl]; exact hm⟩, fun _ => ⟨rfl, (b3 (by omega)).2⟩⟩
    · unfold iCopy
      rw [f3, h454, if_neg (by omega), h455, if_neg (by omega), fc (230 + 5 * j) (by omega) (by omega) (by omega) (by omega), h480.1]
      refine ⟨hmk, fun q => ?_, fun q => b3 (by omega)⟩
      obtain ⟨c1, c2, c3, c4, c5⟩ := b2 (by omega)
      exact ⟨c1, c2, c3, c4, iMs_fr (fc _ (by omega) (by omega) (by omega) (by omega)) (hj _ (by omega) (by omega) (by omega) (by omega)) f481 f432 h3 h456 c5⟩
  · intro j l j0 j1 l0 l1 q1 q2 q3
    rw [h455] at q1
    rw [h455, h455] at q2
    rw [h454, h454] at q3
    by_cases e : j = k
    · rw [if_pos e] at q1
      omega
    · rw [if_neg e] at q1 q2 q3
      by_cases e2 : l = k
      · rw [if_pos e2] at q2
        omega
      · rw [if_neg e2] at q2 q3
        exact a6 j l j0 (by omega) l0 (by omega) q1 q2 q3
  · unfold iReh at *
    rw [fr 43 (by omega) (by omega), fr 44 (by omega) (by omega), fr 45 (by omega) (by omega), fr 37 (by omega) (by omega), fr 38 (by omega) (by omega), fr 39 (by omega) (by omega), fr 40 (by omega) (by omega), fr 41 (by omega) (by omega), fr 42 (by omega) (by omega), fh 460 (by omega), fh 461 (by omega), fh 462 (by omega), fh 463 (by omega), fh 464 (by omega), fh 465 (by omega), fh 466 (by omega), fh 467 (by omega), h480.2.2.1, h480.2.2.2.1]
    exact a7
  · intro i i0 i1
    obtain ⟨b1, b2, b3⟩ := a8 i i0 i1
    rw [fr 47 (by omega) (by omega), fh 472 (by omega)]
    refine ⟨b1, b2, fun q => ?_⟩
    obtain ⟨c1, c2, c3⟩ := b3 q
    unfold iLb yTt at *
    rw [fh 471 (by omega), fh 470 (by omega), f481, f432, hj 48 (by omega) (by omega) (by omega) (by omega), hj 49 (by omega) (by omega) (by omega) (by omega), hj 468 (by omega) (by omega) (by omega) (by omega), hj 469 (by omega) (by omega) (by omega) (by omega)]
    refine ⟨?_, c2, c3⟩
    by_cases e : (i / 40 % 12).toNat = w0
    · rw [e]; exact hP3
    · rw [fpp (50 + 15 * (i / 40 % 12).toNat) (by omega) (by omega) (by omega)]
      exact c1
  · rw [h0.2, h480.2.2.2.2]
    exact a9
end
