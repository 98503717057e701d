/-! part 99d: a request on both sides -/
/-- what the reference is after request r got slot t and room q -/
def oDs (U : zVt) (I : zJt) (r : Int) (S : Int → Int) (t q : Int) (W : zVt) (K : zJt) : Prop := pMp U W ∧ (∀ x, W 462 x = if (12 * t ≤ x ∧ x < 12 * t + 12) ∧ S (x - 12 * t) ≠ -1 then 1 else U 462 x) ∧ oLD U I r 12 W K ∧ (∀ x, W 461 x = if x = 4 * t + q then 1 else U 461 x) ∧ ∀ x, W 467 x = if x = r then 100 * U 480 46 + 10 * t + q else U 467 x
section
variable {U U' : zVt} {I I' : zJt} {N r : Int}
theorem oDs_un (h : zInv N U I) {S : Int → Int} {t q : Int} {W W2 : zVt} {K K2 : zJt} (h1 : oDs U I r S t q W K) (h2 : oDs U I r S t q W2 K2) : pM W W2 K K2 := by
  obtain ⟨a1, a2, a3, a4, a5⟩ := h1
  obtain ⟨b1, b2, b3, b4, b5⟩ := h2
  have hl : ∀ i, W2 472 i = W 472 i ∧ W2 471 i = W 471 i ∧ W2 470 i = W 470 i ∧ K2 468 i = K 468 i ∧ K2 469 i = K 469 i := fun i => by
    obtain ⟨l1, l2⟩ := a3 i
    obtain ⟨m1, m2⟩ := b3 i
    by_cases q : ∃ j, oCn U r j i
    · obtain ⟨j, jc⟩ := q
      have rj := (iCp_rg h j jc.1.1.1.1 jc.1.1.1.2).2.2
      obtain ⟨c1, c2, c3, c4⟩ := l1 j rj jc
      obtain ⟨d1, d2, d3, d4⟩ := m1 j rj jc
      refine ⟨d1.trans c1.symm, d2.trans c2.symm, d3.trans c3.symm, zby_ext (fun q q0 q1 => ?_), zby_ext (fun q q0 q1 => ?_)⟩
      · rw [(c4 q q0 q1).1, (d4 q q0 q1).1]
      · rw [(c4 q q0 q1).2, (d4 q q0 q1).2]
    · obtain ⟨c1, c2, c3, c4, c5⟩ := l2 (fun j _ jc => q ⟨j, jc⟩)
      obtain ⟨d1, d2, d3, d4, d5⟩ := m2 (fun j _ jc => q ⟨j, jc⟩)
      exact ⟨d1.trans c1.symm, d2.trans c2.symm, d3.trans c3.symm, d4.trans c4.symm, d5.trans c5.symm⟩
  refine ⟨fun o ho => ?_, ⟨?_, ?_, ?_, ?_, ?_⟩, funext (fun i => (hl i).2.2.2.1), funext (fun i => (hl i).2.2.2.2)⟩
  · by_cases c : o = 481 ∨ o = 432 ∨ (454 ≤ o ∧ o ≤ 460) ∨ (463 ≤ o ∧ o ≤ 466) ∨ o = 468 ∨ o = 469
    · rw [b1.1 o c, a1.1 o c]
    · rcases (show o = 461 ∨ o = 462 ∨ o = 467 ∨ o = 470 ∨ o = 471 ∨ o = 472 by omega) with e | e | e | e | e | e
      · subst e
        funext x
        rw [b4, a4]
      · subst e
        funext x
        rw [b2, a2]
      · subst e
        funext x
        rw [b5, a5]
      · subst e
        exact funext (fun i => (hl i).2.2.1)
      · subst e
        exact funext (fun i => (hl i).2.1)
      · subst e
        exact funext (fun i => (hl i).1)
  · rw [b1.2.1, a1.2.1]
  · rw [b1.2.2.1, a1.2.2.1]
  · rw [b1.2.2.2.1, a1.2.2.2.1]
  · rw [b1.2.2.2.2.1, a1.2.2.2.2.1]
  · rw [b1.2.2.2.2.2, a1.2.2.2.2.2]
theorem zInv_pl (h : zInv N U I) (hf : ∀ o : Nat, o ≠ 42 → o ≠ 44 → o ≠ 45 → o ≠ 47 → ¬(7 ≤ o ∧ o ≤ 36) → o ≠ 480 → ¬(433 ≤ o ∧ o ≤ 453) → o ≠ 461 → o ≠ 462 → o ≠ 467 → ¬(470 ≤ o ∧ o ≤ 476) → U' o = U o) (hj : ∀ o : Nat, 37 ≤ o → o ≠ 48 → o ≠ 49 → o < 430 → I' o = I o) (h480 : U' 480 37 = U 480 37 ∧ U' 480 42 = U 480 42 ∧ U' 480 59 = U 480 59) (hr : iReh N U') (hl : iLrn N U' I') : zInv N U' I' := by
  obtain ⟨a1, a2, a3, a4, a5, a6, a7, a8, a9, a10⟩ := h
  have fs : ∀ o : Nat, o ≤ 6 → U' o = U o := fun o _ => hf o (by omega) (by omega) (by omega) (by omega) (by omega) (by omega) (by omega) (by omega) (by omega) (by omega) (by omega)
  have fp : ∀ o : Nat, 50 ≤ o → o ≤ 429 → U' o = U o := fun o _ _ => hf o (by omega) (by omega) (by omega) (by omega) (by omega) (by omega) (by omega) (by omega) (by omega) (by omega) (by omega)
  have fm : ∀ o : Nat, 454 ≤ o → o ≤ 460 → U' o = U o := fun o _ _ => hf o (by omega) (by omega) (by omega) (by omega) (by omega) (by omega) (by omega) (by omega) (by omega) (by omega) (by omega)
  have f481 : U' 481 = U 481 := hf _ (by omega) (by omega) (by omega) (by omega) (by omega) (by omega) (by omega) (by omega) (by omega) (by omega) (by omega)
  have f432 : U' 432 = U 432 := hf _ (by omega) (by omega) (by omega) (by omega) (by omega) (by omega) (by omega) (by omega) (by omega) (by omega) (by omega)
  have h4 : U' 4 = U 4 ∧ U' 5 = U 5 ∧ U' 6 = U 6 := ⟨fs 4 (by omega), fs 5 (by omega), fs 6 (by omega)⟩
  have h3 := fs 3 (by omega)
  refine ⟨?_, ?_, ?_, ?_, ?_, ?_, hr, hl, ?_, a10⟩
  · unfold iTxt at *
    rw [f481, f432]
    refine ⟨a1.1, fun w w1 => ?_⟩
    rw [fp (50 + 15 * w) (by omega) (by omega), fp (51 + 15 * w) (by omega) (by omega)]
    exact a1.2 w w1
  · unfold iCor at *
    rw [h480.2.1, h3, h4.1, h4.2.1, h4.2.2, fm 457 (by omega) (by omega), fm 458 (by omega) (by omega), fm 459 (by omega) (by omega)]
    exact a2
  · intro w w1
    obtain ⟨b1, b2, b3, b4, b5, b6, b7⟩ := a3 w w1
    unfold iPart
    rw [fp (50 + 15 * w) (by omega) (by omega), fp (62 + 15 * w) (by omega) (by omega), h480.1, fm 454 (by omega) (by omega)]
    exact ⟨b1, b2, b3, iMk_fr (fp _ (by omega) (by omega)) (fp _ (by omega) (by omega)) (fm 456 (by omega) (by omega)) h480.2.1 b4, b5, fun q => iRd_fr (fun o h1 h2 => fp o (by omega) (by omega)) (hj _ (by omega) (by omega) (by omega) (by omega)) f481 f432 h3 h4 (b6 q), b7⟩
  · rw [h480.1, fs 0 (by omega)]
    exact a4
  · intro j j1
    obtain ⟨b1, b2, b3⟩ := a5 j j1
    unfold iCopy
    rw [fm 454 (by omega) (by omega), fm 455 (by omega) (by omega), h480.1, fp (230 + 5 * j) (by omega) (by omega), fp (232 + 5 * j) (by omega) (by omega)]
    refine ⟨iMk_fr (fp _ (by omega) (by omega)) (fp _ (by omega) (by omega)) (fm 456 (by omega) (by omega)) h480.2.1 b1, fun q => ?_, b3⟩
    obtain ⟨c1, c2, c3, c4, c5⟩ := b2 q
    exact ⟨c1, c2, c3, c4, iMs_fr (fp _ (by omega) (by omega)) (hj _ (by omega) (by omega) (by omega) (by omega)) f481 f432 h3 h4 c5⟩
  · unfold iOne at *
    rw [h480.1, fm 454 (by omega) (by omega), fm 455 (by omega) (by omega)]
    exact a6
  · rw [fs 0 (by omega), h480.2.2]
    exact a9
end
section
variable {U W : zVt} {I K : zJt} {N r x1 : Int} {d : Nat → Nat → UInt64}
theorem oCt_0 {g : Int → Int} (hg : yB01 g) : oCt g ≤ 0 ↔ ∀ s, 0 ≤ s → s < 12 → g s = 0 := by
  have b : ∀ s, 0 ≤ s → s < 12 → 0 ≤ g s ∧ g s ≤ 1 := fun s s0 s1 => by
    have := hg s s0 (by omega)
    omega
  constructor
  · intro h s s0 s1
    have h0 := b 0 (by decide) (by decide)
    have h1 := b 1 (by decide) (by decide)
    have h2 := b 2 (by decide) (by decide)
    have h3 := b 3 (by decide) (by decide)
    have h4 := b 4 (by decide) (by decide)
    have h5 := b 5 (by decide) (by decide)
    have h6 := b 6 (by decide) (by decide)
    have h7 := b 7 (by decide) (by decide)
    have h8 := b 8 (by decide) (by decide)
    have h9 := b 9 (by decide) (by decide)
    have h10 := b 10 (by decide) (by decide)
    have h11 := b 11 (by decide) (by decide)
    unfold oCt at h
    clear b hg
    rcases (show s = 0 ∨ s = 1 ∨ s = 2 ∨ s = 3 ∨ s = 4 ∨ s = 5 ∨ s = 6 ∨ s = 7 ∨ s = 8 ∨ s = 9 ∨ s = 10 ∨ s = 11 by omega) with e | e | e | e | e | e | e | e | e | e | e | e <;> rw [e] <;> omega
  · intro h
    unfold oCt
    rw [h 0 (by decide) (by decide), h 1 (by decide) (by decide), h 2 (by decide) (by decide), h 3 (by decide) (by decide), h 4 (by decide) (by decide), h 5 (by decide) (by decide), h 6 (by decide) (by decide), h 7 (by decide) (by decide), h 8 (by decide) (by decide), h 9 (by decide) (by decide), h 10 (by decide) (by decide), h 11 (by decide) (by decide)]
    decide
end
