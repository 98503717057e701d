/-! part 73: a text changes; write, strike -/
theorem yTt_of {V V' : zVt} {w : Nat} (h : V' 432 w = V 432 w) (h2 : ∀ p, 0 ≤ p → p < 160 → V' 481 (160 * w + p) = V 481 (160 * w + p)) (h3 : V 432 w ≤ 160) : yTt V' w = yTt V w := by
  funext p
  unfold yTt zt
  rw [h]
  by_cases q : 0 ≤ p ∧ p < V 432 w
  · rw [if_pos q, if_pos q, h2 p q.1 (by omega)]
  · rw [if_neg q, if_neg q]
section
variable {V V' : zVt} {J J' : zJt}
theorem iMs_tx {M w : Nat} {H : Int → Int} (h1 : V' M = V M) (h2 : J' (M + 1) = J (M + 1)) (ht : yTt V' w = yTt V w) (h4 : V' 432 w = V 432 w) (h5 : V' 3 = V 3) (h6 : V' 4 = V 4 ∧ V' 5 = V 5 ∧ V' 6 = V 6) (h : iMs V J M w H) : iMs V' J' M w H := by
  unfold iMs cMus at *
  rw [h1, h2, ht, h4, h5, h6.1, h6.2.1, h6.2.2]
  exact h
theorem iRd_tx {w : Nat} (hr : ∀ o : Nat, 50 + 15 * w ≤ o → o < 65 + 15 * w → V' o = V o) (h2 : J' (64 + 15 * w) = J (64 + 15 * w)) (ht : yTt V' w = yTt V w) (h4 : V' 432 w = V 432 w) (h5 : V' 3 = V 3) (h6 : V' 4 = V 4 ∧ V' 5 = V 5 ∧ V' 6 = V 6) (h : iRd V J w) : iRd V' J' w := by
  unfold iRd at *
  refine ⟨?_, ?_⟩
  · obtain ⟨n, b, F, A, fa, c1, c2, c3⟩ := h.1
    refine ⟨n, b, F, A, fa, ?_, ?_, ?_⟩
    · unfold cRow cTok7 at *
      rw [ht, h4, hr (52 + 15 * w) (by omega) (by omega), hr (52 + 15 * w + 1) (by omega) (by omega), hr (52 + 15 * w + 2) (by omega) (by omega), hr (52 + 15 * w + 3) (by omega) (by omega), hr (52 + 15 * w + 4) (by omega) (by omega), hr (52 + 15 * w + 5) (by omega) (by omega), hr (52 + 15 * w + 6) (by omega) (by omega), hr (52 + 15 * w + 7) (by omega) (by omega), hr (52 + 15 * w + 8) (by omega) (by omega)]
      exact c1
    · rw [ht, h4, h5, h6.1, h6.2.1, h6.2.2, hr (50 + 15 * w) (by omega) (by omega)]
      exact c2
    · rw [ht, h4, h5, h6.1, h6.2.1, h6.2.2, hr (50 + 15 * w) (by omega) (by omega)]
      exact c3
  · rw [hr (62 + 15 * w) (by omega) (by omega)]
    exact iMs_tx (hr _ (by omega) (by omega)) (by rw [show 63 + 15 * w + 1 = 64 + 15 * w by omega]; exact h2) ht h4 h5 h6 h.2
theorem zInv_tx {N : Int} {w0 : Nat} (hw0 : w0 < 12) (h : zInv N V J) (hpr : V (50 + 15 * w0) 3 = 0) (hf : ∀ o : Nat, o ≠ 50 + 15 * w0 → o ≠ 51 + 15 * w0 → o ≠ 480 → o ≠ 481 → o ≠ 432 → V' o = V o) (h480 : V' 480 37 = V 480 37 ∧ V' 480 42 = V 480 42 ∧ V' 480 46 = V 480 46 ∧ V' 480 52 = V 480 52 ∧ V' 480 59 = V 480 59) (hP3 : V' (50 + 15 * w0) 3 = 0) (hP2 : V' (50 + 15 * w0) 2 = 0) (hP1 : V' (50 + 15 * w0) 1 = V' 432 w0) (hx : zTx (V' 432) (V' 481)) (hl : ∀ p, 0 ≤ p → p < V' 432 w0 → V' (51 + 15 * w0) p = V' 481 (160 * w0 + p)) (ho : ∀ w : Nat, w < 12 → w ≠ w0 → V' 432 w = V 432 w ∧ ∀ p, 0 ≤ p → p < 160 → V' 481 (160 * w + p) = V 481 (160 * w + p)) : zInv N V' J := by
  obtain ⟨a1, a2, a3, a4, a5, a6, a7, a8, a9, a10⟩ := h
  have hty : ∀ w : Nat, w < 12 → w ≠ w0 → yTt V' w = yTt V w := fun w w1 w2 => yTt_of (ho w w1 w2).1 (ho w w1 w2).2 (a1.1 w (by omega) (by omega)).1.2
  have h456 : V' 4 = V 4 ∧ V' 5 = V 5 ∧ V' 6 = V 6 := ⟨hf 4 (by omega) (by omega) (by omega) (by omega) (by omega), hf 5 (by omega) (by omega) (by omega) (by omega) (by omega), hf 6 (by omega) (by omega) (by omega) (by omega) (by omega)⟩
  have h3 : V' 3 = V 3 := hf 3 (by omega) (by omega) (by omega) (by omega) (by omega)
  have hfh : ∀ o : Nat, (433 ≤ o ∧ o ≤ 479) → V' o = V o := fun o ho => hf o (by omega) (by omega) (by omega) (by omega) (by omega)
  have hfm : ∀ o : Nat, 230 ≤ o → o ≤ 429 → V' o = V o := fun o ho _ => hf o (by omega) (by omega) (by omega) (by omega) (by omega)
  have hfl : ∀ o : Nat, o ≤ 49 → V' o = V o := fun o ho => hf o (by omega) (by omega) (by omega) (by omega) (by omega)
  have hno : ∀ j : Nat, (j : Int) < V 480 37 → V 454 j = w0 → False := fun j j1 j2 => by
    have := (a3 w0 hw0).2.2.1.2 ⟨j, ⟨by omega, j1⟩, j2⟩
    omega
  refine ⟨⟨hx, ?_⟩, ?_, ?_, ?_, ?_, ?_, ?_, ?_, ?_, a10⟩
  · intro w w1
    by_cases e : w = w0
    · subst e
      exact ⟨hP1, hl⟩
    · have q := a1.2 w w1
      have r := (a1.1 w (by omega) (by omega)).1
      rw [hf (50 + 15 * w) (by omega) (by omega) (by omega) (by omega) (by omega), hf (51 + 15 * w) (by omega) (by omega) (by omega) (by omega) (by omega), (ho w w1 e).1]
      refine ⟨q.1, fun p p0 p1 => ?_⟩
      rw [(ho w w1 e).2 p p0 (by omega)]
      exact q.2 p p0 p1
  · unfold iCor at *
    rw [h480.2.1, h3, h456.1, h456.2.1, h456.2.2, hfh 457 (by omega), hfh 458 (by omega), hfh 459 (by omega)]
    exact a2
  · intro w w1
    have q := a3 w w1
    by_cases e : w = w0
    · subst e
      obtain ⟨b1, b2, b3, b4, b5, b6, b7⟩ := q
      have f61 : V' (61 + 15 * w) = V (61 + 15 * w) := hf _ (by omega) (by omega) (by omega) (by omega) (by omega)
      have f62 : V' (62 + 15 * w) = V (62 + 15 * w) := hf _ (by omega) (by omega) (by omega) (by omega) (by omega)
      unfold iPart
      rw [hP3, hP2, f62, hfh 454 (by omega), h480.1]
      rw [hpr] at b3
      refine ⟨Or.inl rfl, Or.inl rfl, b3, iMk_fr f61 (by rw [show 61 + 15 * w + 1 = 62 + 15 * w by omega]; exact f62) (hfh 456 (by omega)) h480.2.1 b4, fun _ => b5 hpr, fun q => by omega, fun q => by omega⟩
    · have hr : ∀ o : Nat, 50 + 15 * w ≤ o → o < 65 + 15 * w → V' o = V o := fun o h1 h2 => hf o (by omega) (by omega) (by omega) (by omega) (by omega)
      obtain ⟨b1, b2, b3, b4, b5, b6, b7⟩ := q
      unfold iPart
      rw [hr (50 + 15 * w) (by omega) (by omega), hr (62 + 15 * w) (by omega) (by omega), hfh 454 (by omega), h480.1]
      exact ⟨b1, b2, b3, iMk_fr (hr _ (by omega) (by omega)) (hr _ (by omega) (by omega)) (hfh 456 (by omega)) h480.2.1 b4, b5, fun q => iRd_tx hr rfl (hty w w1 e) (ho w w1 e).1 h3 h456 (b6 q), b7⟩
  · rw [h480.1, hfl 0 (by omega)]
    exact a4
  · intro j j1
    obtain ⟨b1, b2, b3⟩ := a5 j j1
    unfold iCopy
    rw [hfm (230 + 5 * j) (by omega) (by omega), hfm (232 + 5 * j) (by omega) (by omega), h480.1, hfh 454 (by omega), hfh 455 (by omega)]
    refine ⟨iMk_fr (hfm _ (by omega) (by omega)) (hfm _ (by omega) (by omega)) (hfh 456 (by omega)) h480.2.1 b1, fun q => ?_, b3⟩
    obtain ⟨c1, c2, c3, c4, c5⟩ := b2 q
    have hw1 : (V 454 j).toNat < 12 := by omega
    have hw2 : (V 454 j).toNat ≠ w0 := fun e => hno j q (by omega)
    exact ⟨c1, c2, c3, c4, iMs_tx (hfm _ (by omega) (by omega)) rfl (hty _ hw1 hw2) (ho _ hw1 hw2).1 h3 h456 c5⟩
  · unfold iOne at *
    rw [h480.1, hfh 454 (by omega), hfh 455 (by omega)]
    exact a6
  · unfold iReh at *
    rw [hfl 43 (by omega), hfl 44 (by omega), hfl 45 (by omega), hfl 37 (by omega), hfl 38 (by omega), hfl 39 (by omega), hfl 40 (by omega), hfl 41 (by omega), hfl 42 (by omega), hfh 460 (by omega), hfh 461 (by omega), hfh 462 (by omega), hfh 463 (by omega), hfh 464 (by omega), hfh 465 (by omega), hfh 466 (by omega), hfh 467 (by omega), h480.2.2.1, h480.2.2.2.1]
    exact a7
  · intro i i0 i1
    obtain ⟨b1, b2, b3⟩ := a8 i i0 i1
    rw [hfl 47 (by omega), hfh 472 (by omega)]
    refine ⟨b1, b2, fun q => ?_⟩
    obtain ⟨c1, c2, c3⟩ := b3 q
    have hw1 : (i / 40 % 12).toNat < 12 := by omega
    have hw2 : (i / 40 % 12).toNat ≠ w0 := fun e => by rw [e] at c1; omega
    unfold iLb at *
    rw [hf (50 + 15 * (i / 40 % 12).toNat) (by omega) (by omega) (by omega) (by omega) (by omega), hfh 471 (by omega), hfh 470 (by omega), hty _ hw1 hw2]
    exact ⟨c1, c2, c3⟩
  · rw [hfl 0 (by omega), h480.2.2.2.2]
    exact a9
end
section
variable {V : zVt} {J : zJt} {N a b c : Int} {d : Nat → Nat → UInt64}
end
