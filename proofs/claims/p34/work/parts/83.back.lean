/-! part 83: a copy comes back: the invariant; back -/
section
variable {V V' : zVt} {J J' : zJt}
theorem zInv_bk {N : Int} {w k : Nat} (h : zInv N V J) (hk : (k : Int) < V 480 37) (hw : V 454 k = w)
    (hf : ∀ o : Nat, o ≠ 230 + 5 * k → o ≠ 61 + 15 * w → o ≠ 62 + 15 * w → o ≠ 63 + 15 * w → ¬(7 ≤ o ∧ o ≤ 36) → o ≠ 455 → o ≠ 456 → V' o = V o) (hj : ∀ o : Nat, o ≠ 64 + 15 * w → 37 ≤ o → J' o = J o) (hC0 : V' (230 + 5 * k) 0 = V (230 + 5 * k) 0) (hC1 : V' (230 + 5 * k) 1 = -1) (h455 : ∀ j : Int, V' 455 j = if j = k then -1 else V 455 j) (h456 : ∀ x : Int, ¬(200 * (40 + (w : Int)) ≤ x ∧ x < 200 * (40 + w) + 200) → V' 456 x = V 456 x) (hmk : iMk V' (61 + 15 * w) (40 + w)) (hms : iMs V' J' (63 + 15 * w) w (V' (62 + 15 * w))) : zInv N V' J' := by
  obtain ⟨a1, a2, a3, a4, a5, a6, a7, a8, a9, a10⟩ := h
  have hk4 : k < 40 := by omega
  have hcw := ((a5 k hk4).2.1 hk).1
  have hw12 : w < 12 := by omega
  have fs : ∀ o : Nat, o ≤ 6 → V' o = V o := fun o _ => hf _ (by omega) (by omega) (by omega) (by omega) (by omega) (by omega) (by omega)
  have fr : ∀ o : Nat, 37 ≤ o → o ≤ 49 → V' o = V o := fun o _ _ => hf _ (by omega) (by omega) (by omega) (by omega) (by omega) (by omega) (by omega)
  have fh : ∀ o : Nat, 430 ≤ o → o ≠ 455 → o ≠ 456 → V' o = V o := fun o _ _ _ => hf _ (by omega) (by omega) (by omega) (by omega) (by omega) (by omega) (by omega)
  have fp : ∀ u : Nat, u < 12 → u ≠ w → ∀ o : Nat, 50 + 15 * u ≤ o → o < 65 + 15 * u → V' o = V o := fun u _ _ o _ _ => hf _ (by omega) (by omega) (by omega) (by omega) (by omega) (by omega) (by omega)
  have fw : ∀ o : Nat, 50 + 15 * w ≤ o → o ≤ 60 + 15 * w → V' o = V o := fun o _ _ => hf _ (by omega) (by omega) (by omega) (by omega) (by omega) (by omega) (by omega)
  have fc : ∀ o : Nat, 230 ≤ o → o ≤ 429 → o ≠ 230 + 5 * k → V' o = V o := fun o _ _ _ => hf _ (by omega) (by omega) (by omega) (by omega) (by omega) (by omega) (by omega)
  have f480 := fh 480 (by omega) (by omega) (by omega)
  have f481 := fh 481 (by omega) (by omega) (by omega)
  have f432 := fh 432 (by omega) (by omega) (by omega)
  have f454 := fh 454 (by omega) (by omega) (by omega)
  have h3 := fs 3 (by omega)
  have h4 : V' 4 = V 4 ∧ V' 5 = V 5 ∧ V' 6 = V 6 := ⟨fs 4 (by omega), fs 5 (by omega), fs 6 (by omega)⟩
  have f50 : ∀ u : Nat, u < 12 → V' (50 + 15 * u) = V (50 + 15 * u) := fun u hu => by
    by_cases e : u = w
    · subst e
      exact fw _ (by omega) (by omega)
    · exact fp u hu e _ (by omega) (by omega)
  have f51 : ∀ u : Nat, u < 12 → V' (51 + 15 * u) = V (51 + 15 * u) := fun u hu => by
    by_cases e : u = w
    · subst e
      exact fw _ (by omega) (by omega)
    · exact fp u hu e _ (by omega) (by omega)
  have hmf : ∀ (M : Nat) (e : Int), (e < 40 + w ∨ 40 + (w : Int) < e) → V' M = V M → V' (M + 1) = V (M + 1) → iMk V M e → iMk V' M e := fun M e he m1 m2 m3 => by
    unfold iMk at *
    rw [m1, m2, f480]
    refine ⟨fun x x0 x1 => ?_, m3.2⟩
    rw [h456 _ (by omega)]
    exact m3.1 x x0 x1
  refine ⟨?_, ?_, ?_, ?_, ?_, ?_, ?_, ?_, ?_, a10⟩
  · unfold iTxt at *
    rw [f481, f432]
    refine ⟨a1.1, fun u u1 => ?_⟩
    rw [f50 u u1, f51 u u1]
    exact a1.2 u u1
  · unfold iCor at *
    rw [f480, h3, h4.1, h4.2.1, h4.2.2, fh 457 (by omega) (by omega) (by omega), fh 458 (by omega) (by omega) (by omega), fh 459 (by omega) (by omega) (by omega)]
    exact a2
  · intro u u1
    obtain ⟨b1, b2, b3, b4, b5, b6, b7⟩ := a3 u u1
    by_cases e : u = w
    · subst e
      have hp3 : V (50 + 15 * u) 3 = 1 := b3.2 ⟨k, ⟨by omega, hk⟩, hw⟩
      unfold iPart
      rw [f50 u u1, f480, f454]
      refine ⟨b1, b2, b3, hmk, fun q => by omega, fun q => ?_, b7⟩
      refine ⟨?_, hms⟩
      obtain ⟨n, b, F, A, fa, c1, c2, c3⟩ := (b6 q).1
      rw [yTt_fr f481 f432, f432, f50 u u1, h3, h4.1, h4.2.1, h4.2.2]
      exact ⟨n, b, F, A, fa, cRow_fr (fun o o1 o2 => fw o (by omega) (by omega)) c1, c2, c3⟩
    · unfold iPart
      rw [f50 u u1, fp u u1 e (62 + 15 * u) (by omega) (by omega), f480, f454]
      exact ⟨b1, b2, b3, hmf _ _ (by omega) (fp u u1 e _ (by omega) (by omega)) (fp u u1 e _ (by omega) (by omega)) b4, b5, fun q => iRd_fr (fp u u1 e) (hj _ (by omega) (by omega)) f481 f432 h3 h4 (b6 q), b7⟩
  · rw [f480, fs 0 (by omega)]
    exact a4
  · intro j j1
    obtain ⟨b1, b2, b3⟩ := a5 j j1
    have hmj := hmf (231 + 5 * j) j (by omega) (fc _ (by omega) (by omega) (by omega)) (fc _ (by omega) (by omega) (by omega)) b1
    by_cases e : j = k
    · subst e
      obtain ⟨c1, c2, c3, c4, c5⟩ := b2 hk
      unfold iCopy
      rw [f454, f480, hC0, hC1, h455, if_pos rfl, fc (232 + 5 * j) (by omega) (by omega) (by omega)]
      exact ⟨hmj, fun _ => ⟨c1, c2, rfl, ⟨by omega, by omega⟩, iMs_fr (fc _ (by omega) (by omega) (by omega)) (hj _ (by omega) (by omega)) f481 f432 h3 h4 c5⟩, fun q => by omega⟩
    · unfold iCopy
      rw [f454, f480, h455, if_neg (by omega), fc (230 + 5 * j) (by omega) (by omega) (by omega), fc (232 + 5 * j) (by omega) (by omega) (by omega)]
      refine ⟨hmj, fun q => ?_, b3⟩
      obtain ⟨c1, c2, c3, c4, c5⟩ := b2 q
      exact ⟨c1, c2, c3, c4, iMs_fr (fc _ (by omega) (by omega) (by omega)) (hj _ (by omega) (by omega)) f481 f432 h3 h4 c5⟩
  · intro j l j0 j1 l0 l1 q1 q2 q3
    rw [f480] at j1 l1
    rw [f454] at q3
    by_cases e : j = k
    · rw [h455, if_pos e] at q1
      exact absurd rfl q1
    · by_cases e2 : l = k
      · rw [h455 j, if_neg e] at q1
        rw [h455 l, if_pos e2, h455 j, if_neg e] at q2
        exact absurd q2 q1
      · rw [h455, if_neg e] at q1
        rw [h455 j, h455 l, if_neg e, if_neg e2] at q2
        exact a6 j l j0 j1 l0 l1 q1 q2 q3
  · unfold iReh at *
    rw [fr 43 (by omega) (by omega), fr 44 (by omega) (by omega), fr 45 (by omega) (by omega), fr 37 (by omega) (by omega), fr 38 (by omega) (by omega), fr 39 (by omega) (by omega), fr 40 (by omega) (by omega), fr 41 (by omega) (by omega), fr 42 (by omega) (by omega), fh 460 (by omega) (by omega) (by omega), fh 461 (by omega) (by omega) (by omega), fh 462 (by omega) (by omega) (by omega), fh 463 (by omega) (by omega) (by omega), fh 464 (by omega) (by omega) (by omega), fh 465 (by omega) (by omega) (by omega), fh 466 (by omega) (by omega) (by omega), fh 467 (by omega) (by omega) (by omega), f480]
    exact a7
  · intro i i0 i1
    obtain ⟨b1, b2, b3⟩ := a8 i i0 i1
    rw [fr 47 (by omega) (by omega), fh 472 (by omega) (by omega) (by omega)]
    refine ⟨b1, b2, fun q => ?_⟩
    obtain ⟨c1, c2, c3⟩ := b3 q
    rw [yTt_fr f481 f432]
    unfold iLb at *
    rw [fh 471 (by omega) (by omega) (by omega), fh 470 (by omega) (by omega) (by omega), hj 48 (by omega) (by omega), hj 49 (by omega) (by omega), hj 468 (by omega) (by omega), hj 469 (by omega) (by omega), f50 _ (by omega)]
    exact ⟨c1, c2, c3⟩
  · rw [fs 0 (by omega), f480]
    exact a9
end
section
variable {J I : zJt} {U V : zVt} {N a : Int}
end
