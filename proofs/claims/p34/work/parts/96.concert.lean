/-! part 96: concert -/
section
variable {V V' : zVt} {J : zJt}
theorem zInv_cc {N : Int} (h : zInv N V J) (hN : N < 600) (hf : ∀ o : Nat, o ≠ 0 → o ≠ 480 → V' o = V o) (h0 : V' 0 2 = V 0 2) (h480 : V' 480 37 = V 480 37 ∧ V' 480 42 = V 480 42 ∧ V' 480 46 = V 480 46 ∧ V' 480 52 = V 480 52) (hc : V' 0 11 = V 0 11 + 1 ∧ V' 480 59 = V 480 59 + 1) : zInv (N + 1) V' J := by
  have h9 := h.2.2.2.2.2.2.2.2.1
  obtain ⟨a1, a2, a3, a4, a5, a6, a7, a8, a9, a10⟩ := zInv_up h hN
  have fp : ∀ o : Nat, 1 ≤ o → o ≤ 429 → V' o = V o := fun o _ _ => hf o (by omega) (by omega)
  have fm : ∀ o : Nat, (431 ≤ o ∧ o ≠ 480) → V' o = V o := fun o _ => hf o (by omega) (by omega)
  have f481 := fm 481 (by omega)
  have f432 := fm 432 (by omega)
  have h4 : V' 4 = V 4 ∧ V' 5 = V 5 ∧ V' 6 = V 6 := ⟨fp 4 (by omega) (by omega), fp 5 (by omega) (by omega), fp 6 (by omega) (by omega)⟩
  have h3 := fp 3 (by omega) (by omega)
  refine ⟨?_, ?_, ?_, ?_, ?_, ?_, ?_, ?_, ?_, a10⟩
  · unfold iTxt at *
    rw [f481, f432]
    refine ⟨a1.1, fun w w1 => ?_⟩
    rw [fp (50 + 15 * w) (by omega) (by omega), fp (51 + 15 * w) (by omega) (by omega)]
    exact a1.2 w w1
  · unfold iCor at *
    rw [h480.2.1, h3, h4.1, h4.2.1, h4.2.2, fm 457 (by omega), fm 458 (by omega), fm 459 (by omega)]
    exact a2
  · intro w w1
    obtain ⟨b1, b2, b3, b4, b5, b6, b7⟩ := a3 w w1
    unfold iPart
    rw [fp (50 + 15 * w) (by omega) (by omega), fp (62 + 15 * w) (by omega) (by omega), h480.1, fm 454 (by omega)]
    exact ⟨b1, b2, b3, iMk_fr (fp _ (by omega) (by omega)) (fp _ (by omega) (by omega)) (fm 456 (by omega)) h480.2.1 b4, b5, fun q => iRd_fr (fun o h1 h2 => fp o (by omega) (by omega)) rfl f481 f432 h3 h4 (b6 q), b7⟩
  · rw [h480.1, h0]
    exact a4
  · intro j j1
    obtain ⟨b1, b2, b3⟩ := a5 j j1
    unfold iCopy
    rw [fm 454 (by omega), fm 455 (by omega), h480.1, fp (230 + 5 * j) (by omega) (by omega), fp (232 + 5 * j) (by omega) (by omega)]
    refine ⟨iMk_fr (fp _ (by omega) (by omega)) (fp _ (by omega) (by omega)) (fm 456 (by omega)) h480.2.1 b1, fun q => ?_, b3⟩
    obtain ⟨c1, c2, c3, c4, c5⟩ := b2 q
    exact ⟨c1, c2, c3, c4, iMs_fr (fp _ (by omega) (by omega)) rfl f481 f432 h3 h4 c5⟩
  · unfold iOne at *
    rw [h480.1, fm 454 (by omega), fm 455 (by omega)]
    exact a6
  · unfold iReh at *
    rw [fp 43 (by omega) (by omega), fp 44 (by omega) (by omega), fp 45 (by omega) (by omega), fp 37 (by omega) (by omega), fp 38 (by omega) (by omega), fp 39 (by omega) (by omega), fp 40 (by omega) (by omega), fp 41 (by omega) (by omega), fp 42 (by omega) (by omega), fm 460 (by omega), fm 461 (by omega), fm 462 (by omega), fm 463 (by omega), fm 464 (by omega), fm 465 (by omega), fm 466 (by omega), fm 467 (by omega), h480.2.2.1, h480.2.2.2]
    exact a7
  · intro i i0 i1
    obtain ⟨b1, b2, b3⟩ := a8 i i0 i1
    rw [fp 47 (by omega) (by omega), fm 472 (by omega)]
    refine ⟨b1, b2, fun q => ?_⟩
    obtain ⟨c1, c2, c3⟩ := b3 q
    rw [yTt_fr f481 f432]
    unfold iLb at *
    rw [fm 471 (by omega), fm 470 (by omega), fp (50 + 15 * (i / 40 % 12).toNat) (by omega) (by omega)]
    exact ⟨c1, c2, c3⟩
  · omega
end
section
variable {J I : zJt} {U V : zVt} {N p : Int}
/-- isLentOf of the class, the state being known by another -/
theorem sp1v (h : zInv N U I) (hV : pC U V I J) {k : Nat} (hk : (k : Int) < U 480 37) (hp : -2147483648 ≤ p ∧ p < 2147483648) {d : Nat → Nat → UInt64} : zGo false 1 0 [.ref (230 + 5 * k), .int (zi p)] [] (zm V J d) = zI1 (if U 455 k ≠ -1 ∧ U 454 k / 4 = p then 1 else 0) V J d := by
  have h37 := h.2.2.2.1
  obtain ⟨_, _, c3, c4, c2, c5, _, hB, k40⟩ := iCp_mk h hk
  have e0 : V (230 + 5 * k) = U (230 + 5 * k) := hV.1 _ (by omega)
  have d3 : V (230 + 5 * k) 0 = U 454 k := by rw [e0]; exact c3
  have d4 : V (230 + 5 * k) 1 = U 455 k := by rw [e0]; exact c4
  have hdv := qdiv_p (a := U 454 k) (b := 4) (by omega) (by omega)
  by_cases h1 : U 455 k = -1
  · rw [if_neg (fun w => w.1 h1)]
    simp (disch := first | omega | assumption | (simp (disch := omega) only [vup_fn, vup_o, vup_k, vup_at]; first | done | omega | assumption)) only [ze_1_0, ze_1_22, ze_1_23, d4, Int.add_zero, ↓reduceIte, qw_id, zck_T, zck_t, zGor_v, zGor_n, zGor_e, zbs, vup_at, vup_vup, vup_self, vup_o, vup_k, vup_fn, ne_eq, not_true_eq_false, not_false_eq_true, and_true, true_and, and_self, and_false, false_and, or_true, true_or, or_self, or_false, false_or, xlt_t, xlt_f, xle_t, xle_f, xeq_t, xeq_f, xand_f, xor_t]
  · by_cases h2 : U 454 k / 4 = p
    · rw [if_pos ⟨h1, h2⟩]
      simp (disch := first | omega | assumption | (simp (disch := omega) only [vup_fn, vup_o, vup_k, vup_at]; first | done | omega | assumption)) only [ze_1_0, ze_1_22, ze_1_23, d3, d4, hdv, Int.add_zero, ↓reduceIte, qw_id, zck_T, zck_t, zGor_v, zGor_n, zGor_e, zbs, vup_at, vup_vup, vup_self, vup_o, vup_k, vup_fn, ne_eq, not_true_eq_false, not_false_eq_true, and_true, true_and, and_self, and_false, false_and, or_true, true_or, or_self, or_false, false_or, xlt_t, xlt_f, xle_t, xle_f, xeq_t, xeq_f, xand_f, xor_t]
    · rw [if_neg (fun w => h2 w.2)]
      simp (disch := first | omega | assumption | (simp (disch := omega) only [vup_fn, vup_o, vup_k, vup_at]; first | done | omega | assumption)) only [ze_1_0, ze_1_22, ze_1_23, d3, d4, hdv, Int.add_zero, ↓reduceIte, qw_id, zck_T, zck_t, zGor_v, zGor_n, zGor_e, zbs, vup_at, vup_vup, vup_self, vup_o, vup_k, vup_fn, ne_eq, not_true_eq_false, not_false_eq_true, and_true, true_and, and_self, and_false, false_and, or_true, true_or, or_self, or_false, false_or, xlt_t, xlt_f, xle_t, xle_f, xeq_t, xeq_f, xand_f, xor_t]
end
