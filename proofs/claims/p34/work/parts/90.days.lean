/-! part 90: days, rooms, requests, concerts counted -/
section
variable {V V' : zVt} {J : zJt}
theorem zInv_rh {N : Int} (h : zInv N V J) (hN : N < 600) (hf : ∀ o : Nat, ¬(37 ≤ o ∧ o ≤ 45) → o ≠ 480 → ¬(460 ≤ o ∧ o ≤ 467) → V' o = V o) (h480 : V' 480 37 = V 480 37 ∧ V' 480 42 = V 480 42 ∧ V' 480 59 = V 480 59) (hr : iReh (N + 1) V') : zInv (N + 1) V' J := by
  obtain ⟨a1, a2, a3, a4, a5, a6, a7, a8, a9, a10⟩ := zInv_up h hN
  have fs : ∀ o : Nat, o ≤ 6 → V' o = V o := fun o _ => hf o (by omega) (by omega) (by omega)
  have fp : ∀ o : Nat, 46 ≤ o → o ≤ 429 → V' o = V o := fun o _ _ => hf o (by omega) (by omega) (by omega)
  have fm : ∀ o : Nat, 431 ≤ o → (o ≤ 459 ∨ o = 481) → V' o = V o := fun o _ _ => hf o (by omega) (by omega) (by omega)
  have fh : ∀ o : Nat, (468 ≤ o ∧ o ≠ 480) → V' o = V o := fun o _ => hf o (by omega) (by omega) (by omega)
  have f481 := fm 481 (by omega) (by omega)
  have f432 := fm 432 (by omega) (by omega)
  have h4 : V' 4 = V 4 ∧ V' 5 = V 5 ∧ V' 6 = V 6 := ⟨fs 4 (by omega), fs 5 (by omega), fs 6 (by omega)⟩
  have h3 := fs 3 (by omega)
  refine ⟨?_, ?_, ?_, ?_, ?_, ?_, hr, ?_, ?_, a10⟩
  · unfold iTxt at *
    rw [f481, f432]
    refine ⟨a1.1, fun w w1 => ?_⟩
    rw [fp (50 + 15 * w) (by omega) (by omega), fp (51 + 15 * w) (by omega) (by omega)]
    exact a1.2 w w1
  · unfold iCor at *
    rw [h480.2.1, h3, h4.1, h4.2.1, h4.2.2, fm 457 (by omega) (by omega), fm 458 (by omega) (by omega), fm 459 (by omega) (by omega)]
    exact a2
  · intro w w1
    obtain ⟨b1, b2, b3, b4, b5, b6, b7⟩ := a3 w w1
    unfold iPart
    rw [fp (50 + 15 * w) (by omega) (by omega), fp (62 + 15 * w) (by omega) (by omega), h480.1, fm 454 (by omega) (by omega)]
    exact ⟨b1, b2, b3, iMk_fr (fp _ (by omega) (by omega)) (fp _ (by omega) (by omega)) (fm 456 (by omega) (by omega)) h480.2.1 b4, b5, fun q => iRd_fr (fun o h1 h2 => fp o (by omega) (by omega)) rfl f481 f432 h3 h4 (b6 q), b7⟩
  · rw [h480.1, fs 0 (by omega)]
    exact a4
  · intro j j1
    obtain ⟨b1, b2, b3⟩ := a5 j j1
    unfold iCopy
    rw [fm 454 (by omega) (by omega), fm 455 (by omega) (by omega), h480.1, fp (230 + 5 * j) (by omega) (by omega), fp (232 + 5 * j) (by omega) (by omega)]
    refine ⟨iMk_fr (fp _ (by omega) (by omega)) (fp _ (by omega) (by omega)) (fm 456 (by omega) (by omega)) h480.2.1 b1, fun q => ?_, b3⟩
    obtain ⟨c1, c2, c3, c4, c5⟩ := b2 q
    exact ⟨c1, c2, c3, c4, iMs_fr (fp _ (by omega) (by omega)) rfl f481 f432 h3 h4 c5⟩
  · unfold iOne at *
    rw [h480.1, fm 454 (by omega) (by omega), fm 455 (by omega) (by omega)]
    exact a6
  · intro i i0 i1
    obtain ⟨b1, b2, b3⟩ := a8 i i0 i1
    rw [fp 47 (by omega) (by omega), fh 472 (by omega)]
    refine ⟨b1, b2, fun q => ?_⟩
    obtain ⟨c1, c2, c3⟩ := b3 q
    rw [yTt_fr f481 f432]
    unfold iLb at *
    rw [fh 471 (by omega), fh 470 (by omega), fp (50 + 15 * (i / 40 % 12).toNat) (by omega) (by omega)]
    exact ⟨c1, c2, c3⟩
  · rw [fs 0 (by omega), h480.2.2]
    exact a9
end
section
variable {V : zVt} {J : zJt} {N a b c e : Int}
theorem sl64r {d : Nat → Nat → UInt64} {t : Int} (ht : 0 ≤ t ∧ t < 4) (n : Nat) : ∀ (V : zVt) (r : Int), 0 ≤ r → 4 = r + n → ∃ V', zGo false 64 26 [.ref 37, .int (zi t), .int (zi r)] [] (zm V J d) = zGo false 64 12 [.ref 37, .int (zi (t + 1)), .int (zi 4)] [] (zm V' J d) ∧ (∀ x, V' 44 x = if t * 4 + r ≤ x ∧ x < t * 4 + 4 then 0 else V 44 x) ∧ ∀ o : Nat, o ≠ 44 → V' o = V o := by
  induction n with
  | zero =>
    intro V r r0 hr
    obtain rfl : r = 4 := by omega
    refine ⟨V, ?_, fun x => by rw [if_neg (by omega)], fun _ _ => rfl⟩
    rw [ze_64_26]
    simp (disch := first | omega | assumption | (simp (disch := omega) only [vup_fn, vup_o, vup_k, vup_at]; first | done | omega | assumption)) only [Int.add_zero, ↓reduceIte, qw_id, zck_T, zck_t, zGor_v, zGor_n, zGor_e, zbs, vup_at, vup_vup, vup_self, vup_o, vup_k, vup_fn, ne_eq, not_true_eq_false, not_false_eq_true, and_true, true_and, and_self, and_false, false_and, or_true, true_or, or_self, or_false, false_or, xlt_t, xlt_f, xle_t, xle_f, xeq_t, xeq_f, xand_f, xor_t]
  | succ n ih =>
    intro V r r0 hr
    obtain ⟨V', e1, e2, e3⟩ := ih (vup V 44 (t * 4 + r) 0) (r + 1) (by omega) (by omega)
    refine ⟨V', ?_, fun x => ?_, fun o ho => by rw [e3 o ho, vup_fn ho]⟩
    · rw [ze_64_26]
      simp (disch := first | omega | assumption | (simp (disch := omega) only [vup_fn, vup_o, vup_k, vup_at]; first | done | omega | assumption)) only [e1, Int.add_zero, ↓reduceIte, qw_id, zck_T, zck_t, zGor_v, zGor_n, zGor_e, zbs, vup_at, vup_vup, vup_self, vup_o, vup_k, vup_fn, ne_eq, not_true_eq_false, not_false_eq_true, and_true, true_and, and_self, and_false, false_and, or_true, true_or, or_self, or_false, false_or, xlt_t, xlt_f, xle_t, xle_f, xeq_t, xeq_f, xand_f, xor_t]
    · rw [e2]
      by_cases q : x = t * 4 + r
      · rw [if_neg (by omega), if_pos (by omega), q, vup_at]
      · rw [vup_k q]
        by_cases q2 : t * 4 + (r + 1) ≤ x ∧ x < t * 4 + 4
        · rw [if_pos q2, if_pos (by omega)]
        · rw [if_neg q2, if_neg (by omega)]
theorem sl64t {d : Nat → Nat → UInt64} (n : Nat) : ∀ (V : zVt) (t : Int) (x2 : Value), 0 ≤ t → 4 = t + n → ∃ V', zGo false 64 12 [.ref 37, .int (zi t), x2] [] (zm V J d) = zI1 (V 37 7) V' J d ∧ (∀ x, V' 44 x = if t * 4 ≤ x ∧ x < 16 then 0 else V 44 x) ∧ (∀ x, V' 45 x = if t ≤ x ∧ x < 4 then 0 else V 45 x) ∧ ∀ o : Nat, o ≠ 44 → o ≠ 45 → V' o = V o := by
  induction n with
  | zero =>
    intro V t x2 t0 ht
    obtain rfl : t = 4 := by omega
    refine ⟨V, ?_, fun x => by rw [if_neg (by omega)], fun x => by rw [if_neg (by omega)], fun _ _ _ => rfl⟩
    rw [ze_64_12]
    simp (disch := first | omega | assumption | (simp (disch := omega) only [vup_fn, vup_o, vup_k, vup_at]; first | done | omega | assumption)) only [Int.add_zero, ↓reduceIte, qw_id, zck_T, zck_t, zGor_v, zGor_n, zGor_e, zbs, vup_at, vup_vup, vup_self, vup_o, vup_k, vup_fn, ne_eq, not_true_eq_false, not_false_eq_true, and_true, true_and, and_self, and_false, false_and, or_true, true_or, or_self, or_false, false_or, xlt_t, xlt_f, xle_t, xle_f, xeq_t, xeq_f, xand_f, xor_t]
  | succ n ih =>
    intro V t x2 t0 ht
    obtain ⟨V1, g1, g2, g3⟩ := sl64r (J := J) (d := d) (t := t) (by omega) 4 (vup V 45 t 0) 0 (by omega) (by omega)
    obtain ⟨V', e1, e2, e3, e4⟩ := ih V1 (t + 1) (.int (zi 4)) (by omega) (by omega)
    rw [g3 37 (by omega), vup_o (by omega)] at e1
    refine ⟨V', ?_, fun x => ?_, fun x => ?_, fun o h1 h2 => by rw [e4 o h1 h2, g3 o h1, vup_fn h2]⟩
    · rw [ze_64_12]
      simp (disch := first | omega | assumption | (simp (disch := omega) only [vup_fn, vup_o, vup_k, vup_at]; first | done | omega | assumption)) only [g1, e1, Int.add_zero, ↓reduceIte, qw_id, zck_T, zck_t, zGor_v, zGor_n, zGor_e, zbs, vup_at, vup_vup, vup_self, vup_o, vup_k, vup_fn, ne_eq, not_true_eq_false, not_false_eq_true, and_true, true_and, and_self, and_false, false_and, or_true, true_or, or_self, or_false, false_or, xlt_t, xlt_f, xle_t, xle_f, xeq_t, xeq_f, xand_f, xor_t]
    · rw [e2, g2, vup_o (by omega)]
      by_cases q : (t + 1) * 4 ≤ x ∧ x < 16
      · rw [if_pos q, if_pos (by omega)]
      · rw [if_neg q]
        by_cases q2 : t * 4 + 0 ≤ x ∧ x < t * 4 + 4
        · rw [if_pos q2, if_pos (by omega)]
        · rw [if_neg q2, if_neg (by omega)]
    · rw [e3, g3 45 (by omega)]
      by_cases q : x = t
      · rw [if_neg (by omega), if_pos (by omega), q, vup_at]
      · rw [vup_k q]
        by_cases q2 : t + 1 ≤ x ∧ x < 4
        · rw [if_pos q2, if_pos (by omega)]
        · rw [if_neg q2, if_neg (by omega)]
end
