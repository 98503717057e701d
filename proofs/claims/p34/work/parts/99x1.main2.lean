/-! part 99x1: giving back, printing, asking, a new day -/
theorem lSm_last (f : Int → Int) : ∀ (n : Nat) (k : Int), lSm f k (n + 1) = lSm f k n + f (k + n)
  | 0, k => by
    show f k + 0 = 0 + f (k + ((0 : Nat) : Int))
    rw [show k + ((0 : Nat) : Int) = k from Int.add_zero k, Int.add_zero, Int.zero_add]
  | n + 1, k => by
    show f k + lSm f (k + 1) (n + 1) = f k + lSm f (k + 1) n + f (k + ((n + 1 : Nat) : Int))
    rw [lSm_last f n (k + 1), show k + ((n + 1 : Nat) : Int) = k + 1 + (n : Int) by omega]
    omega
section
variable {cf : Int32 → Int32} {d : Nat → Nat → UInt64} {V V' : zVt} {J J' : zJt} {N c k r D G i n : Int} {v11 v12 v13 v14 v15 v16 v17 v18 v19 v20 v21 v22 v23 : Value} {kk : Nat}
theorem lB_back (h : lM V J N c k r D G) (hN : N ≤ 200) (hn : 0 ≤ n ∧ n < 2147483648) (h13 : 5 ≤ n % 20 ∧ n % 20 < 7) : lB cf d V J N c k r D G i n v11 v12 v13 v14 v15 v16 v17 v18 v19 v20 v21 v22 v23 kk := by
  obtain ⟨k0, r0, D0, G0, N0⟩ := lM_rg h
  have hc := h.2.2.2.1
  have e480 := h.2.2.1
  have hkN := h.2.1
  obtain ⟨a, ha⟩ : ∃ a, n / 20 % c = a := ⟨_, rfl⟩
  have ra : 0 ≤ a ∧ a < c := by
    rw [← ha]
    exact ⟨Int.emod_nonneg _ (by omega), Int.emod_lt_of_pos _ (by omega)⟩
  obtain ⟨a1, a2, a3, a4⟩ := lM_cp h ra.1 ra.2
  have hz := h.1
  unfold lB
  rw [ha]
  rcases c_back (d := d) hz (a := a) ⟨ra.1, a4⟩ with ⟨l1, q1⟩ | ⟨l1, x, V', J', q1, q2, q3, q4, q5, q6⟩
  · have hM := lM_fr2 h (V' := V) (J' := J) (a := a) (y := -1) (zInv_up2 hz (by omega)) (by omega) (e480.2.1) ⟨fun _ _ => rfl, rfl, rfl, rfl, rfl, rfl⟩ (fun j => by
      by_cases q : j = a
      · rw [if_pos q, q, l1]
      · rw [if_neg q])
    have hv : V 430 a = -1 := by omega
    refine ⟨vup V 430 a (-1), J, 1, c, k, r, D, G, .int (zi (-103)), v18, v19, v20, v21, v22, v23, by omega, hM, Int.le_refl _, ?_⟩
    simp (disch := first | omega | assumption) only [lw_237_191, lw_237_395, lw_237_443, ha, q1, hv, wck_t, wck_T, wbS, wbV, wbR, qdiv_p, qrem_p, Int.add_zero, ↓reduceIte, qw_id, ne_eq, not_true_eq_false, not_false_eq_true, and_true, true_and, and_self, and_false, false_and, or_true, true_or, or_self, or_false, false_or, xlt_t, xlt_f, xle_t, xle_f, xeq_t, xeq_f, xand_f, xor_t]
  · have hM := lM_fr2 h (a := a) (y := -1) (zInv_up2 q2 (by omega)) (by omega) (q5.trans e480.2.1) q4 q6
    have e430 : V' 430 = V 430 := q4.1 430 (by omega)
    refine ⟨vup V' 430 a (-1), J', 1, c, k, r, D, G, .int (zi x), v18, v19, v20, v21, v22, v23, by omega, hM, Int.le_refl _, ?_⟩
    simp (disch := first | omega | assumption) only [lw_237_191, lw_237_395, lw_237_443, ha, q1, e430, wck_t, wck_T, wbS, wbV, wbR, qdiv_p, qrem_p, Int.add_zero, ↓reduceIte, qw_id, ne_eq, not_true_eq_false, not_false_eq_true, and_true, true_and, and_self, and_false, false_and, or_true, true_or, or_self, or_false, false_or, xlt_t, xlt_f, xle_t, xle_f, xeq_t, xeq_f, xand_f, xor_t]
theorem lM_pr (h : lM V J N c k r D G) {w : Nat} (hw : w < 8) : V (50 + 15 * w) 3 = 1 ∧ V (50 + 15 * w) 2 = 1 ∧ V (50 + 15 * w) 4 = 0 := by
  have hc := h.2.2.2.1
  obtain ⟨b1, b2, b3, b4⟩ := lM_cp h (j := w) (by omega) (by omega)
  obtain ⟨p1, p2, p3, p4, p5, p6, p7⟩ := h.1.2.2.1 w (by omega)
  have e3 := p3.2 ⟨w, ⟨by omega, b4⟩, by omega⟩
  exact ⟨e3, p7 e3⟩
theorem lB_print (h : lM V J N c k r D G) (hN : N ≤ 200) (hn : 0 ≤ n ∧ n < 2147483648) (h13 : n % 20 = 11) (h16 : c < 16) : lB cf d V J N c k r D G i n v11 v12 v13 v14 v15 v16 v17 v18 v19 v20 v21 v22 v23 kk := by
  obtain ⟨k0, r0, D0, G0, N0⟩ := lM_rg h
  have hz := h.1
  obtain ⟨hkN, ⟨e1, e2, e3, e4, e5⟩, hc, hl0, h431, hD, h47⟩ := h.2
  obtain ⟨w, hw⟩ : ∃ w : Nat, c % 8 = w := ⟨(c % 8).toNat, by omega⟩
  obtain ⟨p3, p2, p4⟩ := lM_pr h (w := w) (by omega)
  obtain ⟨V', J', f1, f2, f3, f4, f5, f6, f7⟩ := c_print (d := d) hz (a := c / 4 % 2) (b := c % 4) (w := w) (by omega) (by omega) p2 p4 (by omega)
  rw [e1] at f1 f3 f4 f5
  have f8 := c_holder (d := d) f2 (c := c) (by omega)
  rw [f4, if_pos rfl] at f8
  have e : ∀ o : Nat, o ≠ 430 → vup V' 430 c (-1) o = V' o := fun o ho => vup_fn ho
  have f9 : ∀ o : Nat, (o = 47 ∨ 430 ≤ o ∧ o ≤ 453 ∨ 456 ≤ o ∧ o ≤ 479) → V' o = V o := fun o ho => f6 o (by omega) (by omega) (by omega) (by omega) (by omega) (by omega) (by omega)
  have hM : lM (vup V' 430 c (-1)) J' (N + 2) (c + 1) k r D G := by
    refine ⟨zInv_430 (zInv_up2 f2 (by omega)) _ _, by omega, ?_, by omega, fun j j0 j1 => ?_, ?_, lDs_fr (V := V) (by rw [e 467 (by omega), f9 467 (by omega)]) (by rw [e 480 (by omega)]; omega) (by rw [e 461 (by omega), f9 461 (by omega)]) (by rw [e 480 (by omega)]; omega) hD, ?_⟩
    · rw [e 480 (by omega)]
      omega
    · rw [e 454 (by omega), e 455 (by omega), f3, f4]
      by_cases q : j = c
      · rw [if_pos q, if_pos q, q, vup_at]
        omega
      · rw [if_neg q, if_neg q, vup_k q, f9 430 (by omega)]
        exact hl0 j j0 (by omega)
    · rw [e 431 (by omega), e 467 (by omega), f9 431 (by omega), f9 467 (by omega)]
      exact h431
    · rw [lDn_fr (V := V) (by rw [e 467 (by omega), f9 467 (by omega)]) (by rw [e 480 (by omega)]; omega), e 47 (by omega), f9 47 (by omega)]
      exact h47
  unfold lB
  refine ⟨vup V' 430 c (-1), J', 2, c + 1, k, r, D, G, v17, v18, v19, v20, v21, v22, v23, by omega, hM, by omega, ?_⟩
  simp (disch := first | omega | assumption) only [lw_237_191, lw_237_721, lw_237_732, lw_237_741, h13, f1, f8, wck_t, wck_T, wbS, wbV, wbR, qdiv_p, qrem_p, Int.add_zero, ↓reduceIte, qw_id, ne_eq, not_true_eq_false, not_false_eq_true, and_true, true_and, and_self, and_false, false_and, or_true, true_or, or_self, or_false, false_or, xlt_t, xlt_f, xle_t, xle_f, xeq_t, xeq_f, xand_f, xor_t]
theorem lB_ask (h : lM V J N c k r D G) (hN : N ≤ 200) (hn : 0 ≤ n ∧ n < 2147483648) (h13 : n % 20 = 11 ∧ 16 ≤ c ∨ 12 ≤ n % 20 ∧ n % 20 < 14) (hr : r < 40) : lB cf d V J N c k r D G i n v11 v12 v13 v14 v15 v16 v17 v18 v19 v20 v21 v22 v23 kk := by
  obtain ⟨k0, r0, D0, G0, N0⟩ := lM_rg h
  have hz := h.1
  obtain ⟨hkN, ⟨e1, e2, e3, e4, e5⟩, hc, hl0, h431, hD, h47⟩ := h.2
  have x12r : 0 ≤ n / 20 ∧ n / 20 < 2147483648 := by omega
  obtain ⟨V', f1, f2, f3, f4, f5, f6⟩ := c_ask (d := d) hz (a := n / 20 % 2) (b := 1 + n / 20 / 5 % 15) (c := n / 20 / 75 % 3) (e := n / 20 / 75 % 3 + n / 20 / 225 % 3) (by omega) (by omega) (by omega) (by omega)
  have f2' := zInv_up f2 (by omega)
  rw [show N + 1 + 1 = N + 2 by omega] at f2'
  rw [e3] at f1 f4 f5
  have f8 := c_done (d := d) f2 (a := r) (by omega)
  rw [f5, if_pos rfl] at f8
  have e : ∀ o : Nat, o ≠ 431 → vup V' 431 r (-1) o = V' o := fun o ho => vup_fn ho
  obtain ⟨g1, g37, g42, g59⟩ := f3
  have f9 : ∀ o : Nat, (46 ≤ o ∧ o ≤ 459) → V' o = V o := fun o ho => g1 o (by omega) (by omega) (by omega)
  have n52 : (V 480 52).toNat = r.toNat := by rw [e3]
  have n52' : (V' 480 52).toNat = r.toNat + 1 := by rw [f4.2]; omega
  have hM : lM (vup V' 431 r (-1)) J (N + 2) c k (r + 1) D G := by
    refine ⟨zInv_431 f2' _ _, by omega, ?_, hc, fun j j0 j1 => ?_, fun j j0 j1 => ?_, ⟨fun x x0 x1 x2 => ?_, fun x y x0 xy y1 x2 => ?_⟩, fun x x0 x1 => ?_⟩
    · rw [e 480 (by omega)]
      omega
    · rw [e 454 (by omega), e 455 (by omega), e 430 (by omega), f9 454 (by omega), f9 455 (by omega), f9 430 (by omega)]
      exact hl0 j j0 j1
    · rw [e 467 (by omega), f5]
      by_cases q : j = r
      · rw [if_pos q, q, vup_at]
      · rw [if_neg q, vup_k q, f9 431 (by omega)]
        exact h431 j j0 (by omega)
    · rw [e 467 (by omega), f5] at x2
      rw [e 480 (by omega), f4.2] at x1
      rw [e 467 (by omega), f5, e 480 (by omega), f4.1, e 461 (by omega), f6]
      by_cases q : x = r
      · rw [if_pos q] at x2
        exact absurd rfl x2
      · rw [if_neg q] at x2 ⊢
        exact hD.1 x x0 (by omega) x2
    · rw [e 467 (by omega), f5] at x2
      rw [e 480 (by omega), f4.2] at y1
      rw [e 467 (by omega), f5, f5]
      by_cases q : x = r
      · rw [if_pos q] at x2
        exact absurd rfl x2
      · rw [if_neg q] at x2 ⊢
        by_cases q2 : y = r
        · rw [if_pos q2]
          exact x2
        · rw [if_neg q2]
          exact hD.2 x y x0 xy (by omega) x2
    · have a1 := h47 x x0 x1
      have a2 : lDn (vup V' 431 r (-1)) = lDn V := by
        show lSm (fun j => if vup V' 431 r (-1) 467 j ≠ -1 then 1 else 0) 0 (vup V' 431 r (-1) 480 52).toNat = lSm (fun j => if V 467 j ≠ -1 then 1 else 0) 0 (V 480 52).toNat
        rw [e 467 (by omega), e 480 (by omega), n52', n52, lSm_last]
        have last : (if V' 467 (0 + (r.toNat : Int)) ≠ -1 then (1 : Int) else 0) = 0 := by
          have z : V' 467 (0 + (r.toNat : Int)) = -1 := by rw [f5, if_pos (by omega)]
          rw [z]
          decide
        show lSm (fun j => if V' 467 j ≠ -1 then 1 else 0) 0 r.toNat + (if V' 467 (0 + (r.toNat : Int)) ≠ -1 then (1 : Int) else 0) = _
        rw [last, Int.add_zero]
        exact lSm_cg _ _ (fun j j0 j1 => by
          have z : V' 467 j = V 467 j := by rw [f5, if_neg (by omega)]
          rw [z])
      rw [a2, e 47 (by omega), f9 47 (by omega)]
      exact a1
  have hp : 0 ≤ n / 20 % 2 ∧ n / 20 % 2 < 2 := by omega
  unfold lB
  refine ⟨vup V' 431 r (-1), J, 2, c, k, r + 1, D, G, v17, v18, v19, v20, v21, v22, v23, by omega, hM, Int.le_refl _, ?_⟩
  rcases h13 with ⟨q, q2⟩ | ⟨q, q2⟩
  · simp (disch := first | omega | assumption) only [lw_237_191, lw_237_754, lw_237_806, lw_237_817, lw_237_826, q, f1, f8, wck_t, wck_T, wbS, wbV, wbR, qdiv_p, qrem_p, Int.add_zero, ↓reduceIte, qw_id, ne_eq, not_true_eq_false, not_false_eq_true, and_true, true_and, and_self, and_false, false_and, or_true, true_or, or_self, or_false, false_or, xlt_t, xlt_f, xle_t, xle_f, xeq_t, xeq_f, xand_f, xor_t]
  · simp (disch := first | omega | assumption) only [lw_237_191, lw_237_754, lw_237_806, lw_237_817, lw_237_826, f1, f8, wck_t, wck_T, wbS, wbV, wbR, qdiv_p, qrem_p, Int.add_zero, ↓reduceIte, qw_id, ne_eq, not_true_eq_false, not_false_eq_true, and_true, true_and, and_self, and_false, false_and, or_true, true_or, or_self, or_false, false_or, xlt_t, xlt_f, xle_t, xle_f, xeq_t, xeq_f, xand_f, xor_t]
theorem lB_day (h : lM V J N c k r D G) (hN : N ≤ 200) (hn : 0 ≤ n ∧ n < 2147483648) (h13 : n % 20 = 17) : lB cf d V J N c k r D G i n v11 v12 v13 v14 v15 v16 v17 v18 v19 v20 v21 v22 v23 kk := by
  obtain ⟨k0, r0, D0, G0, N0⟩ := lM_rg h
  have hz := h.1
  obtain ⟨hkN, ⟨e1, e2, e3, e4, e5⟩, hc, hl0, h431, hD, h47⟩ := h.2
  obtain ⟨V1, f1, f2, f3, f4, f5⟩ := c_day (d := d) hz (by omega)
  obtain ⟨x, V', g1, g2, g3, g4, g5, g6, g7⟩ := c_room (d := d) f2 (by omega) (a := n / 20 % 4) (b := n / 20 / 4 % 13) (by omega) (by omega)
  rw [show N + 1 + 1 = N + 2 by omega] at g3
  rw [e4] at f1 f4
  have fo : ∀ o : Nat, (46 ≤ o ∧ o ≤ 459) → V' o = V o := fun o ho => (g4.1 o (by omega) (by omega) (by omega)).trans (f3.1 o (by omega) (by omega) (by omega))
  have e467 : V' 467 = V 467 := g6.trans f5
  have e52 : V' 480 52 = V 480 52 := g5.2.trans f4.2
  have hM : lM V' J (N + 2) c k r (D + 1) G := by
    refine ⟨g3, by omega, ⟨by rw [g4.2.1, f3.2.1, e1], by rw [g4.2.2.1, f3.2.2.1, e2], by rw [e52, e3], by rw [g5.1, f4.1], by rw [g4.2.2.2, f3.2.2.2, e5]⟩, hc, fun j j0 j1 => ?_, fun j j0 j1 => ?_, ⟨fun x x0 x1 x2 => ?_, fun x y x0 xy y1 x2 => ?_⟩, fun x x0 x1 => ?_⟩
    · rw [fo 454 (by omega), fo 455 (by omega), fo 430 (by omega)]
      exact hl0 j j0 j1
    · rw [fo 431 (by omega), e467]
      exact h431 j j0 j1
    · rw [e467] at x2 ⊢
      rw [e52] at x1
      obtain ⟨D', t, q, k1, k2, k3, k4, k5⟩ := hD.1 x x0 x1 x2
      exact ⟨D', t, q, k1, by rw [g5.1, f4.1]; omega, k3, k4, fun w => by rw [g5.1, f4.1] at w; omega⟩
    · rw [e467] at x2 ⊢
      rw [e52] at y1
      exact hD.2 x y x0 xy y1 x2
    · rw [lDn_fr (V := V) e467 e52, fo 47 (by omega)]
      exact h47 x x0 x1
  unfold lB
  refine ⟨V', J, 1, c, k, r, D + 1, G, v17, v18, v19, v20, v21, v22, v23, by omega, hM, Int.le_refl _, ?_⟩
  simp (disch := first | omega | assumption) only [lw_237_191, lw_237_754, lw_237_839, lw_237_1056, lw_237_1076, lw_237_1084, h13, f1, g1, wck_t, wck_T, wbS, wbV, wbR, qdiv_p, qrem_p, Int.add_zero, ↓reduceIte, qw_id, ne_eq, not_true_eq_false, not_false_eq_true, and_true, true_and, and_self, and_false, false_and, or_true, true_or, or_self, or_false, false_or, xlt_t, xlt_f, xle_t, xle_f, xeq_t, xeq_f, xand_f, xor_t]
end
