/-! part 99x3: pencilling -/
section
variable {cf : Int32 → Int32} {d : Nat → Nat → UInt64} {V V' : zVt} {J J' : zJt} {N c k r D G i n : Int} {v11 v12 v13 v14 v15 v16 v17 v18 v19 v20 v21 v22 v23 : Value} {kk : Nat}
theorem lB_val {x12 x13 a s p tok t tk m : Int} (hx : 0 ≤ x12 ∧ x12 < 2147483648) (hm : x12 / 13 % 5 = m) : ∃ v, oV m v ∧ (-2147483648 ≤ v ∧ v < 2147483648) ∧ wGo cf 237 504 (wLm c k r D G i n x12 x13 a s p (.int (zi tok)) (.int (zi t)) v19 v20 v21 v22 v23) [.int (zi tk)] (zm V J d) kk = wGo cf 237 590 (wLm c k r D G i n x12 x13 a s p (.int (zi tok)) (.int (zi t)) (.int (zi tk)) (.int (zi m)) v21 v22 v23) [.int (zi v)] (zm V J d) kk := by
  by_cases q : x12 / 3 % 5 = 0
  · refine ⟨100, ⟨by omega, Or.inl rfl⟩, by omega, ?_⟩
    simp (disch := first | omega | assumption) only [lw_237_504, q, hm, wck_t, wck_T, wbS, wbV, wbR, qdiv_p, qrem_p, Int.add_zero, ↓reduceIte, qw_id, ne_eq, not_true_eq_false, not_false_eq_true, and_true, true_and, and_self, and_false, false_and, or_true, true_or, or_self, or_false, false_or, xlt_t, xlt_f, xle_t, xle_f, xeq_t, xeq_f, xand_f, xor_t]
  · rcases (show m = 0 ∨ m = 1 ∨ m = 2 ∨ m = 3 ∨ m = 4 by omega) with e | e | e | e | e
    · refine ⟨x12 % 3, ⟨by omega, Or.inr (Or.inl ⟨e, by omega⟩)⟩, by omega, ?_⟩
      rw [e] at hm ⊢
      simp (disch := first | omega | assumption) only [lw_237_504, hm, wck_t, wck_T, wbS, wbV, wbR, qdiv_p, qrem_p, Int.add_zero, ↓reduceIte, qw_id, ne_eq, not_true_eq_false, not_false_eq_true, and_true, true_and, and_self, and_false, false_and, or_true, true_or, or_self, or_false, false_or, xlt_t, xlt_f, xle_t, xle_f, xeq_t, xeq_f, xand_f, xor_t]
    · refine ⟨x12 % 29 - 9, ⟨by omega, Or.inr (Or.inr (Or.inl ⟨e, by omega⟩))⟩, by omega, ?_⟩
      rw [e] at hm ⊢
      simp (disch := first | omega | assumption) only [lw_237_504, hm, wck_t, wck_T, wbS, wbV, wbR, qdiv_p, qrem_p, Int.add_zero, ↓reduceIte, qw_id, ne_eq, not_true_eq_false, not_false_eq_true, and_true, true_and, and_self, and_false, false_and, or_true, true_or, or_self, or_false, false_or, xlt_t, xlt_f, xle_t, xle_f, xeq_t, xeq_f, xand_f, xor_t]
    · refine ⟨x12 % 4, ⟨by omega, Or.inr (Or.inr (Or.inr (Or.inl ⟨e, by omega⟩)))⟩, by omega, ?_⟩
      rw [e] at hm ⊢
      simp (disch := first | omega | assumption) only [lw_237_504, hm, wck_t, wck_T, wbS, wbV, wbR, qdiv_p, qrem_p, Int.add_zero, ↓reduceIte, qw_id, ne_eq, not_true_eq_false, not_false_eq_true, and_true, true_and, and_self, and_false, false_and, or_true, true_or, or_self, or_false, false_or, xlt_t, xlt_f, xle_t, xle_f, xeq_t, xeq_f, xand_f, xor_t]
    · refine ⟨1 + x12 % 4, ⟨by omega, Or.inr (Or.inr (Or.inr (Or.inr (Or.inl ⟨e, by unfold oL; omega⟩))))⟩, by omega, ?_⟩
      rw [e] at hm ⊢
      simp (disch := first | omega | assumption) only [lw_237_504, hm, wck_t, wck_T, wbS, wbV, wbR, qdiv_p, qrem_p, Int.add_zero, ↓reduceIte, qw_id, ne_eq, not_true_eq_false, not_false_eq_true, and_true, true_and, and_self, and_false, false_and, or_true, true_or, or_self, or_false, false_or, xlt_t, xlt_f, xle_t, xle_f, xeq_t, xeq_f, xand_f, xor_t]
    · refine ⟨x12 % 2, ⟨by omega, Or.inr (Or.inr (Or.inr (Or.inr (Or.inr ⟨e, by omega⟩))))⟩, by omega, ?_⟩
      rw [e] at hm ⊢
      simp (disch := first | omega | assumption) only [lw_237_504, hm, wck_t, wck_T, wbS, wbV, wbR, qdiv_p, qrem_p, Int.add_zero, ↓reduceIte, qw_id, ne_eq, not_true_eq_false, not_false_eq_true, and_true, true_and, and_self, and_false, false_and, or_true, true_or, or_self, or_false, false_or, xlt_t, xlt_f, xle_t, xle_f, xeq_t, xeq_f, xand_f, xor_t]
theorem lB_pencil (h : lM V J N c k r D G) (hN : N ≤ 150) (hn : 0 ≤ n ∧ n < 2147483648) (h13 : 7 ≤ n % 20 ∧ n % 20 < 11) : lB cf d V J N c k r D G i n v11 v12 v13 v14 v15 v16 v17 v18 v19 v20 v21 v22 v23 kk := by
  obtain ⟨k0, r0, D0, G0, N0⟩ := lM_rg h
  have hz := h.1
  have hkN := h.2.1
  have e480 := h.2.2.1
  have hc := h.2.2.2.1
  have hx12 : 0 ≤ n / 20 ∧ n / 20 < 2147483648 := by omega
  obtain ⟨a, ha⟩ : ∃ a, n / 20 % c = a := ⟨_, rfl⟩
  have ra : 0 ≤ a ∧ a < c := by
    rw [← ha]
    exact ⟨Int.emod_nonneg _ (by omega), Int.emod_lt_of_pos _ (by omega)⟩
  obtain ⟨a1, a2, a3, a4⟩ := lM_cp h ra.1 ra.2
  obtain ⟨s, hs⟩ : ∃ s, n / 20 / 7 % 6 = s := ⟨_, rfl⟩
  obtain ⟨p, hp⟩ : ∃ p, n / 20 % 2 = p := ⟨_, rfl⟩
  obtain ⟨x, hx⟩ : ∃ x, n % 20 = x := ⟨_, rfl⟩
  obtain ⟨y, hy⟩ : ∃ y, n / 20 = y := ⟨_, rfl⟩
  rw [hx] at h13
  rw [hy] at hx12 ha hs hp
  obtain ⟨w, hw⟩ : ∃ w : Nat, a % 8 = w := ⟨(a % 8).toNat, by omega⟩
  obtain ⟨p3, p2, p4⟩ := lM_pr h (w := w) (by omega)
  obtain ⟨n', b', A, fa, r1, _, _, _⟩ := iPr_row hz (w := w) (by omega) p3
  have hrng := yTx_rng r1.1 (zt_ok hz.1.1 (w := (w : Int)) (by omega))
  have htok : V (52 + 15 * w) 0 = n' := r1.2.1
  have h3n : 3 ≤ n' := (hrng.2.2.2.2.2.2 rfl).1
  have h60 := hrng.1
  have e1 := c_tokens (d := d) hz (a := a % 8 / 4) (b := a % 4) (w := w) (by omega) (by omega) p2
  rw [htok] at e1
  obtain ⟨t, ht⟩ : ∃ t, y / 11 % n' = t := ⟨_, rfl⟩
  have rt : 0 ≤ t ∧ t < n' := by
    rw [← ht]
    exact ⟨Int.emod_nonneg _ (by omega), Int.emod_lt_of_pos _ (by omega)⟩
  have e2 := c_token (d := d) hz (a := a % 8 / 4) (b := a % 4) (c := t) (w := w) (by omega) (by omega) p2 (by omega) (by omega)
  have htk := (r1.2.2.2.2.2.1 t rt.1 rt.2).1
  have rtk := yK_rng (yTt V w) (yP (yTt V w) t)
  rw [← htk, show 52 + 15 * w + 1 = 53 + 15 * w by omega] at rtk
  obtain ⟨m, hm⟩ : ∃ m, y / 13 % 5 = m := ⟨_, rfl⟩
  obtain ⟨tk, htk2⟩ : ∃ tk, V (53 + 15 * w) t = tk := ⟨_, rfl⟩
  rw [htk2] at e2 rtk
  obtain ⟨v, hv, rv, e3⟩ := lB_val (cf := cf) (d := d) (V := V) (J := J) (kk := kk + 2) (c := c) (k := k) (r := r) (D := D) (G := G) (i := i) (n := n) (v19 := v19) (v20 := v20) (v21 := v21) (v22 := v22) (v23 := v23) (x13 := x) (a := a) (s := s) (p := p) (tok := n') (t := t) (tk := tk) hx12 hm
  have e4 := c_pencil (d := d) hz (a := a) (b := t) (m := m) (v := v) (w := w) ⟨ra.1, a4⟩ (by rw [a2, hw]) (by rw [htok]; exact rt) (by omega) rv hv (by omega)
  rw [htk2, e480.2.1, ← a3] at e4
  unfold lB
  rw [hy, ha, hs, hp, hx]
  have run : wGo cf 237 191 (wLs c k r D G i v11 v12 v13 v14 v15 v16 v17 v18 v19 v20 v21 v22 v23) [.int (zi n)] (zm V J d) kk = wGo cf 237 504 (wLm c k r D G i n y x a s p (.int (zi n')) (.int (zi t)) v19 v20 v21 v22 v23) [.int (zi tk)] (zm V J d) (kk + 2) := by
    simp (disch := first | omega | assumption) only [lw_237_191, lw_237_475, hy, hx, ha, hs, hp, e1, ht, e2, wck_t, wck_T, wbS, wbV, wbR, qdiv_p, qrem_p, Int.add_zero, ↓reduceIte, qw_id, ne_eq, not_true_eq_false, not_false_eq_true, and_true, true_and, and_self, and_false, false_and, or_true, true_or, or_self, or_false, false_or, xlt_t, xlt_f, xle_t, xle_f, xeq_t, xeq_f, xand_f, xor_t]
  rw [run, e3]
  rcases e4 with ⟨⟨l1, l2⟩, V', J', q1, q2, q3, q4, q5⟩ | ⟨l1, q1⟩
  · have e430 : V' 430 = V 430 := q3.1 430 (by omega)
    have hM : lM V' J' (N + 2) c (k + 1) r D G := lM_fr h (zInv_up2 q2 (by omega)) (by omega) q4 q3 (fun j j0 j1 => by
      rw [e430, q5]
      exact (lM_cp h j0 j1).2.2.1)
    refine ⟨V', J', 3, c, k + 1, r, D, G, .int (zi n'), .int (zi t), .int (zi tk), .int (zi m), .int (zi v), .int (zi k), .int (zi 1), by omega, hM, Int.le_refl _, ?_⟩
    rcases l2 with ⟨m0, t0⟩ | ⟨m0, t0 | ⟨m3, t4⟩⟩
    · simp (disch := first | omega | assumption) only [lw_237_590, lw_237_604, lw_237_644, lw_237_649, lw_237_665, lw_237_673, lw_237_687, q1, e430, wck_t, wck_T, wbS, wbV, wbR, qdiv_p, qrem_p, Int.add_zero, ↓reduceIte, qw_id, ne_eq, not_true_eq_false, not_false_eq_true, and_true, true_and, and_self, and_false, false_and, or_true, true_or, or_self, or_false, false_or, xlt_t, xlt_f, xle_t, xle_f, xeq_t, xeq_f, xand_f, xor_t]
    · simp (disch := first | omega | assumption) only [lw_237_590, lw_237_604, lw_237_644, lw_237_649, lw_237_665, lw_237_673, lw_237_687, q1, e430, wck_t, wck_T, wbS, wbV, wbR, qdiv_p, qrem_p, Int.add_zero, ↓reduceIte, qw_id, ne_eq, not_true_eq_false, not_false_eq_true, and_true, true_and, and_self, and_false, false_and, or_true, true_or, or_self, or_false, false_or, xlt_t, xlt_f, xle_t, xle_f, xeq_t, xeq_f, xand_f, xor_t]
    · simp (disch := first | omega | assumption) only [lw_237_590, lw_237_604, lw_237_644, lw_237_649, lw_237_665, lw_237_673, lw_237_687, q1, e430, wck_t, wck_T, wbS, wbV, wbR, qdiv_p, qrem_p, Int.add_zero, ↓reduceIte, qw_id, ne_eq, not_true_eq_false, not_false_eq_true, and_true, true_and, and_self, and_false, false_and, or_true, true_or, or_self, or_false, false_or, xlt_t, xlt_f, xle_t, xle_f, xeq_t, xeq_f, xand_f, xor_t]
  · refine ⟨V, J, 3, c, k, r, D, G, .int (zi n'), .int (zi t), .int (zi tk), .int (zi m), .int (zi v), .int (zi (-103)), .int (zi 0), by omega, lM_up h (by omega), Int.le_refl _, ?_⟩
    by_cases l2 : V 430 a = -1
    · simp (disch := first | omega | assumption) only [lw_237_590, lw_237_604, lw_237_648, lw_237_649, lw_237_665, lw_237_673, lw_237_687, q1, l2, wck_t, wck_T, wbS, wbV, wbR, qdiv_p, qrem_p, Int.add_zero, ↓reduceIte, qw_id, ne_eq, not_true_eq_false, not_false_eq_true, and_true, true_and, and_self, and_false, false_and, or_true, true_or, or_self, or_false, false_or, xlt_t, xlt_f, xle_t, xle_f, xeq_t, xeq_f, xand_f, xor_t]
    · have l3 : ¬ oF m tk := fun w => l1 ⟨l2, w⟩
      by_cases m0 : m = 0
      · have t0 : tk ≠ 0 := fun w => l3 (Or.inl ⟨m0, w⟩)
        simp (disch := first | omega | assumption) only [lw_237_590, lw_237_604, lw_237_648, lw_237_649, lw_237_665, lw_237_673, lw_237_687, q1, wck_t, wck_T, wbS, wbV, wbR, qdiv_p, qrem_p, Int.add_zero, ↓reduceIte, qw_id, ne_eq, not_true_eq_false, not_false_eq_true, and_true, true_and, and_self, and_false, false_and, or_true, true_or, or_self, or_false, false_or, xlt_t, xlt_f, xle_t, xle_f, xeq_t, xeq_f, xand_f, xor_t]
      · have t3 : tk ≠ 3 := fun w => l3 (Or.inr ⟨m0, Or.inl w⟩)
        by_cases m3 : m = 3
        · have t4 : tk ≠ 4 := fun w => l3 (Or.inr ⟨m0, Or.inr ⟨m3, w⟩⟩)
          simp (disch := first | omega | assumption) only [lw_237_590, lw_237_604, lw_237_648, lw_237_649, lw_237_665, lw_237_673, lw_237_687, q1, wck_t, wck_T, wbS, wbV, wbR, qdiv_p, qrem_p, Int.add_zero, ↓reduceIte, qw_id, ne_eq, not_true_eq_false, not_false_eq_true, and_true, true_and, and_self, and_false, false_and, or_true, true_or, or_self, or_false, false_or, xlt_t, xlt_f, xle_t, xle_f, xeq_t, xeq_f, xand_f, xor_t]
        · simp (disch := first | omega | assumption) only [lw_237_590, lw_237_604, lw_237_648, lw_237_649, lw_237_665, lw_237_673, lw_237_687, q1, wck_t, wck_T, wbS, wbV, wbR, qdiv_p, qrem_p, Int.add_zero, ↓reduceIte, qw_id, ne_eq, not_true_eq_false, not_false_eq_true, and_true, true_and, and_self, and_false, false_and, or_true, true_or, or_self, or_false, false_or, xlt_t, xlt_f, xle_t, xle_f, xeq_t, xeq_f, xand_f, xor_t]
end
