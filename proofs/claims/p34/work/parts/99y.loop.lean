/-! part 99y: forty-eight turns; the law answers true -/
section
variable {cf : Int32 → Int32} {d : Nat → Nat → UInt64} {V V' : zVt} {J J' : zJt} {N c k r D G i n : Int} {v11 v12 v13 v14 v15 v16 v17 v18 v19 v20 v21 v22 v23 : Value} {kk : Nat}
theorem lB_any (h : lM V J N c k r D G) (hN : N ≤ 150) (hn : 0 ≤ n ∧ n < 2147483648) : lB cf d V J N c k r D G i n v11 v12 v13 v14 v15 v16 v17 v18 v19 v20 v21 v22 v23 kk := by
  by_cases h1 : n % 20 < 5
  · exact lB_lend h (by omega) hn h1
  by_cases h2 : n % 20 < 7
  · exact lB_back h (by omega) hn (by omega)
  by_cases h3 : n % 20 < 11
  · exact lB_pencil h hN hn (by omega)
  by_cases h4 : n % 20 = 11 ∧ c < 16
  · exact lB_print h (by omega) hn h4.1 h4.2
  by_cases h5 : n % 20 < 14 ∧ r < 40
  · exact lB_ask h (by omega) hn (by omega) h5.2
  by_cases h6 : n % 20 < 17
  · exact lB_plan h hN hn (by omega) (by omega) (by omega)
  by_cases h7 : n % 20 = 17
  · exact lB_day h (by omega) hn h7
  by_cases h8 : n % 20 = 18
  · exact lB_concert h hN hn h8
  · exact lB_clash h (by omega) hn (by omega)
theorem lT_turn (hcf : ∀ k, 0 ≤ (cf k).toInt) (h : lM V J N c k r D G) (hN : N ≤ 150) (hi : 0 ≤ i ∧ i < 48) : ∃ (V' : zVt) (J' : zJt) (j : Nat) (c' k' r' D' G' : Int) (w11 w12 w13 w14 w15 w16 w17 w18 w19 w20 w21 w22 w23 : Value), j ≤ 2100 ∧ lM V' J' (N + 2) c' k' r' D' G' ∧ wGo cf 237 170 (wLs c k r D G i v11 v12 v13 v14 v15 v16 v17 v18 v19 v20 v21 v22 v23) [] (zm V J d) kk = wGo cf 237 170 (wLs c' k' r' D' G' (i + 1) w11 w12 w13 w14 w15 w16 w17 w18 w19 w20 w21 w22 w23) [] (zm V' J' d) (kk + j) := by
  obtain ⟨n, hn⟩ : ∃ n : Int, (cf (zi (8 + i))).toInt = n := ⟨_, rfl⟩
  have hnr : 0 ≤ n ∧ n < 2147483648 := by
    have a := hcf (zi (8 + i))
    have b := Int32.toInt_lt (cf (zi (8 + i)))
    rw [hn] at a b
    exact ⟨a, by omega⟩
  have hc0 := h.2.2.2.1
  obtain ⟨V1, J1, j1, c', k', r', D', G', w17, w18, w19, w20, w21, w22, w23, q1, q2, q3, q4⟩ := lB_any (cf := cf) (d := d) (i := i) (n := n) (v11 := v11) (v12 := v12) (v13 := v13) (v14 := v14) (v15 := v15) (v16 := v16) (v17 := v17) (v18 := v18) (v19 := v19) (v20 := v20) (v21 := v21) (v22 := v22) (v23 := v23) (kk := kk) h hN hnr
  have ra : 0 ≤ n / 20 % c ∧ n / 20 % c < c' := by
    have a := Int.emod_nonneg (n / 20) (show c ≠ 0 by omega)
    have b := Int.emod_lt_of_pos (n / 20) (show 0 < c by omega)
    exact ⟨a, by omega⟩
  obtain ⟨V2, J2, j2, y17, y18, p1, p2, p3⟩ := lT_1 (cf := cf) (d := d) (i := i) (n := n) (v17 := w17) (v18 := w18) (v19 := w19) (v20 := w20) (v21 := w21) (v22 := w22) (v23 := w23) (kk := kk + j1) (x12 := n / 20) (x13 := n % 20) (a := n / 20 % c) (s := n / 20 / 7 % 6) (p := n / 20 % 2) q2 (by omega) ra
  obtain ⟨j3, y19, y20, s1, s2⟩ := lT_2 (cf := cf) (d := d) (i := i) (n := n) (v19 := w19) (v20 := w20) (v21 := w21) (v22 := w22) (v23 := w23) (kk := kk + j1 + j2) (x12 := n / 20) (x13 := n % 20) (a := n / 20 % c) (s := n / 20 / 7 % 6) (p := n / 20 % 2) (w17 := y17) (w18 := y18) p2 (by omega) (by omega) (by omega) hi
  refine ⟨V2, J2, j1 + j2 + j3, c', k', r', D', G', .int (zi n), .int (zi (n / 20)), .int (zi (n % 20)), .int (zi (n / 20 % c)), .int (zi (n / 20 / 7 % 6)), .int (zi (n / 20 % 2)), .int (zi y17), .int (zi y18), .int (zi y19), .int (zi y20), w21, w22, w23, by omega, p2, ?_⟩
  have top : wGo cf 237 170 (wLs c k r D G i v11 v12 v13 v14 v15 v16 v17 v18 v19 v20 v21 v22 v23) [] (zm V J d) kk = wGo cf 237 191 (wLs c k r D G i v11 v12 v13 v14 v15 v16 v17 v18 v19 v20 v21 v22 v23) [.int (zi n)] (zm V J d) kk := by
    rw [lw_237_170]
    simp (disch := first | omega | assumption) only [lw_237_170, hn, wck_t, wck_T, wbS, wbV, wbR, qdiv_p, qrem_p, Int.add_zero, ↓reduceIte, qw_id, ne_eq, not_true_eq_false, not_false_eq_true, and_true, true_and, and_self, and_false, false_and, or_true, true_or, or_self, or_false, false_or, xlt_t, xlt_f, xle_t, xle_f, xeq_t, xeq_f, xand_f, xor_t]
  rw [top, q4, p3, s2]
  exact congrArg _ (by omega)
theorem lT_loop (hcf : ∀ k, 0 ≤ (cf k).toInt) (m : Nat) : ∀ (i kk : Nat) (V : zVt) (J : zJt) (c k r D G : Int) (v11 v12 v13 v14 v15 v16 v17 v18 v19 v20 v21 v22 v23 : Value), i + m = 48 → lM V J (2 + 2 * i) c k r D G → ∃ m1 j, j ≤ 2100 * m ∧ wGo cf 237 170 (wLs c k r D G i v11 v12 v13 v14 v15 v16 v17 v18 v19 v20 v21 v22 v23) [] (zm V J d) kk = some (zi 1, m1, kk + j) := by
  induction m with
  | zero =>
    intro i kk V J c k r D G v11 v12 v13 v14 v15 v16 v17 v18 v19 v20 v21 v22 v23 hi h
    have e : i = 48 := by omega
    subst e
    refine ⟨zm V J d, 0, by omega, ?_⟩
    have e8 : (((48 : Nat)) : Int) = 48 := rfl
    rw [e8]
    simp (disch := first | omega | assumption) only [lw_237_170, lw_237_1648, wck_t, wck_T, wbS, wbV, wbR, qdiv_p, qrem_p, Int.add_zero, ↓reduceIte, qw_id, ne_eq, not_true_eq_false, not_false_eq_true, and_true, true_and, and_self, and_false, false_and, or_true, true_or, or_self, or_false, false_or, xlt_t, xlt_f, xle_t, xle_f, xeq_t, xeq_f, xand_f, xor_t]
    rfl
  | succ m ih =>
    intro i kk V J c k r D G v11 v12 v13 v14 v15 v16 v17 v18 v19 v20 v21 v22 v23 hi h
    obtain ⟨V1, J1, j1, c', k', r', D', G', w11, w12, w13, w14, w15, w16, w17, w18, w19, w20, w21, w22, w23, q1, q2, q3⟩ := lT_turn (cf := cf) (d := d) (i := i) (v11 := v11) (v12 := v12) (v13 := v13) (v14 := v14) (v15 := v15) (v16 := v16) (v17 := v17) (v18 := v18) (v19 := v19) (v20 := v20) (v21 := v21) (v22 := v22) (v23 := v23) (kk := kk) hcf h (by omega) (by omega)
    rw [show 2 + 2 * (i : Int) + 2 = 2 + 2 * ((i + 1 : Nat) : Int) by omega] at q2
    rw [show (i : Int) + 1 = ((i + 1 : Nat) : Int) by omega] at q3
    obtain ⟨m1, j2, p1, p2⟩ := ih (i + 1) (kk + j1) V1 J1 c' k' r' D' G' w11 w12 w13 w14 w15 w16 w17 w18 w19 w20 w21 w22 w23 (by omega) q2
    exact ⟨m1, j1 + j2, by omega, by rw [q3, p2, Nat.add_assoc]⟩
theorem lM_0 (h : lP V J 8) : lM V J (2 + 2 * ((0 : Nat) : Int)) 8 0 0 0 0 := by
  obtain ⟨hz, ⟨p37, p42, p46, p52, p59⟩, hc, hf, h47⟩ := h
  have z2 := zInv_up2 hz (by omega)
  refine ⟨z2, by omega, ⟨p37, p42, p52, p46, p59⟩, by omega, fun j j0 j1 => ?_, fun j j0 j1 => by omega, ⟨fun i i0 i1 => by rw [p52] at i1; omega, fun i j i0 ij j1 => by rw [p52] at j1; omega⟩, fun i _ _ => ?_⟩
  · obtain ⟨a, b, e⟩ := hc j j0 j1
    rw [a, b, e]
    exact ⟨by omega, rfl⟩
  · rw [h47]
    show 0 ≤ lSm (fun j => if V 467 j ≠ -1 then 1 else 0) 0 (V 480 52).toNat
    rw [p52]
    exact Int.le_refl _
theorem lw_body (hcf : ∀ k, 0 ≤ (cf k).toInt) : ∃ m1 k1, k1 ≤ 500000 ∧ wGo cf 237 18 wL0 [] (zm V0 J0 d) 0 = some (1, m1, k1) := by
  obtain ⟨V, J, j, q1, q2, q3⟩ := lP_all (d := d) hcf
  obtain ⟨m1, j2, p1, p2⟩ := lT_loop (d := d) hcf 48 0 j V J 8 0 0 0 0 .null .null .null .null .null .null .null .null .null .null .null .null .null rfl (lM_0 q2)
  refine ⟨m1, j + j2, by omega, ?_⟩
  have e0 : (((0 : Nat)) : Int) = 0 := rfl
  rw [e0] at p2
  rw [q3]
  have e1 : (1 : Int32) = zi 1 := by decide
  rw [e1, ← p2]
  simp (disch := first | omega | assumption) only [lw_237_151, wck_t, wck_T, wbS, wbV, wbR, qdiv_p, qrem_p, Int.add_zero, ↓reduceIte, qw_id, ne_eq, not_true_eq_false, not_false_eq_true, and_true, true_and, and_self, and_false, false_and, or_true, true_or, or_self, or_false, false_or, xlt_t, xlt_f, xle_t, xle_f, xeq_t, xeq_f, xand_f, xor_t]
end
