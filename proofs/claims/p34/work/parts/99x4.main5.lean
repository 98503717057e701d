/-! part 99x4: the concert -/
section
variable {cf : Int32 → Int32} {d : Nat → Nat → UInt64} {V V' : zVt} {J J' : zJt} {N c k r D G i n : Int} {v11 v12 v13 v14 v15 v16 v17 v18 v19 v20 v21 v22 v23 : Value} {kk : Nat}
theorem lB_cnt (h : lM V J N c k r D G) {x12 x13 a s p x : Int} (hp : 0 ≤ p ∧ p < 3) (m : Nat) : ∀ (t y : Int), 0 ≤ t → t + m = c → wGo cf 237 1110 (wLm c k r D G i n x12 x13 a s p (.int (zi x)) (.int (zi y)) (.int (zi t)) v20 v21 v22 v23) [] (zm V J d) kk = wGo cf 237 1110 (wLm c k r D G i n x12 x13 a s p (.int (zi x)) (.int (zi (y + lSm (lLe V p) t m))) (.int (zi c)) v20 v21 v22 v23) [] (zm V J d) kk := by
  have hc := h.2.2.2.1
  induction m with
  | zero =>
    intro t y h0 ht
    rw [show t = c by omega, show y + lSm (lLe V p) c 0 = y from Int.add_zero y]
  | succ m ih =>
    intro t y h0 ht
    obtain ⟨t1, t2, t3, _⟩ := lM_cp h h0 (by omega)
    have e := ih (t + 1) (y + lLe V p t) (by omega) (by omega)
    rw [show y + lSm (lLe V p) t (m + 1) = y + lLe V p t + lSm (lLe V p) (t + 1) m from (Int.add_assoc _ _ _).symm, ← e]
    rw [lw_237_1110]
    by_cases q : V 430 t = -1
    · have g : lLe V p t = 0 := if_neg (fun w => w.1 (by omega))
      rw [g]
      simp (disch := first | omega | assumption) only [lw_237_1142, lw_237_1143, q, wck_t, wck_T, wbS, wbV, wbR, qdiv_p, qrem_p, Int.add_zero, ↓reduceIte, qw_id, ne_eq, not_true_eq_false, not_false_eq_true, and_true, true_and, and_self, and_false, false_and, or_true, true_or, or_self, or_false, false_or, xlt_t, xlt_f, xle_t, xle_f, xeq_t, xeq_f, xand_f, xor_t]
    · by_cases q2 : t % 8 / 4 = p
      · have g : lLe V p t = 1 := if_pos ⟨by omega, by rw [t2]; exact q2⟩
        rw [g]
        simp (disch := first | omega | assumption) only [lw_237_1143, q2, wck_t, wck_T, wbS, wbV, wbR, qdiv_p, qrem_p, Int.add_zero, ↓reduceIte, qw_id, ne_eq, not_true_eq_false, not_false_eq_true, and_true, true_and, and_self, and_false, false_and, or_true, true_or, or_self, or_false, false_or, xlt_t, xlt_f, xle_t, xle_f, xeq_t, xeq_f, xand_f, xor_t]
      · have g : lLe V p t = 0 := if_neg (fun w => q2 (by rw [← t2]; exact w.2))
        rw [g]
        simp (disch := first | omega | assumption) only [lw_237_1142, lw_237_1143, wck_t, wck_T, wbS, wbV, wbR, qdiv_p, qrem_p, Int.add_zero, ↓reduceIte, qw_id, ne_eq, not_true_eq_false, not_false_eq_true, and_true, true_and, and_self, and_false, false_and, or_true, true_or, or_self, or_false, false_or, xlt_t, xlt_f, xle_t, xle_f, xeq_t, xeq_f, xand_f, xor_t]
/-- the law takes the copies back -/
theorem lB_all {x12 x13 a s p x y z : Int} {U : zVt} (hc : 8 ≤ c ∧ c ≤ 16) (hp : 0 ≤ p ∧ p < 3) (hz : 0 < z ∧ z ≤ 16) (hr : ∀ j, 0 ≤ j → j < c → -1 ≤ V 430 j ∧ V 430 j < 12) (m : Nat) : ∀ (t : Int) (W : zVt), 0 ≤ t → t + m = c → (∀ o : Nat, o ≠ 430 → W o = U o) → (∀ j, 0 ≤ j → j < c → W 430 j = if j < t ∧ j % 8 / 4 = p then -1 else V 430 j) → ∃ W' : zVt, (∀ o : Nat, o ≠ 430 → W' o = U o) ∧ (∀ j, 0 ≤ j → j < c → W' 430 j = if j % 8 / 4 = p then -1 else V 430 j) ∧ wGo cf 237 1224 (wLm c k r D G i n x12 x13 a s p (.int (zi x)) (.int (zi y)) (.int (zi z)) (.int (zi t)) v21 v22 v23) [] (zm W J d) kk = wGo cf 237 1224 (wLm c k r D G i n x12 x13 a s p (.int (zi x)) (.int (zi y)) (.int (zi z)) (.int (zi c)) v21 v22 v23) [] (zm W' J d) kk := by
  induction m with
  | zero =>
    intro t W h0 ht hW hj
    have e : t = c := by omega
    subst e
    refine ⟨W, hW, fun j j0 j1 => ?_, rfl⟩
    rw [hj j j0 j1]
    by_cases q : j % 8 / 4 = p
    · rw [if_pos ⟨j1, q⟩, if_pos q]
    · rw [if_neg (fun w => q w.2), if_neg q]
  | succ m ih =>
    intro t W h0 ht hW hj
    obtain ⟨u, hu⟩ : ∃ u : Int, (if t % 8 / 4 = p then -1 else V 430 t) = u := ⟨_, rfl⟩
    obtain ⟨W', w1, w2, w3⟩ := ih (t + 1) (vup W 430 t u) (by omega) (by omega) (fun o ho => by rw [vup_fn ho]; exact hW o ho) (fun j j0 j1 => by
      by_cases q : j = t
      · rw [q, vup_at, ← hu]
        by_cases q2 : t % 8 / 4 = p
        · rw [if_pos q2, if_pos ⟨by omega, q2⟩]
        · rw [if_neg q2, if_neg (fun w => q2 w.2)]
      · rw [vup_k q, hj j j0 j1]
        by_cases q2 : j < t ∧ j % 8 / 4 = p
        · rw [if_pos q2, if_pos ⟨by omega, q2.2⟩]
        · rw [if_neg q2, if_neg (fun w => q2 ⟨by omega, w.2⟩)])
    refine ⟨W', w1, w2, ?_⟩
    rw [← w3, lw_237_1224]
    have ht2 := hj t h0 (by omega)
    rw [if_neg (by omega)] at ht2
    by_cases q2 : t % 8 / 4 = p
    · rw [if_pos q2] at hu
      subst hu
      simp (disch := first | omega | assumption) only [lw_237_1259, q2, wck_t, wck_T, wbS, wbV, wbR, qdiv_p, qrem_p, Int.add_zero, ↓reduceIte, qw_id, ne_eq, not_true_eq_false, not_false_eq_true, and_true, true_and, and_self, and_false, false_and, or_true, true_or, or_self, or_false, false_or, xlt_t, xlt_f, xle_t, xle_f, xeq_t, xeq_f, xand_f, xor_t]
    · rw [if_neg q2] at hu
      subst hu
      simp (disch := first | omega | assumption) only [lw_237_1259, ht2, wck_t, wck_T, wbS, wbV, wbR, qdiv_p, qrem_p, Int.add_zero, ↓reduceIte, qw_id, ne_eq, not_true_eq_false, not_false_eq_true, and_true, true_and, and_self, and_false, false_and, or_true, true_or, or_self, or_false, false_or, xlt_t, xlt_f, xle_t, xle_f, xeq_t, xeq_f, xand_f, xor_t]
theorem lB_concert (h : lM V J N c k r D G) (hN : N ≤ 150) (hn : 0 ≤ n ∧ n < 2147483648) (h13 : n % 20 = 18) : lB cf d V J N c k r D G i n v11 v12 v13 v14 v15 v16 v17 v18 v19 v20 v21 v22 v23 kk := by
  obtain ⟨k0, r0, D0, G0, N0⟩ := lM_rg h
  have hz := h.1
  have hkN := h.2.1
  have e480 := h.2.2.1
  have hc := h.2.2.2.1
  obtain ⟨a, ha⟩ : ∃ a, n / 20 % c = a := ⟨_, rfl⟩
  obtain ⟨s, hs⟩ : ∃ s, n / 20 / 7 % 6 = s := ⟨_, rfl⟩
  obtain ⟨p, hp⟩ : ∃ p, n / 20 % 2 = p := ⟨_, rfl⟩
  obtain ⟨x, hx⟩ : ∃ x, n % 20 = x := ⟨_, rfl⟩
  rw [hx] at h13
  have rp : 0 ≤ p ∧ p < 3 := by omega
  obtain ⟨u, u1, u2⟩ := c_judge (d := d) hz rp
  have ur := oVd_rng u1
  have g1 := lB_cnt (cf := cf) (d := d) (i := i) (n := n) (v20 := v20) (v21 := v21) (v22 := v22) (v23 := v23) (kk := kk + 1) (x12 := n / 20) (x13 := x) (a := a) (s := s) (x := u) h rp c.toNat 0 0 (by omega) (by omega)
  rw [Int.zero_add] at g1
  have n37 : (V 480 37).toNat = c.toNat := by rw [e480.1]
  have c5 := c_concert (d := d) hz (by omega) rp u1
  rw [n37] at c5
  obtain ⟨T, hT⟩ : ∃ T, lSm (lLe V p) 0 c.toNat = T := ⟨_, rfl⟩
  have hTr : 0 ≤ T ∧ T ≤ 16 := by
    rw [← hT]
    have b1 := lSm_0 (g := lLe V p) (fun j => by unfold lLe; split <;> omega) c.toNat 0
    have b2 := lSm_b (g := lLe V p) (fun j => by unfold lLe; split <;> omega) c.toNat 0
    omega
  rw [hT] at g1 c5
  have run : wGo cf 237 191 (wLs c k r D G i v11 v12 v13 v14 v15 v16 v17 v18 v19 v20 v21 v22 v23) [.int (zi n)] (zm V J d) kk = wGo cf 237 1110 (wLm c k r D G i n (n / 20) x a s p (.int (zi u)) (.int (zi 0)) (.int (zi 0)) v20 v21 v22 v23) [] (zm V J d) (kk + 1) := by
    simp (disch := first | omega | assumption) only [lw_237_191, lw_237_754, lw_237_839, lw_237_1102, hx, ha, hs, hp, u2, wck_t, wck_T, wbS, wbV, wbR, qdiv_p, qrem_p, Int.add_zero, ↓reduceIte, qw_id, ne_eq, not_true_eq_false, not_false_eq_true, and_true, true_and, and_self, and_false, false_and, or_true, true_or, or_self, or_false, false_or, xlt_t, xlt_f, xle_t, xle_f, xeq_t, xeq_f, xand_f, xor_t]
  unfold lB
  rw [ha, hs, hp, hx, run, g1, lw_237_1110]
  rcases c5 with ⟨u0, q1⟩ | ⟨u0, T4, V', J', q1, q2, q3, q4, q5, q6⟩
  · refine ⟨V, J, 3, c, k, r, D, G, .int (zi u), .int (zi T), .int (zi (-103)), .int (zi 0), v21, v22, v23, by omega, lM_up h (by omega), Int.le_refl _, ?_⟩
    simp (disch := first | omega | assumption) only [lw_237_1158, lw_237_1209, lw_237_1219, lw_237_1224, lw_237_1266, lw_237_1278, q1, u2, wck_t, wck_T, wbS, wbV, wbR, qdiv_p, qrem_p, Int.add_zero, ↓reduceIte, qw_id, ne_eq, not_true_eq_false, not_false_eq_true, and_true, true_and, and_self, and_false, false_and, or_true, true_or, or_self, or_false, false_or, xlt_t, xlt_f, xle_t, xle_f, xeq_t, xeq_f, xand_f, xor_t]
  · subst u0
    obtain ⟨u', w1, w2⟩ := c_judge (d := d) q2 rp
    have hu1 := oVd_un q6 w1
    subst hu1
    have z1 : V' 430 = V 430 := q3.1 430 (by omega)
    obtain ⟨W, f1, f2, f3⟩ := lB_all (cf := cf) (d := d) (J := J') (V := V) (U := V') (i := i) (n := n) (v21 := v21) (v22 := v22) (v23 := v23) (kk := kk + 3) (x12 := n / 20) (x13 := x) (a := a) (s := s) (x := 0) (y := T) (z := T) (k := k) (r := r) (D := D) (G := G) hc rp (by omega) (fun j j0 j1 => (lM_cp h j0 j1).1) c.toNat 0 V' (by omega) (by omega) (fun _ _ => rfl) (fun j j0 j1 => by rw [z1, if_neg (by omega)])
    have q2' := zInv_up q2 (by omega)
    rw [show N + 1 + 1 = N + 2 by omega] at q2'
    have zW : zInv (N + 2) W J' := zInv_fr ⟨fun o ho => f1 o (by omega), ⟨by rw [f1 480 (by omega)], by rw [f1 480 (by omega)], by rw [f1 480 (by omega)], by rw [f1 480 (by omega)], by rw [f1 480 (by omega)]⟩, rfl, rfl⟩ ⟨fun o ho => f1 o (by omega), fun o ho => rfl⟩ q2'
    obtain ⟨_, _, _, _, hl0, h431, hD, h47⟩ := h
    obtain ⟨y1, y37, y42, y46, y52⟩ := q3
    have hM : lM W J' (N + 2) c k r D (G + 1) := by
      refine ⟨zW, by omega, ?_, hc, fun j j0 j1 => ?_, ?_, lDs_fr (V := V) (by rw [f1 467 (by omega), y1 467 (by omega)]) (by rw [f1 480 (by omega), y52]) (by rw [f1 461 (by omega), y1 461 (by omega)]) (by rw [f1 480 (by omega), y46]) hD, ?_⟩
      · rw [f1 480 (by omega)]
        omega
      · obtain ⟨b1, b2⟩ := hl0 j j0 j1
        rw [f1 454 (by omega), f1 455 (by omega), f2 j j0 j1, q5, y1 454 (by omega), b1]
        refine ⟨rfl, ?_⟩
        by_cases w : j % 8 / 4 = p
        · rw [if_pos w, if_pos ⟨by omega, w⟩]
        · rw [if_neg w, if_neg (fun z => w z.2)]
          exact b2
      · rw [f1 431 (by omega), f1 467 (by omega), y1 431 (by omega), y1 467 (by omega)]
        exact h431
      · rw [lDn_fr (V := V) (by rw [f1 467 (by omega), y1 467 (by omega)]) (by rw [f1 480 (by omega), y52]), f1 47 (by omega), y1 47 (by omega)]
        exact h47
    refine ⟨W, J', 3, c, k, r, D, G + 1, .int (zi 0), .int (zi T), .int (zi T), .int (zi c), v21, v22, v23, by omega, hM, Int.le_refl _, ?_⟩
    have f3 : wGo cf 237 1224 (wLm c k r D G i n (n / 20) x a s p (.int (zi 0)) (.int (zi T)) (.int (zi T)) (.int (zi 0)) v21 v22 v23) [] (zm V' J' d) (kk + 3) = _ := f3
    have last : wGo cf 237 1224 (wLm c k r D G i n (n / 20) x a s p (.int (zi 0)) (.int (zi T)) (.int (zi T)) (.int (zi c)) v21 v22 v23) [] (zm W J' d) (kk + 3) = wGo cf 237 1366 (wLm c k r D (G + 1) i n (n / 20) x a s p (.int (zi 0)) (.int (zi T)) (.int (zi T)) (.int (zi c)) v21 v22 v23) [] (zm W J' d) (kk + 3) := by
      simp (disch := first | omega | assumption) only [lw_237_1224, lw_237_1266, lw_237_1278, wck_t, wck_T, wbS, wbV, wbR, qdiv_p, qrem_p, Int.add_zero, ↓reduceIte, qw_id, ne_eq, not_true_eq_false, not_false_eq_true, and_true, true_and, and_self, and_false, false_and, or_true, true_or, or_self, or_false, false_or, xlt_t, xlt_f, xle_t, xle_f, xeq_t, xeq_f, xand_f, xor_t]
    rw [last] at f3
    rw [← f3]
    simp (disch := first | omega | assumption) only [lw_237_1158, lw_237_1184, lw_237_1219, q1, w2, wck_t, wck_T, wbS, wbV, wbR, qdiv_p, qrem_p, Int.add_zero, ↓reduceIte, qw_id, ne_eq, not_true_eq_false, not_false_eq_true, and_true, true_and, and_self, and_false, false_and, or_true, true_or, or_self, or_false, false_or, xlt_t, xlt_f, xle_t, xle_f, xeq_t, xeq_f, xand_f, xor_t]
end
