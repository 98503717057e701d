/-! part 99x5: the plan -/
section
variable {cf : Int32 → Int32} {d : Nat → Nat → UInt64} {V V' W : zVt} {J J' : zJt} {N c k r D G i n : Int} {v11 v12 v13 v14 v15 v16 v17 v18 v19 v20 v21 v22 v23 : Value} {kk : Nat}
theorem oBl_431 {j : Int} (hW : ∀ o : Nat, o ≠ 431 → W o = V' o) (h : oBl V' j) : oBl W j := by
  unfold oBl oGs oFr oSg oLe at *
  simp (disch := omega) only [hW]
  exact h
/-- no other request is done at that time -/
theorem lB_dist {x12 x13 a s p x y t dn : Int} (hz : zInv N W J) (hr : 0 ≤ r ∧ r ≤ 40) (h52 : W 480 52 = r) (h467 : ∀ j, 0 ≤ j → j < r → -1 ≤ W 467 j ∧ W 467 j < 100000) (hd : 0 ≤ dn ∧ dn < 100000) (ht : 0 ≤ t ∧ t < r) (hne : ∀ j, 0 ≤ j → j < t → W 467 j ≠ dn) (m : Nat) : ∀ (u : Int) (kk : Nat), 0 ≤ u → u + m = t → wGo cf 237 904 (wLm c k r D G i n x12 x13 a s p (.int (zi x)) (.int (zi y)) (.int (zi t)) (.int (zi dn)) (.int (zi u)) v22 v23) [] (zm W J d) kk = wGo cf 237 945 (wLm c k r D G i n x12 x13 a s p (.int (zi x)) (.int (zi y)) (.int (zi t)) (.int (zi dn)) (.int (zi t)) v22 v23) [] (zm W J d) (kk + m) := by
  induction m with
  | zero =>
    intro u kk h0 hu
    rw [show u = t by omega]
    rw [lw_237_904]
    simp (disch := first | omega | assumption) only [lw_237_904, wck_t, wck_T, wbS, wbV, wbR, qdiv_p, qrem_p, Int.add_zero, ↓reduceIte, qw_id, ne_eq, not_true_eq_false, not_false_eq_true, and_true, true_and, and_self, and_false, false_and, or_true, true_or, or_self, or_false, false_or, xlt_t, xlt_f, xle_t, xle_f, xeq_t, xeq_f, xand_f, xor_t]
    rfl
  | succ m ih =>
    intro u kk h0 hu
    have e := ih (u + 1) (kk + 1) (by omega) (by omega)
    have e1 := c_done (d := d) hz (a := u) (by omega)
    have r1 := h467 u h0 (by omega)
    have r2 := hne u h0 (by omega)
    rw [show kk + (m + 1) = kk + 1 + m by omega, ← e, lw_237_904]
    simp (disch := first | omega | assumption) only [lw_237_927, lw_237_937, e1, wck_t, wck_T, wbS, wbV, wbR, qdiv_p, qrem_p, Int.add_zero, ↓reduceIte, qw_id, ne_eq, not_true_eq_false, not_false_eq_true, and_true, true_and, and_self, and_false, false_and, or_true, true_or, or_self, or_false, false_or, xlt_t, xlt_f, xle_t, xle_f, xeq_t, xeq_f, xand_f, xor_t]
/-- one request behind the plan -/
theorem lB_req {x12 x13 a s p x y t : Int} (hz : zInv N W J) (hr : 0 ≤ r ∧ r ≤ 40) (h52 : W 480 52 = r) (h467 : ∀ j, 0 ≤ j → j < r → -1 ≤ W 467 j ∧ W 467 j < 100000) (hD : 0 ≤ D ∧ D < 1000) (ht : 0 ≤ t ∧ t < r) (hdis : W 467 t ≠ -1 → ∀ j, 0 ≤ j → j < t → W 467 j ≠ W 467 t) (hold : W 431 t = W 467 t ∨ W 431 t = -1 ∧ W 467 t / 100 = D) : ∃ (j : Nat) (w20 w21 : Value), j ≤ 41 ∧ wGo cf 237 858 (wLm c k r D G i n x12 x13 a s p (.int (zi x)) (.int (zi y)) (.int (zi t)) v20 v21 v22 v23) [] (zm W J d) kk = wGo cf 237 858 (wLm c k r D G i n x12 x13 a s p (.int (zi x)) (.int (zi (y + if W 431 t = -1 ∧ W 467 t ≠ -1 then 1 else 0))) (.int (zi (t + 1))) w20 w21 v22 v23) [] (zm (vup W 431 t (W 467 t)) J d) (kk + j) := by
  have e1 := c_done (d := d) hz (a := t) (by omega)
  obtain ⟨dn, hdn⟩ : ∃ dn, W 467 t = dn := ⟨_, rfl⟩
  have rd := h467 t ht.1 ht.2
  rw [hdn] at e1 rd hdis hold
  obtain ⟨ol, hol⟩ : ∃ ol, W 431 t = ol := ⟨_, rfl⟩
  rw [hol] at hold
  rw [hdn, hol]
  by_cases q : dn = -1
  · refine ⟨1, .int (zi dn), .int (zi 0), by omega, ?_⟩
    have o1 : ol = -1 := by omega
    rw [if_neg (fun w => w.2 q), lw_237_858]
    by_cases q0 : t = 0
    · simp (disch := first | omega | assumption) only [lw_237_876, lw_237_894, lw_237_899, lw_237_904, lw_237_945, lw_237_963, lw_237_964, lw_237_994, lw_237_999, e1, hol, wck_t, wck_T, wbS, wbV, wbR, qdiv_p, qrem_p, Int.add_zero, ↓reduceIte, qw_id, ne_eq, not_true_eq_false, not_false_eq_true, and_true, true_and, and_self, and_false, false_and, or_true, true_or, or_self, or_false, false_or, xlt_t, xlt_f, xle_t, xle_f, xeq_t, xeq_f, xand_f, xor_t]
    · simp (disch := first | omega | assumption) only [lw_237_876, lw_237_894, lw_237_899, lw_237_904, lw_237_945, lw_237_963, lw_237_964, lw_237_994, lw_237_999, e1, hol, wck_t, wck_T, wbS, wbV, wbR, qdiv_p, qrem_p, Int.add_zero, ↓reduceIte, qw_id, ne_eq, not_true_eq_false, not_false_eq_true, and_true, true_and, and_self, and_false, false_and, or_true, true_or, or_self, or_false, false_or, xlt_t, xlt_f, xle_t, xle_f, xeq_t, xeq_f, xand_f, xor_t]
  · have e2 := lB_dist (cf := cf) (d := d) (c := c) (k := k) (D := D) (G := G) (i := i) (n := n) (v22 := v22) (v23 := v23) (x12 := x12) (x13 := x13) (a := a) (s := s) (p := p) (x := x) (y := y) hz hr h52 h467 (dn := dn) (by omega) ht (hdis q) t.toNat 0 (kk + 1) (by omega) (by omega)
    by_cases q2 : ol = -1
    · refine ⟨1 + t.toNat, .int (zi dn), .int (zi t), by omega, ?_⟩
      have q3 : dn / 100 = D := by
        rcases hold with w | w
        · omega
        · exact w.2
      rw [if_pos ⟨q2, q⟩, ← Nat.add_assoc]
      have tail : wGo cf 237 945 (wLm c k r D G i n x12 x13 a s p (.int (zi x)) (.int (zi y)) (.int (zi t)) (.int (zi dn)) (.int (zi t)) v22 v23) [] (zm W J d) (kk + 1 + t.toNat) = wGo cf 237 858 (wLm c k r D G i n x12 x13 a s p (.int (zi x)) (.int (zi (y + 1))) (.int (zi (t + 1))) (.int (zi dn)) (.int (zi t)) v22 v23) [] (zm (vup W 431 t dn) J d) (kk + 1 + t.toNat) := by
        simp (disch := first | omega | assumption) only [lw_237_945, lw_237_964, lw_237_994, lw_237_999, hol, q3, wck_t, wck_T, wbS, wbV, wbR, qdiv_p, qrem_p, Int.add_zero, ↓reduceIte, qw_id, ne_eq, not_true_eq_false, not_false_eq_true, and_true, true_and, and_self, and_false, false_and, or_true, true_or, or_self, or_false, false_or, xlt_t, xlt_f, xle_t, xle_f, xeq_t, xeq_f, xand_f, xor_t]
      rw [← tail, ← e2, lw_237_858]
      simp (disch := first | omega | assumption) only [lw_237_876, lw_237_894, lw_237_899, e1, hol, wck_t, wck_T, wbS, wbV, wbR, qdiv_p, qrem_p, Int.add_zero, ↓reduceIte, qw_id, ne_eq, not_true_eq_false, not_false_eq_true, and_true, true_and, and_self, and_false, false_and, or_true, true_or, or_self, or_false, false_or, xlt_t, xlt_f, xle_t, xle_f, xeq_t, xeq_f, xand_f, xor_t]
    · refine ⟨1 + t.toNat, .int (zi dn), .int (zi t), by omega, ?_⟩
      have q3 : ol = dn := by
        rcases hold with w | w
        · exact w
        · exact absurd w.1 q2
      subst q3
      rw [if_neg (fun w => q2 w.1), ← Nat.add_assoc]
      have tail : wGo cf 237 945 (wLm c k r D G i n x12 x13 a s p (.int (zi x)) (.int (zi y)) (.int (zi t)) (.int (zi ol)) (.int (zi t)) v22 v23) [] (zm W J d) (kk + 1 + t.toNat) = wGo cf 237 858 (wLm c k r D G i n x12 x13 a s p (.int (zi x)) (.int (zi (y + 0))) (.int (zi (t + 1))) (.int (zi ol)) (.int (zi t)) v22 v23) [] (zm (vup W 431 t ol) J d) (kk + 1 + t.toNat) := by
        simp (disch := first | omega | assumption) only [lw_237_945, lw_237_963, lw_237_964, lw_237_994, lw_237_999, hol, wck_t, wck_T, wbS, wbV, wbR, qdiv_p, qrem_p, Int.add_zero, ↓reduceIte, qw_id, ne_eq, not_true_eq_false, not_false_eq_true, and_true, true_and, and_self, and_false, false_and, or_true, true_or, or_self, or_false, false_or, xlt_t, xlt_f, xle_t, xle_f, xeq_t, xeq_f, xand_f, xor_t]
      rw [← tail, ← e2, lw_237_858]
      simp (disch := first | omega | assumption) only [lw_237_876, lw_237_894, lw_237_899, e1, hol, wck_t, wck_T, wbS, wbV, wbR, qdiv_p, qrem_p, Int.add_zero, ↓reduceIte, qw_id, ne_eq, not_true_eq_false, not_false_eq_true, and_true, true_and, and_self, and_false, false_and, or_true, true_or, or_self, or_false, false_or, xlt_t, xlt_f, xle_t, xle_f, xeq_t, xeq_f, xand_f, xor_t]
theorem lB_reqs {x12 x13 a s p x : Int} (hz : zInv N V' J) (hr : 0 ≤ r ∧ r ≤ 40) (h52 : V' 480 52 = r) (h467 : ∀ j, 0 ≤ j → j < r → -1 ≤ V' 467 j ∧ V' 467 j < 100000) (hD : 0 ≤ D ∧ D < 1000) (hdis : ∀ i j, 0 ≤ i → i < j → j < r → V' 467 i ≠ -1 → V' 467 i ≠ V' 467 j) (hold : ∀ j, V 467 j ≠ -1 → V' 467 j = V 467 j) (hnew : ∀ j, V 467 j = -1 → V' 467 j ≠ -1 → V' 467 j / 100 = D) (m : Nat) : ∀ (t y : Int) (kk : Nat) (W : zVt) (v20 v21 : Value), 0 ≤ t → t + m = r → (∀ o : Nat, o ≠ 431 → W o = V' o) → (∀ j, 0 ≤ j → j < r → W 431 j = if j < t then V' 467 j else V 467 j) → ∃ (W' : zVt) (j : Nat) (w20 w21 : Value), j ≤ 41 * m ∧ (∀ o : Nat, o ≠ 431 → W' o = V' o) ∧ (∀ j, 0 ≤ j → j < r → W' 431 j = V' 467 j) ∧ wGo cf 237 858 (wLm c k r D G i n x12 x13 a s p (.int (zi x)) (.int (zi y)) (.int (zi t)) v20 v21 v22 v23) [] (zm W J d) kk = wGo cf 237 858 (wLm c k r D G i n x12 x13 a s p (.int (zi x)) (.int (zi (y + lSm (lFn V V') t m))) (.int (zi r)) w20 w21 v22 v23) [] (zm W' J d) (kk + j) := by
  induction m with
  | zero =>
    intro t y kk W v20 v21 h0 ht hW hj
    have e : t = r := by omega
    subst e
    refine ⟨W, 0, v20, v21, by omega, hW, fun j j0 j1 => by rw [hj j j0 j1, if_pos j1], ?_⟩
    rw [show y + lSm (lFn V V') t 0 = y from Int.add_zero y]
    rfl
  | succ m ih =>
    intro t y kk W v20 v21 h0 ht hW hj
    have zW : zInv N W J := zInv_fr ⟨fun o ho => hW o (by omega), ⟨by rw [hW 480 (by omega)], by rw [hW 480 (by omega)], by rw [hW 480 (by omega)], by rw [hW 480 (by omega)], by rw [hW 480 (by omega)]⟩, rfl, rfl⟩ ⟨fun o ho => hW o (by omega), fun o ho => rfl⟩ hz
    have w467 := hW 467 (by omega)
    have w431 := hj t h0 (by omega)
    rw [if_neg (by omega)] at w431
    obtain ⟨j1, u20, u21, a1, a2⟩ := lB_req (cf := cf) (d := d) (c := c) (k := k) (G := G) (i := i) (n := n) (v20 := v20) (v21 := v21) (v22 := v22) (v23 := v23) (kk := kk) (x12 := x12) (x13 := x13) (a := a) (s := s) (p := p) (x := x) (y := y) (t := t) zW hr (by rw [hW 480 (by omega)]; exact h52) (by rw [w467]; exact h467) hD ⟨h0, by omega⟩ (fun w j j0 j1 => by
        rw [w467] at w ⊢
        by_cases q : V' 467 j = -1
        · omega
        · exact hdis j t j0 j1 (by omega) q) (by
        rw [w431, w467]
        by_cases q : V 467 t = -1
        · by_cases q2 : V' 467 t = -1
          · exact Or.inl (by omega)
          · exact Or.inr ⟨q, hnew t q q2⟩
        · exact Or.inl (hold t q).symm)
    have eF : (if W 431 t = -1 ∧ W 467 t ≠ -1 then (1 : Int) else 0) = lFn V V' t := by rw [w431, w467]
    rw [eF] at a2
    obtain ⟨W', j2, w20, w21, b1, b2, b3, b4⟩ := ih (t + 1) (y + lFn V V' t) (kk + j1) (vup W 431 t (W 467 t)) u20 u21 (by omega) (by omega) (fun o ho => by rw [vup_fn ho]; exact hW o ho) (fun j j0 j1 => by
      by_cases q : j = t
      · rw [q, vup_at, if_pos (by omega), w467]
      · rw [vup_k q, hj j j0 j1]
        by_cases q2 : j < t
        · rw [if_pos q2, if_pos (by omega)]
        · rw [if_neg q2, if_neg (by omega)])
    refine ⟨W', j1 + j2, w20, w21, by omega, b2, b3, ?_⟩
    rw [a2, b4, Nat.add_assoc, show y + lSm (lFn V V') t (m + 1) = y + lFn V V' t + lSm (lFn V V') (t + 1) m from (Int.add_assoc _ _ _).symm]
theorem lB_plan (h : lM V J N c k r D G) (hN : N ≤ 150) (hn : 0 ≤ n ∧ n < 2147483648) (h13 : 11 ≤ n % 20 ∧ n % 20 < 17) (h14 : n % 20 = 11 → 16 ≤ c) (h15 : n % 20 < 14 → 40 ≤ r) : lB cf d V J N c k r D G i n v11 v12 v13 v14 v15 v16 v17 v18 v19 v20 v21 v22 v23 kk := by
  obtain ⟨k0, r0, D0, G0, N0⟩ := lM_rg h
  obtain ⟨hz, hkN, ⟨e1, e2, e3, e4, e5⟩, hc, hl0, h431, hD, h47⟩ := h
  obtain ⟨a, ha⟩ : ∃ a, n / 20 % c = a := ⟨_, rfl⟩
  obtain ⟨s, hs⟩ : ∃ s, n / 20 / 7 % 6 = s := ⟨_, rfl⟩
  obtain ⟨p, hp⟩ : ∃ p, n / 20 % 2 = p := ⟨_, rfl⟩
  obtain ⟨x13, hx⟩ : ∃ x, n % 20 = x := ⟨_, rfl⟩
  rw [hx] at h13 h14 h15
  have nr : (V 480 52).toNat = r.toNat := by rw [e3]
  have dn : 0 ≤ lDn V ∧ lDn V ≤ 40 := by
    have b1 := lSm_0 (g := fun j => if V 467 j ≠ -1 then 1 else 0) (fun j => by show 0 ≤ (if V 467 j ≠ -1 then (1 : Int) else 0); split <;> omega) (V 480 52).toNat 0
    have b2 := lSm_b (g := fun j => if V 467 j ≠ -1 then 1 else 0) (fun j => by show (if V 467 j ≠ -1 then (1 : Int) else 0) ≤ 1; split <;> omega) (V 480 52).toNat 0
    constructor
    · exact b1
    · have : lDn V ≤ ((V 480 52).toNat : Int) := b2
      omega
  obtain ⟨x, V', J', q1, q2, q3, q4, q5, q6, q7, q8, q9⟩ := c_plan (d := d) hz hkN.1 hD h47 dn
  have f : ∀ o : Nat, (o ≤ 6 ∨ 430 ≤ o ∧ o ≤ 460 ∨ o = 480) → V' o = V o := fun o ho => q3.1 o (by omega) (by omega) (by omega) (by omega) (by omega) (by omega) (by omega) (by omega) (by omega)
  have f480 := f 480 (by omega)
  have f52 : V' 480 52 = r := by rw [f480, e3]
  obtain ⟨b1, b2, b3, b4, b5, b6, b7, b8⟩ := q2.2.2.2.2.2.2.1
  have h467 : ∀ j, 0 ≤ j → j < r → -1 ≤ V' 467 j ∧ V' 467 j < 100000 := fun j j0 j1 => by
    have := (b8 j j0 (by omega)).2.2.2.2.2.2.2.2
    omega
  clear b8 b1 b2 b3
  rw [nr] at q8
  obtain ⟨W, j, w20, w21, g1, g2, g3, g4⟩ := lB_reqs (cf := cf) (d := d) (V := V) (V' := V') (c := c) (k := k) (D := D) (G := G) (i := i) (n := n) (v22 := v22) (v23 := v23) (x12 := n / 20) (x13 := x13) (a := a) (s := s) (p := p) (x := x) q2 (by omega) f52 h467 (by omega) (fun i j i0 ij j1 w => q4.2 i j i0 ij (by rw [f52]; exact j1) w) q6 (fun j j0 j1 => by rw [← e4]; exact q7 j j0 j1) r.toNat 0 0 kk V' v20 v21 (by omega) (by omega) (fun _ _ => rfl) (fun j j0 j1 => by rw [f 431 (by omega), if_neg (by omega)]; exact h431 j j0 j1)
  rw [Int.zero_add, ← q8] at g4
  have zW : zInv N W J' := zInv_fr ⟨fun o ho => g2 o (by omega), ⟨by rw [g2 480 (by omega)], by rw [g2 480 (by omega)], by rw [g2 480 (by omega)], by rw [g2 480 (by omega)], by rw [g2 480 (by omega)]⟩, rfl, rfl⟩ ⟨fun o ho => g2 o (by omega), fun o ho => rfl⟩ q2
  have p0 := c_plan0 (d := d) zW (fun j j0 j1 j2 => by
    rw [g2 480 (by omega), f52] at j1
    rw [g2 467 (by omega)] at j2
    exact oBl_431 g2 (q5 j j0 (by omega) j2))
  have sum : lDn V' = lDn V + x := by
    show lSm (fun j => if V' 467 j ≠ -1 then 1 else 0) 0 (V' 480 52).toNat = lSm (fun j => if V 467 j ≠ -1 then 1 else 0) 0 (V 480 52).toNat + x
    rw [f480, nr, q8, ← lSm_add]
    refine lSm_cg _ _ (fun j _ _ => ?_)
    show (if V' 467 j ≠ -1 then (1 : Int) else 0) = (if V 467 j ≠ -1 then (1 : Int) else 0) + (if V 467 j = -1 ∧ V' 467 j ≠ -1 then (1 : Int) else 0)
    have A0 : V 467 j = -1 → (if V 467 j ≠ -1 then (1 : Int) else 0) = 0 := fun w => if_neg (fun z => z w)
    have A1 : V 467 j ≠ -1 → (if V 467 j ≠ -1 then (1 : Int) else 0) = 1 := fun w => if_pos w
    have B0 : V' 467 j = -1 → (if V' 467 j ≠ -1 then (1 : Int) else 0) = 0 := fun w => if_neg (fun z => z w)
    have B1 : V' 467 j ≠ -1 → (if V' 467 j ≠ -1 then (1 : Int) else 0) = 1 := fun w => if_pos w
    by_cases w : V 467 j = -1
    · by_cases w2 : V' 467 j = -1
      · rw [A0 w, B0 w2, if_neg (fun z => z.2 w2)]
        rfl
      · rw [A0 w, B1 w2, if_pos ⟨w, w2⟩]
        rfl
    · rw [A1 w, B1 (by rw [q6 j w]; exact w), if_neg (fun z => w z.1)]
      rfl
  have hM : lM W J' (N + 2) c k r D G := by
    refine ⟨zInv_up2 zW (by omega), by omega, ?_, hc, fun j j0 j1 => ?_, fun j j0 j1 => ?_, lDs_fr (V := V') (g2 467 (by omega)) (by rw [g2 480 (by omega)]) (g2 461 (by omega)) (by rw [g2 480 (by omega)]) q4, fun x x0 x1 => ?_⟩
    · rw [g2 480 (by omega), f480]
      exact ⟨e1, e2, e3, e4, e5⟩
    · rw [g2 454 (by omega), g2 455 (by omega), g2 430 (by omega), f 454 (by omega), f 455 (by omega), f 430 (by omega)]
      exact hl0 j j0 j1
    · rw [g3 j j0 j1, g2 467 (by omega)]
    · rw [lDn_fr (V := V') (g2 467 (by omega)) (by rw [g2 480 (by omega)]), sum, g2 47 (by omega)]
      exact q9 x x0 x1
  have xr : 0 ≤ x ∧ x ≤ 40 := by
    rw [q8]
    have b1 := lSm_0 (g := lFn V V') (fun j => by show 0 ≤ (if V 467 j = -1 ∧ V' 467 j ≠ -1 then (1 : Int) else 0); split <;> omega) r.toNat 0
    have b2 := lSm_b (g := lFn V V') (fun j => by show (if V 467 j = -1 ∧ V' 467 j ≠ -1 then (1 : Int) else 0) ≤ 1; split <;> omega) r.toNat 0
    omega
  unfold lB
  rw [ha, hs, hp, hx]
  have last : wGo cf 237 858 (wLm c k r D G i n (n / 20) x13 a s p (.int (zi x)) (.int (zi x)) (.int (zi r)) w20 w21 v22 v23) [] (zm W J' d) (kk + j) = wGo cf 237 1366 (wLm c k r D G i n (n / 20) x13 a s p (.int (zi x)) (.int (zi x)) (.int (zi r)) w20 w21 v22 v23) [] (zm W J' d) (kk + j) := by
    simp (disch := first | omega | assumption) only [lw_237_858, lw_237_1013, lw_237_1029, lw_237_1037, p0, wck_t, wck_T, wbS, wbV, wbR, qdiv_p, qrem_p, Int.add_zero, ↓reduceIte, qw_id, ne_eq, not_true_eq_false, not_false_eq_true, and_true, true_and, and_self, and_false, false_and, or_true, true_or, or_self, or_false, false_or, xlt_t, xlt_f, xle_t, xle_f, xeq_t, xeq_f, xand_f, xor_t]
  refine ⟨W, J', j, c, k, r, D, G, .int (zi x), .int (zi x), .int (zi r), w20, w21, v22, v23, by omega, hM, Int.le_refl _, ?_⟩
  rw [← last, ← g4]
  by_cases w : x13 < 14
  · by_cases w2 : x13 = 11
    · have w3 := h14 w2
      have w4 := h15 w
      simp (disch := first | omega | assumption) only [lw_237_191, lw_237_754, lw_237_839, lw_237_850, hx, ha, hs, hp, q1, wck_t, wck_T, wbS, wbV, wbR, qdiv_p, qrem_p, Int.add_zero, ↓reduceIte, qw_id, ne_eq, not_true_eq_false, not_false_eq_true, and_true, true_and, and_self, and_false, false_and, or_true, true_or, or_self, or_false, false_or, xlt_t, xlt_f, xle_t, xle_f, xeq_t, xeq_f, xand_f, xor_t]
    · have w4 := h15 w
      simp (disch := first | omega | assumption) only [lw_237_191, lw_237_754, lw_237_839, lw_237_850, hx, ha, hs, hp, q1, wck_t, wck_T, wbS, wbV, wbR, qdiv_p, qrem_p, Int.add_zero, ↓reduceIte, qw_id, ne_eq, not_true_eq_false, not_false_eq_true, and_true, true_and, and_self, and_false, false_and, or_true, true_or, or_self, or_false, false_or, xlt_t, xlt_f, xle_t, xle_f, xeq_t, xeq_f, xand_f, xor_t]
  · simp (disch := first | omega | assumption) only [lw_237_191, lw_237_754, lw_237_839, lw_237_850, hx, ha, hs, hp, q1, wck_t, wck_T, wbS, wbV, wbR, qdiv_p, qrem_p, Int.add_zero, ↓reduceIte, qw_id, ne_eq, not_true_eq_false, not_false_eq_true, and_true, true_and, and_self, and_false, false_and, or_true, true_or, or_self, or_false, false_or, xlt_t, xlt_f, xle_t, xle_f, xeq_t, xeq_f, xand_f, xor_t]
end
