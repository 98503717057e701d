/-! part 99x6: the last checks of each turn; the loop -/
section
variable {V V' : zVt} {J J' : zJt}
theorem cUn_cg {M1 M2 : Nat} (h1 : V' M1 = V M1) (h2 : V' M2 = V M2) (h3 : J' (M1 + 1) = J (M1 + 1)) (h4 : J' (M2 + 1) = J (M2 + 1)) : ∀ n : Nat, cUn V' J' M1 M2 n = cUn V J M1 M2 n
  | 0 => rfl
  | n + 1 => by
    have ih := cUn_cg h1 h2 h3 h4 n
    have e : cDf V' J' M1 M2 n = cDf V J M1 M2 n := by
      unfold cDf
      rw [h1, h2, h3, h4]
    show cUn V' J' M1 M2 n + cDf V' J' M1 M2 n = cUn V J M1 M2 n + cDf V J M1 M2 n
    rw [ih, e]
theorem cDif_A7 (h : lA7 V V' J J') (a b : Int) : cDif V' J' a b = cDif V J a b := by
  unfold cDif
  have e1 := h.1 (233 + 5 * a.toNat) (by omega)
  have e2 := h.1 (233 + 5 * b.toNat) (by omega)
  rw [e1, e2, cUn_cg e1 e2 (h.2 _ (by omega)) (h.2 _ (by omega))]
theorem lM_A7 {N c k r D G : Int} (h : lM V J N c k r D G) (hz : zInv N V' J') (hf : lA7 V V' J J') : lM V' J' N c k r D G := by
  obtain ⟨_, hN, ⟨e1, e2, e3, e4, e5⟩, hc, hl0, h431, hD, h47⟩ := h
  have f : ∀ o : Nat, 37 ≤ o → V' o = V o := fun o ho => hf.1 o (by omega)
  refine ⟨hz, hN, ?_, hc, ?_, ?_, lDs_fr (f 467 (by omega)) (by rw [f 480 (by omega)]) (f 461 (by omega)) (by rw [f 480 (by omega)]) hD, ?_⟩
  · rw [f 480 (by omega)]
    exact ⟨e1, e2, e3, e4, e5⟩
  · rw [f 454 (by omega), f 455 (by omega), f 430 (by omega)]
    exact hl0
  · rw [f 431 (by omega), f 467 (by omega)]
    exact h431
  · rw [lDn_fr (f 467 (by omega)) (by rw [f 480 (by omega)]), f 47 (by omega)]
    exact h47
end
section
variable {cf : Int32 → Int32} {d : Nat → Nat → UInt64} {V V' : zVt} {J J' : zJt} {N c k r D G i n : Int} {v11 v12 v13 v14 v15 v16 v17 v18 v19 v20 v21 v22 v23 : Value} {kk : Nat}
theorem cDif_rng (h : lM V J N c k r D G) {a b : Int} (ha : 0 ≤ a ∧ a < c) (hb : 0 ≤ b ∧ b < c) : -103 ≤ cDif V J a b ∧ cDif V J a b < 100000 := by
  have hz := h.1
  have ok : ∀ x, 0 ≤ x ∧ x < c → V (233 + 5 * x.toNat) 2 ≤ 40 := fun x hx => by
    obtain ⟨_, _, _, a4⟩ := lM_cp h hx.1 hx.2
    obtain ⟨hms, c2, _⟩ := iCp_ms hz (c := x) ⟨hx.1, a4⟩
    exact (iMs_ok (zt_ok hz.1.1 (w := ((V 454 x).toNat : Int)) (by omega)) hms).2.2.1.2
  have h1 := ok a ha
  have h2 := ok b hb
  unfold cDif
  split
  · have r := cUn_rng V J (233 + 5 * a.toNat) (233 + 5 * b.toNat) (cMx (V (233 + 5 * a.toNat) 2) (V (233 + 5 * b.toNat) 2)).toNat
    have m : cMx (V (233 + 5 * a.toNat) 2) (V (233 + 5 * b.toNat) 2) ≤ 40 := by
      unfold cMx
      split <;> omega
    omega
  · omega
theorem lT_1 (h : lM V J N c k r D G) {x12 x13 a s p : Int} (hy : 0 ≤ x12 ∧ x12 < 2147483648) (ha : 0 ≤ a ∧ a < c) : ∃ V' J' j w17 w18, j ≤ 14 ∧ lM V' J' N c k r D G ∧ wGo cf 237 1366 (wLm c k r D G i n x12 x13 a s p v17 v18 v19 v20 v21 v22 v23) [] (zm V J d) kk = wGo cf 237 1464 (wLm c k r D G i n x12 x13 a s p (.int (zi w17)) (.int (zi w18)) v19 v20 v21 v22 v23) [.int (zi 1)] (zm V' J' d) (kk + j) := by
  obtain ⟨k0, r0, D0, G0, N0⟩ := lM_rg h
  have hz := h.1
  have e480 := h.2.2.1
  have hc := h.2.2.2.1
  obtain ⟨a1, a2, a3, a4⟩ := lM_cp h ha.1 ha.2
  obtain ⟨o, ho⟩ : ∃ o, (a + 8) % 16 = o := ⟨_, rfl⟩
  by_cases q : c ≤ o
  · obtain ⟨V1, J1, z1, z2, z3⟩ := c_fits (cf := cf) (d := d) (kk := kk) hz (c := a) ⟨ha.1, a4⟩ (m := x12 / 17) (by omega)
    have hM := lM_A7 h z1 z2
    have f430 : V1 430 = V 430 := z2.1 430 (by omega)
    have f455 : V1 455 = V 455 := z2.1 455 (by omega)
    have f480 : V1 480 = V 480 := z2.1 480 (by omega)
    have g1 := c_holder (d := d) z1 (c := a) ⟨ha.1, by rw [f480]; exact a4⟩
    rw [f455, ← a3] at g1
    have g2 := c_concerts (d := d) z1
    rw [f480, e480.2.2.2.2] at g2
    refine ⟨V1, J1, 12, o, -103, by omega, hM, ?_⟩
    simp (disch := first | omega | assumption) only [lw_237_1366, lw_237_1396, lw_237_1414, lw_237_1423, lw_237_1450, lw_237_1454, ho, z3, g1, f430, g2, wck_t, wck_T, wbS, wbV, wbR, qdiv_p, qrem_p, Int.add_zero, ↓reduceIte, qw_id, ne_eq, not_true_eq_false, not_false_eq_true, and_true, true_and, and_self, and_false, false_and, or_true, true_or, or_self, or_false, false_or, xlt_t, xlt_f, xle_t, xle_f, xeq_t, xeq_f, xand_f, xor_t]
  · have ob : 0 ≤ o ∧ o < c := by omega
    obtain ⟨b1, b2, b3, b4⟩ := lM_cp h ob.1 ob.2
    have g0 := c_differ (d := d) hz (a := a) (b := o) ⟨ha.1, a4⟩ ⟨ob.1, b4⟩ (by rw [a2, b2]; omega)
    obtain ⟨x, hx⟩ : ∃ x, cDif V J a o = x := ⟨_, rfl⟩
    have xr := cDif_rng h (b := o) ha ob
    rw [hx] at g0 xr
    obtain ⟨V1, J1, z1, z2, z3⟩ := c_fits (cf := cf) (d := d) (kk := kk + 1) hz (c := a) ⟨ha.1, a4⟩ (m := x12 / 17) (by omega)
    have hM := lM_A7 h z1 z2
    have f430 : V1 430 = V 430 := z2.1 430 (by omega)
    have f455 : V1 455 = V 455 := z2.1 455 (by omega)
    have f454 : V1 454 = V 454 := z2.1 454 (by omega)
    have f480 : V1 480 = V 480 := z2.1 480 (by omega)
    have g1 := c_holder (d := d) z1 (c := a) ⟨ha.1, by rw [f480]; exact a4⟩
    rw [f455, ← a3] at g1
    have g2 := c_concerts (d := d) z1
    rw [f480, e480.2.2.2.2] at g2
    have g3 := c_differ (d := d) z1 (a := o) (b := a) ⟨ob.1, by rw [f480]; exact b4⟩ ⟨ha.1, by rw [f480]; exact a4⟩ (by rw [f454, a2, b2]; omega)
    rw [cDif_A7 z2, cDif_sym, hx] at g3
    refine ⟨V1, J1, 14, o, x, by omega, hM, ?_⟩
    simp (disch := first | omega | assumption) only [lw_237_1366, lw_237_1391, lw_237_1396, lw_237_1414, lw_237_1423, lw_237_1447, lw_237_1450, lw_237_1454, ho, g0, z3, g1, f430, g3, g2, wck_t, wck_T, wbS, wbV, wbR, qdiv_p, qrem_p, Int.add_zero, ↓reduceIte, qw_id, ne_eq, not_true_eq_false, not_false_eq_true, and_true, true_and, and_self, and_false, false_and, or_true, true_or, or_self, or_false, false_or, xlt_t, xlt_f, xle_t, xle_f, xeq_t, xeq_f, xand_f, xor_t]
theorem lT_2 (h : lM V J N c k r D G) {x12 x13 a s p w17 w18 : Int} (hy : 0 ≤ x12 ∧ x12 < 2147483648) (hs : 0 ≤ s ∧ s < 6) (hp : 0 ≤ p ∧ p < 2) (hi : 0 ≤ i ∧ i < 48) : ∃ j w19 w20, j ≤ 10 ∧ wGo cf 237 1464 (wLm c k r D G i n x12 x13 a s p (.int (zi w17)) (.int (zi w18)) v19 v20 v21 v22 v23) [.int (zi 1)] (zm V J d) kk = wGo cf 237 170 (wLm c k r D G (i + 1) n x12 x13 a s p (.int (zi w17)) (.int (zi w18)) (.int (zi w19)) (.int (zi w20)) v21 v22 v23) [] (zm V J d) (kk + j) := by
  obtain ⟨k0, r0, D0, G0, N0⟩ := lM_rg h
  have hz := h.1
  have h' := h
  obtain ⟨_, _, ⟨e1, e2, e3, e4, e5⟩, hc, hl0, h431, hD, h47⟩ := h'
  obtain ⟨q, hq⟩ : ∃ q, x12 / 23 % 4 = q := ⟨_, rfl⟩
  obtain ⟨b, hb⟩ : ∃ b, x12 / 19 % 8 = b := ⟨_, rfl⟩
  have rq : 0 ≤ q ∧ q < 4 := by omega
  have rb : 0 ≤ b ∧ b < 8 := by omega
  obtain ⟨w, hw⟩ : ∃ w : Nat, 4 * p + q = w := ⟨(4 * p + q).toNat, by omega⟩
  obtain ⟨p3, p2, p4⟩ := lM_pr h (w := w) (by omega)
  have g1 := c_learned (d := d) hz (s := s) (a := p) (c := q) (b := b) (by omega) (by omega) (by omega)
  obtain ⟨l, hl⟩ : ∃ l, V 47 ((s * 12 + (p * 4 + q)) * 40 + b) = l := ⟨_, rfl⟩
  have l1 := h47 ((s * 12 + (p * 4 + q)) * 40 + b) (by omega) (by omega)
  have l2 := (hz.2.2.2.2.2.2.2.1 ((s * 12 + (p * 4 + q)) * 40 + b) (by omega) (by omega)).2.1
  have l3 : lDn V ≤ r := by
    have b2 := lSm_b (g := fun j => if V 467 j ≠ -1 then 1 else 0) (fun j => by show (if V 467 j ≠ -1 then (1 : Int) else 0) ≤ 1; split <;> omega) (V 480 52).toNat 0
    have : lDn V ≤ ((V 480 52).toNat : Int) := b2
    omega
  rw [hl] at g1 l1 l2
  obtain ⟨x, g2, x1⟩ := c_misled (d := d) hz (s := s) (a := p) (c := q) (by omega) (by omega)
  have g3 := c_error (d := d) hz (a := p) (b := q) (w := w) (by omega) (by omega) p2
  rw [p4] at g3
  have g4 := c_bars (d := d) hz (a := p) (b := q) (w := w) (by omega) (by omega) p2
  have g5 := c_pitch (d := d) hz (a := p) (b := q) (c := b) (w := w) (by omega) (by omega) p2 (by omega)
  obtain ⟨y, g6, y1, y2⟩ := c_seconds (d := d) hz (a := p) (b := q) (w := w) (by omega) (by omega) p2
  have hms := ((hz.2.2.1 w (by omega)).2.2.2.2.2.1 p2).2
  obtain ⟨o1, o2, o3, o4, o5, o6⟩ := iMs_ok (zt_ok hz.1.1 (w := (w : Int)) (by omega)) hms
  by_cases t : V (63 + 15 * w) 0 = 0
  · rw [if_pos t] at g4
    have o6 := o6 t
    obtain ⟨nb, hnb⟩ : ∃ nb, V (63 + 15 * w) 2 = nb := ⟨_, rfl⟩
    rw [hnb] at g4 g5 o3
    by_cases t2 : b < nb
    · rw [if_pos ⟨t2, by omega⟩] at g5
      have hr := cSd_rng J (63 + 15 * w) b 0
      obtain ⟨z, hz2⟩ : ∃ z, yPi (cSd J (63 + 15 * w) b 0) = z := ⟨_, rfl⟩
      have zr : -2 ≤ z ∧ z < 256 := by
        rw [← hz2]
        unfold yPi
        split
        · omega
        · split <;> omega
      rw [hz2] at g5
      refine ⟨7, b, l, by omega, ?_⟩
      simp (disch := first | omega | assumption) only [lw_237_1464, lw_237_1493, lw_237_1527, lw_237_1545, lw_237_1561, lw_237_1580, lw_237_1590, lw_237_1605, lw_237_1613, lw_237_1616, lw_237_1631, lw_237_1640, hq, hb, g1, g2, g3, g4, g5, g6, wck_t, wck_T, wbS, wbV, wbR, qdiv_p, qrem_p, Int.add_zero, ↓reduceIte, qw_id, ne_eq, not_true_eq_false, not_false_eq_true, and_true, true_and, and_self, and_false, false_and, or_true, true_or, or_self, or_false, false_or, xlt_t, xlt_f, xle_t, xle_f, xeq_t, xeq_f, xand_f, xor_t]
    · rw [if_neg (fun z => t2 z.1)] at g5
      refine ⟨7, b, l, by omega, ?_⟩
      simp (disch := first | omega | assumption) only [lw_237_1464, lw_237_1493, lw_237_1527, lw_237_1545, lw_237_1561, lw_237_1580, lw_237_1590, lw_237_1605, lw_237_1613, lw_237_1616, lw_237_1631, lw_237_1640, hq, hb, g1, g2, g3, g4, g5, g6, wck_t, wck_T, wbS, wbV, wbR, qdiv_p, qrem_p, Int.add_zero, ↓reduceIte, qw_id, ne_eq, not_true_eq_false, not_false_eq_true, and_true, true_and, and_self, and_false, false_and, or_true, true_or, or_self, or_false, false_or, xlt_t, xlt_f, xle_t, xle_f, xeq_t, xeq_f, xand_f, xor_t]
  · rw [if_neg t] at g4
    refine ⟨5, b, l, by omega, ?_⟩
    simp (disch := first | omega | assumption) only [lw_237_1464, lw_237_1493, lw_237_1527, lw_237_1545, lw_237_1561, lw_237_1616, lw_237_1631, lw_237_1640, hq, hb, g1, g2, g3, g4, g6, wck_t, wck_T, wbS, wbV, wbR, qdiv_p, qrem_p, Int.add_zero, ↓reduceIte, qw_id, ne_eq, not_true_eq_false, not_false_eq_true, and_true, true_and, and_self, and_false, false_and, or_true, true_or, or_self, or_false, false_or, xlt_t, xlt_f, xle_t, xle_f, xeq_t, xeq_f, xand_f, xor_t]
end
