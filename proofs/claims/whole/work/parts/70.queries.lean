/-! part 70: pitch; what is asked of copies -/
section
variable {V : zVt} {J : zJt} {N a b c t : Int} {d : Nat → Nat → UInt64}
theorem x106 (h : zInv N V J) (hN : N < 600) (ha : -2147483648 ≤ a ∧ a < 2147483648) (hb : -2147483648 ≤ b ∧ b < 2147483648) (hc : -2147483648 ≤ c ∧ c < 2147483648) (ht : -2147483648 ≤ t ∧ t < 2147483648) : zTw N V J 106 [.ref 0, .int (zi a), .int (zi b), .int (zi c), .int (zi t), .null] 184 [.ref 430, .int (zi a), .int (zi b), .int (zi c), .int (zi t), .null, .null] [0] := by
  intro d
  by_cases hp : (0 ≤ a ∧ a < 3) ∧ (0 ≤ b ∧ b < 4)
  · skip
    obtain ⟨V1, J1, q1, q2, q3, q4, q5⟩ := cp100 (d := d) h hp
    have hw12 : (4 * a + b).toNat < 12 := by omega
    have hwi : (((4 * a + b).toNat : Nat) : Int) = 4 * a + b := by omega
    generalize (4 * a + b).toNat = w at *
    have hB := zBk_part hw12
    have hB10 := zBk_6row hB
    have hB5 := zBk_6music hB
    have hM := cMu_ok q2 hw12 q4
    unfold cMok at hM
    have e107 := sp107 (V := V1) (J := J1) (d := d) (b := c) (t := t) hB5 hc ht (by rw [show 50 + 15 * w + 13 = 63 + 15 * w by omega]; omega) (by rw [show 50 + 15 * w + 13 = 63 + 15 * w by omega]; omega)
    rw [show 50 + 15 * w + 13 = 63 + 15 * w by omega] at e107 hB5
    have e13 : 50 + 15 * w + 13 = 63 + 15 * w := by omega
    have hlib := fun (J2 : zJt) (d2 : Nat → Nat → UInt64) (hi : zInv N V1 J2) => mLib (d := d2) hi hw12 q4 (s := 0) (by omega)
    rw [hwi] at hlib
    have e1 := fun (J2 : zJt) (d2 : Nat → Nat → UInt64) => sm146 (V := V1) (J := J2) (d := d2) ha hb
    rw [if_pos hp] at e1
    by_cases hin : (0 ≤ c ∧ c < V1 (63 + 15 * w) 2) ∧ 0 ≤ t ∧ t < V1 (63 + 15 * w) 3
    · left
      rw [if_pos hin] at e107
      have e36 := sp36 (V := V1) (J := J1) (d := d) (b := c) (t := t) hB5 (by omega) (by omega) (by omega)
      rw [if_pos hin.1.2] at e36
      refine ⟨yPi (cSd J1 (63 + 15 * w) c t), V1, J1, ?_, zRn_of q2 hN ?_⟩
      · simp (disch := first | omega | assumption | (simp (disch := omega) only [vup_fn, vup_o, vup_k, vup_at]; first | done | omega | assumption)) only [ze_106_0, ze_106_6, ze_106_20, ze_106_28, q1, e13, e107, e36, Int.add_zero, ↓reduceIte, qw_id, zck_T, zck_t, zGor_v, zGor_n, zGor_e, zbs, vup_at, vup_vup, vup_self, vup_o, vup_k, vup_fn, ne_eq, not_true_eq_false, not_false_eq_true, and_true, true_and, and_self, and_false, false_and, or_true, true_or, or_self, or_false, false_or, xlt_t, xlt_f, xle_t, xle_f, xeq_t, xeq_f, xand_f, xor_t]
      intro J2 d2 hj hi
      obtain ⟨V3, J3, m1, m2, m3⟩ := hlib J2 d2 hi
      have m4 := m3.2.1
      have m5 := m3.2.2.1 (by omega)
      have e1 := e1 J2 d2
      have e3 := sp147 (V := V3) (J := J3) (d := d2) (a := c) (b := V3 449 0) hc (by omega)
      rw [if_pos (by omega)] at e3
      have e4 := sp147 (V := V3) (J := J3) (d := d2) (a := t) (b := V3 450 0) ht (by omega)
      rw [if_pos (by omega)] at e4
      have e2 := sm150 (V := V3) (J := J3) (d := d2) (p := 1) (q := 1) (r := 1) (by omega) (by omega) (by omega)
      rw [if_pos (show gC 1 1 1 = 0 from rfl)] at e2
      have m6 : rMus V1 J2 (63 + 15 * w) (vup V3 430 60 (gC 1 1 1)) J3 0 := by
        unfold rMus mBar at m3 ⊢
        rw [vup_fn (by decide), vup_fn (by decide), vup_fn (by decide), vup_fn (by decide)]
        exact m3
      have e5 := sp185 (d := d2) m6 (by omega) (by omega) hin.1 (t := t) (by omega)
      have ej : cSd J2 (63 + 15 * w) c t = cSd J1 (63 + 15 * w) c t := by
        unfold cSd
        rw [hj _ (by omega)]
      rw [ej] at e5
      refine ⟨yPi (cSd J1 (63 + 15 * w) c t), vup V3 430 60 (gC 1 1 1), J3, ?_, vup_at _ _ _ _, pM_t (mFm_pM m2) pM_60, pC_t (mFm_pC m2) pC_60, mN5 m2, fun _ => rfl⟩
      simp (disch := first | omega | assumption | (simp (disch := omega) only [vup_fn, vup_o, vup_k, vup_at]; first | done | omega | assumption)) only [ze_184_0, ze_184_5, ze_184_22, ze_184_23, ze_184_38, ze_184_52, ze_184_59, ze_184_60, ze_184_70, ze_184_81, ze_184_85, e1, e2, e3, e4, e5, m1, Int.add_zero, ↓reduceIte, qw_id, zck_T, zck_t, zGor_v, zGor_n, zGor_e, zbs, vup_at, vup_vup, vup_self, vup_o, vup_k, vup_fn, ne_eq, not_true_eq_false, not_false_eq_true, and_true, true_and, and_self, and_false, false_and, or_true, true_or, or_self, or_false, false_or, xlt_t, xlt_f, xle_t, xle_f, xeq_t, xeq_f, xand_f, xor_t]
    · right
      rw [if_neg hin] at e107
      refine ⟨0, 0, V1, J1, rfl, ?_, zRn_of q2 hN ?_⟩
      · simp (disch := first | omega | assumption | (simp (disch := omega) only [vup_fn, vup_o, vup_k, vup_at]; first | done | omega | assumption)) only [ze_106_0, ze_106_6, ze_106_20, ze_106_28, q1, e13, e107, Int.add_zero, ↓reduceIte, qw_id, zck_T, zck_t, zGor_v, zGor_n, zGor_e, zbs, vup_at, vup_vup, vup_self, vup_o, vup_k, vup_fn, ne_eq, not_true_eq_false, not_false_eq_true, and_true, true_and, and_self, and_false, false_and, or_true, true_or, or_self, or_false, false_or, xlt_t, xlt_f, xle_t, xle_f, xeq_t, xeq_f, xand_f, xor_t]
      intro J2 d2 hj hi
      obtain ⟨V3, J3, m1, m2, m3⟩ := hlib J2 d2 hi
      have m4 := m3.2.1
      have m5 := m3.2.2.1
      have e1 := e1 J2 d2
      have e3 := sp147 (V := V3) (J := J3) (d := d2) (a := c) (b := V3 449 0) hc (by omega)
      have e2 := sm150 (V := V3) (J := J3) (d := d2) (p := 0) (q := 1) (r := 1) (by omega) (by omega) (by omega)
      rw [if_neg (show ¬ gC 0 1 1 = 0 by decide)] at e2
      refine ⟨0, vup V3 430 60 (gC 0 1 1), J3, ?_, vup_at _ _ _ _, pM_t (mFm_pM m2) pM_60, pC_t (mFm_pC m2) pC_60, mN5 m2, fun _ => by omega⟩
      by_cases h1 : 0 ≤ c ∧ c < V1 (63 + 15 * w) 2
      · rw [if_pos (by omega)] at e3
        have m6 := m5 (by omega)
        have e4 := sp147 (V := V3) (J := J3) (d := d2) (a := t) (b := V3 450 0) ht (by omega)
        rw [if_neg (by omega)] at e4
        simp (disch := first | omega | assumption | (simp (disch := omega) only [vup_fn, vup_o, vup_k, vup_at]; first | done | omega | assumption)) only [ze_184_0, ze_184_5, ze_184_22, ze_184_23, ze_184_38, ze_184_52, ze_184_59, ze_184_60, ze_184_70, ze_184_81, ze_184_85, e1, e2, e3, e4, m1, Int.add_zero, ↓reduceIte, qw_id, zck_T, zck_t, zGor_v, zGor_n, zGor_e, zbs, vup_at, vup_vup, vup_self, vup_o, vup_k, vup_fn, ne_eq, not_true_eq_false, not_false_eq_true, and_true, true_and, and_self, and_false, false_and, or_true, true_or, or_self, or_false, false_or, xlt_t, xlt_f, xle_t, xle_f, xeq_t, xeq_f, xand_f, xor_t]
      · rw [if_neg (by omega)] at e3
        simp (disch := first | omega | assumption | (simp (disch := omega) only [vup_fn, vup_o, vup_k, vup_at]; first | done | omega | assumption)) only [ze_184_0, ze_184_5, ze_184_22, ze_184_23, ze_184_38, ze_184_52, ze_184_59, ze_184_60, ze_184_70, ze_184_81, ze_184_85, e1, e2, e3, m1, Int.add_zero, ↓reduceIte, qw_id, zck_T, zck_t, zGor_v, zGor_n, zGor_e, zbs, vup_at, vup_vup, vup_self, vup_o, vup_k, vup_fn, ne_eq, not_true_eq_false, not_false_eq_true, and_true, true_and, and_self, and_false, false_and, or_true, true_or, or_self, or_false, false_or, xlt_t, xlt_f, xle_t, xle_f, xeq_t, xeq_f, xand_f, xor_t]
  · skip
    right
    have e := cp100e (V := V) (J := J) (d := d) ha hb hp
    refine ⟨0, 0, V, J, rfl, ?_, zRn_of h hN ?_⟩
    · simp (disch := first | omega | assumption | (simp (disch := omega) only [vup_fn, vup_o, vup_k, vup_at]; first | done | omega | assumption)) only [ze_106_0, ze_106_6, ze_106_20, ze_106_28, e, Int.add_zero, ↓reduceIte, qw_id, zck_T, zck_t, zGor_v, zGor_n, zGor_e, zbs, vup_at, vup_vup, vup_self, vup_o, vup_k, vup_fn, ne_eq, not_true_eq_false, not_false_eq_true, and_true, true_and, and_self, and_false, false_and, or_true, true_or, or_self, or_false, false_or, xlt_t, xlt_f, xle_t, xle_f, xeq_t, xeq_f, xand_f, xor_t]
    intro J2 d2 hj hi
    have e1 := sm146 (V := V) (J := J2) (d := d2) ha hb
    rw [if_neg hp] at e1
    have e2 := sm150 (V := V) (J := J2) (d := d2) (p := 0) (q := 1) (r := 1) (by omega) (by omega) (by omega)
    rw [if_neg (show ¬ gC 0 1 1 = 0 by decide)] at e2
    refine ⟨0, vup V 430 60 (gC 0 1 1), J2, ?_, vup_at _ _ _ _, pM_60, pC_60, rfl, fun w => by omega⟩
    simp (disch := first | omega | assumption | (simp (disch := omega) only [vup_fn, vup_o, vup_k, vup_at]; first | done | omega | assumption)) only [ze_184_0, ze_184_5, ze_184_22, ze_184_23, ze_184_38, ze_184_52, ze_184_59, ze_184_60, ze_184_70, ze_184_81, ze_184_85, e1, e2, Int.add_zero, ↓reduceIte, qw_id, zck_T, zck_t, zGor_v, zGor_n, zGor_e, zbs, vup_at, vup_vup, vup_self, vup_o, vup_k, vup_fn, ne_eq, not_true_eq_false, not_false_eq_true, and_true, true_and, and_self, and_false, false_and, or_true, true_or, or_self, or_false, false_or, xlt_t, xlt_f, xle_t, xle_f, xeq_t, xeq_f, xand_f, xor_t]
theorem cp112 (hi : zInv N V J) (hc : -2147483648 ≤ c ∧ c < 2147483648) : zGo false 112 0 [.ref 0, .int (zi c)] [] (zm V J d) = if 0 ≤ c ∧ c < V 430 37 then zR1 (230 + 5 * c.toNat) V J d else zE1 0 V J d := by
  have h1 := hi.2.2.2.1
  by_cases h2 : c < 0
  · rw [if_neg (by omega)]
    simp (disch := first | omega | assumption | (simp (disch := omega) only [vup_fn, vup_o, vup_k, vup_at]; first | done | omega | assumption)) only [ze_112_0, ze_112_12, Int.add_zero, ↓reduceIte, qw_id, zck_T, zck_t, zGor_v, zGor_n, zGor_e, zbs, vup_at, vup_vup, vup_self, vup_o, vup_k, vup_fn, ne_eq, not_true_eq_false, not_false_eq_true, and_true, true_and, and_self, and_false, false_and, or_true, true_or, or_self, or_false, false_or, xlt_t, xlt_f, xle_t, xle_f, xeq_t, xeq_f, xand_f, xor_t]
  · by_cases h3 : c < V 430 37
    · rw [if_pos (by omega)]
      simp (disch := first | omega | assumption | (simp (disch := omega) only [vup_fn, vup_o, vup_k, vup_at]; first | done | omega | assumption)) only [ze_112_0, ze_112_12, Int.add_zero, ↓reduceIte, qw_id, zck_T, zck_t, zGor_v, zGor_n, zGor_e, zbs, vup_at, vup_vup, vup_self, vup_o, vup_k, vup_fn, ne_eq, not_true_eq_false, not_false_eq_true, and_true, true_and, and_self, and_false, false_and, or_true, true_or, or_self, or_false, false_or, xlt_t, xlt_f, xle_t, xle_f, xeq_t, xeq_f, xand_f, xor_t]
    · rw [if_neg (by omega)]
      simp (disch := first | omega | assumption | (simp (disch := omega) only [vup_fn, vup_o, vup_k, vup_at]; first | done | omega | assumption)) only [ze_112_0, ze_112_12, Int.add_zero, ↓reduceIte, qw_id, zck_T, zck_t, zGor_v, zGor_n, zGor_e, zbs, vup_at, vup_vup, vup_self, vup_o, vup_k, vup_fn, ne_eq, not_true_eq_false, not_false_eq_true, and_true, true_and, and_self, and_false, false_and, or_true, true_or, or_self, or_false, false_or, xlt_t, xlt_f, xle_t, xle_f, xeq_t, xeq_f, xand_f, xor_t]
theorem sm189 (hi : zInv N V J) (hc : -2147483648 ≤ c ∧ c < 2147483648) : zGo false 189 0 [.ref 430, .int (zi c)] [] (zm V J d) = zI1 (if 0 ≤ c ∧ c < V 430 37 then 1 else 0) V J d := by
  have h1 := hi.2.2.2.1
  have e := sp147 (V := V) (J := J) (d := d) (a := c) (b := V 430 37) hc (by omega)
  by_cases h2 : 0 ≤ c ∧ c < V 430 37
  · rw [if_pos h2] at e ⊢
    simp (disch := first | omega | assumption | (simp (disch := omega) only [vup_fn, vup_o, vup_k, vup_at]; first | done | omega | assumption)) only [ze_189_0, ze_189_8, e, Int.add_zero, ↓reduceIte, qw_id, zck_T, zck_t, zGor_v, zGor_n, zGor_e, zbs, vup_at, vup_vup, vup_self, vup_o, vup_k, vup_fn, ne_eq, not_true_eq_false, not_false_eq_true, and_true, true_and, and_self, and_false, false_and, or_true, true_or, or_self, or_false, false_or, xlt_t, xlt_f, xle_t, xle_f, xeq_t, xeq_f, xand_f, xor_t]
  · rw [if_neg h2] at e ⊢
    simp (disch := first | omega | assumption | (simp (disch := omega) only [vup_fn, vup_o, vup_k, vup_at]; first | done | omega | assumption)) only [ze_189_0, ze_189_8, e, Int.add_zero, ↓reduceIte, qw_id, zck_T, zck_t, zGor_v, zGor_n, zGor_e, zbs, vup_at, vup_vup, vup_self, vup_o, vup_k, vup_fn, ne_eq, not_true_eq_false, not_false_eq_true, and_true, true_and, and_self, and_false, false_and, or_true, true_or, or_self, or_false, false_or, xlt_t, xlt_f, xle_t, xle_f, xeq_t, xeq_f, xand_f, xor_t]
/-- the reference's music of copy c, held against music M -/
theorem m198 (hi : zInv N V J) (hc : 0 ≤ c ∧ c < V 430 37) {M : Nat} (hM : iMs V J M (V 454 c).toNat (V (232 + 5 * c.toNat))) {s : Int} (hs : 0 ≤ s ∧ s < 5) : ∃ V' J', zGo false 198 0 [.ref 430, .int (zi s), .int (zi c)] [] (zm V J d) = zI1 (V M 0) V' J' d ∧ mFm s V J V' J' ∧ rMus V J M V' J' s := by
  have h1 := hi.2.2.2.1
  have hk := hi.2.2.2.2.1 c.toNat (by omega)
  have ec : ((c.toNat : Nat) : Int) = c := by omega
  unfold iCopy at hk
  rw [ec] at hk
  obtain ⟨k1, k2, k3⟩ := hk
  have k4 := k2 hc.2
  obtain ⟨V', J', q1, q2, q3⟩ := mMus (d := d) (s := s) (e := c) (w := (V 454 c).toNat) (by omega) hi.1 hi.2.1 hM hs (by omega) (fun x x0 x1 => by rw [(k1.1 x x0 x1).1, show 231 + 5 * c.toNat + 1 = 232 + 5 * c.toNat by omega])
  rw [show (((V 454 c).toNat : Nat) : Int) = V 454 c by omega] at q1
  refine ⟨V', J', ?_, q2, q3⟩
  simp (disch := first | omega | assumption | (simp (disch := omega) only [vup_fn, vup_o, vup_k, vup_at]; first | done | omega | assumption)) only [ze_198_0, ze_198_12, q1, Int.add_zero, ↓reduceIte, qw_id, zck_T, zck_t, zGor_v, zGor_n, zGor_e, zbs, vup_at, vup_vup, vup_self, vup_o, vup_k, vup_fn, ne_eq, not_true_eq_false, not_false_eq_true, and_true, true_and, and_self, and_false, false_and, or_true, true_or, or_self, or_false, false_or, xlt_t, xlt_f, xle_t, xle_f, xeq_t, xeq_f, xand_f, xor_t]
theorem iCp_ms (hi : zInv N V J) (hc : 0 ≤ c ∧ c < V 430 37) : iMs V J (233 + 5 * c.toNat) (V 454 c).toNat (V (232 + 5 * c.toNat)) ∧ (0 ≤ V 454 c ∧ V 454 c < 12) ∧ V (230 + 5 * c.toNat) 0 = V 454 c ∧ V (230 + 5 * c.toNat) 1 = V 455 c ∧ (-1 ≤ V 455 c ∧ V 455 c < 12) := by
  have h1 := hi.2.2.2.1
  have hk := hi.2.2.2.2.1 c.toNat (by omega)
  have ec : ((c.toNat : Nat) : Int) = c := by omega
  unfold iCopy at hk
  rw [ec] at hk
  obtain ⟨b1, b2, b3, b4, b5⟩ := hk.2.1 hc.2
  exact ⟨b5, b1, b2, b3, b4⟩
theorem iMs_mok (hi : zInv N V J) {M w : Nat} (hw : w < 12) {H : Int → Int} (h : iMs V J M w H) : cMok V M := iMs_ok (zt_ok hi.1.1 (w := (w : Int)) (by omega)) h
theorem m200 (hi : zInv N V J) (hc : 0 ≤ c ∧ c < V 430 37) {M : Nat} (hM : iMs V J M (V 454 c).toNat (V (232 + 5 * c.toNat))) (hb : -2147483648 ≤ b ∧ b < 2147483648) (ht : -2147483648 ≤ t ∧ t < 2147483648) : ∃ V' J', zGo false 200 0 [.ref 430, .int (zi c), .int (zi b), .int (zi t), .null] [] (zm V J d) = zI1 (if (0 ≤ b ∧ b < V M 2) ∧ 0 ≤ t ∧ t < V M 3 then 1 else 0) V' J' d ∧ mFm 0 V J V' J' ∧ rMus V J M V' J' 0 := by
  have h1 := hi.2.2.2.1
  have hcp := iCp_ms hi hc
  have hk := iMs_mok hi (by omega) hM
  unfold cMok at hk
  have e := sm189 (J := J) (d := d) hi (c := c) (by omega)
  rw [if_pos hc] at e
  obtain ⟨V3, J3, m1, m2, m3⟩ := m198 (d := d) hi hc hM (s := 0) (by omega)
  refine ⟨V3, J3, ?_, m2, m3⟩
  have m4 := m3.2.1
  have m5 := m3.2.2.1
  have e3 := sp147 (V := V3) (J := J3) (d := d) (a := b) (b := V3 449 0) hb (by omega)
  by_cases h2 : 0 ≤ b ∧ b < V M 2
  · rw [if_pos (by omega)] at e3
    have m6 := m5 (by omega)
    have e4 := sp147 (V := V3) (J := J3) (d := d) (a := t) (b := V3 450 0) ht (by omega)
    by_cases h3 : 0 ≤ t ∧ t < V M 3
    · rw [if_pos (by omega)] at e4
      rw [if_pos (by omega)]
      simp (disch := first | omega | assumption | (simp (disch := omega) only [vup_fn, vup_o, vup_k, vup_at]; first | done | omega | assumption)) only [ze_200_0, ze_200_5, ze_200_18, ze_200_19, ze_200_34, ze_200_47, ze_200_54, ze_200_55, e, e3, e4, m1, Int.add_zero, ↓reduceIte, qw_id, zck_T, zck_t, zGor_v, zGor_n, zGor_e, zbs, vup_at, vup_vup, vup_self, vup_o, vup_k, vup_fn, ne_eq, not_true_eq_false, not_false_eq_true, and_true, true_and, and_self, and_false, false_and, or_true, true_or, or_self, or_false, false_or, xlt_t, xlt_f, xle_t, xle_f, xeq_t, xeq_f, xand_f, xor_t]
    · rw [if_neg (by omega)] at e4
      rw [if_neg (by omega)]
      simp (disch := first | omega | assumption | (simp (disch := omega) only [vup_fn, vup_o, vup_k, vup_at]; first | done | omega | assumption)) only [ze_200_0, ze_200_5, ze_200_18, ze_200_19, ze_200_34, ze_200_47, ze_200_54, ze_200_55, e, e3, e4, m1, Int.add_zero, ↓reduceIte, qw_id, zck_T, zck_t, zGor_v, zGor_n, zGor_e, zbs, vup_at, vup_vup, vup_self, vup_o, vup_k, vup_fn, ne_eq, not_true_eq_false, not_false_eq_true, and_true, true_and, and_self, and_false, false_and, or_true, true_or, or_self, or_false, false_or, xlt_t, xlt_f, xle_t, xle_f, xeq_t, xeq_f, xand_f, xor_t]
  · rw [if_neg (by omega)] at e3
    rw [if_neg (by omega)]
    simp (disch := first | omega | assumption | (simp (disch := omega) only [vup_fn, vup_o, vup_k, vup_at]; first | done | omega | assumption)) only [ze_200_0, ze_200_5, ze_200_18, ze_200_19, ze_200_34, ze_200_47, ze_200_54, ze_200_55, e, e3, m1, Int.add_zero, ↓reduceIte, qw_id, zck_T, zck_t, zGor_v, zGor_n, zGor_e, zbs, vup_at, vup_vup, vup_self, vup_o, vup_k, vup_fn, ne_eq, not_true_eq_false, not_false_eq_true, and_true, true_and, and_self, and_false, false_and, or_true, true_or, or_self, or_false, false_or, xlt_t, xlt_f, xle_t, xle_f, xeq_t, xeq_f, xand_f, xor_t]
theorem m200e (hi : zInv N V J) (hc1 : -2147483648 ≤ c ∧ c < 2147483648) (hc : ¬(0 ≤ c ∧ c < V 430 37)) : zGo false 200 0 [.ref 430, .int (zi c), .int (zi b), .int (zi t), .null] [] (zm V J d) = zI1 0 V J d := by
  have e := sm189 (J := J) (d := d) hi (c := c) hc1
  rw [if_neg hc] at e
  simp (disch := first | omega | assumption | (simp (disch := omega) only [vup_fn, vup_o, vup_k, vup_at]; first | done | omega | assumption)) only [ze_200_0, ze_200_5, ze_200_18, ze_200_19, ze_200_34, ze_200_47, ze_200_54, ze_200_55, e, Int.add_zero, ↓reduceIte, qw_id, zck_T, zck_t, zGor_v, zGor_n, zGor_e, zbs, vup_at, vup_vup, vup_self, vup_o, vup_k, vup_fn, ne_eq, not_true_eq_false, not_false_eq_true, and_true, true_and, and_self, and_false, false_and, or_true, true_or, or_self, or_false, false_or, xlt_t, xlt_f, xle_t, xle_f, xeq_t, xeq_f, xand_f, xor_t]
end
