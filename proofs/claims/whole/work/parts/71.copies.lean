/-! part 71: holder, copyError, copyPitch, copyPitchAnew, begins -/
section
variable {V : zVt} {J : zJt} {N a b c t : Int}
theorem x117 (h : zInv N V J) (hN : N < 600) (hc : -2147483648 ≤ c ∧ c < 2147483648) : zTw N V J 117 [.ref 0, .int (zi c)] 196 [.ref 430, .int (zi c)] [0] := by
  intro d
  have e112 := cp112 (d := d) h hc
  have h37 := h.2.2.2.1
  by_cases hp : 0 ≤ c ∧ c < V 430 37
  · left
    rw [if_pos hp] at e112
    have hB := zBk_copy (i := c.toNat) (by omega)
    obtain ⟨k1, k2, k3, k4, k5⟩ := iCp_ms h hp
    refine ⟨V 455 c, V, J, ?_, zRn_of h hN ?_⟩
    · rw [← k4]
      simp (disch := first | omega | assumption | (simp (disch := omega) only [vup_fn, vup_o, vup_k, vup_at]; first | done | omega | assumption)) only [ze_117_0, ze_117_5, e112, Int.add_zero, ↓reduceIte, qw_id, zck_T, zck_t, zGor_v, zGor_n, zGor_e, zbs, vup_at, vup_vup, vup_self, vup_o, vup_k, vup_fn, ne_eq, not_true_eq_false, not_false_eq_true, and_true, true_and, and_self, and_false, false_and, or_true, true_or, or_self, or_false, false_or, xlt_t, xlt_f, xle_t, xle_f, xeq_t, xeq_f, xand_f, xor_t]
    intro J2 d2 hj hi
    have e1 := sm189 (d := d2) hi hc
    rw [if_pos hp] at e1
    have e2 := sm150 (V := V) (J := J2) (d := d2) (p := 1) (q := 1) (r := 1) (by omega) (by omega) (by omega)
    rw [if_pos (show gC 1 1 1 = 0 from rfl)] at e2
    refine ⟨V 455 c, vup V 430 60 (gC 1 1 1), J2, ?_, vup_at _ _ _ _, pM_60, pC_60, rfl, fun w => rfl⟩
    simp (disch := first | omega | assumption | (simp (disch := omega) only [vup_fn, vup_o, vup_k, vup_at]; first | done | omega | assumption)) only [ze_196_0, ze_196_6, ze_196_11, ze_196_24, e1, e2, Int.add_zero, ↓reduceIte, qw_id, zck_T, zck_t, zGor_v, zGor_n, zGor_e, zbs, vup_at, vup_vup, vup_self, vup_o, vup_k, vup_fn, ne_eq, not_true_eq_false, not_false_eq_true, and_true, true_and, and_self, and_false, false_and, or_true, true_or, or_self, or_false, false_or, xlt_t, xlt_f, xle_t, xle_f, xeq_t, xeq_f, xand_f, xor_t]
  · right
    rw [if_neg hp] at e112
    refine ⟨0, 0, V, J, rfl, ?_, zRn_of h hN ?_⟩
    · simp (disch := first | omega | assumption | (simp (disch := omega) only [vup_fn, vup_o, vup_k, vup_at]; first | done | omega | assumption)) only [ze_117_0, ze_117_5, e112, Int.add_zero, ↓reduceIte, qw_id, zck_T, zck_t, zGor_v, zGor_n, zGor_e, zbs, vup_at, vup_vup, vup_self, vup_o, vup_k, vup_fn, ne_eq, not_true_eq_false, not_false_eq_true, and_true, true_and, and_self, and_false, false_and, or_true, true_or, or_self, or_false, false_or, xlt_t, xlt_f, xle_t, xle_f, xeq_t, xeq_f, xand_f, xor_t]
    intro J2 d2 hj hi
    have e1 := sm189 (d := d2) hi hc
    rw [if_neg hp] at e1
    have e2 := sm150 (V := V) (J := J2) (d := d2) (p := 0) (q := 1) (r := 1) (by omega) (by omega) (by omega)
    rw [if_neg (show ¬ gC 0 1 1 = 0 by decide)] at e2
    refine ⟨0, vup V 430 60 (gC 0 1 1), J2, ?_, vup_at _ _ _ _, pM_60, pC_60, rfl, fun w => by omega⟩
    simp (disch := first | omega | assumption | (simp (disch := omega) only [vup_fn, vup_o, vup_k, vup_at]; first | done | omega | assumption)) only [ze_196_0, ze_196_6, ze_196_11, ze_196_24, e1, e2, Int.add_zero, ↓reduceIte, qw_id, zck_T, zck_t, zGor_v, zGor_n, zGor_e, zbs, vup_at, vup_vup, vup_self, vup_o, vup_k, vup_fn, ne_eq, not_true_eq_false, not_false_eq_true, and_true, true_and, and_self, and_false, false_and, or_true, true_or, or_self, or_false, false_or, xlt_t, xlt_f, xle_t, xle_f, xeq_t, xeq_f, xand_f, xor_t]
theorem x118 (h : zInv N V J) (hN : N < 600) (hc : -2147483648 ≤ c ∧ c < 2147483648) : zTw N V J 118 [.ref 0, .int (zi c)] 197 [.ref 430, .int (zi c)] [0] := by
  intro d
  have e112 := cp112 (d := d) h hc
  have h37 := h.2.2.2.1
  by_cases hp : 0 ≤ c ∧ c < V 430 37
  · left
    rw [if_pos hp] at e112
    have hB := zBk_copy (i := c.toNat) (by omega)
    obtain ⟨k1, k2, k3, k4, k5⟩ := iCp_ms h hp
    refine ⟨V (230 + 5 * c.toNat + 3) 0, V, J, ?_, zRn_of h hN ?_⟩
    · simp (disch := first | omega | assumption | (simp (disch := omega) only [vup_fn, vup_o, vup_k, vup_at]; first | done | omega | assumption)) only [ze_118_0, ze_118_5, e112, Int.add_zero, ↓reduceIte, qw_id, zck_T, zck_t, zGor_v, zGor_n, zGor_e, zbs, vup_at, vup_vup, vup_self, vup_o, vup_k, vup_fn, ne_eq, not_true_eq_false, not_false_eq_true, and_true, true_and, and_self, and_false, false_and, or_true, true_or, or_self, or_false, false_or, xlt_t, xlt_f, xle_t, xle_f, xeq_t, xeq_f, xand_f, xor_t]
    intro J2 d2 hj hi
    have e1 := sm189 (d := d2) hi hc
    rw [if_pos hp] at e1
    have e2 := sm150 (V := V) (J := J2) (d := d2) (p := 1) (q := 1) (r := 1) (by omega) (by omega) (by omega)
    rw [if_pos (show gC 1 1 1 = 0 from rfl)] at e2
    have hi2 := zInv_fr (pM_60 (c := gC 1 1 1)) pC_60 hi
    have hp2 : 0 ≤ c ∧ c < vup V 430 60 (gC 1 1 1) 430 37 := by rw [vup_k (by decide)]; exact hp
    have k6 := (iCp_ms hi2 hp2).1
    obtain ⟨V3, J3, m1, m2, m3⟩ := m198 (d := d2) hi2 hp2 k6 (s := 0) (by omega)
    rw [vup_fn (by omega), show 233 + 5 * c.toNat = 230 + 5 * c.toNat + 3 by omega] at m1
    refine ⟨V (230 + 5 * c.toNat + 3) 0, V3, J3, ?_, by rw [m2.2.1 60 (by omega), vup_at]; rfl, pM_t pM_60 (mFm_pM m2), pC_t pC_60 (mFm_pC m2), mN5 m2, fun w => rfl⟩
    simp (disch := first | omega | assumption | (simp (disch := omega) only [vup_fn, vup_o, vup_k, vup_at]; first | done | omega | assumption)) only [ze_197_0, ze_197_6, ze_197_11, ze_197_20, ze_197_24, e1, e2, m1, Int.add_zero, ↓reduceIte, qw_id, zck_T, zck_t, zGor_v, zGor_n, zGor_e, zbs, vup_at, vup_vup, vup_self, vup_o, vup_k, vup_fn, ne_eq, not_true_eq_false, not_false_eq_true, and_true, true_and, and_self, and_false, false_and, or_true, true_or, or_self, or_false, false_or, xlt_t, xlt_f, xle_t, xle_f, xeq_t, xeq_f, xand_f, xor_t]
  · right
    rw [if_neg hp] at e112
    refine ⟨0, 0, V, J, rfl, ?_, zRn_of h hN ?_⟩
    · simp (disch := first | omega | assumption | (simp (disch := omega) only [vup_fn, vup_o, vup_k, vup_at]; first | done | omega | assumption)) only [ze_118_0, ze_118_5, e112, Int.add_zero, ↓reduceIte, qw_id, zck_T, zck_t, zGor_v, zGor_n, zGor_e, zbs, vup_at, vup_vup, vup_self, vup_o, vup_k, vup_fn, ne_eq, not_true_eq_false, not_false_eq_true, and_true, true_and, and_self, and_false, false_and, or_true, true_or, or_self, or_false, false_or, xlt_t, xlt_f, xle_t, xle_f, xeq_t, xeq_f, xand_f, xor_t]
    intro J2 d2 hj hi
    have e1 := sm189 (d := d2) hi hc
    rw [if_neg hp] at e1
    have e2 := sm150 (V := V) (J := J2) (d := d2) (p := 0) (q := 1) (r := 1) (by omega) (by omega) (by omega)
    rw [if_neg (show ¬ gC 0 1 1 = 0 by decide)] at e2
    refine ⟨0, vup V 430 60 (gC 0 1 1), J2, ?_, vup_at _ _ _ _, pM_60, pC_60, rfl, fun w => by omega⟩
    simp (disch := first | omega | assumption | (simp (disch := omega) only [vup_fn, vup_o, vup_k, vup_at]; first | done | omega | assumption)) only [ze_197_0, ze_197_6, ze_197_11, ze_197_20, ze_197_24, e1, e2, Int.add_zero, ↓reduceIte, qw_id, zck_T, zck_t, zGor_v, zGor_n, zGor_e, zbs, vup_at, vup_vup, vup_self, vup_o, vup_k, vup_fn, ne_eq, not_true_eq_false, not_false_eq_true, and_true, true_and, and_self, and_false, false_and, or_true, true_or, or_self, or_false, false_or, xlt_t, xlt_f, xle_t, xle_f, xeq_t, xeq_f, xand_f, xor_t]
theorem rMus_60 {V : zVt} {J : zJt} {M : Nat} {W : zVt} {K : zJt} {s x : Int} (h : rMus V J M W K s) : rMus V J M (vup W 430 60 x) K s := by
  unfold rMus mBar at h ⊢
  rw [vup_fn (by decide), vup_fn (by decide), vup_fn (by decide), vup_fn (by decide)]
  exact h
/-- copyPitch of the reference where music M is the copy's -/
theorem m199 {d : Nat → Nat → UInt64} (hi : zInv N V J) (hN : N < 600) (hc : 0 ≤ c ∧ c < V 430 37) {M : Nat} (hM7 : M ≠ 473) (hM : iMs V J M (V 454 c).toNat (V (232 + 5 * c.toNat))) (hb : -2147483648 ≤ b ∧ b < 2147483648) (ht : -2147483648 ≤ t ∧ t < 2147483648) (hin : (0 ≤ b ∧ b < V M 2) ∧ 0 ≤ t ∧ t < V M 3) : ∃ V' J', zGo false 199 0 [.ref 430, .int (zi c), .int (zi b), .int (zi t)] [] (zm V J d) = zI1 (yPi (cSd J M b t)) V' J' d ∧ V' 430 60 = 0 ∧ pM V V' J J' ∧ pC V V' J J' ∧ J' 474 = J 474 := by
  have h37 := hi.2.2.2.1
  have k2 := (iCp_ms hi hc).2.1
  have hk := iMs_mok hi (by omega) hM
  unfold cMok at hk
  obtain ⟨V3, J3, m1, m2, m3⟩ := m200 (d := d) hi hc hM hb ht
  rw [if_pos hin] at m1
  have e2 := sm150 (V := V3) (J := J3) (d := d) (p := 1) (q := 1) (r := 1) (by omega) (by omega) (by omega)
  rw [if_pos (show gC 1 1 1 = 0 from rfl)] at e2
  have e5 := sp185 (d := d) (rMus_60 (x := gC 1 1 1) m3) (by omega) (by omega) hin.1 (t := t) (by omega)
  refine ⟨vup V3 430 60 (gC 1 1 1), J3, ?_, vup_at _ _ _ _, pM_t (mFm_pM m2) pM_60, pC_t (mFm_pC m2) pC_60, mN5 m2⟩
  simp (disch := first | omega | assumption | (simp (disch := omega) only [vup_fn, vup_o, vup_k, vup_at]; first | done | omega | assumption)) only [ze_199_0, ze_199_8, ze_199_13, ze_199_23, ze_199_27, m1, e2, e5, Int.add_zero, ↓reduceIte, qw_id, zck_T, zck_t, zGor_v, zGor_n, zGor_e, zbs, vup_at, vup_vup, vup_self, vup_o, vup_k, vup_fn, ne_eq, not_true_eq_false, not_false_eq_true, and_true, true_and, and_self, and_false, false_and, or_true, true_or, or_self, or_false, false_or, xlt_t, xlt_f, xle_t, xle_f, xeq_t, xeq_f, xand_f, xor_t]
theorem m199e {d : Nat → Nat → UInt64} (hi : zInv N V J) (hN : N < 600) (hc : 0 ≤ c ∧ c < V 430 37) {M : Nat} (hM : iMs V J M (V 454 c).toNat (V (232 + 5 * c.toNat))) (hb : -2147483648 ≤ b ∧ b < 2147483648) (ht : -2147483648 ≤ t ∧ t < 2147483648) (hin : ¬((0 ≤ b ∧ b < V M 2) ∧ 0 ≤ t ∧ t < V M 3)) : ∃ V' J', zGo false 199 0 [.ref 430, .int (zi c), .int (zi b), .int (zi t)] [] (zm V J d) = zI1 0 V' J' d ∧ V' 430 60 = 1 ∧ pM V V' J J' ∧ pC V V' J J' ∧ J' 474 = J 474 := by
  obtain ⟨V3, J3, m1, m2, m3⟩ := m200 (d := d) hi hc hM hb ht
  rw [if_neg hin] at m1
  have e2 := sm150 (V := V3) (J := J3) (d := d) (p := 0) (q := 1) (r := 1) (by omega) (by omega) (by omega)
  rw [if_neg (show ¬ gC 0 1 1 = 0 by decide)] at e2
  refine ⟨vup V3 430 60 (gC 0 1 1), J3, ?_, vup_at _ _ _ _, pM_t (mFm_pM m2) pM_60, pC_t (mFm_pC m2) pC_60, mN5 m2⟩
  simp (disch := first | omega | assumption | (simp (disch := omega) only [vup_fn, vup_o, vup_k, vup_at]; first | done | omega | assumption)) only [ze_199_0, ze_199_8, ze_199_13, ze_199_23, ze_199_27, m1, e2, Int.add_zero, ↓reduceIte, qw_id, zck_T, zck_t, zGor_v, zGor_n, zGor_e, zbs, vup_at, vup_vup, vup_self, vup_o, vup_k, vup_fn, ne_eq, not_true_eq_false, not_false_eq_true, and_true, true_and, and_self, and_false, false_and, or_true, true_or, or_self, or_false, false_or, xlt_t, xlt_f, xle_t, xle_f, xeq_t, xeq_f, xand_f, xor_t]
theorem m199n {d : Nat → Nat → UInt64} (hi : zInv N V J) (hc1 : -2147483648 ≤ c ∧ c < 2147483648) (hc : ¬(0 ≤ c ∧ c < V 430 37)) : zGo false 199 0 [.ref 430, .int (zi c), .int (zi b), .int (zi t)] [] (zm V J d) = zI1 0 (vup V 430 60 1) J d := by
  have m1 := m200e (b := b) (t := t) (d := d) hi hc1 hc
  have e2 := sm150 (V := V) (J := J) (d := d) (p := 0) (q := 1) (r := 1) (by omega) (by omega) (by omega)
  rw [if_neg (show ¬ gC 0 1 1 = 0 by decide), show gC 0 1 1 = 1 from rfl] at e2
  simp (disch := first | omega | assumption | (simp (disch := omega) only [vup_fn, vup_o, vup_k, vup_at]; first | done | omega | assumption)) only [ze_199_0, ze_199_8, ze_199_13, ze_199_23, ze_199_27, m1, e2, Int.add_zero, ↓reduceIte, qw_id, zck_T, zck_t, zGor_v, zGor_n, zGor_e, zbs, vup_at, vup_vup, vup_self, vup_o, vup_k, vup_fn, ne_eq, not_true_eq_false, not_false_eq_true, and_true, true_and, and_self, and_false, false_and, or_true, true_or, or_self, or_false, false_or, xlt_t, xlt_f, xle_t, xle_f, xeq_t, xeq_f, xand_f, xor_t]
theorem x119 (h : zInv N V J) (hN : N < 600) (hc : -2147483648 ≤ c ∧ c < 2147483648) (hb : -2147483648 ≤ b ∧ b < 2147483648) (ht : -2147483648 ≤ t ∧ t < 2147483648) : zTw N V J 119 [.ref 0, .int (zi c), .int (zi b), .int (zi t), .null] 199 [.ref 430, .int (zi c), .int (zi b), .int (zi t)] [0] := by
  intro d
  have e112 := cp112 (d := d) h hc
  have h37 := h.2.2.2.1
  by_cases hp : 0 ≤ c ∧ c < V 430 37
  · rw [if_pos hp] at e112
    have hB := zBk_copy (i := c.toNat) (by omega)
    have hB5 := zBk_0music hB
    have e13 : 230 + 5 * c.toNat + 3 = 233 + 5 * c.toNat := by omega
    obtain ⟨k1, k2, k3, k4, k5⟩ := iCp_ms h hp
    have hk := iMs_mok h (by omega) k1
    unfold cMok at hk
    rw [e13] at hB5
    have e107 := sp107 (V := V) (J := J) (d := d) (b := b) (t := t) hB5 hb ht (by omega) (by omega)
    by_cases hin : (0 ≤ b ∧ b < V (233 + 5 * c.toNat) 2) ∧ 0 ≤ t ∧ t < V (233 + 5 * c.toNat) 3
    · left
      rw [if_pos hin] at e107
      have e36 := sp36 (V := V) (J := J) (d := d) (b := b) (t := t) hB5 (by omega) (by omega) (by omega)
      rw [if_pos hin.1.2] at e36
      refine ⟨yPi (cSd J (233 + 5 * c.toNat) b t), V, J, ?_, zRn_of h hN ?_⟩
      · simp (disch := first | omega | assumption | (simp (disch := omega) only [vup_fn, vup_o, vup_k, vup_at]; first | done | omega | assumption)) only [ze_119_0, ze_119_5, ze_119_18, ze_119_25, e112, e13, e107, e36, Int.add_zero, ↓reduceIte, qw_id, zck_T, zck_t, zGor_v, zGor_n, zGor_e, zbs, vup_at, vup_vup, vup_self, vup_o, vup_k, vup_fn, ne_eq, not_true_eq_false, not_false_eq_true, and_true, true_and, and_self, and_false, false_and, or_true, true_or, or_self, or_false, false_or, xlt_t, xlt_f, xle_t, xle_f, xeq_t, xeq_f, xand_f, xor_t]
      intro J2 d2 hj hi
      obtain ⟨V3, J3, m1, m2, m3, m4, m5⟩ := m199 (d := d2) hi hN hp (by omega) (iCp_ms hi hp).1 hb ht hin
      have ej : cSd J2 (233 + 5 * c.toNat) b t = cSd J (233 + 5 * c.toNat) b t := by
        unfold cSd
        rw [hj _ (by omega)]
      rw [ej] at m1
      exact ⟨_, V3, J3, m1, m2, m3, m4, m5, fun _ => rfl⟩
    · right
      rw [if_neg hin] at e107
      refine ⟨0, 0, V, J, rfl, ?_, zRn_of h hN ?_⟩
      · simp (disch := first | omega | assumption | (simp (disch := omega) only [vup_fn, vup_o, vup_k, vup_at]; first | done | omega | assumption)) only [ze_119_0, ze_119_5, ze_119_18, ze_119_25, e112, e13, e107, Int.add_zero, ↓reduceIte, qw_id, zck_T, zck_t, zGor_v, zGor_n, zGor_e, zbs, vup_at, vup_vup, vup_self, vup_o, vup_k, vup_fn, ne_eq, not_true_eq_false, not_false_eq_true, and_true, true_and, and_self, and_false, false_and, or_true, true_or, or_self, or_false, false_or, xlt_t, xlt_f, xle_t, xle_f, xeq_t, xeq_f, xand_f, xor_t]
      intro J2 d2 hj hi
      obtain ⟨V3, J3, m1, m2, m3, m4, m5⟩ := m199e (d := d2) hi hN hp (iCp_ms hi hp).1 hb ht hin
      exact ⟨_, V3, J3, m1, m2, m3, m4, m5, fun w => by omega⟩
  · right
    rw [if_neg hp] at e112
    refine ⟨0, 0, V, J, rfl, ?_, zRn_of h hN ?_⟩
    · simp (disch := first | omega | assumption | (simp (disch := omega) only [vup_fn, vup_o, vup_k, vup_at]; first | done | omega | assumption)) only [ze_119_0, ze_119_5, ze_119_18, ze_119_25, e112, Int.add_zero, ↓reduceIte, qw_id, zck_T, zck_t, zGor_v, zGor_n, zGor_e, zbs, vup_at, vup_vup, vup_self, vup_o, vup_k, vup_fn, ne_eq, not_true_eq_false, not_false_eq_true, and_true, true_and, and_self, and_false, false_and, or_true, true_or, or_self, or_false, false_or, xlt_t, xlt_f, xle_t, xle_f, xeq_t, xeq_f, xand_f, xor_t]
    intro J2 d2 hj hi
    exact ⟨0, vup V 430 60 1, J2, m199n hi hc hp, vup_at _ _ _ _, pM_60, pC_60, rfl, fun w => by omega⟩
theorem x121 (h : zInv N V J) (hN : N < 600) (hc : -2147483648 ≤ c ∧ c < 2147483648) (hb : -2147483648 ≤ b ∧ b < 2147483648) (ht : -2147483648 ≤ t ∧ t < 2147483648) : zTw N V J 121 [.ref 0, .int (zi c), .int (zi b), .int (zi t), .null] 202 [.ref 430, .int (zi c), .int (zi b), .int (zi t)] [0] := by
  intro d
  have e112 := cp112 (d := d) h hc
  have h37 := h.2.2.2.1
  by_cases hp : 0 ≤ c ∧ c < V 430 37
  · rw [if_pos hp] at e112
    have hB := zBk_copy (i := c.toNat) (by omega)
    have hB5 := zBk_0music hB
    have e13 : 230 + 5 * c.toNat + 3 = 233 + 5 * c.toNat := by omega
    obtain ⟨k1, k2, k3, k4, k5⟩ := iCp_ms h hp
    have hk := iMs_mok h (by omega) k1
    unfold cMok at hk
    rw [e13] at hB5
    have e107 := sp107 (V := V) (J := J) (d := d) (b := b) (t := t) hB5 hb ht (by omega) (by omega)
    by_cases hin : (0 ≤ b ∧ b < V (233 + 5 * c.toNat) 2) ∧ 0 ≤ t ∧ t < V (233 + 5 * c.toNat) 3
    · left
      rw [if_pos hin] at e107
      have e38 := sp38 (V := V) (J := J) (d := d) (b := b) (t := t) hB5 (by omega) (by omega) (by omega)
      rw [if_pos hin.1.2] at e38
      have h01 : yBg (cSd J (233 + 5 * c.toNat) b t) = 0 ∨ yBg (cSd J (233 + 5 * c.toNat) b t) = 1 := yBg_b01 (fun x => cSd J (233 + 5 * c.toNat) b t) 0 (by omega) (by omega)
      refine ⟨yBg (cSd J (233 + 5 * c.toNat) b t), V, J, ?_, zRn_of h hN ?_⟩
      · simp (disch := first | omega | assumption | (simp (disch := omega) only [vup_fn, vup_o, vup_k, vup_at]; first | done | omega | assumption)) only [ze_121_0, ze_121_5, ze_121_18, ze_121_25, e112, e13, e107, e38, Int.add_zero, ↓reduceIte, qw_id, zck_T, zck_t, zGor_v, zGor_n, zGor_e, zbs, vup_at, vup_vup, vup_self, vup_o, vup_k, vup_fn, ne_eq, not_true_eq_false, not_false_eq_true, and_true, true_and, and_self, and_false, false_and, or_true, true_or, or_self, or_false, false_or, xlt_t, xlt_f, xle_t, xle_f, xeq_t, xeq_f, xand_f, xor_t]
      intro J2 d2 hj hi
      obtain ⟨V3, J3, m1, m2, m3⟩ := m200 (d := d2) hi hp (iCp_ms hi hp).1 hb ht
      rw [if_pos hin] at m1
      have e2 := sm150 (V := V3) (J := J3) (d := d2) (p := 1) (q := 1) (r := 1) (by omega) (by omega) (by omega)
      rw [if_pos (show gC 1 1 1 = 0 from rfl)] at e2
      have e5 := sp203 (d := d2) (rMus_60 (x := gC 1 1 1) m3) (by omega) (by omega) hin.1 (t := t) (by omega)
      have ej : cSd J2 (233 + 5 * c.toNat) b t = cSd J (233 + 5 * c.toNat) b t := by
        unfold cSd
        rw [hj _ (by omega)]
      rw [ej] at e5
      refine ⟨yBg (cSd J (233 + 5 * c.toNat) b t), vup V3 430 60 (gC 1 1 1), J3, ?_, vup_at _ _ _ _, pM_t (mFm_pM m2) pM_60, pC_t (mFm_pC m2) pC_60, mN5 m2, fun _ => rfl⟩
      rcases h01 with h01 | h01
      · rw [h01] at e5 ⊢
        simp (disch := first | omega | assumption | (simp (disch := omega) only [vup_fn, vup_o, vup_k, vup_at]; first | done | omega | assumption)) only [ze_202_0, ze_202_8, ze_202_13, ze_202_23, ze_202_30, ze_202_31, m1, e2, e5, Int.add_zero, ↓reduceIte, qw_id, zck_T, zck_t, zGor_v, zGor_n, zGor_e, zbs, vup_at, vup_vup, vup_self, vup_o, vup_k, vup_fn, ne_eq, not_true_eq_false, not_false_eq_true, and_true, true_and, and_self, and_false, false_and, or_true, true_or, or_self, or_false, false_or, xlt_t, xlt_f, xle_t, xle_f, xeq_t, xeq_f, xand_f, xor_t]
      · rw [h01] at e5 ⊢
        simp (disch := first | omega | assumption | (simp (disch := omega) only [vup_fn, vup_o, vup_k, vup_at]; first | done | omega | assumption)) only [ze_202_0, ze_202_8, ze_202_13, ze_202_23, ze_202_30, ze_202_31, m1, e2, e5, Int.add_zero, ↓reduceIte, qw_id, zck_T, zck_t, zGor_v, zGor_n, zGor_e, zbs, vup_at, vup_vup, vup_self, vup_o, vup_k, vup_fn, ne_eq, not_true_eq_false, not_false_eq_true, and_true, true_and, and_self, and_false, false_and, or_true, true_or, or_self, or_false, false_or, xlt_t, xlt_f, xle_t, xle_f, xeq_t, xeq_f, xand_f, xor_t]
    · right
      rw [if_neg hin] at e107
      refine ⟨0, 0, V, J, rfl, ?_, zRn_of h hN ?_⟩
      · simp (disch := first | omega | assumption | (simp (disch := omega) only [vup_fn, vup_o, vup_k, vup_at]; first | done | omega | assumption)) only [ze_121_0, ze_121_5, ze_121_18, ze_121_25, e112, e13, e107, Int.add_zero, ↓reduceIte, qw_id, zck_T, zck_t, zGor_v, zGor_n, zGor_e, zbs, vup_at, vup_vup, vup_self, vup_o, vup_k, vup_fn, ne_eq, not_true_eq_false, not_false_eq_true, and_true, true_and, and_self, and_false, false_and, or_true, true_or, or_self, or_false, false_or, xlt_t, xlt_f, xle_t, xle_f, xeq_t, xeq_f, xand_f, xor_t]
      intro J2 d2 hj hi
      obtain ⟨V3, J3, m1, m2, m3⟩ := m200 (d := d2) hi hp (iCp_ms hi hp).1 hb ht
      rw [if_neg hin] at m1
      have e2 := sm150 (V := V3) (J := J3) (d := d2) (p := 0) (q := 1) (r := 1) (by omega) (by omega) (by omega)
      rw [if_neg (show ¬ gC 0 1 1 = 0 by decide)] at e2
      refine ⟨0, vup V3 430 60 (gC 0 1 1), J3, ?_, vup_at _ _ _ _, pM_t (mFm_pM m2) pM_60, pC_t (mFm_pC m2) pC_60, mN5 m2, fun w => by omega⟩
      simp (disch := first | omega | assumption | (simp (disch := omega) only [vup_fn, vup_o, vup_k, vup_at]; first | done | omega | assumption)) only [ze_202_0, ze_202_8, ze_202_13, ze_202_23, ze_202_30, ze_202_31, m1, e2, Int.add_zero, ↓reduceIte, qw_id, zck_T, zck_t, zGor_v, zGor_n, zGor_e, zbs, vup_at, vup_vup, vup_self, vup_o, vup_k, vup_fn, ne_eq, not_true_eq_false, not_false_eq_true, and_true, true_and, and_self, and_false, false_and, or_true, true_or, or_self, or_false, false_or, xlt_t, xlt_f, xle_t, xle_f, xeq_t, xeq_f, xand_f, xor_t]
  · right
    rw [if_neg hp] at e112
    refine ⟨0, 0, V, J, rfl, ?_, zRn_of h hN ?_⟩
    · simp (disch := first | omega | assumption | (simp (disch := omega) only [vup_fn, vup_o, vup_k, vup_at]; first | done | omega | assumption)) only [ze_121_0, ze_121_5, ze_121_18, ze_121_25, e112, Int.add_zero, ↓reduceIte, qw_id, zck_T, zck_t, zGor_v, zGor_n, zGor_e, zbs, vup_at, vup_vup, vup_self, vup_o, vup_k, vup_fn, ne_eq, not_true_eq_false, not_false_eq_true, and_true, true_and, and_self, and_false, false_and, or_true, true_or, or_self, or_false, false_or, xlt_t, xlt_f, xle_t, xle_f, xeq_t, xeq_f, xand_f, xor_t]
    intro J2 d2 hj hi
    have m1 := m200e (b := b) (t := t) (d := d2) hi hc hp
    have e2 := sm150 (V := V) (J := J2) (d := d2) (p := 0) (q := 1) (r := 1) (by omega) (by omega) (by omega)
    rw [if_neg (show ¬ gC 0 1 1 = 0 by decide)] at e2
    refine ⟨0, vup V 430 60 (gC 0 1 1), J2, ?_, vup_at _ _ _ _, pM_60, pC_60, rfl, fun w => by omega⟩
    simp (disch := first | omega | assumption | (simp (disch := omega) only [vup_fn, vup_o, vup_k, vup_at]; first | done | omega | assumption)) only [ze_202_0, ze_202_8, ze_202_13, ze_202_23, ze_202_30, ze_202_31, m1, e2, Int.add_zero, ↓reduceIte, qw_id, zck_T, zck_t, zGor_v, zGor_n, zGor_e, zbs, vup_at, vup_vup, vup_self, vup_o, vup_k, vup_fn, ne_eq, not_true_eq_false, not_false_eq_true, and_true, true_and, and_self, and_false, false_and, or_true, true_or, or_self, or_false, false_or, xlt_t, xlt_f, xle_t, xle_f, xeq_t, xeq_f, xand_f, xor_t]
theorem iCp_F (h : zInv N V J) (hp : 0 ≤ c ∧ c < V 430 37) {n b F A fa : Int} (hx : yTx (yTt V (V 454 c).toNat) (V 432 (V 454 c).toNat) n b F A fa) : F = 0 ∧ V (50 + 15 * (V 454 c).toNat) 2 = 1 ∧ V (50 + 15 * (V 454 c).toNat) 3 = 1 ∧ V (50 + 15 * (V 454 c).toNat) 4 = 0 := by
  obtain ⟨k1, k2, k3, k4, k5⟩ := iCp_ms h hp
  have hw : (V 454 c).toNat < 12 := by omega
  have hwi : (((V 454 c).toNat : Nat) : Int) = V 454 c := by omega
  obtain ⟨a1, a2, a3, a4, a5, a6, a7⟩ := h.2.2.1 _ hw
  have p1 := a3.2 ⟨c, hp, hwi.symm⟩
  have p2 := a7 p1
  obtain ⟨⟨n2, b2, F2, A2, fa2, y1, y2, y3⟩, _⟩ := a6 p2.1
  obtain ⟨z1, z2, z3, z4, z5⟩ := yTx_un hx y1.1
  rw [p2.2, z3] at y2
  refine ⟨?_, p2.1, p1, p2.2⟩
  by_cases hF : F = 0
  · exact hF
  · exact absurd (y2.trans (if_pos hF)).symm hF
/-- a copy is read anew into music 35 -/
theorem cAnew {d : Nat → Nat → UInt64} (h : zInv N V J) (hp : 0 ≤ c ∧ c < V 430 37) : ∃ V1 V2 J2, zGo false 101 0 [.ref 0, .ref (50 + 15 * (V 454 c).toNat), .ref 26] [] (zm V J d) = zN1 V1 J d ∧ zGo false 68 0 [.ref 12, .ref 26, .ref (231 + 5 * c.toNat), .ref 3, .ref 35, .null] [] (zm V1 J d) = zN1 V2 J2 d ∧ zInv N V2 J2 ∧ (∀ o : Nat, ¬(7 ≤ o ∧ o ≤ 36) → V2 o = V o) ∧ (∀ o : Nat, o ≠ 36 → J2 o = J o) ∧ iMs V2 J2 35 (V2 454 c).toNat (V2 (232 + 5 * c.toNat)) := by
  have h37 := h.2.2.2.1
  obtain ⟨k1, k2, k3, k4, k5⟩ := iCp_ms h hp
  obtain ⟨n, b, F, A, fa, hx, hg, hm⟩ := k1
  have hF := (iCp_F h hp hx).1
  subst hF
  have hw : (V 454 c).toNat < 12 := by omega
  have hwi : (((V 454 c).toNat : Nat) : Int) = V 454 c := by omega
  generalize hwd : (V 454 c).toNat = w at *
  have hB := zBk_part hw
  have hBc := zBk_copy (i := c.toNat) (by omega)
  have hB4 := zBk_0marks hBc
  rw [show 230 + 5 * c.toNat + 1 = 231 + 5 * c.toNat by omega] at hB4
  have htx := h.1.2 w hw
  have ht := zt_ok h.1.1 (w := (w : Int)) (by omega)
  obtain ⟨V1, n2, b2, F2, A2, fa2, p1, p2, p3⟩ := sp101 (V := V) (J := J) (d := d) (T := yTt V w) (x := 26) (P := 50 + 15 * w) (n := V 432 w) hB (by omega) zBk_26 (by omega) htx.1 ht (fun q q0 q1 => by rw [show 50 + 15 * w + 1 = 51 + 15 * w by omega]; exact (htx.2 q q0 q1).trans (if_pos ⟨q0, q1⟩).symm)
  obtain ⟨z1, z2, z3, z4, z5⟩ := yTx_un hx p2.1
  rw [z1, z2, z3, z4, z5] at p2
  have f232 : V1 (231 + 5 * c.toNat + 1) = V (232 + 5 * c.toNat) := by rw [show 231 + 5 * c.toNat + 1 = 232 + 5 * c.toNat by omega]; exact p3 _ (by omega)
  have hg2 : aGood (yTt V w) (V1 (231 + 5 * c.toNat + 1)) (V1 4) (V1 5) (V1 6) (V 3 0) n := by
    rw [f232, p3 4 (by omega), p3 5 (by omega), p3 6 (by omega)]
    exact hg rfl
  obtain ⟨V2, J2, s1, s2, s3, s4⟩ := sn68 (d := d) (V := V1) (J := J) (T := yTt V w) (x := 26) (Mk := 231 + 5 * c.toNat) (M := 35) (cnt := V 3 0) zBk_26 (by omega) hB4 (by omega) zBk_35 (by omega) p2 ht (by rw [p3 3 (by omega)]) hg2
  rw [f232, p3 4 (by omega), p3 5 (by omega), p3 6 (by omega)] at s4
  have f2 : ∀ o : Nat, ¬(7 ≤ o ∧ o ≤ 36) → V2 o = V o := fun o ho => (s2 o (by omega)).trans (p3 o (by omega))
  refine ⟨V1, V2, J2, p1, s1, zInv_fr ⟨fun o ho => f2 o (by omega), by rw [f2 430 (by omega)]; exact ⟨rfl, rfl, rfl, rfl, rfl⟩, s3 _ (by decide), s3 _ (by decide)⟩ ⟨fun o ho => f2 o (by omega), fun o ho => s3 o (by omega)⟩ h, f2, fun o ho => s3 o ho, ?_⟩
  rw [f2 454 (by omega), f2 (232 + 5 * c.toNat) (by omega), hwd]
  unfold iMs yTt
  rw [f2 431 (by omega), f2 432 (by omega), f2 3 (by omega), f2 4 (by omega), f2 5 (by omega), f2 6 (by omega)]
  exact ⟨n, b, 0, A, fa, hx, hg, s4⟩
theorem x120 (h : zInv N V J) (hN : N < 600) (hc : -2147483648 ≤ c ∧ c < 2147483648) (hb : -2147483648 ≤ b ∧ b < 2147483648) (ht : -2147483648 ≤ t ∧ t < 2147483648) : zTw N V J 120 [.ref 0, .int (zi c), .int (zi b), .int (zi t), .null] 201 [.ref 430, .int (zi c), .int (zi b), .int (zi t)] [0] := by
  intro d
  have e112 := cp112 (d := d) h hc
  have h37 := h.2.2.2.1
  by_cases hp : 0 ≤ c ∧ c < V 430 37
  · rw [if_pos hp] at e112
    have hB := zBk_copy (i := c.toNat) (by omega)
    have hB5 := zBk_35
    obtain ⟨k1, k2, k3, k4, k5⟩ := iCp_ms h hp
    obtain ⟨V1, V2, J2, p1, p2, p3, p4, p5, p6⟩ := cAnew (d := d) h hp
    rw [show 231 + 5 * c.toNat = 230 + 5 * c.toNat + 1 by omega] at p2
    rw [← k3] at p1
    have hp2 : 0 ≤ c ∧ c < V2 430 37 := by rw [p4 430 (by omega)]; exact hp
    have hk := iMs_mok p3 (by rw [p4 454 (by omega)]; omega) p6
    unfold cMok at hk
    have e107 := sp107 (V := V2) (J := J2) (d := d) (M := 35) (b := b) (t := t) hB5 hb ht (by omega) (by omega)
    by_cases hin : (0 ≤ b ∧ b < V2 35 2) ∧ 0 ≤ t ∧ t < V2 35 3
    · left
      rw [if_pos hin] at e107
      have e36 := sp36 (V := V2) (J := J2) (d := d) (b := b) (t := t) hB5 (by omega) (by omega) (by omega)
      rw [if_pos hin.1.2] at e36
      refine ⟨yPi (cSd J2 35 b t), V2, J2, ?_, zRn_of p3 hN ?_⟩
      · simp (disch := first | omega | assumption | (simp (disch := omega) only [vup_fn, vup_o, vup_k, vup_at]; first | done | omega | assumption)) only [ze_120_0, ze_120_5, ze_120_25, ze_120_49, ze_120_59, ze_120_68, e112, p1, p2, e107, e36, Int.add_zero, ↓reduceIte, qw_id, zck_T, zck_t, zGor_v, zGor_n, zGor_e, zbs, vup_at, vup_vup, vup_self, vup_o, vup_k, vup_fn, ne_eq, not_true_eq_false, not_false_eq_true, and_true, true_and, and_self, and_false, false_and, or_true, true_or, or_self, or_false, false_or, xlt_t, xlt_f, xle_t, xle_f, xeq_t, xeq_f, xand_f, xor_t]
      intro J3 d2 hj hi
      have p6' : iMs V2 J3 35 (V2 454 c).toNat (V2 (232 + 5 * c.toNat)) := iMs_fr rfl (hj _ (by decide)) rfl rfl rfl ⟨rfl, rfl, rfl⟩ p6
      obtain ⟨V3, J4, m1, m2, m3, m4, m5⟩ := m199 (d := d2) hi hN hp2 (by omega) p6' hb ht hin
      have ej : cSd J3 35 b t = cSd J2 35 b t := by
        unfold cSd
        rw [hj _ (by omega)]
      rw [ej] at m1
      refine ⟨_, V3, J4, ?_, m2, m3, m4, m5, fun _ => rfl⟩
      simp (disch := first | omega | assumption | (simp (disch := omega) only [vup_fn, vup_o, vup_k, vup_at]; first | done | omega | assumption)) only [ze_201_0, ze_201_7, m1, Int.add_zero, ↓reduceIte, qw_id, zck_T, zck_t, zGor_v, zGor_n, zGor_e, zbs, vup_at, vup_vup, vup_self, vup_o, vup_k, vup_fn, ne_eq, not_true_eq_false, not_false_eq_true, and_true, true_and, and_self, and_false, false_and, or_true, true_or, or_self, or_false, false_or, xlt_t, xlt_f, xle_t, xle_f, xeq_t, xeq_f, xand_f, xor_t]
    · right
      rw [if_neg hin] at e107
      refine ⟨0, 0, V2, J2, rfl, ?_, zRn_of p3 hN ?_⟩
      · simp (disch := first | omega | assumption | (simp (disch := omega) only [vup_fn, vup_o, vup_k, vup_at]; first | done | omega | assumption)) only [ze_120_0, ze_120_5, ze_120_25, ze_120_49, ze_120_59, ze_120_68, e112, p1, p2, e107, Int.add_zero, ↓reduceIte, qw_id, zck_T, zck_t, zGor_v, zGor_n, zGor_e, zbs, vup_at, vup_vup, vup_self, vup_o, vup_k, vup_fn, ne_eq, not_true_eq_false, not_false_eq_true, and_true, true_and, and_self, and_false, false_and, or_true, true_or, or_self, or_false, false_or, xlt_t, xlt_f, xle_t, xle_f, xeq_t, xeq_f, xand_f, xor_t]
      intro J3 d2 hj hi
      have p6' : iMs V2 J3 35 (V2 454 c).toNat (V2 (232 + 5 * c.toNat)) := iMs_fr rfl (hj _ (by decide)) rfl rfl rfl ⟨rfl, rfl, rfl⟩ p6
      obtain ⟨V3, J4, m1, m2, m3, m4, m5⟩ := m199e (d := d2) hi hN hp2 p6' hb ht hin
      refine ⟨0, V3, J4, ?_, m2, m3, m4, m5, fun w => by omega⟩
      simp (disch := first | omega | assumption | (simp (disch := omega) only [vup_fn, vup_o, vup_k, vup_at]; first | done | omega | assumption)) only [ze_201_0, ze_201_7, m1, Int.add_zero, ↓reduceIte, qw_id, zck_T, zck_t, zGor_v, zGor_n, zGor_e, zbs, vup_at, vup_vup, vup_self, vup_o, vup_k, vup_fn, ne_eq, not_true_eq_false, not_false_eq_true, and_true, true_and, and_self, and_false, false_and, or_true, true_or, or_self, or_false, false_or, xlt_t, xlt_f, xle_t, xle_f, xeq_t, xeq_f, xand_f, xor_t]
  · right
    rw [if_neg hp] at e112
    refine ⟨0, 0, V, J, rfl, ?_, zRn_of h hN ?_⟩
    · simp (disch := first | omega | assumption | (simp (disch := omega) only [vup_fn, vup_o, vup_k, vup_at]; first | done | omega | assumption)) only [ze_120_0, ze_120_5, ze_120_25, ze_120_49, ze_120_59, ze_120_68, e112, Int.add_zero, ↓reduceIte, qw_id, zck_T, zck_t, zGor_v, zGor_n, zGor_e, zbs, vup_at, vup_vup, vup_self, vup_o, vup_k, vup_fn, ne_eq, not_true_eq_false, not_false_eq_true, and_true, true_and, and_self, and_false, false_and, or_true, true_or, or_self, or_false, false_or, xlt_t, xlt_f, xle_t, xle_f, xeq_t, xeq_f, xand_f, xor_t]
    intro J2 d2 hj hi
    have m1 := m199n (b := b) (t := t) (d := d2) hi hc hp
    refine ⟨0, vup V 430 60 1, J2, ?_, vup_at _ _ _ _, pM_60, pC_60, rfl, fun w => by omega⟩
    simp (disch := first | omega | assumption | (simp (disch := omega) only [vup_fn, vup_o, vup_k, vup_at]; first | done | omega | assumption)) only [ze_201_0, ze_201_7, m1, Int.add_zero, ↓reduceIte, qw_id, zck_T, zck_t, zGor_v, zGor_n, zGor_e, zbs, vup_at, vup_vup, vup_self, vup_o, vup_k, vup_fn, ne_eq, not_true_eq_false, not_false_eq_true, and_true, true_and, and_self, and_false, false_and, or_true, true_or, or_self, or_false, false_or, xlt_t, xlt_f, xle_t, xle_f, xeq_t, xeq_f, xand_f, xor_t]
end
