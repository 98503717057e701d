/-! part 68: tokens, token, bars -/
section
variable {V : zVt} {J : zJt} {N a b : Int}
theorem x103 (h : zInv N V J) (hN : N < 600) (ha : -2147483648 ≤ a ∧ a < 2147483648) (hb : -2147483648 ≤ b ∧ b < 2147483648) : zTw N V J 103 [.ref 0, .int (zi a), .int (zi b)] 180 [.ref 430, .int (zi a), .int (zi b)] [0] := by
  intro d
  by_cases hp : (0 ≤ a ∧ a < 3) ∧ (0 ≤ b ∧ b < 4)
  · left
    obtain ⟨V1, J1, q1, q2, q3, q4, q5⟩ := cp100 (d := d) h hp
    have hw12 : (4 * a + b).toNat < 12 := by omega
    have hwi : (((4 * a + b).toNat : Nat) : Int) = 4 * a + b := by omega
    generalize (4 * a + b).toNat = w at *
    have hB := zBk_part hw12
    have hB10 := zBk_6row hB
    refine ⟨V1 (50 + 15 * w + 2) 0, V1, J1, ?_, zRn_of q2 hN ?_⟩
    · simp (disch := first | omega | assumption | (simp (disch := omega) only [vup_fn, vup_o, vup_k, vup_at]; first | done | omega | assumption)) only [ze_103_0, ze_103_6, q1, Int.add_zero, ↓reduceIte, qw_id, zck_T, zck_t, zGor_v, zGor_n, zGor_e, zbs, vup_at, vup_vup, vup_self, vup_o, vup_k, vup_fn, ne_eq, not_true_eq_false, not_false_eq_true, and_true, true_and, and_self, and_false, false_and, or_true, true_or, or_self, or_false, false_or, xlt_t, xlt_f, xle_t, xle_f, xeq_t, xeq_f, xand_f, xor_t]
    intro J2 d2 hj hi
    have hi2 := zInv_fr (pM_60 (c := gC 1 1 1)) pC_60 hi
    have e1 := sm146 (V := V1) (J := J2) (d := d2) ha hb
    rw [if_pos hp] at e1
    have e2 := sm150 (V := V1) (J := J2) (d := d2) (p := 1) (q := 1) (r := 1) (by omega) (by omega) (by omega)
    rw [if_pos (show gC 1 1 1 = 0 from rfl)] at e2
    obtain ⟨V3, m1, m2, m3, m4, m5⟩ := mLex (d := d2) hi2 hw12 (by rw [vup_fn (by omega)]; exact q4)
    rw [vup_fn (by omega), show 52 + 15 * w = 50 + 15 * w + 2 by omega] at m2
    rw [hwi] at m1
    refine ⟨V1 (50 + 15 * w + 2) 0, V3, J2, ?_, by rw [m5.2 60 (by omega), vup_at]; rfl, pM_t pM_60 (pM_fr m5), pC_t pC_60 (pC_fr m5), rfl, fun _ => rfl⟩
    rw [← m2]
    simp (disch := first | omega | assumption | (simp (disch := omega) only [vup_fn, vup_o, vup_k, vup_at]; first | done | omega | assumption)) only [ze_180_0, ze_180_6, ze_180_11, ze_180_25, e1, e2, m1, Int.add_zero, ↓reduceIte, qw_id, zck_T, zck_t, zGor_v, zGor_n, zGor_e, zbs, vup_at, vup_vup, vup_self, vup_o, vup_k, vup_fn, ne_eq, not_true_eq_false, not_false_eq_true, and_true, true_and, and_self, and_false, false_and, or_true, true_or, or_self, or_false, false_or, xlt_t, xlt_f, xle_t, xle_f, xeq_t, xeq_f, xand_f, xor_t]
  · right
    have e := cp100e (V := V) (J := J) (d := d) ha hb hp
    refine ⟨0, 0, V, J, rfl, ?_, zRn_of h hN ?_⟩
    · simp (disch := first | omega | assumption | (simp (disch := omega) only [vup_fn, vup_o, vup_k, vup_at]; first | done | omega | assumption)) only [ze_103_0, ze_103_6, e, Int.add_zero, ↓reduceIte, qw_id, zck_T, zck_t, zGor_v, zGor_n, zGor_e, zbs, vup_at, vup_vup, vup_self, vup_o, vup_k, vup_fn, ne_eq, not_true_eq_false, not_false_eq_true, and_true, true_and, and_self, and_false, false_and, or_true, true_or, or_self, or_false, false_or, xlt_t, xlt_f, xle_t, xle_f, xeq_t, xeq_f, xand_f, xor_t]
    intro J2 d2 hj hi
    have e1 := sm146 (V := V) (J := J2) (d := d2) ha hb
    rw [if_neg hp] at e1
    have e2 := sm150 (V := V) (J := J2) (d := d2) (p := 0) (q := 1) (r := 1) (by omega) (by omega) (by omega)
    rw [if_neg (show ¬ gC 0 1 1 = 0 by decide)] at e2
    refine ⟨0, vup V 430 60 (gC 0 1 1), J2, ?_, vup_at _ _ _ _, pM_60, pC_60, rfl, fun w => by omega⟩
    simp (disch := first | omega | assumption | (simp (disch := omega) only [vup_fn, vup_o, vup_k, vup_at]; first | done | omega | assumption)) only [ze_180_0, ze_180_6, ze_180_11, ze_180_25, e1, e2, Int.add_zero, ↓reduceIte, qw_id, zck_T, zck_t, zGor_v, zGor_n, zGor_e, zbs, vup_at, vup_vup, vup_self, vup_o, vup_k, vup_fn, ne_eq, not_true_eq_false, not_false_eq_true, and_true, true_and, and_self, and_false, false_and, or_true, true_or, or_self, or_false, false_or, xlt_t, xlt_f, xle_t, xle_f, xeq_t, xeq_f, xand_f, xor_t]
theorem x104 (h : zInv N V J) (hN : N < 600) (ha : -2147483648 ≤ a ∧ a < 2147483648) (hb : -2147483648 ≤ b ∧ b < 2147483648) {c : Int} (hc : -2147483648 ≤ c ∧ c < 2147483648) : zTw N V J 104 [.ref 0, .int (zi a), .int (zi b), .int (zi c), .null] 181 [.ref 430, .int (zi a), .int (zi b), .int (zi c), .null] [0] := by
  intro d
  by_cases hp : (0 ≤ a ∧ a < 3) ∧ (0 ≤ b ∧ b < 4)
  · obtain ⟨V1, J1, q1, q2, q3, q4, q5⟩ := cp100 (d := d) h hp
    have hw12 : (4 * a + b).toNat < 12 := by omega
    have hwi : (((4 * a + b).toNat : Nat) : Int) = 4 * a + b := by omega
    generalize (4 * a + b).toNat = w at *
    have hB := zBk_part hw12
    have hB10 := zBk_6row hB
    have hrow := mLex (d := d) q2 hw12 q4
    have hrg : 0 ≤ V1 (50 + 15 * w + 2) 0 ∧ V1 (50 + 15 * w + 2) 0 ≤ 60 := by
      obtain ⟨_, _, _, q, _⟩ := hrow
      rw [show 50 + 15 * w + 2 = 52 + 15 * w by omega]
      exact q
    have e86 := sp86 (V := V1) (J := J1) (d := d) (x := 50 + 15 * w + 2) (k := c) hB10 hc hrg
    by_cases hk : 0 ≤ c ∧ c < V1 (50 + 15 * w + 2) 0
    · left
      rw [if_pos hk] at e86
      refine ⟨V1 (50 + 15 * w + 2 + 1) c, V1, J1, ?_, zRn_of q2 hN ?_⟩
      · simp (disch := first | omega | assumption | (simp (disch := omega) only [vup_fn, vup_o, vup_k, vup_at]; first | done | omega | assumption)) only [ze_104_0, ze_104_6, ze_104_17, q1, e86, Int.add_zero, ↓reduceIte, qw_id, zck_T, zck_t, zGor_v, zGor_n, zGor_e, zbs, vup_at, vup_vup, vup_self, vup_o, vup_k, vup_fn, ne_eq, not_true_eq_false, not_false_eq_true, and_true, true_and, and_self, and_false, false_and, or_true, true_or, or_self, or_false, false_or, xlt_t, xlt_f, xle_t, xle_f, xeq_t, xeq_f, xand_f, xor_t]
      intro J2 d2 hj hi
      have e1 := sm146 (V := V1) (J := J2) (d := d2) ha hb
      rw [if_pos hp] at e1
      obtain ⟨V3, m1, m2, m3, m4, m5⟩ := mLex (d := d2) hi hw12 q4
      rw [show 52 + 15 * w = 50 + 15 * w + 2 by omega] at m2 m4
      rw [hwi] at m1
      have e3 := sp147 (V := V3) (J := J2) (d := d2) (a := c) (b := V3 430 10) hc (by omega)
      rw [if_pos (by omega)] at e3
      have e2 := sm150 (V := V3) (J := J2) (d := d2) (p := 1) (q := 1) (r := 1) (by omega) (by omega) (by omega)
      rw [if_pos (show gC 1 1 1 = 0 from rfl)] at e2
      refine ⟨V1 (50 + 15 * w + 2 + 1) c, vup V3 430 60 (gC 1 1 1), J2, ?_, vup_at _ _ _ _, pM_t (pM_fr m5) pM_60, pC_t (pC_fr m5) pC_60, rfl, fun _ => rfl⟩
      rw [show 50 + 15 * w + 2 + 1 = 53 + 15 * w by omega, ← m4 c hk.1 hk.2]
      simp (disch := first | omega | assumption | (simp (disch := omega) only [vup_fn, vup_o, vup_k, vup_at]; first | done | omega | assumption)) only [ze_181_0, ze_181_5, ze_181_21, ze_181_35, ze_181_42, ze_181_43, ze_181_48, ze_181_61, e1, e2, e3, m1, Int.add_zero, ↓reduceIte, qw_id, zck_T, zck_t, zGor_v, zGor_n, zGor_e, zbs, vup_at, vup_vup, vup_self, vup_o, vup_k, vup_fn, ne_eq, not_true_eq_false, not_false_eq_true, and_true, true_and, and_self, and_false, false_and, or_true, true_or, or_self, or_false, false_or, xlt_t, xlt_f, xle_t, xle_f, xeq_t, xeq_f, xand_f, xor_t]
    · right
      rw [if_neg hk] at e86
      refine ⟨0, 0, V1, J1, rfl, ?_, zRn_of q2 hN ?_⟩
      · simp (disch := first | omega | assumption | (simp (disch := omega) only [vup_fn, vup_o, vup_k, vup_at]; first | done | omega | assumption)) only [ze_104_0, ze_104_6, ze_104_17, q1, e86, Int.add_zero, ↓reduceIte, qw_id, zck_T, zck_t, zGor_v, zGor_n, zGor_e, zbs, vup_at, vup_vup, vup_self, vup_o, vup_k, vup_fn, ne_eq, not_true_eq_false, not_false_eq_true, and_true, true_and, and_self, and_false, false_and, or_true, true_or, or_self, or_false, false_or, xlt_t, xlt_f, xle_t, xle_f, xeq_t, xeq_f, xand_f, xor_t]
      intro J2 d2 hj hi
      have e1 := sm146 (V := V1) (J := J2) (d := d2) ha hb
      rw [if_pos hp] at e1
      obtain ⟨V3, m1, m2, m3, m4, m5⟩ := mLex (d := d2) hi hw12 q4
      rw [show 52 + 15 * w = 50 + 15 * w + 2 by omega] at m2 m4
      rw [hwi] at m1
      have e3 := sp147 (V := V3) (J := J2) (d := d2) (a := c) (b := V3 430 10) hc (by omega)
      rw [if_neg (by omega)] at e3
      have e2 := sm150 (V := V3) (J := J2) (d := d2) (p := 0) (q := 1) (r := 1) (by omega) (by omega) (by omega)
      rw [if_neg (show ¬ gC 0 1 1 = 0 by decide)] at e2
      refine ⟨0, vup V3 430 60 (gC 0 1 1), J2, ?_, vup_at _ _ _ _, pM_t (pM_fr m5) pM_60, pC_t (pC_fr m5) pC_60, rfl, fun _ => by omega⟩
      simp (disch := first | omega | assumption | (simp (disch := omega) only [vup_fn, vup_o, vup_k, vup_at]; first | done | omega | assumption)) only [ze_181_0, ze_181_5, ze_181_21, ze_181_35, ze_181_42, ze_181_43, ze_181_48, ze_181_61, e1, e2, e3, m1, Int.add_zero, ↓reduceIte, qw_id, zck_T, zck_t, zGor_v, zGor_n, zGor_e, zbs, vup_at, vup_vup, vup_self, vup_o, vup_k, vup_fn, ne_eq, not_true_eq_false, not_false_eq_true, and_true, true_and, and_self, and_false, false_and, or_true, true_or, or_self, or_false, false_or, xlt_t, xlt_f, xle_t, xle_f, xeq_t, xeq_f, xand_f, xor_t]
  · right
    have e := cp100e (V := V) (J := J) (d := d) ha hb hp
    refine ⟨0, 0, V, J, rfl, ?_, zRn_of h hN ?_⟩
    · simp (disch := first | omega | assumption | (simp (disch := omega) only [vup_fn, vup_o, vup_k, vup_at]; first | done | omega | assumption)) only [ze_104_0, ze_104_6, ze_104_17, e, Int.add_zero, ↓reduceIte, qw_id, zck_T, zck_t, zGor_v, zGor_n, zGor_e, zbs, vup_at, vup_vup, vup_self, vup_o, vup_k, vup_fn, ne_eq, not_true_eq_false, not_false_eq_true, and_true, true_and, and_self, and_false, false_and, or_true, true_or, or_self, or_false, false_or, xlt_t, xlt_f, xle_t, xle_f, xeq_t, xeq_f, xand_f, xor_t]
    intro J2 d2 hj hi
    have e1 := sm146 (V := V) (J := J2) (d := d2) ha hb
    rw [if_neg hp] at e1
    have e2 := sm150 (V := V) (J := J2) (d := d2) (p := 0) (q := 1) (r := 1) (by omega) (by omega) (by omega)
    rw [if_neg (show ¬ gC 0 1 1 = 0 by decide)] at e2
    refine ⟨0, vup V 430 60 (gC 0 1 1), J2, ?_, vup_at _ _ _ _, pM_60, pC_60, rfl, fun w => by omega⟩
    simp (disch := first | omega | assumption | (simp (disch := omega) only [vup_fn, vup_o, vup_k, vup_at]; first | done | omega | assumption)) only [ze_181_0, ze_181_5, ze_181_21, ze_181_35, ze_181_42, ze_181_43, ze_181_48, ze_181_61, e1, e2, Int.add_zero, ↓reduceIte, qw_id, zck_T, zck_t, zGor_v, zGor_n, zGor_e, zbs, vup_at, vup_vup, vup_self, vup_o, vup_k, vup_fn, ne_eq, not_true_eq_false, not_false_eq_true, and_true, true_and, and_self, and_false, false_and, or_true, true_or, or_self, or_false, false_or, xlt_t, xlt_f, xle_t, xle_f, xeq_t, xeq_f, xand_f, xor_t]
theorem x105 (h : zInv N V J) (hN : N < 600) (ha : -2147483648 ≤ a ∧ a < 2147483648) (hb : -2147483648 ≤ b ∧ b < 2147483648) : zTw N V J 105 [.ref 0, .int (zi a), .int (zi b), .null] 182 [.ref 430, .int (zi a), .int (zi b)] [0] := by
  intro d
  by_cases hp : (0 ≤ a ∧ a < 3) ∧ (0 ≤ b ∧ b < 4)
  · left
    obtain ⟨V1, J1, q1, q2, q3, q4, q5⟩ := cp100 (d := d) h hp
    have hw12 : (4 * a + b).toNat < 12 := by omega
    have hwi : (((4 * a + b).toNat : Nat) : Int) = 4 * a + b := by omega
    generalize (4 * a + b).toNat = w at *
    have hB := zBk_part hw12
    have hB5 := zBk_6music hB
    have hM := cMu_ok q2 hw12 q4
    unfold cMok at hM
    rw [show 63 + 15 * w = 50 + 15 * w + 13 by omega] at hM
    refine ⟨if V1 (50 + 15 * w + 13) 0 ≠ 0 then -1 else V1 (50 + 15 * w + 13) 2, V1, J1, ?_, zRn_of q2 hN ?_⟩
    · by_cases f0 : V1 (50 + 15 * w + 13) 0 = 0
      · simp (disch := first | omega | assumption | (simp (disch := omega) only [vup_fn, vup_o, vup_k, vup_at]; first | done | omega | assumption)) only [ze_105_0, ze_105_6, ze_105_25, q1, Int.add_zero, ↓reduceIte, qw_id, zck_T, zck_t, zGor_v, zGor_n, zGor_e, zbs, vup_at, vup_vup, vup_self, vup_o, vup_k, vup_fn, ne_eq, not_true_eq_false, not_false_eq_true, and_true, true_and, and_self, and_false, false_and, or_true, true_or, or_self, or_false, false_or, xlt_t, xlt_f, xle_t, xle_f, xeq_t, xeq_f, xand_f, xor_t]
      · simp (disch := first | omega | assumption | (simp (disch := omega) only [vup_fn, vup_o, vup_k, vup_at]; first | done | omega | assumption)) only [ze_105_0, ze_105_6, ze_105_25, q1, Int.add_zero, ↓reduceIte, qw_id, zck_T, zck_t, zGor_v, zGor_n, zGor_e, zbs, vup_at, vup_vup, vup_self, vup_o, vup_k, vup_fn, ne_eq, not_true_eq_false, not_false_eq_true, and_true, true_and, and_self, and_false, false_and, or_true, true_or, or_self, or_false, false_or, xlt_t, xlt_f, xle_t, xle_f, xeq_t, xeq_f, xand_f, xor_t]
    intro J2 d2 hj hi
    have hi2 := zInv_fr (pM_60 (c := gC 1 1 1)) pC_60 hi
    have e1 := sm146 (V := V1) (J := J2) (d := d2) ha hb
    rw [if_pos hp] at e1
    have e2 := sm150 (V := V1) (J := J2) (d := d2) (p := 1) (q := 1) (r := 1) (by omega) (by omega) (by omega)
    rw [if_pos (show gC 1 1 1 = 0 from rfl)] at e2
    obtain ⟨V3, J3, m1, m2, m3⟩ := mLib (d := d2) hi2 hw12 (by rw [vup_fn (by omega)]; exact q4) (s := 0) (by omega)
    unfold rMus at m3
    rw [show 63 + 15 * w = 50 + 15 * w + 13 by omega, vup_fn (by omega)] at m1 m3
    rw [hwi] at m1
    refine ⟨_, V3, J3, ?_, by rw [m2.2.1 60 (by omega), vup_at]; rfl, pM_t pM_60 (mFm_pM m2), pC_t pC_60 (mFm_pC m2), mN5 m2, fun _ => rfl⟩
    have m4 := m3.2.1
    by_cases f0 : V1 (50 + 15 * w + 13) 0 = 0
    · rw [← m4]
      simp (disch := first | omega | assumption | (simp (disch := omega) only [vup_fn, vup_o, vup_k, vup_at]; first | done | omega | assumption)) only [ze_182_0, ze_182_6, ze_182_11, ze_182_26, ze_182_39, e1, e2, m1, Int.add_zero, ↓reduceIte, qw_id, zck_T, zck_t, zGor_v, zGor_n, zGor_e, zbs, vup_at, vup_vup, vup_self, vup_o, vup_k, vup_fn, ne_eq, not_true_eq_false, not_false_eq_true, and_true, true_and, and_self, and_false, false_and, or_true, true_or, or_self, or_false, false_or, xlt_t, xlt_f, xle_t, xle_f, xeq_t, xeq_f, xand_f, xor_t]
    · simp (disch := first | omega | assumption | (simp (disch := omega) only [vup_fn, vup_o, vup_k, vup_at]; first | done | omega | assumption)) only [ze_182_0, ze_182_6, ze_182_11, ze_182_26, ze_182_39, e1, e2, m1, Int.add_zero, ↓reduceIte, qw_id, zck_T, zck_t, zGor_v, zGor_n, zGor_e, zbs, vup_at, vup_vup, vup_self, vup_o, vup_k, vup_fn, ne_eq, not_true_eq_false, not_false_eq_true, and_true, true_and, and_self, and_false, false_and, or_true, true_or, or_self, or_false, false_or, xlt_t, xlt_f, xle_t, xle_f, xeq_t, xeq_f, xand_f, xor_t]
  · right
    have e := cp100e (V := V) (J := J) (d := d) ha hb hp
    refine ⟨0, 0, V, J, rfl, ?_, zRn_of h hN ?_⟩
    · simp (disch := first | omega | assumption | (simp (disch := omega) only [vup_fn, vup_o, vup_k, vup_at]; first | done | omega | assumption)) only [ze_105_0, ze_105_6, ze_105_25, e, Int.add_zero, ↓reduceIte, qw_id, zck_T, zck_t, zGor_v, zGor_n, zGor_e, zbs, vup_at, vup_vup, vup_self, vup_o, vup_k, vup_fn, ne_eq, not_true_eq_false, not_false_eq_true, and_true, true_and, and_self, and_false, false_and, or_true, true_or, or_self, or_false, false_or, xlt_t, xlt_f, xle_t, xle_f, xeq_t, xeq_f, xand_f, xor_t]
    intro J2 d2 hj hi
    have e1 := sm146 (V := V) (J := J2) (d := d2) ha hb
    rw [if_neg hp] at e1
    have e2 := sm150 (V := V) (J := J2) (d := d2) (p := 0) (q := 1) (r := 1) (by omega) (by omega) (by omega)
    rw [if_neg (show ¬ gC 0 1 1 = 0 by decide)] at e2
    refine ⟨0, vup V 430 60 (gC 0 1 1), J2, ?_, vup_at _ _ _ _, pM_60, pC_60, rfl, fun w => by omega⟩
    simp (disch := first | omega | assumption | (simp (disch := omega) only [vup_fn, vup_o, vup_k, vup_at]; first | done | omega | assumption)) only [ze_182_0, ze_182_6, ze_182_11, ze_182_26, ze_182_39, e1, e2, Int.add_zero, ↓reduceIte, qw_id, zck_T, zck_t, zGor_v, zGor_n, zGor_e, zbs, vup_at, vup_vup, vup_self, vup_o, vup_k, vup_fn, ne_eq, not_true_eq_false, not_false_eq_true, and_true, true_and, and_self, and_false, false_and, or_true, true_or, or_self, or_false, false_or, xlt_t, xlt_f, xle_t, xle_f, xeq_t, xeq_f, xand_f, xor_t]
end
