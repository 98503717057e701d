/-! part 99zz5: seconds -/
/-- a turn of the reference that answers a float and changes nothing that stays -/
theorem zRnF_of {N : Int} {V : zVt} {J : zJt} {R : Nat} {l : List Value} {c : Int} {x : UInt32} (h : zInv N V J) (hN : N < 600) (hr : ∀ (J1 : zJt) (d1 : Nat → Nat → UInt64), (∀ o : Nat, o ≠ 474 → J1 o = J o) → zInv N V J1 → ∃ y V2 J2, zGo false R 0 l [] (zm V J1 d1) = some (.inl (some (.float y)), zm V2 J2 d1) ∧ V2 430 60 = c ∧ pM V V2 J1 J2 ∧ pC V V2 J1 J2 ∧ (c = 0 → y = x)) : zRnF N V J R l c x := by
  intro J1 d1 hj
  have h1 := zInv_fr (pM_j hj) (pC_j hj) h
  obtain ⟨y, V2, J2, q1, q2, q3, q4, q6⟩ := hr J1 d1 hj h1
  exact ⟨y, V2, J2, q1, q2, zInv_up (zInv_fr q3 q4 h1) hN, q6⟩
/-- the answer: minus one where the music is at fault -/
def zSec (f n t c : Int) : UInt32 := if f = 0 then FP.fdiv (FP.fmul (FP.i2f (zi (n * t))) (UInt32.ofNat 1097859072)) (FP.i2f (zi c)) else UInt32.ofNat 3212836864
theorem zSec_num {f n t c : Int} (hc : 20 ≤ c ∧ c ≤ 300) : FP.fIsNaN (zSec f n t c) = false := by
  unfold zSec
  split
  · refine zfDiv _ (fun q => ?_)
    rw [← zi_0] at q
    have q2 : qw c = qw 0 := by rw [← zi_eq]; exact q
    rw [qw_0, qw_id (by omega) (by omega)] at q2
    omega
  · exact zfNeg
section
variable {V : zVt} {J : zJt} {N a b c : Int}
theorem x108 (h : zInv N V J) (hN : N < 600) (ha : -2147483648 ≤ a ∧ a < 2147483648) (hb : -2147483648 ≤ b ∧ b < 2147483648) (hc : -2147483648 ≤ c ∧ c < 2147483648) : zTwF N V J [.ref 0, .int (zi a), .int (zi b), .int (zi c), .null] [.ref 430, .int (zi a), .int (zi b), .int (zi c)] := by
  intro d
  by_cases hp : (0 ≤ a ∧ a < 3) ∧ (0 ≤ b ∧ b < 4)
  · obtain ⟨V1, J1, q1, q2, q3, q4, q5⟩ := cp100 (d := d) h hp
    have hw12 : (4 * a + b).toNat < 12 := by omega
    have hwi : (((4 * a + b).toNat : Nat) : Int) = 4 * a + b := by omega
    generalize (4 * a + b).toNat = w at *
    have hB := zBk_part hw12
    have hB5 := zBk_6music hB
    have hM := cMu_ok q2 hw12 q4
    unfold cMok at hM
    rw [show 63 + 15 * w = 50 + 15 * w + 13 by omega] at hM
    by_cases hk : 20 ≤ c ∧ c ≤ 300
    · left
      have hnum := zSec_num (f := V1 (50 + 15 * w + 13) 0) (n := V1 (50 + 15 * w + 13) 2) (t := V1 (50 + 15 * w + 13) 3) hk
      have k1 := zfNum (zfMul (zi (V1 (50 + 15 * w + 13) 2 * V1 (50 + 15 * w + 13) 3)))
      have k2 := zfNum hnum
      refine ⟨_, V1, J1, ?_, zfN64 hnum, zfCmp hnum, zRnF_of q2 hN ?_⟩
      · by_cases f0 : V1 (50 + 15 * w + 13) 0 = 0
        · unfold zSec at k2 ⊢
          rw [if_pos f0] at k2 ⊢
          simp (disch := first | omega | assumption | (simp (disch := omega) only [vup_fn, vup_o, vup_k, vup_at]; first | done | omega | assumption)) only [ze_108_0, ze_108_6, ze_108_24, q1, Int.add_zero, ↓reduceIte, qw_id, zck_T, zck_t, zGor_v, zGor_n, zGor_e, zbs, vup_at, vup_vup, vup_self, vup_o, vup_k, vup_fn, ne_eq, not_true_eq_false, not_false_eq_true, and_true, true_and, and_self, and_false, false_and, or_true, true_or, or_self, or_false, false_or, xlt_t, xlt_f, xle_t, xle_f, xeq_t, xeq_f, xand_f, xor_t]
        · unfold zSec
          rw [if_neg f0]
          simp (disch := first | omega | assumption | (simp (disch := omega) only [vup_fn, vup_o, vup_k, vup_at]; first | done | omega | assumption)) only [ze_108_0, ze_108_6, ze_108_24, q1, Int.add_zero, ↓reduceIte, qw_id, zck_T, zck_t, zGor_v, zGor_n, zGor_e, zbs, vup_at, vup_vup, vup_self, vup_o, vup_k, vup_fn, ne_eq, not_true_eq_false, not_false_eq_true, and_true, true_and, and_self, and_false, false_and, or_true, true_or, or_self, or_false, false_or, xlt_t, xlt_f, xle_t, xle_f, xeq_t, xeq_f, xand_f, xor_t]
      intro J2 d2 hj hi
      have hi2 := zInv_fr (pM_60 (c := gC 1 1 1)) pC_60 hi
      have e1 := sm146 (V := V1) (J := J2) (d := d2) ha hb
      rw [if_pos hp] at e1
      have e3 := sp148 (V := V1) (J := J2) (d := d2) (a := c) (b := 20) (c := 300) hc (by omega) (by omega)
      rw [if_pos (by omega)] at e3
      have e2 := sm150 (V := V1) (J := J2) (d := d2) (p := 1) (q := 1) (r := 1) (by omega) (by omega) (by omega)
      rw [if_pos (show gC 1 1 1 = 0 from rfl)] at e2
      obtain ⟨V3, J3, m1, m2, m3⟩ := mLib (d := d2) hi2 hw12 (by rw [vup_fn (by omega)]; exact q4) (s := 0) (by omega)
      unfold rMus at m3
      rw [show 63 + 15 * w = 50 + 15 * w + 13 by omega, vup_fn (by omega)] at m1 m3
      rw [hwi] at m1
      refine ⟨_, V3, J3, ?_, by rw [m2.2.1 60 (by omega), vup_at]; rfl, pM_t pM_60 (mFm_pM m2), pC_t pC_60 (mFm_pC m2), fun _ => rfl⟩
      have m4 := m3.2.1
      have m5 := m3.2.2.1
      by_cases f0 : V1 (50 + 15 * w + 13) 0 = 0
      · have m6 := m5 f0
        unfold zSec at k2 ⊢
        rw [if_pos f0] at k2 ⊢
        rw [← m4, ← m6] at k1 k2 ⊢
        simp (disch := first | omega | assumption | (simp (disch := omega) only [vup_fn, vup_o, vup_k, vup_at]; first | done | omega | assumption)) only [ze_186_0, ze_186_6, ze_186_15, ze_186_19, ze_186_34, e1, e3, e2, m1, Int.add_zero, ↓reduceIte, qw_id, zck_T, zck_t, zGor_v, zGor_n, zGor_e, zbs, vup_at, vup_vup, vup_self, vup_o, vup_k, vup_fn, ne_eq, not_true_eq_false, not_false_eq_true, and_true, true_and, and_self, and_false, false_and, or_true, true_or, or_self, or_false, false_or, xlt_t, xlt_f, xle_t, xle_f, xeq_t, xeq_f, xand_f, xor_t]
      · unfold zSec
        rw [if_neg f0]
        simp (disch := first | omega | assumption | (simp (disch := omega) only [vup_fn, vup_o, vup_k, vup_at]; first | done | omega | assumption)) only [ze_186_0, ze_186_6, ze_186_15, ze_186_19, ze_186_34, e1, e3, e2, m1, Int.add_zero, ↓reduceIte, qw_id, zck_T, zck_t, zGor_v, zGor_n, zGor_e, zbs, vup_at, vup_vup, vup_self, vup_o, vup_k, vup_fn, ne_eq, not_true_eq_false, not_false_eq_true, and_true, true_and, and_self, and_false, false_and, or_true, true_or, or_self, or_false, false_or, xlt_t, xlt_f, xle_t, xle_f, xeq_t, xeq_f, xand_f, xor_t]
    · right
      refine ⟨1, 1, V1, J1, rfl, ?_, zRnF_of q2 hN ?_⟩
      · by_cases k0 : c < 20
        · simp (disch := first | omega | assumption | (simp (disch := omega) only [vup_fn, vup_o, vup_k, vup_at]; first | done | omega | assumption)) only [ze_108_0, ze_108_6, ze_108_24, q1, Int.add_zero, ↓reduceIte, qw_id, zck_T, zck_t, zGor_v, zGor_n, zGor_e, zbs, vup_at, vup_vup, vup_self, vup_o, vup_k, vup_fn, ne_eq, not_true_eq_false, not_false_eq_true, and_true, true_and, and_self, and_false, false_and, or_true, true_or, or_self, or_false, false_or, xlt_t, xlt_f, xle_t, xle_f, xeq_t, xeq_f, xand_f, xor_t]
        · simp (disch := first | omega | assumption | (simp (disch := omega) only [vup_fn, vup_o, vup_k, vup_at]; first | done | omega | assumption)) only [ze_108_0, ze_108_6, ze_108_24, q1, Int.add_zero, ↓reduceIte, qw_id, zck_T, zck_t, zGor_v, zGor_n, zGor_e, zbs, vup_at, vup_vup, vup_self, vup_o, vup_k, vup_fn, ne_eq, not_true_eq_false, not_false_eq_true, and_true, true_and, and_self, and_false, false_and, or_true, true_or, or_self, or_false, false_or, xlt_t, xlt_f, xle_t, xle_f, xeq_t, xeq_f, xand_f, xor_t]
      intro J2 d2 hj hi
      have e1 := sm146 (V := V1) (J := J2) (d := d2) ha hb
      rw [if_pos hp] at e1
      have e3 := sp148 (V := V1) (J := J2) (d := d2) (a := c) (b := 20) (c := 300) hc (by omega) (by omega)
      rw [if_neg (by omega)] at e3
      have e2 := sm150 (V := V1) (J := J2) (d := d2) (p := 1) (q := 0) (r := 1) (by omega) (by omega) (by omega)
      rw [if_neg (show ¬ gC 1 0 1 = 0 by decide)] at e2
      refine ⟨FP.fconst0, vup V1 430 60 (gC 1 0 1), J2, ?_, vup_at _ _ _ _, pM_60, pC_60, fun w => by omega⟩
      simp (disch := first | omega | assumption | (simp (disch := omega) only [vup_fn, vup_o, vup_k, vup_at]; first | done | omega | assumption)) only [ze_186_0, ze_186_6, ze_186_15, ze_186_19, ze_186_34, e1, e3, e2, Int.add_zero, ↓reduceIte, qw_id, zck_T, zck_t, zGor_v, zGor_n, zGor_e, zbs, vup_at, vup_vup, vup_self, vup_o, vup_k, vup_fn, ne_eq, not_true_eq_false, not_false_eq_true, and_true, true_and, and_self, and_false, false_and, or_true, true_or, or_self, or_false, false_or, xlt_t, xlt_f, xle_t, xle_f, xeq_t, xeq_f, xand_f, xor_t]
  · right
    have e := cp100e (V := V) (J := J) (d := d) ha hb hp
    refine ⟨0, 0, V, J, rfl, ?_, zRnF_of h hN ?_⟩
    · simp (disch := first | omega | assumption | (simp (disch := omega) only [vup_fn, vup_o, vup_k, vup_at]; first | done | omega | assumption)) only [ze_108_0, ze_108_6, ze_108_24, e, Int.add_zero, ↓reduceIte, qw_id, zck_T, zck_t, zGor_v, zGor_n, zGor_e, zbs, vup_at, vup_vup, vup_self, vup_o, vup_k, vup_fn, ne_eq, not_true_eq_false, not_false_eq_true, and_true, true_and, and_self, and_false, false_and, or_true, true_or, or_self, or_false, false_or, xlt_t, xlt_f, xle_t, xle_f, xeq_t, xeq_f, xand_f, xor_t]
    intro J2 d2 hj hi
    have e1 := sm146 (V := V) (J := J2) (d := d2) ha hb
    rw [if_neg hp] at e1
    have e3 := sp148 (V := V) (J := J2) (d := d2) (a := c) (b := 20) (c := 300) hc (by omega) (by omega)
    by_cases hk : 20 ≤ c ∧ c ≤ 300
    · rw [if_pos (by omega)] at e3
      have e2 := sm150 (V := V) (J := J2) (d := d2) (p := 0) (q := 1) (r := 1) (by omega) (by omega) (by omega)
      rw [if_neg (show ¬ gC 0 1 1 = 0 by decide)] at e2
      refine ⟨FP.fconst0, vup V 430 60 (gC 0 1 1), J2, ?_, vup_at _ _ _ _, pM_60, pC_60, fun w => by omega⟩
      simp (disch := first | omega | assumption | (simp (disch := omega) only [vup_fn, vup_o, vup_k, vup_at]; first | done | omega | assumption)) only [ze_186_0, ze_186_6, ze_186_15, ze_186_19, ze_186_34, e1, e3, e2, Int.add_zero, ↓reduceIte, qw_id, zck_T, zck_t, zGor_v, zGor_n, zGor_e, zbs, vup_at, vup_vup, vup_self, vup_o, vup_k, vup_fn, ne_eq, not_true_eq_false, not_false_eq_true, and_true, true_and, and_self, and_false, false_and, or_true, true_or, or_self, or_false, false_or, xlt_t, xlt_f, xle_t, xle_f, xeq_t, xeq_f, xand_f, xor_t]
    · rw [if_neg (by omega)] at e3
      have e2 := sm150 (V := V) (J := J2) (d := d2) (p := 0) (q := 0) (r := 1) (by omega) (by omega) (by omega)
      rw [if_neg (show ¬ gC 0 0 1 = 0 by decide)] at e2
      refine ⟨FP.fconst0, vup V 430 60 (gC 0 0 1), J2, ?_, vup_at _ _ _ _, pM_60, pC_60, fun w => by omega⟩
      simp (disch := first | omega | assumption | (simp (disch := omega) only [vup_fn, vup_o, vup_k, vup_at]; first | done | omega | assumption)) only [ze_186_0, ze_186_6, ze_186_15, ze_186_19, ze_186_34, e1, e3, e2, Int.add_zero, ↓reduceIte, qw_id, zck_T, zck_t, zGor_v, zGor_n, zGor_e, zbs, vup_at, vup_vup, vup_self, vup_o, vup_k, vup_fn, ne_eq, not_true_eq_false, not_false_eq_true, and_true, true_and, and_self, and_false, false_and, or_true, true_or, or_self, or_false, false_or, xlt_t, xlt_f, xle_t, xle_f, xeq_t, xeq_f, xand_f, xor_t]
end
