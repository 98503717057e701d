/-! part 84: a correction is pencilled: its form; the invariant -/
abbrev oL (v : Int) : Prop := v = 1 ∨ v = 2 ∨ v = 3 ∨ v = 4 ∨ v = 6 ∨ v = 8 ∨ v = 12 ∨ v = 16 ∨ v = 24
abbrev oV (m v : Int) : Prop := (0 ≤ m ∧ m ≤ 4) ∧ (v = 100 ∨ m = 0 ∧ 0 ≤ v ∧ v ≤ 2 ∨ m = 1 ∧ -9 ≤ v ∧ v ≤ 19 ∨ m = 2 ∧ 0 ≤ v ∧ v ≤ 3 ∨ m = 3 ∧ oL v ∨ m = 4 ∧ 0 ≤ v ∧ v ≤ 1)
abbrev oF (m t : Int) : Prop := m = 0 ∧ t = 0 ∨ m ≠ 0 ∧ (t = 3 ∨ m = 3 ∧ t = 4)
section
variable {V : zVt} {J : zJt} {d : Nat → Nat → UInt64}
theorem sp6 {v : Int} (hv : -2147483648 ≤ v ∧ v < 2147483648) : zGo false 6 0 [.ref 3, .int (zi v)] [] (zm V J d) = zI1 (if oL v then 1 else 0) V J d := by
  by_cases h : oL v
  · rw [if_pos h]
    unfold oL at h
    rcases h with h | h | h | h | h | h | h | h | h
    · simp (disch := first | omega | assumption | (simp (disch := omega) only [vup_fn, vup_o, vup_k, vup_at]; first | done | omega | assumption)) only [ze_6_0, Int.add_zero, ↓reduceIte, qw_id, zck_T, zck_t, zGor_v, zGor_n, zGor_e, zbs, vup_at, vup_vup, vup_self, vup_o, vup_k, vup_fn, ne_eq, not_true_eq_false, not_false_eq_true, and_true, true_and, and_self, and_false, false_and, or_true, true_or, or_self, or_false, false_or, xlt_t, xlt_f, xle_t, xle_f, xeq_t, xeq_f, xand_f, xor_t]
    · simp (disch := first | omega | assumption | (simp (disch := omega) only [vup_fn, vup_o, vup_k, vup_at]; first | done | omega | assumption)) only [ze_6_0, Int.add_zero, ↓reduceIte, qw_id, zck_T, zck_t, zGor_v, zGor_n, zGor_e, zbs, vup_at, vup_vup, vup_self, vup_o, vup_k, vup_fn, ne_eq, not_true_eq_false, not_false_eq_true, and_true, true_and, and_self, and_false, false_and, or_true, true_or, or_self, or_false, false_or, xlt_t, xlt_f, xle_t, xle_f, xeq_t, xeq_f, xand_f, xor_t]
    · simp (disch := first | omega | assumption | (simp (disch := omega) only [vup_fn, vup_o, vup_k, vup_at]; first | done | omega | assumption)) only [ze_6_0, Int.add_zero, ↓reduceIte, qw_id, zck_T, zck_t, zGor_v, zGor_n, zGor_e, zbs, vup_at, vup_vup, vup_self, vup_o, vup_k, vup_fn, ne_eq, not_true_eq_false, not_false_eq_true, and_true, true_and, and_self, and_false, false_and, or_true, true_or, or_self, or_false, false_or, xlt_t, xlt_f, xle_t, xle_f, xeq_t, xeq_f, xand_f, xor_t]
    · simp (disch := first | omega | assumption | (simp (disch := omega) only [vup_fn, vup_o, vup_k, vup_at]; first | done | omega | assumption)) only [ze_6_0, Int.add_zero, ↓reduceIte, qw_id, zck_T, zck_t, zGor_v, zGor_n, zGor_e, zbs, vup_at, vup_vup, vup_self, vup_o, vup_k, vup_fn, ne_eq, not_true_eq_false, not_false_eq_true, and_true, true_and, and_self, and_false, false_and, or_true, true_or, or_self, or_false, false_or, xlt_t, xlt_f, xle_t, xle_f, xeq_t, xeq_f, xand_f, xor_t]
    · simp (disch := first | omega | assumption | (simp (disch := omega) only [vup_fn, vup_o, vup_k, vup_at]; first | done | omega | assumption)) only [ze_6_0, Int.add_zero, ↓reduceIte, qw_id, zck_T, zck_t, zGor_v, zGor_n, zGor_e, zbs, vup_at, vup_vup, vup_self, vup_o, vup_k, vup_fn, ne_eq, not_true_eq_false, not_false_eq_true, and_true, true_and, and_self, and_false, false_and, or_true, true_or, or_self, or_false, false_or, xlt_t, xlt_f, xle_t, xle_f, xeq_t, xeq_f, xand_f, xor_t]
    · simp (disch := first | omega | assumption | (simp (disch := omega) only [vup_fn, vup_o, vup_k, vup_at]; first | done | omega | assumption)) only [ze_6_0, Int.add_zero, ↓reduceIte, qw_id, zck_T, zck_t, zGor_v, zGor_n, zGor_e, zbs, vup_at, vup_vup, vup_self, vup_o, vup_k, vup_fn, ne_eq, not_true_eq_false, not_false_eq_true, and_true, true_and, and_self, and_false, false_and, or_true, true_or, or_self, or_false, false_or, xlt_t, xlt_f, xle_t, xle_f, xeq_t, xeq_f, xand_f, xor_t]
    · simp (disch := first | omega | assumption | (simp (disch := omega) only [vup_fn, vup_o, vup_k, vup_at]; first | done | omega | assumption)) only [ze_6_0, Int.add_zero, ↓reduceIte, qw_id, zck_T, zck_t, zGor_v, zGor_n, zGor_e, zbs, vup_at, vup_vup, vup_self, vup_o, vup_k, vup_fn, ne_eq, not_true_eq_false, not_false_eq_true, and_true, true_and, and_self, and_false, false_and, or_true, true_or, or_self, or_false, false_or, xlt_t, xlt_f, xle_t, xle_f, xeq_t, xeq_f, xand_f, xor_t]
    · simp (disch := first | omega | assumption | (simp (disch := omega) only [vup_fn, vup_o, vup_k, vup_at]; first | done | omega | assumption)) only [ze_6_0, Int.add_zero, ↓reduceIte, qw_id, zck_T, zck_t, zGor_v, zGor_n, zGor_e, zbs, vup_at, vup_vup, vup_self, vup_o, vup_k, vup_fn, ne_eq, not_true_eq_false, not_false_eq_true, and_true, true_and, and_self, and_false, false_and, or_true, true_or, or_self, or_false, false_or, xlt_t, xlt_f, xle_t, xle_f, xeq_t, xeq_f, xand_f, xor_t]
    · simp (disch := first | omega | assumption | (simp (disch := omega) only [vup_fn, vup_o, vup_k, vup_at]; first | done | omega | assumption)) only [ze_6_0, Int.add_zero, ↓reduceIte, qw_id, zck_T, zck_t, zGor_v, zGor_n, zGor_e, zbs, vup_at, vup_vup, vup_self, vup_o, vup_k, vup_fn, ne_eq, not_true_eq_false, not_false_eq_true, and_true, true_and, and_self, and_false, false_and, or_true, true_or, or_self, or_false, false_or, xlt_t, xlt_f, xle_t, xle_f, xeq_t, xeq_f, xand_f, xor_t]
  · rw [if_neg h]
    unfold oL at h
    simp (disch := first | omega | assumption | (simp (disch := omega) only [vup_fn, vup_o, vup_k, vup_at]; first | done | omega | assumption)) only [ze_6_0, ite_self, Int.add_zero, ↓reduceIte, qw_id, zck_T, zck_t, zGor_v, zGor_n, zGor_e, zbs, vup_at, vup_vup, vup_self, vup_o, vup_k, vup_fn, ne_eq, not_true_eq_false, not_false_eq_true, and_true, true_and, and_self, and_false, false_and, or_true, true_or, or_self, or_false, false_or, xlt_t, xlt_f, xle_t, xle_f, xeq_t, xeq_f, xand_f, xor_t]
theorem sp5 {m v : Int} (hm : -2147483648 ≤ m ∧ m < 2147483648) (hv : -2147483648 ≤ v ∧ v < 2147483648) : zGo false 5 0 [.ref 3, .int (zi m), .int (zi v)] [] (zm V J d) = zI1 (if oV m v then 1 else 0) V J d := by
  have e6 := sp6 (V := V) (J := J) (d := d) hv
  by_cases hr : 0 ≤ m ∧ m ≤ 4
  · by_cases h100 : v = 100
    · rw [if_pos ⟨hr, Or.inl h100⟩]
      simp (disch := first | omega | assumption | (simp (disch := omega) only [vup_fn, vup_o, vup_k, vup_at]; first | done | omega | assumption)) only [ze_5_0, ze_5_9, ze_5_65, ze_5_66, ze_5_83, ze_5_84, ze_5_98, ze_5_99, ze_5_105, ze_5_115, ze_5_120, Int.add_zero, ↓reduceIte, qw_id, zck_T, zck_t, zGor_v, zGor_n, zGor_e, zbs, vup_at, vup_vup, vup_self, vup_o, vup_k, vup_fn, ne_eq, not_true_eq_false, not_false_eq_true, and_true, true_and, and_self, and_false, false_and, or_true, true_or, or_self, or_false, false_or, xlt_t, xlt_f, xle_t, xle_f, xeq_t, xeq_f, xand_f, xor_t]
    · by_cases m0 : m = 0
      · by_cases q : 0 ≤ v ∧ v ≤ 2
        · rw [if_pos (show oV m v by unfold oV; omega)]
          simp (disch := first | omega | assumption | (simp (disch := omega) only [vup_fn, vup_o, vup_k, vup_at]; first | done | omega | assumption)) only [ze_5_0, ze_5_9, ze_5_65, ze_5_66, ze_5_83, ze_5_84, ze_5_98, ze_5_99, ze_5_105, ze_5_115, ze_5_120, Int.add_zero, ↓reduceIte, qw_id, zck_T, zck_t, zGor_v, zGor_n, zGor_e, zbs, vup_at, vup_vup, vup_self, vup_o, vup_k, vup_fn, ne_eq, not_true_eq_false, not_false_eq_true, and_true, true_and, and_self, and_false, false_and, or_true, true_or, or_self, or_false, false_or, xlt_t, xlt_f, xle_t, xle_f, xeq_t, xeq_f, xand_f, xor_t]
        · rw [if_neg (show ¬ oV m v by unfold oV; omega)]
          by_cases q2 : v < 0
          · simp (disch := first | omega | assumption | (simp (disch := omega) only [vup_fn, vup_o, vup_k, vup_at]; first | done | omega | assumption)) only [ze_5_0, ze_5_9, ze_5_65, ze_5_66, ze_5_83, ze_5_84, ze_5_98, ze_5_99, ze_5_105, ze_5_115, ze_5_120, Int.add_zero, ↓reduceIte, qw_id, zck_T, zck_t, zGor_v, zGor_n, zGor_e, zbs, vup_at, vup_vup, vup_self, vup_o, vup_k, vup_fn, ne_eq, not_true_eq_false, not_false_eq_true, and_true, true_and, and_self, and_false, false_and, or_true, true_or, or_self, or_false, false_or, xlt_t, xlt_f, xle_t, xle_f, xeq_t, xeq_f, xand_f, xor_t]
          · simp (disch := first | omega | assumption | (simp (disch := omega) only [vup_fn, vup_o, vup_k, vup_at]; first | done | omega | assumption)) only [ze_5_0, ze_5_9, ze_5_65, ze_5_66, ze_5_83, ze_5_84, ze_5_98, ze_5_99, ze_5_105, ze_5_115, ze_5_120, Int.add_zero, ↓reduceIte, qw_id, zck_T, zck_t, zGor_v, zGor_n, zGor_e, zbs, vup_at, vup_vup, vup_self, vup_o, vup_k, vup_fn, ne_eq, not_true_eq_false, not_false_eq_true, and_true, true_and, and_self, and_false, false_and, or_true, true_or, or_self, or_false, false_or, xlt_t, xlt_f, xle_t, xle_f, xeq_t, xeq_f, xand_f, xor_t]
      · by_cases m1 : m = 1
        · by_cases q : -9 ≤ v ∧ v ≤ 19
          · rw [if_pos (show oV m v by unfold oV; omega)]
            simp (disch := first | omega | assumption | (simp (disch := omega) only [vup_fn, vup_o, vup_k, vup_at]; first | done | omega | assumption)) only [ze_5_0, ze_5_9, ze_5_65, ze_5_66, ze_5_83, ze_5_84, ze_5_98, ze_5_99, ze_5_105, ze_5_115, ze_5_120, Int.add_zero, ↓reduceIte, qw_id, zck_T, zck_t, zGor_v, zGor_n, zGor_e, zbs, vup_at, vup_vup, vup_self, vup_o, vup_k, vup_fn, ne_eq, not_true_eq_false, not_false_eq_true, and_true, true_and, and_self, and_false, false_and, or_true, true_or, or_self, or_false, false_or, xlt_t, xlt_f, xle_t, xle_f, xeq_t, xeq_f, xand_f, xor_t]
          · rw [if_neg (show ¬ oV m v by unfold oV; omega)]
            by_cases q2 : v < -9
            · simp (disch := first | omega | assumption | (simp (disch := omega) only [vup_fn, vup_o, vup_k, vup_at]; first | done | omega | assumption)) only [ze_5_0, ze_5_9, ze_5_65, ze_5_66, ze_5_83, ze_5_84, ze_5_98, ze_5_99, ze_5_105, ze_5_115, ze_5_120, Int.add_zero, ↓reduceIte, qw_id, zck_T, zck_t, zGor_v, zGor_n, zGor_e, zbs, vup_at, vup_vup, vup_self, vup_o, vup_k, vup_fn, ne_eq, not_true_eq_false, not_false_eq_true, and_true, true_and, and_self, and_false, false_and, or_true, true_or, or_self, or_false, false_or, xlt_t, xlt_f, xle_t, xle_f, xeq_t, xeq_f, xand_f, xor_t]
            · simp (disch := first | omega | assumption | (simp (disch := omega) only [vup_fn, vup_o, vup_k, vup_at]; first | done | omega | assumption)) only [ze_5_0, ze_5_9, ze_5_65, ze_5_66, ze_5_83, ze_5_84, ze_5_98, ze_5_99, ze_5_105, ze_5_115, ze_5_120, Int.add_zero, ↓reduceIte, qw_id, zck_T, zck_t, zGor_v, zGor_n, zGor_e, zbs, vup_at, vup_vup, vup_self, vup_o, vup_k, vup_fn, ne_eq, not_true_eq_false, not_false_eq_true, and_true, true_and, and_self, and_false, false_and, or_true, true_or, or_self, or_false, false_or, xlt_t, xlt_f, xle_t, xle_f, xeq_t, xeq_f, xand_f, xor_t]
        · by_cases m2 : m = 2
          · by_cases q : 0 ≤ v ∧ v ≤ 3
            · rw [if_pos (show oV m v by unfold oV; omega)]
              simp (disch := first | omega | assumption | (simp (disch := omega) only [vup_fn, vup_o, vup_k, vup_at]; first | done | omega | assumption)) only [ze_5_0, ze_5_9, ze_5_65, ze_5_66, ze_5_83, ze_5_84, ze_5_98, ze_5_99, ze_5_105, ze_5_115, ze_5_120, Int.add_zero, ↓reduceIte, qw_id, zck_T, zck_t, zGor_v, zGor_n, zGor_e, zbs, vup_at, vup_vup, vup_self, vup_o, vup_k, vup_fn, ne_eq, not_true_eq_false, not_false_eq_true, and_true, true_and, and_self, and_false, false_and, or_true, true_or, or_self, or_false, false_or, xlt_t, xlt_f, xle_t, xle_f, xeq_t, xeq_f, xand_f, xor_t]
            · rw [if_neg (show ¬ oV m v by unfold oV; omega)]
              by_cases q2 : v < 0
              · simp (disch := first | omega | assumption | (simp (disch := omega) only [vup_fn, vup_o, vup_k, vup_at]; first | done | omega | assumption)) only [ze_5_0, ze_5_9, ze_5_65, ze_5_66, ze_5_83, ze_5_84, ze_5_98, ze_5_99, ze_5_105, ze_5_115, ze_5_120, Int.add_zero, ↓reduceIte, qw_id, zck_T, zck_t, zGor_v, zGor_n, zGor_e, zbs, vup_at, vup_vup, vup_self, vup_o, vup_k, vup_fn, ne_eq, not_true_eq_false, not_false_eq_true, and_true, true_and, and_self, and_false, false_and, or_true, true_or, or_self, or_false, false_or, xlt_t, xlt_f, xle_t, xle_f, xeq_t, xeq_f, xand_f, xor_t]
              · simp (disch := first | omega | assumption | (simp (disch := omega) only [vup_fn, vup_o, vup_k, vup_at]; first | done | omega | assumption)) only [ze_5_0, ze_5_9, ze_5_65, ze_5_66, ze_5_83, ze_5_84, ze_5_98, ze_5_99, ze_5_105, ze_5_115, ze_5_120, Int.add_zero, ↓reduceIte, qw_id, zck_T, zck_t, zGor_v, zGor_n, zGor_e, zbs, vup_at, vup_vup, vup_self, vup_o, vup_k, vup_fn, ne_eq, not_true_eq_false, not_false_eq_true, and_true, true_and, and_self, and_false, false_and, or_true, true_or, or_self, or_false, false_or, xlt_t, xlt_f, xle_t, xle_f, xeq_t, xeq_f, xand_f, xor_t]
          · by_cases m3 : m = 3
            · by_cases q : oL v
              · rw [if_pos q] at e6
                rw [if_pos (show oV m v by unfold oV; exact ⟨hr, Or.inr (Or.inr (Or.inr (Or.inr (Or.inl ⟨m3, q⟩))))⟩)]
                simp (disch := first | omega | assumption | (simp (disch := omega) only [vup_fn, vup_o, vup_k, vup_at]; first | done | omega | assumption)) only [ze_5_0, ze_5_9, ze_5_65, ze_5_66, ze_5_83, ze_5_84, ze_5_98, ze_5_99, ze_5_105, ze_5_115, ze_5_120, e6, Int.add_zero, ↓reduceIte, qw_id, zck_T, zck_t, zGor_v, zGor_n, zGor_e, zbs, vup_at, vup_vup, vup_self, vup_o, vup_k, vup_fn, ne_eq, not_true_eq_false, not_false_eq_true, and_true, true_and, and_self, and_false, false_and, or_true, true_or, or_self, or_false, false_or, xlt_t, xlt_f, xle_t, xle_f, xeq_t, xeq_f, xand_f, xor_t]
              · rw [if_neg q] at e6
                rw [if_neg (show ¬ oV m v by unfold oV; rintro ⟨_, r⟩; rcases r with r | r | r | r | r | r <;> first | omega | exact q r.2)]
                simp (disch := first | omega | assumption | (simp (disch := omega) only [vup_fn, vup_o, vup_k, vup_at]; first | done | omega | assumption)) only [ze_5_0, ze_5_9, ze_5_65, ze_5_66, ze_5_83, ze_5_84, ze_5_98, ze_5_99, ze_5_105, ze_5_115, ze_5_120, e6, Int.add_zero, ↓reduceIte, qw_id, zck_T, zck_t, zGor_v, zGor_n, zGor_e, zbs, vup_at, vup_vup, vup_self, vup_o, vup_k, vup_fn, ne_eq, not_true_eq_false, not_false_eq_true, and_true, true_and, and_self, and_false, false_and, or_true, true_or, or_self, or_false, false_or, xlt_t, xlt_f, xle_t, xle_f, xeq_t, xeq_f, xand_f, xor_t]
            · by_cases q : 0 ≤ v ∧ v ≤ 1
              · rw [if_pos (show oV m v by unfold oV; omega)]
                by_cases q2 : v = 0
                · simp (disch := first | omega | assumption | (simp (disch := omega) only [vup_fn, vup_o, vup_k, vup_at]; first | done | omega | assumption)) only [ze_5_0, ze_5_9, ze_5_65, ze_5_66, ze_5_83, ze_5_84, ze_5_98, ze_5_99, ze_5_105, ze_5_115, ze_5_120, Int.add_zero, ↓reduceIte, qw_id, zck_T, zck_t, zGor_v, zGor_n, zGor_e, zbs, vup_at, vup_vup, vup_self, vup_o, vup_k, vup_fn, ne_eq, not_true_eq_false, not_false_eq_true, and_true, true_and, and_self, and_false, false_and, or_true, true_or, or_self, or_false, false_or, xlt_t, xlt_f, xle_t, xle_f, xeq_t, xeq_f, xand_f, xor_t]
                · simp (disch := first | omega | assumption | (simp (disch := omega) only [vup_fn, vup_o, vup_k, vup_at]; first | done | omega | assumption)) only [ze_5_0, ze_5_9, ze_5_65, ze_5_66, ze_5_83, ze_5_84, ze_5_98, ze_5_99, ze_5_105, ze_5_115, ze_5_120, Int.add_zero, ↓reduceIte, qw_id, zck_T, zck_t, zGor_v, zGor_n, zGor_e, zbs, vup_at, vup_vup, vup_self, vup_o, vup_k, vup_fn, ne_eq, not_true_eq_false, not_false_eq_true, and_true, true_and, and_self, and_false, false_and, or_true, true_or, or_self, or_false, false_or, xlt_t, xlt_f, xle_t, xle_f, xeq_t, xeq_f, xand_f, xor_t]
              · rw [if_neg (show ¬ oV m v by unfold oV; rintro ⟨_, r⟩; rcases r with r | r | r | r | r | r <;> omega)]
                simp (disch := first | omega | assumption | (simp (disch := omega) only [vup_fn, vup_o, vup_k, vup_at]; first | done | omega | assumption)) only [ze_5_0, ze_5_9, ze_5_65, ze_5_66, ze_5_83, ze_5_84, ze_5_98, ze_5_99, ze_5_105, ze_5_115, ze_5_120, Int.add_zero, ↓reduceIte, qw_id, zck_T, zck_t, zGor_v, zGor_n, zGor_e, zbs, vup_at, vup_vup, vup_self, vup_o, vup_k, vup_fn, ne_eq, not_true_eq_false, not_false_eq_true, and_true, true_and, and_self, and_false, false_and, or_true, true_or, or_self, or_false, false_or, xlt_t, xlt_f, xle_t, xle_f, xeq_t, xeq_f, xand_f, xor_t]
  · rw [if_neg (fun w => hr w.1)]
    by_cases q2 : m < 0
    · simp (disch := first | omega | assumption | (simp (disch := omega) only [vup_fn, vup_o, vup_k, vup_at]; first | done | omega | assumption)) only [ze_5_0, ze_5_9, ze_5_65, ze_5_66, ze_5_83, ze_5_84, ze_5_98, ze_5_99, ze_5_105, ze_5_115, ze_5_120, Int.add_zero, ↓reduceIte, qw_id, zck_T, zck_t, zGor_v, zGor_n, zGor_e, zbs, vup_at, vup_vup, vup_self, vup_o, vup_k, vup_fn, ne_eq, not_true_eq_false, not_false_eq_true, and_true, true_and, and_self, and_false, false_and, or_true, true_or, or_self, or_false, false_or, xlt_t, xlt_f, xle_t, xle_f, xeq_t, xeq_f, xand_f, xor_t]
    · simp (disch := first | omega | assumption | (simp (disch := omega) only [vup_fn, vup_o, vup_k, vup_at]; first | done | omega | assumption)) only [ze_5_0, ze_5_9, ze_5_65, ze_5_66, ze_5_83, ze_5_84, ze_5_98, ze_5_99, ze_5_105, ze_5_115, ze_5_120, Int.add_zero, ↓reduceIte, qw_id, zck_T, zck_t, zGor_v, zGor_n, zGor_e, zbs, vup_at, vup_vup, vup_self, vup_o, vup_k, vup_fn, ne_eq, not_true_eq_false, not_false_eq_true, and_true, true_and, and_self, and_false, false_and, or_true, true_or, or_self, or_false, false_or, xlt_t, xlt_f, xle_t, xle_f, xeq_t, xeq_f, xand_f, xor_t]
theorem sp7 {m t : Int} (hm : -2147483648 ≤ m ∧ m < 2147483648) (ht : -2147483648 ≤ t ∧ t < 2147483648) : zGo false 7 0 [.ref 3, .int (zi m), .int (zi t)] [] (zm V J d) = zI1 (if oF m t then 1 else 0) V J d := by
  by_cases m0 : m = 0
  · by_cases q : t = 0
    · rw [if_pos (Or.inl ⟨m0, q⟩)]
      simp (disch := first | omega | assumption | (simp (disch := omega) only [vup_fn, vup_o, vup_k, vup_at]; first | done | omega | assumption)) only [ze_7_0, ze_7_13, ze_7_29, ze_7_33, ze_7_34, Int.add_zero, ↓reduceIte, qw_id, zck_T, zck_t, zGor_v, zGor_n, zGor_e, zbs, vup_at, vup_vup, vup_self, vup_o, vup_k, vup_fn, ne_eq, not_true_eq_false, not_false_eq_true, and_true, true_and, and_self, and_false, false_and, or_true, true_or, or_self, or_false, false_or, xlt_t, xlt_f, xle_t, xle_f, xeq_t, xeq_f, xand_f, xor_t]
    · rw [if_neg (show ¬ oF m t by unfold oF; omega)]
      simp (disch := first | omega | assumption | (simp (disch := omega) only [vup_fn, vup_o, vup_k, vup_at]; first | done | omega | assumption)) only [ze_7_0, ze_7_13, ze_7_29, ze_7_33, ze_7_34, Int.add_zero, ↓reduceIte, qw_id, zck_T, zck_t, zGor_v, zGor_n, zGor_e, zbs, vup_at, vup_vup, vup_self, vup_o, vup_k, vup_fn, ne_eq, not_true_eq_false, not_false_eq_true, and_true, true_and, and_self, and_false, false_and, or_true, true_or, or_self, or_false, false_or, xlt_t, xlt_f, xle_t, xle_f, xeq_t, xeq_f, xand_f, xor_t]
  · by_cases q : t = 3
    · rw [if_pos (Or.inr ⟨m0, Or.inl q⟩)]
      simp (disch := first | omega | assumption | (simp (disch := omega) only [vup_fn, vup_o, vup_k, vup_at]; first | done | omega | assumption)) only [ze_7_0, ze_7_13, ze_7_29, ze_7_33, ze_7_34, Int.add_zero, ↓reduceIte, qw_id, zck_T, zck_t, zGor_v, zGor_n, zGor_e, zbs, vup_at, vup_vup, vup_self, vup_o, vup_k, vup_fn, ne_eq, not_true_eq_false, not_false_eq_true, and_true, true_and, and_self, and_false, false_and, or_true, true_or, or_self, or_false, false_or, xlt_t, xlt_f, xle_t, xle_f, xeq_t, xeq_f, xand_f, xor_t]
    · by_cases m3 : m = 3
      · by_cases q2 : t = 4
        · rw [if_pos (Or.inr ⟨m0, Or.inr ⟨m3, q2⟩⟩)]
          simp (disch := first | omega | assumption | (simp (disch := omega) only [vup_fn, vup_o, vup_k, vup_at]; first | done | omega | assumption)) only [ze_7_0, ze_7_13, ze_7_29, ze_7_33, ze_7_34, Int.add_zero, ↓reduceIte, qw_id, zck_T, zck_t, zGor_v, zGor_n, zGor_e, zbs, vup_at, vup_vup, vup_self, vup_o, vup_k, vup_fn, ne_eq, not_true_eq_false, not_false_eq_true, and_true, true_and, and_self, and_false, false_and, or_true, true_or, or_self, or_false, false_or, xlt_t, xlt_f, xle_t, xle_f, xeq_t, xeq_f, xand_f, xor_t]
        · rw [if_neg (show ¬ oF m t by unfold oF; omega)]
          simp (disch := first | omega | assumption | (simp (disch := omega) only [vup_fn, vup_o, vup_k, vup_at]; first | done | omega | assumption)) only [ze_7_0, ze_7_13, ze_7_29, ze_7_33, ze_7_34, Int.add_zero, ↓reduceIte, qw_id, zck_T, zck_t, zGor_v, zGor_n, zGor_e, zbs, vup_at, vup_vup, vup_self, vup_o, vup_k, vup_fn, ne_eq, not_true_eq_false, not_false_eq_true, and_true, true_and, and_self, and_false, false_and, or_true, true_or, or_self, or_false, false_or, xlt_t, xlt_f, xle_t, xle_f, xeq_t, xeq_f, xand_f, xor_t]
      · rw [if_neg (show ¬ oF m t by unfold oF; omega)]
        simp (disch := first | omega | assumption | (simp (disch := omega) only [vup_fn, vup_o, vup_k, vup_at]; first | done | omega | assumption)) only [ze_7_0, ze_7_13, ze_7_29, ze_7_33, ze_7_34, Int.add_zero, ↓reduceIte, qw_id, zck_T, zck_t, zGor_v, zGor_n, zGor_e, zbs, vup_at, vup_vup, vup_self, vup_o, vup_k, vup_fn, ne_eq, not_true_eq_false, not_false_eq_true, and_true, true_and, and_self, and_false, false_and, or_true, true_or, or_self, or_false, false_or, xlt_t, xlt_f, xle_t, xle_f, xeq_t, xeq_f, xand_f, xor_t]
theorem sp8 {x y z : Int} (h : 0 ≤ V 3 0 ∧ V 3 0 < 200) : zGo false 8 0 [.ref 3, .int (zi x), .int (zi y), .int (zi z)] [] (zm V J d) = zI1 (V 3 0) (vup (vup (vup (vup V 4 (V 3 0) x) 5 (V 3 0) y) 6 (V 3 0) z) 3 0 (V 3 0 + 1)) J d := by
  have e : V 3 0 + 1 - 1 = V 3 0 := by omega
  simp (disch := first | omega | assumption | (simp (disch := omega) only [vup_fn, vup_o, vup_k, vup_at]; first | done | omega | assumption)) only [ze_8_0, e, Int.add_zero, ↓reduceIte, qw_id, zck_T, zck_t, zGor_v, zGor_n, zGor_e, zbs, vup_at, vup_vup, vup_self, vup_o, vup_k, vup_fn, ne_eq, not_true_eq_false, not_false_eq_true, and_true, true_and, and_self, and_false, false_and, or_true, true_or, or_self, or_false, false_or, xlt_t, xlt_f, xle_t, xle_f, xeq_t, xeq_f, xand_f, xor_t]
end
/-! corrections that a set doesn't have -/
theorem aP_x {T : Int → Int} {len n : Int} {H q m v q2 m2 v2 : Int → Int} {cnt : Int} (hc : 0 ≤ cnt) (h0 : H cnt = 0) (h : ∀ c, 0 ≤ c → c < cnt → q2 c = q c ∧ m2 c = m c ∧ v2 c = v c) : aP T len n H q2 m2 v2 (cnt + 1) = aP T len n H q m v cnt := aP_ext (fun k lo hi b => by
  rw [foi_s hc, if_neg (fun w => w.1 h0)]
  exact foi_eq hc (fun c c0 c1 => by
    obtain ⟨e1, e2, e3⟩ := h c c0 c1
    rw [e1, e2, e3]
    exact ⟨Iff.rfl, fun _ => rfl⟩))
theorem aGood_x {T : Int → Int} {n : Int} {H q m v q2 m2 v2 : Int → Int} {cnt : Int} (h0 : H cnt = 0) (hc : cnt < 200) (h : ∀ c, 0 ≤ c → c < cnt → q2 c = q c ∧ m2 c = m c ∧ v2 c = v c) (hg : aGood T H q m v cnt n) : aGood T H q2 m2 v2 (cnt + 1) n := by
  obtain ⟨a1, a2, a3⟩ := hg
  refine ⟨by omega, a2, fun c c0 c1 c2 => ?_⟩
  by_cases e : c = cnt
  · rw [e] at c2
    exact absurd h0 c2
  · obtain ⟨e1, e2, e3⟩ := h c c0 (by omega)
    rw [e1, e2, e3]
    exact a3 c c0 (by omega) c2
section
variable {V V' : zVt} {J J' : zJt}
theorem iMs_x {M w : Nat} {H : Int → Int} (h1 : V' M = V M) (h2 : J' (M + 1) = J (M + 1)) (h3 : V' 481 = V 481) (h4 : V' 432 = V 432) (hc : 0 ≤ V 3 0 ∧ V 3 0 < 200) (h5 : V' 3 0 = V 3 0 + 1) (h6 : ∀ c, 0 ≤ c → c < V 3 0 → V' 4 c = V 4 c ∧ V' 5 c = V 5 c ∧ V' 6 c = V 6 c) (h0 : H (V 3 0) = 0) (h : iMs V J M w H) : iMs V' J' M w H := by
  obtain ⟨n, b, F, A, fa, hx, hg, hm⟩ := h
  refine ⟨n, b, F, A, fa, ?_, ?_, ?_⟩
  · rw [yTt_fr h3 h4, h4]
    exact hx
  · rw [yTt_fr h3 h4, h5]
    exact fun q => aGood_x h0 hc.2 h6 (hg q)
  · unfold cMus at *
    rw [h1, h2, yTt_fr h3 h4, h4, h5, aP_x hc.1 h0 h6]
    exact hm
theorem zInv_pc {N : Int} {k : Nat} {t m v : Int} (h : zInv N V J) (hk : (k : Int) < V 480 37) (hcn : V 3 0 < 200)
    (hf : ∀ o : Nat, ¬(230 + 5 * k ≤ o ∧ o ≤ 233 + 5 * k) → ¬(3 ≤ o ∧ o ≤ 36) → o ≠ 480 → ¬(433 ≤ o ∧ o ≤ 453) → ¬(456 ≤ o ∧ o ≤ 459) → V' o = V o) (hj : ∀ o : Nat, o ≠ 234 + 5 * k → o ≤ 473 → o ≠ 451 → o ≠ 452 → J' o = J o) (h30 : V' 3 0 = V 3 0 + 1) (h4 : ∀ c, V' 4 c = if c = V 3 0 then t else V 4 c) (h5 : ∀ c, V' 5 c = if c = V 3 0 then m else V 5 c) (h6 : ∀ c, V' 6 c = if c = V 3 0 then v else V 6 c) (h457 : V' 457 = V' 4) (h458 : V' 458 = V' 5) (h459 : V' 459 = V' 6) (h456 : ∀ x : Int, V' 456 x = if x = 200 * k + V 3 0 then 1 else V 456 x) (hC : V' (230 + 5 * k) = V (230 + 5 * k)) (hR : V' (232 + 5 * k) = vup V (232 + 5 * k) (V 3 0) 1 (232 + 5 * k)) (hS : V' (231 + 5 * k) 1 = V (231 + 5 * k) 1 + 1) (hms : iMs V' J' (233 + 5 * k) (V 454 k).toNat (V' (232 + 5 * k))) (h480 : V' 480 37 = V 480 37 ∧ V' 480 42 = V 480 42 + 1 ∧ V' 480 46 = V 480 46 ∧ V' 480 52 = V 480 52 ∧ V' 480 59 = V 480 59) : zInv N V' J' := by
  obtain ⟨a1, a2, a3, a4, a5, a6, a7, a8, a9, a10⟩ := h
  have hc4 : k < 40 := by omega
  have hn : V 3 0 = V 480 42 := a2.2.1
  have h0n : 0 ≤ V 3 0 := by have := a2.1; omega
  have f481 : V' 481 = V 481 := hf _ (by omega) (by omega) (by omega) (by omega) (by omega)
  have f432 : V' 432 = V 432 := hf _ (by omega) (by omega) (by omega) (by omega) (by omega)
  have f454 : V' 454 = V 454 := hf _ (by omega) (by omega) (by omega) (by omega) (by omega)
  have f455 : V' 455 = V 455 := hf _ (by omega) (by omega) (by omega) (by omega) (by omega)
  have fr : ∀ o : Nat, 37 ≤ o → o < 230 → V' o = V o := fun o _ _ => hf _ (by omega) (by omega) (by omega) (by omega) (by omega)
  have fh : ∀ o : Nat, (460 ≤ o ∧ o ≠ 480) → V' o = V o := fun o _ => hf _ (by omega) (by omega) (by omega) (by omega) (by omega)
  have fc : ∀ j : Nat, j < 40 → j ≠ k → ∀ o : Nat, 230 + 5 * j ≤ o → o < 235 + 5 * j → V' o = V o := fun j _ _ o _ _ => hf _ (by omega) (by omega) (by omega) (by omega) (by omega)
  have h456' : ∀ c, 0 ≤ c → c < V 3 0 → V' 4 c = V 4 c ∧ V' 5 c = V 5 c ∧ V' 6 c = V 6 c := fun c c0 c1 => ⟨by rw [h4, if_neg (by omega)], by rw [h5, if_neg (by omega)], by rw [h6, if_neg (by omega)]⟩
  have hcr : 0 ≤ V 3 0 ∧ V 3 0 < 200 := ⟨h0n, hcn⟩
  have hmf : ∀ (M : Nat) (e : Int), (e < k ∨ (k : Int) < e) → V' M = V M → V' (M + 1) = V (M + 1) → iMk V M e → iMk V' M e := fun M e he m1 m2 m3 => by
    unfold iMk at *
    rw [m1, m2, h480.2.1]
    refine ⟨fun x x0 x1 => ?_, m3.2⟩
    rw [h456, if_neg (by omega)]
    have q := m3.1 x x0 x1
    exact ⟨q.1, q.2.1, fun r => q.2.2 (by omega)⟩
  refine ⟨?_, ?_, ?_, ?_, ?_, ?_, ?_, ?_, ?_, a10⟩
  · unfold iTxt at *
    rw [f481, f432]
    refine ⟨a1.1, fun w w1 => ?_⟩
    rw [fr (50 + 15 * w) (by omega) (by omega), fr (51 + 15 * w) (by omega) (by omega)]
    exact a1.2 w w1
  · unfold iCor at *
    rw [h480.2.1, h30, h457, h458, h459]
    exact ⟨by omega, by omega, rfl, rfl, rfl⟩
  · intro w w1
    obtain ⟨b1, b2, b3, b4, b5, b6, b7⟩ := a3 w w1
    have z62 : V (62 + 15 * w) (V 3 0) = 0 := by
      have q := b4.1 (V 3 0) h0n hcn
      rw [show 61 + 15 * w + 1 = 62 + 15 * w by omega] at q
      exact q.2.2 (by omega)
    unfold iPart
    rw [fr (50 + 15 * w) (by omega) (by omega), fr (62 + 15 * w) (by omega) (by omega), h480.1, f454]
    refine ⟨b1, b2, b3, hmf _ _ (by omega) (fr _ (by omega) (by omega)) (fr _ (by omega) (by omega)) b4, b5, fun q => ?_, b7⟩
    obtain ⟨⟨n, b, F, A, fa, c1, c2, c3⟩, c4⟩ := b6 q
    refine ⟨⟨n, b, F, A, fa, ?_, ?_, ?_⟩, ?_⟩
    · rw [yTt_fr f481 f432, f432]
      exact cRow_fr (fun o o1 o2 => fr o (by omega) (by omega)) c1
    · rw [yTt_fr f481 f432, f432, fr (50 + 15 * w) (by omega) (by omega), h30, aP_x h0n rfl h456']
      exact c2
    · rw [yTt_fr f481 f432, f432, fr (50 + 15 * w) (by omega) (by omega), h30, aP_x h0n rfl h456']
      exact c3
    · rw [fr (62 + 15 * w) (by omega) (by omega)]
      exact iMs_x (fr _ (by omega) (by omega)) (hj _ (by omega) (by omega) (by omega) (by omega)) f481 f432 hcr h30 h456' z62 c4
  · rw [h480.1, hf 0 (by omega) (by omega) (by omega) (by omega) (by omega)]
    exact a4
  · intro j j1
    obtain ⟨b1, b2, b3⟩ := a5 j j1
    have z32 : V (232 + 5 * j) (V 3 0) = 0 := by
      have q := b1.1 (V 3 0) h0n hcn
      rw [show 231 + 5 * j + 1 = 232 + 5 * j by omega] at q
      exact q.2.2 (by omega)
    by_cases e : j = k
    · subst e
      obtain ⟨c1, c2, c3, c4, c5⟩ := b2 hk
      unfold iCopy
      rw [f454, f455, h480.1, hC]
      refine ⟨?_, fun _ => ⟨c1, c2, c3, c4, hms⟩, fun q => by omega⟩
      unfold iMk at b1 ⊢
      rw [show 231 + 5 * j + 1 = 232 + 5 * j by omega] at b1 ⊢
      rw [hS, hR, h480.2.1]
      refine ⟨fun c c0 c1 => ?_, ?_⟩
      · have q := b1.1 c c0 c1
        rw [h456]
        by_cases e2 : c = V 3 0
        · rw [if_pos (by omega), e2, vup_at]
          exact ⟨rfl, Or.inr rfl, fun r => by omega⟩
        · rw [if_neg (by omega), vup_k e2]
          exact ⟨q.1, q.2.1, fun r => q.2.2 (by omega)⟩
      · have q := yCt_set (H := V (232 + 5 * j)) (H' := vup V (232 + 5 * j) (V 3 0) 1 (232 + 5 * j)) h0n z32 (by rw [vup_at]; decide) (fun x hx => vup_k hx) 200
        rw [if_pos (by omega)] at q
        rw [q, ← b1.2]
    · unfold iCopy
      rw [f454, f455, h480.1, fc j j1 e (230 + 5 * j) (by omega) (by omega), fc j j1 e (232 + 5 * j) (by omega) (by omega)]
      refine ⟨hmf _ _ (by omega) (fc j j1 e _ (by omega) (by omega)) (fc j j1 e _ (by omega) (by omega)) b1, fun q => ?_, b3⟩
      obtain ⟨c1, c2, c3, c4, c5⟩ := b2 q
      exact ⟨c1, c2, c3, c4, iMs_x (fc j j1 e _ (by omega) (by omega)) (hj _ (by omega) (by omega) (by omega) (by omega)) f481 f432 hcr h30 h456' z32 c5⟩
  · unfold iOne at *
    rw [h480.1, f454, f455]
    exact a6
  · unfold iReh at *
    rw [fr 43 (by omega) (by omega), fr 44 (by omega) (by omega), fr 45 (by omega) (by omega), fr 37 (by omega) (by omega), fr 38 (by omega) (by omega), fr 39 (by omega) (by omega), fr 40 (by omega) (by omega), fr 41 (by omega) (by omega), fr 42 (by omega) (by omega), fh 460 (by omega), fh 461 (by omega), fh 462 (by omega), fh 463 (by omega), fh 464 (by omega), fh 465 (by omega), fh 466 (by omega), fh 467 (by omega), h480.2.2.1, h480.2.2.2.1]
    exact a7
  · intro i i0 i1
    obtain ⟨b1, b2, b3⟩ := a8 i i0 i1
    rw [fr 47 (by omega) (by omega), fh 472 (by omega)]
    refine ⟨b1, b2, fun q => ?_⟩
    obtain ⟨c1, c2, c3⟩ := b3 q
    rw [yTt_fr f481 f432]
    unfold iLb at *
    rw [fh 471 (by omega), fh 470 (by omega), hj 48 (by omega) (by omega) (by omega) (by omega), hj 49 (by omega) (by omega) (by omega) (by omega), hj 468 (by omega) (by omega) (by omega) (by omega), hj 469 (by omega) (by omega) (by omega) (by omega), fr (50 + 15 * (i / 40 % 12).toNat) (by omega) (by omega)]
    exact ⟨c1, c2, c3⟩
  · rw [hf 0 (by omega) (by omega) (by omega) (by omega) (by omega), h480.2.2.2.2]
    exact a9
end
