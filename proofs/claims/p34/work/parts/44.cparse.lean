/-! part 44: the class's parsing, a token -/
section
variable {V : zVt} {J : zJt} {d : Nat → Nat → UInt64} {x : Nat}
theorem sp14 {D E F : Int} (eD : V 9 2 = D) (hD : 0 ≤ D ∧ D ≤ 3) (eE : 0 < D → V 11 (D - 1) = E) (rE : 0 ≤ E ∧ E ≤ 100) (eF : V 9 3 = F) (rF : -1 ≤ F ∧ F < 60) : zGo false 14 0 [.ref 9] [] (zm V J d) = zI1 (if 0 < D ∧ F = -1 ∧ 0 < E then 1 else 0) V J d := by
  by_cases h1 : D = 0
  · rw [if_neg (by omega)]
    simp (disch := first | omega | assumption | (simp (disch := omega) only [vup_fn, vup_o, vup_k, vup_at]; first | done | omega | assumption)) only [ze_14_0, ze_14_33, ze_14_34, eD, eF, Int.add_zero, ↓reduceIte, qw_id, zck_T, zck_t, zGor_v, zGor_n, zGor_e, zbs, vup_at, vup_vup, vup_self, vup_o, vup_k, vup_fn, ne_eq, not_true_eq_false, not_false_eq_true, and_true, true_and, and_self, and_false, false_and, or_true, true_or, or_self, or_false, false_or, xlt_t, xlt_f, xle_t, xle_f, xeq_t, xeq_f, xand_f, xor_t]
  · have e := eE (by omega)
    by_cases h2 : F = -1
    · by_cases h3 : 0 < E
      · rw [if_pos (by omega)]
        simp (disch := first | omega | assumption | (simp (disch := omega) only [vup_fn, vup_o, vup_k, vup_at]; first | done | omega | assumption)) only [ze_14_0, ze_14_33, ze_14_34, eD, eF, e, Int.add_zero, ↓reduceIte, qw_id, zck_T, zck_t, zGor_v, zGor_n, zGor_e, zbs, vup_at, vup_vup, vup_self, vup_o, vup_k, vup_fn, ne_eq, not_true_eq_false, not_false_eq_true, and_true, true_and, and_self, and_false, false_and, or_true, true_or, or_self, or_false, false_or, xlt_t, xlt_f, xle_t, xle_f, xeq_t, xeq_f, xand_f, xor_t]
      · rw [if_neg (by omega)]
        simp (disch := first | omega | assumption | (simp (disch := omega) only [vup_fn, vup_o, vup_k, vup_at]; first | done | omega | assumption)) only [ze_14_0, ze_14_33, ze_14_34, eD, eF, e, Int.add_zero, ↓reduceIte, qw_id, zck_T, zck_t, zGor_v, zGor_n, zGor_e, zbs, vup_at, vup_vup, vup_self, vup_o, vup_k, vup_fn, ne_eq, not_true_eq_false, not_false_eq_true, and_true, true_and, and_self, and_false, false_and, or_true, true_or, or_self, or_false, false_or, xlt_t, xlt_f, xle_t, xle_f, xeq_t, xeq_f, xand_f, xor_t]
    · rw [if_neg (by omega)]
      simp (disch := first | omega | assumption | (simp (disch := omega) only [vup_fn, vup_o, vup_k, vup_at]; first | done | omega | assumption)) only [ze_14_0, ze_14_33, ze_14_34, eD, eF, e, Int.add_zero, ↓reduceIte, qw_id, zck_T, zck_t, zGor_v, zGor_n, zGor_e, zbs, vup_at, vup_vup, vup_self, vup_o, vup_k, vup_fn, ne_eq, not_true_eq_false, not_false_eq_true, and_true, true_and, and_self, and_false, false_and, or_true, true_or, or_self, or_false, false_or, xlt_t, xlt_f, xle_t, xle_f, xeq_t, xeq_f, xand_f, xor_t]
theorem sp11 {k w : Int} (hb : zBk 10 x) (hk : 0 ≤ k ∧ k < 3) (eK : V (x + 1) k = w) (hw : 0 ≤ w ∧ w ≤ 9) : zGo false 11 0 [.ref 9, .ref x, .int (zi k), .null] [] (zm V J d) = zI1 (if w = k then 0 else 2) V J d := by
  rcases (show k = 0 ∨ k = 1 ∨ k = 2 by omega) with rfl | rfl | rfl
  · by_cases h : w = 0
    · simp (disch := first | omega | assumption | (simp (disch := omega) only [vup_fn, vup_o, vup_k, vup_at]; first | done | omega | assumption)) only [ze_11_0, ze_11_18, ze_11_34, eK, Int.add_zero, ↓reduceIte, qw_id, zck_T, zck_t, zGor_v, zGor_n, zGor_e, zbs, vup_at, vup_vup, vup_self, vup_o, vup_k, vup_fn, ne_eq, not_true_eq_false, not_false_eq_true, and_true, true_and, and_self, and_false, false_and, or_true, true_or, or_self, or_false, false_or, xlt_t, xlt_f, xle_t, xle_f, xeq_t, xeq_f, xand_f, xor_t]
    · simp (disch := first | omega | assumption | (simp (disch := omega) only [vup_fn, vup_o, vup_k, vup_at]; first | done | omega | assumption)) only [ze_11_0, ze_11_18, ze_11_34, eK, Int.add_zero, ↓reduceIte, qw_id, zck_T, zck_t, zGor_v, zGor_n, zGor_e, zbs, vup_at, vup_vup, vup_self, vup_o, vup_k, vup_fn, ne_eq, not_true_eq_false, not_false_eq_true, and_true, true_and, and_self, and_false, false_and, or_true, true_or, or_self, or_false, false_or, xlt_t, xlt_f, xle_t, xle_f, xeq_t, xeq_f, xand_f, xor_t]
  · by_cases h : w = 1
    · simp (disch := first | omega | assumption | (simp (disch := omega) only [vup_fn, vup_o, vup_k, vup_at]; first | done | omega | assumption)) only [ze_11_0, ze_11_18, ze_11_34, eK, Int.add_zero, ↓reduceIte, qw_id, zck_T, zck_t, zGor_v, zGor_n, zGor_e, zbs, vup_at, vup_vup, vup_self, vup_o, vup_k, vup_fn, ne_eq, not_true_eq_false, not_false_eq_true, and_true, true_and, and_self, and_false, false_and, or_true, true_or, or_self, or_false, false_or, xlt_t, xlt_f, xle_t, xle_f, xeq_t, xeq_f, xand_f, xor_t]
    · simp (disch := first | omega | assumption | (simp (disch := omega) only [vup_fn, vup_o, vup_k, vup_at]; first | done | omega | assumption)) only [ze_11_0, ze_11_18, ze_11_34, eK, Int.add_zero, ↓reduceIte, qw_id, zck_T, zck_t, zGor_v, zGor_n, zGor_e, zbs, vup_at, vup_vup, vup_self, vup_o, vup_k, vup_fn, ne_eq, not_true_eq_false, not_false_eq_true, and_true, true_and, and_self, and_false, false_and, or_true, true_or, or_self, or_false, false_or, xlt_t, xlt_f, xle_t, xle_f, xeq_t, xeq_f, xand_f, xor_t]
  · by_cases h : w = 2
    · simp (disch := first | omega | assumption | (simp (disch := omega) only [vup_fn, vup_o, vup_k, vup_at]; first | done | omega | assumption)) only [ze_11_0, ze_11_18, ze_11_34, eK, Int.add_zero, ↓reduceIte, qw_id, zck_T, zck_t, zGor_v, zGor_n, zGor_e, zbs, vup_at, vup_vup, vup_self, vup_o, vup_k, vup_fn, ne_eq, not_true_eq_false, not_false_eq_true, and_true, true_and, and_self, and_false, false_and, or_true, true_or, or_self, or_false, false_or, xlt_t, xlt_f, xle_t, xle_f, xeq_t, xeq_f, xand_f, xor_t]
    · simp (disch := first | omega | assumption | (simp (disch := omega) only [vup_fn, vup_o, vup_k, vup_at]; first | done | omega | assumption)) only [ze_11_0, ze_11_18, ze_11_34, eK, Int.add_zero, ↓reduceIte, qw_id, zck_T, zck_t, zGor_v, zGor_n, zGor_e, zbs, vup_at, vup_vup, vup_self, vup_o, vup_k, vup_fn, ne_eq, not_true_eq_false, not_false_eq_true, and_true, true_and, and_self, and_false, false_and, or_true, true_or, or_self, or_false, false_or, xlt_t, xlt_f, xle_t, xle_f, xeq_t, xeq_f, xand_f, xor_t]
/-- what a token does behind its check -/
def cFo (V : zVt) (x : Nat) (k w D E F : Int) : zVt :=
  if w = 6 then vup (vup (vup V 10 D k) 11 D 0) 9 2 (D + 1)
  else if w = 7 then vup (vup V 9 2 (D - 1)) (x + 8) k (V 10 (D - 1))
  else if w = 8 then vup (vup V 11 (D - 1) (E + 1)) 9 3 k
  else if w = 9 then vup (vup V (x + 8) F k) 9 3 (-1)
  else V
theorem sp12 {k m D E F w : Int} (hb : zBk 10 x) (hx : 13 ≤ x) (hk : 0 ≤ k ∧ k < 60) (hw : 0 ≤ w ∧ w ≤ 9) (hm : -100 ≤ m ∧ m ≤ 100) (eK : V (x + 1) k = w) (eN : w = 7 ∨ w = 8 → V (x + 3) k = m) (eD : V 9 2 = D) (hD : 0 ≤ D ∧ D ≤ 3) (eE : 0 < D → V 11 (D - 1) = E) (rE : 0 ≤ E ∧ E ≤ 100) (h0 : D = 0 → E = 0 ∧ F = -1) (eF : V 9 3 = F) (rF : -1 ≤ F ∧ F < k) (hc : k < V x 0 ∧ V x 0 ≤ 60) : zGo false 12 0 [.ref 9, .ref x, .int (zi k)] [] (zm V J d) = zI1 (gXf w m D E F) (if gXf w m D E F = 0 then cFo V x k w D E F else V) J d := by
  have e14 := sp14 (J := J) (d := d) eD hD eE rE eF (by omega)
  unfold gXf cFo
  by_cases w12 : w = 1 ∨ w = 2
  · rw [if_pos (by omega)]
    rcases w12 with h | h
    · simp (disch := first | omega | assumption | (simp (disch := omega) only [vup_fn, vup_o, vup_k, vup_at]; first | done | omega | assumption)) only [ze_12_0, ze_12_63, ze_12_70, ze_12_77, ze_12_84, ze_12_89, ze_12_97, eK, h, Int.add_zero, ↓reduceIte, qw_id, zck_T, zck_t, zGor_v, zGor_n, zGor_e, zbs, vup_at, vup_vup, vup_self, vup_o, vup_k, vup_fn, ne_eq, not_true_eq_false, not_false_eq_true, and_true, true_and, and_self, and_false, false_and, or_true, true_or, or_self, or_false, false_or, xlt_t, xlt_f, xle_t, xle_f, xeq_t, xeq_f, xand_f, xor_t]
    · simp (disch := first | omega | assumption | (simp (disch := omega) only [vup_fn, vup_o, vup_k, vup_at]; first | done | omega | assumption)) only [ze_12_0, ze_12_63, ze_12_70, ze_12_77, ze_12_84, ze_12_89, ze_12_97, eK, h, Int.add_zero, ↓reduceIte, qw_id, zck_T, zck_t, zGor_v, zGor_n, zGor_e, zbs, vup_at, vup_vup, vup_self, vup_o, vup_k, vup_fn, ne_eq, not_true_eq_false, not_false_eq_true, and_true, true_and, and_self, and_false, false_and, or_true, true_or, or_self, or_false, false_or, xlt_t, xlt_f, xle_t, xle_f, xeq_t, xeq_f, xand_f, xor_t]
  · by_cases w6 : w = 6
    · subst w6
      by_cases hb2 : 0 < D ∧ F = -1 ∧ 0 < E
      · rw [if_pos (Or.inr (Or.inr ⟨hb2, by omega⟩))]
        rw [if_pos hb2] at e14
        simp (disch := first | omega | assumption | (simp (disch := omega) only [vup_fn, vup_o, vup_k, vup_at]; first | done | omega | assumption)) only [ze_12_0, ze_12_63, ze_12_70, ze_12_77, ze_12_84, ze_12_89, ze_12_97, ze_13_0, ze_13_12, ze_13_15, eK, e14, eF, Int.add_zero, ↓reduceIte, qw_id, zck_T, zck_t, zGor_v, zGor_n, zGor_e, zbs, vup_at, vup_vup, vup_self, vup_o, vup_k, vup_fn, ne_eq, not_true_eq_false, not_false_eq_true, and_true, true_and, and_self, and_false, false_and, or_true, true_or, or_self, or_false, false_or, xlt_t, xlt_f, xle_t, xle_f, xeq_t, xeq_f, xand_f, xor_t]
      · rw [if_neg (by omega)]
        rw [if_neg hb2] at e14
        by_cases hF : F = -1
        · by_cases h3 : D = 3
          · simp (disch := first | omega | assumption | (simp (disch := omega) only [vup_fn, vup_o, vup_k, vup_at]; first | done | omega | assumption)) only [ze_12_0, ze_12_63, ze_12_70, ze_12_77, ze_12_84, ze_12_89, ze_12_97, ze_13_0, ze_13_12, ze_13_15, eK, e14, eF, eD, Int.add_zero, ↓reduceIte, qw_id, zck_T, zck_t, zGor_v, zGor_n, zGor_e, zbs, vup_at, vup_vup, vup_self, vup_o, vup_k, vup_fn, ne_eq, not_true_eq_false, not_false_eq_true, and_true, true_and, and_self, and_false, false_and, or_true, true_or, or_self, or_false, false_or, xlt_t, xlt_f, xle_t, xle_f, xeq_t, xeq_f, xand_f, xor_t]
          · simp (disch := first | omega | assumption | (simp (disch := omega) only [vup_fn, vup_o, vup_k, vup_at]; first | done | omega | assumption)) only [ze_12_0, ze_12_63, ze_12_70, ze_12_77, ze_12_84, ze_12_89, ze_12_97, ze_13_0, ze_13_12, ze_13_15, eK, e14, eF, eD, Int.add_zero, ↓reduceIte, qw_id, zck_T, zck_t, zGor_v, zGor_n, zGor_e, zbs, vup_at, vup_vup, vup_self, vup_o, vup_k, vup_fn, ne_eq, not_true_eq_false, not_false_eq_true, and_true, true_and, and_self, and_false, false_and, or_true, true_or, or_self, or_false, false_or, xlt_t, xlt_f, xle_t, xle_f, xeq_t, xeq_f, xand_f, xor_t]
        · simp (disch := first | omega | assumption | (simp (disch := omega) only [vup_fn, vup_o, vup_k, vup_at]; first | done | omega | assumption)) only [ze_12_0, ze_12_63, ze_12_70, ze_12_77, ze_12_84, ze_12_89, ze_12_97, ze_13_0, ze_13_12, ze_13_15, eK, eF, Int.add_zero, ↓reduceIte, qw_id, zck_T, zck_t, zGor_v, zGor_n, zGor_e, zbs, vup_at, vup_vup, vup_self, vup_o, vup_k, vup_fn, ne_eq, not_true_eq_false, not_false_eq_true, and_true, true_and, and_self, and_false, false_and, or_true, true_or, or_self, or_false, false_or, xlt_t, xlt_f, xle_t, xle_f, xeq_t, xeq_f, xand_f, xor_t]
    · by_cases w7 : w = 7
      · subst w7
        have en := eN (Or.inl rfl)
        rw [if_neg (by omega)]
        by_cases hd : D = 0
        · simp (disch := first | omega | assumption | (simp (disch := omega) only [vup_fn, vup_o, vup_k, vup_at]; first | done | omega | assumption)) only [ze_12_0, ze_12_63, ze_12_70, ze_12_77, ze_12_84, ze_12_89, ze_12_97, ze_15_0, ze_15_15, ze_15_53, eK, eD, Int.add_zero, ↓reduceIte, qw_id, zck_T, zck_t, zGor_v, zGor_n, zGor_e, zbs, vup_at, vup_vup, vup_self, vup_o, vup_k, vup_fn, ne_eq, not_true_eq_false, not_false_eq_true, and_true, true_and, and_self, and_false, false_and, or_true, true_or, or_self, or_false, false_or, xlt_t, xlt_f, xle_t, xle_f, xeq_t, xeq_f, xand_f, xor_t]
        · have e := eE (by omega)
          by_cases hF : F = -1
          · by_cases hE : E ≤ 0
            · simp (disch := first | omega | assumption | (simp (disch := omega) only [vup_fn, vup_o, vup_k, vup_at]; first | done | omega | assumption)) only [ze_12_0, ze_12_63, ze_12_70, ze_12_77, ze_12_84, ze_12_89, ze_12_97, ze_15_0, ze_15_15, ze_15_53, eK, eD, eF, e, Int.add_zero, ↓reduceIte, qw_id, zck_T, zck_t, zGor_v, zGor_n, zGor_e, zbs, vup_at, vup_vup, vup_self, vup_o, vup_k, vup_fn, ne_eq, not_true_eq_false, not_false_eq_true, and_true, true_and, and_self, and_false, false_and, or_true, true_or, or_self, or_false, false_or, xlt_t, xlt_f, xle_t, xle_f, xeq_t, xeq_f, xand_f, xor_t]
            · by_cases hem : E = m
              · simp (disch := first | omega | assumption | (simp (disch := omega) only [vup_fn, vup_o, vup_k, vup_at]; first | done | omega | assumption)) only [ze_12_0, ze_12_63, ze_12_70, ze_12_77, ze_12_84, ze_12_89, ze_12_97, ze_15_0, ze_15_15, ze_15_53, eK, eD, eF, e, en, Int.add_zero, ↓reduceIte, qw_id, zck_T, zck_t, zGor_v, zGor_n, zGor_e, zbs, vup_at, vup_vup, vup_self, vup_o, vup_k, vup_fn, ne_eq, not_true_eq_false, not_false_eq_true, and_true, true_and, and_self, and_false, false_and, or_true, true_or, or_self, or_false, false_or, xlt_t, xlt_f, xle_t, xle_f, xeq_t, xeq_f, xand_f, xor_t]
              · simp (disch := first | omega | assumption | (simp (disch := omega) only [vup_fn, vup_o, vup_k, vup_at]; first | done | omega | assumption)) only [ze_12_0, ze_12_63, ze_12_70, ze_12_77, ze_12_84, ze_12_89, ze_12_97, ze_15_0, ze_15_15, ze_15_53, eK, eD, eF, e, en, Int.add_zero, ↓reduceIte, qw_id, zck_T, zck_t, zGor_v, zGor_n, zGor_e, zbs, vup_at, vup_vup, vup_self, vup_o, vup_k, vup_fn, ne_eq, not_true_eq_false, not_false_eq_true, and_true, true_and, and_self, and_false, false_and, or_true, true_or, or_self, or_false, false_or, xlt_t, xlt_f, xle_t, xle_f, xeq_t, xeq_f, xand_f, xor_t]
          · simp (disch := first | omega | assumption | (simp (disch := omega) only [vup_fn, vup_o, vup_k, vup_at]; first | done | omega | assumption)) only [ze_12_0, ze_12_63, ze_12_70, ze_12_77, ze_12_84, ze_12_89, ze_12_97, ze_15_0, ze_15_15, ze_15_53, eK, eD, eF, e, Int.add_zero, ↓reduceIte, qw_id, zck_T, zck_t, zGor_v, zGor_n, zGor_e, zbs, vup_at, vup_vup, vup_self, vup_o, vup_k, vup_fn, ne_eq, not_true_eq_false, not_false_eq_true, and_true, true_and, and_self, and_false, false_and, or_true, true_or, or_self, or_false, false_or, xlt_t, xlt_f, xle_t, xle_f, xeq_t, xeq_f, xand_f, xor_t]
      · by_cases w8 : w = 8
        · subst w8
          have en := eN (Or.inr rfl)
          rw [if_neg (by omega)]
          by_cases hd : D = 0
          · simp (disch := first | omega | assumption | (simp (disch := omega) only [vup_fn, vup_o, vup_k, vup_at]; first | done | omega | assumption)) only [ze_12_0, ze_12_63, ze_12_70, ze_12_77, ze_12_84, ze_12_89, ze_12_97, ze_16_0, ze_16_15, eK, eD, Int.add_zero, ↓reduceIte, qw_id, zck_T, zck_t, zGor_v, zGor_n, zGor_e, zbs, vup_at, vup_vup, vup_self, vup_o, vup_k, vup_fn, ne_eq, not_true_eq_false, not_false_eq_true, and_true, true_and, and_self, and_false, false_and, or_true, true_or, or_self, or_false, false_or, xlt_t, xlt_f, xle_t, xle_f, xeq_t, xeq_f, xand_f, xor_t]
          · have e := eE (by omega)
            by_cases hF : F = -1
            · by_cases hem : m = E + 1
              · simp (disch := first | omega | assumption | (simp (disch := omega) only [vup_fn, vup_o, vup_k, vup_at]; first | done | omega | assumption)) only [ze_12_0, ze_12_63, ze_12_70, ze_12_77, ze_12_84, ze_12_89, ze_12_97, ze_16_0, ze_16_15, eK, eD, eF, e, en, Int.add_zero, ↓reduceIte, qw_id, zck_T, zck_t, zGor_v, zGor_n, zGor_e, zbs, vup_at, vup_vup, vup_self, vup_o, vup_k, vup_fn, ne_eq, not_true_eq_false, not_false_eq_true, and_true, true_and, and_self, and_false, false_and, or_true, true_or, or_self, or_false, false_or, xlt_t, xlt_f, xle_t, xle_f, xeq_t, xeq_f, xand_f, xor_t]
              · simp (disch := first | omega | assumption | (simp (disch := omega) only [vup_fn, vup_o, vup_k, vup_at]; first | done | omega | assumption)) only [ze_12_0, ze_12_63, ze_12_70, ze_12_77, ze_12_84, ze_12_89, ze_12_97, ze_16_0, ze_16_15, eK, eD, eF, e, en, Int.add_zero, ↓reduceIte, qw_id, zck_T, zck_t, zGor_v, zGor_n, zGor_e, zbs, vup_at, vup_vup, vup_self, vup_o, vup_k, vup_fn, ne_eq, not_true_eq_false, not_false_eq_true, and_true, true_and, and_self, and_false, false_and, or_true, true_or, or_self, or_false, false_or, xlt_t, xlt_f, xle_t, xle_f, xeq_t, xeq_f, xand_f, xor_t]
            · simp (disch := first | omega | assumption | (simp (disch := omega) only [vup_fn, vup_o, vup_k, vup_at]; first | done | omega | assumption)) only [ze_12_0, ze_12_63, ze_12_70, ze_12_77, ze_12_84, ze_12_89, ze_12_97, ze_16_0, ze_16_15, eK, eD, eF, e, Int.add_zero, ↓reduceIte, qw_id, zck_T, zck_t, zGor_v, zGor_n, zGor_e, zbs, vup_at, vup_vup, vup_self, vup_o, vup_k, vup_fn, ne_eq, not_true_eq_false, not_false_eq_true, and_true, true_and, and_self, and_false, false_and, or_true, true_or, or_self, or_false, false_or, xlt_t, xlt_f, xle_t, xle_f, xeq_t, xeq_f, xand_f, xor_t]
        · by_cases w9 : w = 9
          · subst w9
            have e86 := sp86 (V := V) (J := J) (d := d) (x := x) (k := F) hb (by omega) (by omega)
            by_cases hF : F = -1
            · by_cases hb2 : 0 < D ∧ F = -1 ∧ 0 < E
              · rw [if_pos (Or.inr (Or.inr ⟨hb2, by omega⟩))]
                rw [if_neg (by omega)] at e86
                simp (disch := first | omega | assumption | (simp (disch := omega) only [vup_fn, vup_o, vup_k, vup_at]; first | done | omega | assumption)) only [ze_12_0, ze_12_63, ze_12_70, ze_12_77, ze_12_84, ze_12_89, ze_12_97, ze_17_0, ze_17_8, eK, eF, e86, Int.add_zero, ↓reduceIte, qw_id, zck_T, zck_t, zGor_v, zGor_n, zGor_e, zbs, vup_at, vup_vup, vup_self, vup_o, vup_k, vup_fn, ne_eq, not_true_eq_false, not_false_eq_true, and_true, true_and, and_self, and_false, false_and, or_true, true_or, or_self, or_false, false_or, xlt_t, xlt_f, xle_t, xle_f, xeq_t, xeq_f, xand_f, xor_t]
              · rw [if_neg (by omega)]
                rw [if_neg (by omega)] at e86
                simp (disch := first | omega | assumption | (simp (disch := omega) only [vup_fn, vup_o, vup_k, vup_at]; first | done | omega | assumption)) only [ze_12_0, ze_12_63, ze_12_70, ze_12_77, ze_12_84, ze_12_89, ze_12_97, ze_17_0, ze_17_8, eK, eF, e86, Int.add_zero, ↓reduceIte, qw_id, zck_T, zck_t, zGor_v, zGor_n, zGor_e, zbs, vup_at, vup_vup, vup_self, vup_o, vup_k, vup_fn, ne_eq, not_true_eq_false, not_false_eq_true, and_true, true_and, and_self, and_false, false_and, or_true, true_or, or_self, or_false, false_or, xlt_t, xlt_f, xle_t, xle_f, xeq_t, xeq_f, xand_f, xor_t]
            · rw [if_neg (by omega)]
              rw [if_pos (by omega)] at e86
              simp (disch := first | omega | assumption | (simp (disch := omega) only [vup_fn, vup_o, vup_k, vup_at]; first | done | omega | assumption)) only [ze_12_0, ze_12_63, ze_12_70, ze_12_77, ze_12_84, ze_12_89, ze_12_97, ze_17_0, ze_17_8, eK, eF, e86, Int.add_zero, ↓reduceIte, qw_id, zck_T, zck_t, zGor_v, zGor_n, zGor_e, zbs, vup_at, vup_vup, vup_self, vup_o, vup_k, vup_fn, ne_eq, not_true_eq_false, not_false_eq_true, and_true, true_and, and_self, and_false, false_and, or_true, true_or, or_self, or_false, false_or, xlt_t, xlt_f, xle_t, xle_f, xeq_t, xeq_f, xand_f, xor_t]
          · have hw2 : w = 0 ∨ w = 3 ∨ w = 4 ∨ w = 5 := by omega
            by_cases hb2 : 0 < D ∧ F = -1 ∧ 0 < E
            · rw [if_pos (Or.inr (Or.inr ⟨hb2, by omega⟩))]
              rw [if_pos hb2] at e14
              rcases hw2 with h | h | h | h
              · simp (disch := first | omega | assumption | (simp (disch := omega) only [vup_fn, vup_o, vup_k, vup_at]; first | done | omega | assumption)) only [ze_12_0, ze_12_63, ze_12_70, ze_12_77, ze_12_84, ze_12_89, ze_12_97, eK, e14, h, Int.add_zero, ↓reduceIte, qw_id, zck_T, zck_t, zGor_v, zGor_n, zGor_e, zbs, vup_at, vup_vup, vup_self, vup_o, vup_k, vup_fn, ne_eq, not_true_eq_false, not_false_eq_true, and_true, true_and, and_self, and_false, false_and, or_true, true_or, or_self, or_false, false_or, xlt_t, xlt_f, xle_t, xle_f, xeq_t, xeq_f, xand_f, xor_t]
              · simp (disch := first | omega | assumption | (simp (disch := omega) only [vup_fn, vup_o, vup_k, vup_at]; first | done | omega | assumption)) only [ze_12_0, ze_12_63, ze_12_70, ze_12_77, ze_12_84, ze_12_89, ze_12_97, eK, e14, h, Int.add_zero, ↓reduceIte, qw_id, zck_T, zck_t, zGor_v, zGor_n, zGor_e, zbs, vup_at, vup_vup, vup_self, vup_o, vup_k, vup_fn, ne_eq, not_true_eq_false, not_false_eq_true, and_true, true_and, and_self, and_false, false_and, or_true, true_or, or_self, or_false, false_or, xlt_t, xlt_f, xle_t, xle_f, xeq_t, xeq_f, xand_f, xor_t]
              · simp (disch := first | omega | assumption | (simp (disch := omega) only [vup_fn, vup_o, vup_k, vup_at]; first | done | omega | assumption)) only [ze_12_0, ze_12_63, ze_12_70, ze_12_77, ze_12_84, ze_12_89, ze_12_97, eK, e14, h, Int.add_zero, ↓reduceIte, qw_id, zck_T, zck_t, zGor_v, zGor_n, zGor_e, zbs, vup_at, vup_vup, vup_self, vup_o, vup_k, vup_fn, ne_eq, not_true_eq_false, not_false_eq_true, and_true, true_and, and_self, and_false, false_and, or_true, true_or, or_self, or_false, false_or, xlt_t, xlt_f, xle_t, xle_f, xeq_t, xeq_f, xand_f, xor_t]
              · simp (disch := first | omega | assumption | (simp (disch := omega) only [vup_fn, vup_o, vup_k, vup_at]; first | done | omega | assumption)) only [ze_12_0, ze_12_63, ze_12_70, ze_12_77, ze_12_84, ze_12_89, ze_12_97, eK, e14, h, Int.add_zero, ↓reduceIte, qw_id, zck_T, zck_t, zGor_v, zGor_n, zGor_e, zbs, vup_at, vup_vup, vup_self, vup_o, vup_k, vup_fn, ne_eq, not_true_eq_false, not_false_eq_true, and_true, true_and, and_self, and_false, false_and, or_true, true_or, or_self, or_false, false_or, xlt_t, xlt_f, xle_t, xle_f, xeq_t, xeq_f, xand_f, xor_t]
            · rw [if_neg (by omega)]
              rw [if_neg hb2] at e14
              rcases hw2 with h | h | h | h
              · simp (disch := first | omega | assumption | (simp (disch := omega) only [vup_fn, vup_o, vup_k, vup_at]; first | done | omega | assumption)) only [ze_12_0, ze_12_63, ze_12_70, ze_12_77, ze_12_84, ze_12_89, ze_12_97, eK, e14, h, Int.add_zero, ↓reduceIte, qw_id, zck_T, zck_t, zGor_v, zGor_n, zGor_e, zbs, vup_at, vup_vup, vup_self, vup_o, vup_k, vup_fn, ne_eq, not_true_eq_false, not_false_eq_true, and_true, true_and, and_self, and_false, false_and, or_true, true_or, or_self, or_false, false_or, xlt_t, xlt_f, xle_t, xle_f, xeq_t, xeq_f, xand_f, xor_t]
              · simp (disch := first | omega | assumption | (simp (disch := omega) only [vup_fn, vup_o, vup_k, vup_at]; first | done | omega | assumption)) only [ze_12_0, ze_12_63, ze_12_70, ze_12_77, ze_12_84, ze_12_89, ze_12_97, eK, e14, h, Int.add_zero, ↓reduceIte, qw_id, zck_T, zck_t, zGor_v, zGor_n, zGor_e, zbs, vup_at, vup_vup, vup_self, vup_o, vup_k, vup_fn, ne_eq, not_true_eq_false, not_false_eq_true, and_true, true_and, and_self, and_false, false_and, or_true, true_or, or_self, or_false, false_or, xlt_t, xlt_f, xle_t, xle_f, xeq_t, xeq_f, xand_f, xor_t]
              · simp (disch := first | omega | assumption | (simp (disch := omega) only [vup_fn, vup_o, vup_k, vup_at]; first | done | omega | assumption)) only [ze_12_0, ze_12_63, ze_12_70, ze_12_77, ze_12_84, ze_12_89, ze_12_97, eK, e14, h, Int.add_zero, ↓reduceIte, qw_id, zck_T, zck_t, zGor_v, zGor_n, zGor_e, zbs, vup_at, vup_vup, vup_self, vup_o, vup_k, vup_fn, ne_eq, not_true_eq_false, not_false_eq_true, and_true, true_and, and_self, and_false, false_and, or_true, true_or, or_self, or_false, false_or, xlt_t, xlt_f, xle_t, xle_f, xeq_t, xeq_f, xand_f, xor_t]
              · simp (disch := first | omega | assumption | (simp (disch := omega) only [vup_fn, vup_o, vup_k, vup_at]; first | done | omega | assumption)) only [ze_12_0, ze_12_63, ze_12_70, ze_12_77, ze_12_84, ze_12_89, ze_12_97, eK, e14, h, Int.add_zero, ↓reduceIte, qw_id, zck_T, zck_t, zGor_v, zGor_n, zGor_e, zbs, vup_at, vup_vup, vup_self, vup_o, vup_k, vup_fn, ne_eq, not_true_eq_false, not_false_eq_true, and_true, true_and, and_self, and_false, false_and, or_true, true_or, or_self, or_false, false_or, xlt_t, xlt_f, xle_t, xle_f, xeq_t, xeq_f, xand_f, xor_t]
end
/-- the class's state ahead of token k -/
def cGr (V : zVt) (x : Nat) (K N : Int → Int) (k : Int) : Prop := V 9 2 = hD K k ∧ (∀ i, 0 ≤ i → i < hD K k → V 10 i = hO K k i) ∧ (0 < hD K k → V 11 (hD K k - 1) = hE K N k) ∧ (∀ i, 0 ≤ i → i < hD K k - 1 → V 11 i = 0) ∧ V 9 3 = hF K k ∧ (∀ j, 3 ≤ j → j < k → K j = 7 → V (x + 8) j = hO K j (hD K j - 1)) ∧ ∀ l, 3 ≤ l → l < k → K l = 9 → V (x + 8) (hF K l) = l
theorem cGr_0 {V : zVt} {x : Nat} {K N : Int → Int} {k : Int} (h0 : 0 ≤ k) (h : k ≤ 3) (h1 : V 9 2 = 0) (h2 : V 9 3 = -1) : cGr V x K N k := by
  obtain ⟨e1, e2, e3⟩ := h_le3 (K := K) (N := N) h0 h
  unfold cGr
  rw [e1, e2, e3]
  exact ⟨h1, fun i _ _ => by omega, fun q => by omega, fun i _ _ => by omega, h2, fun l _ _ _ => by omega, fun l _ _ _ => by omega⟩
theorem cGr_s {V : zVt} {x : Nat} (hx8 : 13 ≤ x) {K N : Int → Int} {k : Int} (h3 : 3 ≤ k) (hi : gInv K N k) (hx : gX K N k = 0) (h : cGr V x K N k) : cGr (cFo V x k (K k) (hD K k) (hE K N k) (hF K k)) x K N (k + 1) := by
  obtain ⟨⟨a1, a2, a3, a4⟩, b, c⟩ := hi
  obtain ⟨s1, s2, s3, s4, s5, s6, s7⟩ := h
  unfold gX at hx
  rw [if_neg (by omega)] at hx
  have q := gXf_cs hx
  have eD := hD_s (K := K) (k := k) (by omega)
  have eE := hE_s (K := K) (N := N) (k := k) (by omega)
  have eF := hF_s (K := K) (k := k) (by omega)
  rw [if_neg (by omega)] at eD eE eF
  have eO := fun i => hO_s (K := K) (k := k) (i := i) (by omega)
  unfold cGr cFo
  by_cases h6 : K k = 6
  · rw [if_pos h6] at eD
    rw [if_pos (Or.inl h6)] at eE
    rw [if_neg (by omega), if_neg (by omega)] at eF
    rw [eD, eE, eF, if_pos h6]
    have q6 := q.2.2.2.2.2 h6
    refine ⟨vup_at _ _ _ _, ?_, ?_, ?_, ?_, ?_, ?_⟩
    · intro i i1 i2
      rw [eO]
      by_cases hi : i = hD K k
      · rw [if_pos ⟨h3, h6, hi⟩, hi]
        simp (disch := omega) only [vup_o, vup_at]
      · rw [if_neg (fun q => hi q.2.2)]
        simp (disch := omega) only [vup_o, vup_k]
        exact s2 i i1 (by omega)
    · intro _
      rw [show hD K k + 1 - 1 = hD K k by omega]
      simp (disch := omega) only [vup_o, vup_at]
    · intro i i1 i2
      simp (disch := omega) only [vup_o, vup_k]
      by_cases hi : i = hD K k - 1
      · have := s3 (by omega)
        rw [hi, this]
        omega
      · exact s4 i i1 (by omega)
    · simp (disch := omega) only [vup_o, vup_k]
      exact s5
    · intro j j1 j2 j3
      have hj : j ≠ k := fun q => by rw [q] at j3; omega
      simp (disch := omega) only [vup_o]
      exact s6 j j1 (by omega) j3
    · intro l l1 l2 l3
      have hl : l ≠ k := fun q => by rw [q] at l3; omega
      simp (disch := omega) only [vup_o]
      exact s7 l l1 (by omega) l3
  · rw [if_neg h6] at eD
    rw [if_neg h6]
    have eO2 : ∀ i, hO K (k + 1) i = hO K k i := fun i => by rw [eO, if_neg (fun q => h6 q.2.1)]
    by_cases h7 : K k = 7
    · rw [if_pos h7] at eD
      rw [if_pos (Or.inr h7)] at eE
      rw [if_neg (by omega), if_neg (by omega)] at eF
      have q7 := q.2.2.1 h7
      rw [eD, eE, eF, if_pos h7]
      refine ⟨?_, ?_, ?_, ?_, ?_, ?_, ?_⟩
      · simp (disch := omega) only [vup_o, vup_at]
      · intro i i1 i2
        rw [eO2]
        simp (disch := omega) only [vup_o]
        exact s2 i i1 (by omega)
      · intro i2
        simp (disch := omega) only [vup_o]
        exact s4 (hD K k - 1 - 1) (by omega) (by omega)
      · intro i i1 i2
        simp (disch := omega) only [vup_o]
        exact s4 i i1 (by omega)
      · simp (disch := omega) only [vup_o, vup_k]
        exact s5
      · intro j j1 j2 j3
        by_cases hj : j = k
        · rw [hj, vup_at]
          exact s2 (hD K k - 1) (by omega) (by omega)
        · simp (disch := omega) only [vup_o, vup_k]
          exact s6 j j1 (by omega) j3
      · intro l l1 l2 l3
        have hl : l ≠ k := fun q => by rw [q] at l3; omega
        have cl := c l l1 (by omega) l3
        simp (disch := omega) only [vup_o, vup_k]
        exact s7 l l1 (by omega) l3
    · rw [if_neg h7] at eD
      rw [if_neg (by omega)] at eE
      rw [if_neg h7]
      by_cases h8 : K k = 8
      · rw [if_pos h8] at eE eF
        rw [eD, eE, eF, if_pos h8]
        have q8 := q.2.2.2.2.1 h8
        refine ⟨?_, ?_, ?_, ?_, vup_at _ _ _ _, ?_, ?_⟩
        · simp (disch := omega) only [vup_o, vup_k]
          exact s1
        · intro i i1 i2
          rw [eO2]
          simp (disch := omega) only [vup_o]
          exact s2 i i1 i2
        · intro i2
          simp (disch := omega) only [vup_o, vup_at]
          omega
        · intro i i1 i2
          simp (disch := omega) only [vup_o, vup_k]
          exact s4 i i1 i2
        · intro j j1 j2 j3
          have hj : j ≠ k := fun q => by rw [q] at j3; omega
          simp (disch := omega) only [vup_o]
          exact s6 j j1 (by omega) j3
        · intro l l1 l2 l3
          have hl : l ≠ k := fun q => by rw [q] at l3; omega
          simp (disch := omega) only [vup_o]
          exact s7 l l1 (by omega) l3
      · rw [if_neg h8] at eE eF
        rw [if_neg h8]
        by_cases h9 : K k = 9
        · rw [if_pos h9] at eF
          have q9 := q.2.2.2.1 h9
          have a3' : 0 < hD K k ∧ 0 < hE K N k ∧ (3 ≤ hF K k ∧ hF K k < k) ∧ K (hF K k) = 8 := by
            rcases a3 with a3 | a3
            · exact absurd a3 q9
            · exact a3
          rw [eD, eE, eF, if_pos h9]
          refine ⟨?_, ?_, ?_, ?_, vup_at _ _ _ _, ?_, ?_⟩
          · simp (disch := omega) only [vup_o, vup_k]
            exact s1
          · intro i i1 i2
            rw [eO2]
            simp (disch := omega) only [vup_o]
            exact s2 i i1 i2
          · intro i2
            simp (disch := omega) only [vup_o]
            exact s3 i2
          · intro i i1 i2
            simp (disch := omega) only [vup_o]
            exact s4 i i1 i2
          · intro j j1 j2 j3
            have hj : j ≠ k := fun q => by rw [q] at j3; omega
            have hj2 : j ≠ hF K k := fun q => by rw [q, a3'.2.2.2] at j3; omega
            simp (disch := omega) only [vup_o, vup_k]
            exact s6 j j1 (by omega) j3
          · intro l l1 l2 l3
            by_cases hl : l = k
            · rw [hl, vup_o (by omega), vup_at]
            · have cl := c l l1 (by omega) l3
              rw [vup_o (by omega), vup_k cl.2.2]
              exact s7 l l1 (by omega) l3
        · rw [if_neg h9] at eF
          rw [eD, eE, eF, if_neg h9]
          refine ⟨s1, ?_, s3, s4, s5, ?_, ?_⟩
          · intro i i1 i2
            rw [eO2]
            exact s2 i i1 i2
          · intro j j1 j2 j3
            have hj : j ≠ k := fun q => by rw [q] at j3; omega
            exact s6 j j1 (by omega) j3
          · intro l l1 l2 l3
            have hl : l ≠ k := fun q => by rw [q] at l3; omega
            exact s7 l l1 (by omega) l3
/-- what parsing leaves -/
def cFp (x : Nat) (V V' : zVt) : Prop := (∀ o : Nat, ¬(o = 9 ∨ o = 10 ∨ o = 11 ∨ o = x ∨ o = x + 8) → V' o = V o) ∧ ∀ j : Int, ¬(j = 2 ∨ j = 3) → V' x j = V x j
theorem cFp_r (x : Nat) (V : zVt) : cFp x V V := ⟨fun _ _ => rfl, fun _ _ => rfl⟩
theorem cFp_t {x : Nat} {V V1 V2 : zVt} (h : cFp x V V1) (h2 : cFp x V1 V2) : cFp x V V2 := ⟨fun o ho => (h2.1 o ho).trans (h.1 o ho), fun k hk => (h2.2 k hk).trans (h.2 k hk)⟩
theorem cFp_v {x : Nat} {V : zVt} {o : Nat} {k v : Int} (hx : 13 ≤ x) (h : o = 9 ∨ o = 10 ∨ o = 11 ∨ o = x + 8 ∨ o = x ∧ (k = 2 ∨ k = 3)) : cFp x V (vup V o k v) := ⟨fun o2 ho => vup_fn (by omega), fun k2 hk => vup_ne (by omega)⟩
theorem cFp_cFo {x : Nat} {V : zVt} {k w D E F : Int} (hx : 13 ≤ x) : cFp x V (cFo V x k w D E F) := by
  unfold cFo
  split
  · exact cFp_t (cFp_t (cFp_v hx (by omega)) (cFp_v hx (by omega))) (cFp_v hx (by omega))
  · split
    · exact cFp_t (cFp_v hx (by omega)) (cFp_v hx (by omega))
    · split
      · exact cFp_t (cFp_v hx (by omega)) (cFp_v hx (by omega))
      · split
        · exact cFp_t (cFp_v hx (by omega)) (cFp_v hx (by omega))
        · exact cFp_r x V
theorem cFo_x {x : Nat} {V : zVt} {k w D E F : Int} (hx : 13 ≤ x) (j : Int) : cFo V x k w D E F x j = V x j := by
  unfold cFo
  split
  · simp (disch := omega) only [vup_o]
  · split
    · simp (disch := omega) only [vup_o]
    · split
      · simp (disch := omega) only [vup_o]
      · split
        · simp (disch := omega) only [vup_o]
        · rfl
section
variable {J : zJt} {d : Nat → Nat → UInt64} {x : Nat}
theorem sl10 {K N : Int → Int} {n e : Int} (hb : zBk 10 x) (hx8 : 13 ≤ x) (hn : 0 ≤ n ∧ n ≤ 60) (hr : kRng K N n) (m : Nat) : ∀ (V : zVt) (k : Int) (x3 : Value), (0 ≤ k ∧ k ≤ n) → n - k < m → V x 0 = n → V x 1 = e → V x 2 = 0 → V x 3 = -1 → (∀ j, 0 ≤ j → j < n → V (x + 1) j = K j ∧ (K j = 7 ∨ K j = 8 → V (x + 3) j = N j)) → (∀ j, 0 ≤ j → j < k → gX K N j = 0) → cGr V x K N k →
    ∃ V' F A, zGo false 10 12 [.ref 9, .ref x, .int (zi k), x3] [] (zm V J d) = zN1 V' J d ∧ yPs K N n F A ∧ V' x 2 = F ∧ V' x 3 = (if F = 0 then -1 else if A = -1 then e else V (x + 2) A) ∧ (F = 0 → cGr V' x K N n) ∧ cFp x V V' := by
  induction m with
  | zero => intro V k x3 hk hm; omega
  | succ m ih =>
    intro V k x3 hk hm hV hend hFF hA hc hx hg
    by_cases hkn : k = n
    · subst hkn
      have hi := gInv_n hk.1 hx
      have e1 := hg.1
      have e2 := hi.1.1
      by_cases h3 : k < 3
      · refine ⟨vup (vup V x 2 2) x 3 e, 2, -1, ?_, Or.inr ⟨hx, rfl, by rw [if_pos h3]⟩, by rw [vup_k (by decide), vup_at], vup_at _ _ _ _, fun q => absurd q (by decide), cFp_t (cFp_v hx8 (by omega)) (cFp_v hx8 (by omega))⟩
        rw [ze_10_12 _ _ _ hb]
        simp (disch := first | omega | assumption | (simp (disch := omega) only [vup_fn, vup_o, vup_k, vup_at]; first | done | omega | assumption)) only [hV, hend, ze_87_0, ze_10_80, ze_10_100, Int.add_zero, ↓reduceIte, qw_id, zck_T, zck_t, zGor_v, zGor_n, zGor_e, zbs, vup_at, vup_vup, vup_self, vup_o, vup_k, vup_fn, ne_eq, not_true_eq_false, not_false_eq_true, and_true, true_and, and_self, and_false, false_and, or_true, true_or, or_self, or_false, false_or, xlt_t, xlt_f, xle_t, xle_f, xeq_t, xeq_f, xand_f, xor_t]
      · by_cases hd : 0 < hD K k
        · refine ⟨vup (vup V x 2 6) x 3 e, 6, -1, ?_, Or.inr ⟨hx, rfl, by rw [if_neg h3, if_pos hd]⟩, by rw [vup_k (by decide), vup_at], vup_at _ _ _ _, fun q => absurd q (by decide), cFp_t (cFp_v hx8 (by omega)) (cFp_v hx8 (by omega))⟩
          rw [ze_10_12 _ _ _ hb]
          simp (disch := first | omega | assumption | (simp (disch := omega) only [vup_fn, vup_o, vup_k, vup_at]; first | done | omega | assumption)) only [hV, hend, ze_87_0, ze_10_80, ze_10_100, Int.add_zero, ↓reduceIte, qw_id, zck_T, zck_t, zGor_v, zGor_n, zGor_e, zbs, vup_at, vup_vup, vup_self, vup_o, vup_k, vup_fn, ne_eq, not_true_eq_false, not_false_eq_true, and_true, true_and, and_self, and_false, false_and, or_true, true_or, or_self, or_false, false_or, xlt_t, xlt_f, xle_t, xle_f, xeq_t, xeq_f, xand_f, xor_t]
        · refine ⟨V, 0, -1, ?_, Or.inr ⟨hx, rfl, by rw [if_neg h3, if_neg hd]⟩, hFF, by rw [if_pos rfl, hA], fun _ => hg, cFp_r x V⟩
          rw [ze_10_12 _ _ _ hb]
          simp (disch := first | omega | assumption | (simp (disch := omega) only [vup_fn, vup_o, vup_k, vup_at]; first | done | omega | assumption)) only [hV, hend, ze_10_100, Int.add_zero, ↓reduceIte, qw_id, zck_T, zck_t, zGor_v, zGor_n, zGor_e, zbs, vup_at, vup_vup, vup_self, vup_o, vup_k, vup_fn, ne_eq, not_true_eq_false, not_false_eq_true, and_true, true_and, and_self, and_false, false_and, or_true, true_or, or_self, or_false, false_or, xlt_t, xlt_f, xle_t, xle_f, xeq_t, xeq_f, xand_f, xor_t]
    · have hkr := hr k hk.1 (by omega)
      have hck := hc k hk.1 (by omega)
      by_cases h3 : k < 3
      · have e11 := sp11 (V := V) (J := J) (d := d) (x := x) (k := k) hb (by omega) hck.1 hkr.1
        by_cases hkk : K k = k
        · have hx0 : gX K N k = 0 := by
            unfold gX
            rw [if_pos h3, if_pos hkk]
          rw [if_pos hkk] at e11
          obtain ⟨V', F, A, q1, q2, q3, q4, q5, q6⟩ := ih V (k + 1) (.int (zi 0)) (by omega) (by omega) hV hend hFF hA hc (by
              intro j j1 j2
              by_cases hj : j = k
              · rw [hj]; exact hx0
              · exact hx j j1 (by omega)) (by
              have e0 : V 9 2 = 0 := by rw [hg.1]; exact (h_le3 (N := N) hk.1 (by omega)).1
              have e1 : V 9 3 = -1 := by rw [hg.2.2.2.2.1]; exact (h_le3 (N := N) hk.1 (by omega)).2.2
              exact cGr_0 (by omega) (by omega) e0 e1)
          refine ⟨V', F, A, ?_, q2, q3, q4, q5, q6⟩
          rw [← q1, ze_10_12 _ _ _ hb]
          simp (disch := first | omega | assumption | (simp (disch := omega) only [vup_fn, vup_o, vup_k, vup_at]; first | done | omega | assumption)) only [hV, e11, ze_10_31, ze_10_40, Int.add_zero, ↓reduceIte, qw_id, zck_T, zck_t, zGor_v, zGor_n, zGor_e, zbs, vup_at, vup_vup, vup_self, vup_o, vup_k, vup_fn, ne_eq, not_true_eq_false, not_false_eq_true, and_true, true_and, and_self, and_false, false_and, or_true, true_or, or_self, or_false, false_or, xlt_t, xlt_f, xle_t, xle_f, xeq_t, xeq_f, xand_f, xor_t]
        · have hx0 : gX K N k = 2 := by
            unfold gX
            rw [if_pos h3, if_neg hkk]
          rw [if_neg hkk] at e11
          refine ⟨vup (vup V x 2 2) x 3 (V (x + 2) k), 2, k, ?_, Or.inl ⟨k, by omega, hx, by omega, hx0.symm, rfl⟩, by rw [vup_k (by decide), vup_at], by rw [vup_at, if_neg (by decide), if_neg (by omega)], fun q => absurd q (by decide), cFp_t (cFp_v hx8 (by omega)) (cFp_v hx8 (by omega))⟩
          rw [ze_10_12 _ _ _ hb]
          simp (disch := first | omega | assumption | (simp (disch := omega) only [vup_fn, vup_o, vup_k, vup_at]; first | done | omega | assumption)) only [hV, e11, ze_10_31, ze_10_40, ze_87_0, ze_10_56, Int.add_zero, ↓reduceIte, qw_id, zck_T, zck_t, zGor_v, zGor_n, zGor_e, zbs, vup_at, vup_vup, vup_self, vup_o, vup_k, vup_fn, ne_eq, not_true_eq_false, not_false_eq_true, and_true, true_and, and_self, and_false, false_and, or_true, true_or, or_self, or_false, false_or, xlt_t, xlt_f, xle_t, xle_f, xeq_t, xeq_f, xand_f, xor_t]
      · have hi := gInv_n hk.1 hx
        have hEE := hE_rng hr hk.1 (by omega)
        have hi1 := hi.1
        have e12 := sp12 (V := V) (J := J) (d := d) (x := x) (k := k) (w := K k) (m := N k) (D := hD K k) (E := hE K N k) (F := hF K k) hb hx8 (by omega) hkr.1 hkr.2 hck.1 hck.2 hg.1 hi.1.1 hg.2.2.1 (by omega) (by omega) hg.2.2.2.2.1 (by omega) (by omega)
        have ex : gX K N k = gXf (K k) (N k) (hD K k) (hE K N k) (hF K k) := by
          unfold gX
          rw [if_neg h3]
        rw [← ex] at e12
        have hxr : 0 ≤ gX K N k ∧ gX K N k ≤ 5 := by
          rw [ex]
          unfold gXf
          repeat' split
          all_goals omega
        by_cases hx0 : gX K N k = 0
        · have hgs := cGr_s hx8 (by omega) hi hx0 hg
          rw [hx0, if_pos rfl] at e12
          generalize hV1 : cFo V x k (K k) (hD K k) (hE K N k) (hF K k) = V1 at *
          have f1 : cFp x V V1 := by
            rw [← hV1]
            exact cFp_cFo hx8
          have fx : ∀ j, V1 x j = V x j := fun j => by rw [← hV1, cFo_x hx8]
          obtain ⟨V', F, A, q1, q2, q3, q4, q5, q6⟩ := ih V1 (k + 1) (.int (zi 0)) (by omega) (by omega) (by rw [fx, hV]) (by rw [fx, hend]) (by rw [fx, hFF]) (by rw [fx, hA]) (by
              intro j j1 j2
              rw [f1.1 (x + 1) (by omega), f1.1 (x + 3) (by omega)]
              exact hc j j1 j2) (by
              intro j j1 j2
              by_cases hj : j = k
              · rw [hj]; exact hx0
              · exact hx j j1 (by omega)) hgs
          refine ⟨V', F, A, ?_, q2, q3, ?_, q5, cFp_t f1 q6⟩
          · rw [← q1, ze_10_12 _ _ _ hb]
            simp (disch := first | omega | assumption | (simp (disch := omega) only [vup_fn, vup_o, vup_k, vup_at]; first | done | omega | assumption)) only [hV, e12, ze_10_40, Int.add_zero, ↓reduceIte, qw_id, zck_T, zck_t, zGor_v, zGor_n, zGor_e, zbs, vup_at, vup_vup, vup_self, vup_o, vup_k, vup_fn, ne_eq, not_true_eq_false, not_false_eq_true, and_true, true_and, and_self, and_false, false_and, or_true, true_or, or_self, or_false, false_or, xlt_t, xlt_f, xle_t, xle_f, xeq_t, xeq_f, xand_f, xor_t]
          · rw [q4, f1.1 (x + 2) (by omega)]
        · rw [if_neg hx0] at e12
          refine ⟨vup (vup V x 2 (gX K N k)) x 3 (V (x + 2) k), gX K N k, k, ?_, Or.inl ⟨k, by omega, hx, hx0, rfl, rfl⟩, by rw [vup_k (by decide), vup_at], by rw [vup_at, if_neg hx0, if_neg (by omega)], fun q => absurd q hx0, cFp_t (cFp_v hx8 (by omega)) (cFp_v hx8 (by omega))⟩
          rw [ze_10_12 _ _ _ hb]
          simp (disch := first | omega | assumption | (simp (disch := omega) only [vup_fn, vup_o, vup_k, vup_at]; first | done | omega | assumption)) only [hV, e12, ze_10_40, ze_87_0, ze_10_56, Int.add_zero, ↓reduceIte, qw_id, zck_T, zck_t, zGor_v, zGor_n, zGor_e, zbs, vup_at, vup_vup, vup_self, vup_o, vup_k, vup_fn, ne_eq, not_true_eq_false, not_false_eq_true, and_true, true_and, and_self, and_false, false_and, or_true, true_or, or_self, or_false, false_or, xlt_t, xlt_f, xle_t, xle_f, xeq_t, xeq_f, xand_f, xor_t]
theorem sp10 {V : zVt} {K N : Int → Int} {n e : Int} (hb : zBk 10 x) (hx8 : 13 ≤ x) (hn : 0 ≤ n ∧ n ≤ 60) (hr : kRng K N n) (hV : V x 0 = n) (hend : V x 1 = e) (hFF : V x 2 = 0) (hA : V x 3 = -1) (hc : ∀ j, 0 ≤ j → j < n → V (x + 1) j = K j ∧ (K j = 7 ∨ K j = 8 → V (x + 3) j = N j)) :
    ∃ V' F A, zGo false 10 0 [.ref 9, .ref x, .null, .null] [] (zm V J d) = zN1 V' J d ∧ yPs K N n F A ∧ V' x 2 = F ∧ V' x 3 = (if F = 0 then -1 else if A = -1 then e else V (x + 2) A) ∧ (F = 0 → cGr V' x K N n) ∧ cFp x V V' := by
  obtain ⟨V', F, A, q1, q2, q3, q4, q5, q6⟩ := sl10 (J := J) (d := d) hb hx8 hn hr 100 (vup (vup V 9 2 0) 9 3 (-1)) 0 .null (by omega) (by omega) (by rw [vup_o (by omega), vup_o (by omega), hV]) (by rw [vup_o (by omega), vup_o (by omega), hend]) (by rw [vup_o (by omega), vup_o (by omega), hFF]) (by rw [vup_o (by omega), vup_o (by omega), hA]) (by
    intro j j1 j2
    simp (disch := omega) only [vup_o]
    exact hc j j1 j2) (by intro j j1 j2; omega) (cGr_0 (by omega) (by omega) (by rw [vup_k (by decide), vup_at]) (vup_at _ _ _ _))
  refine ⟨V', F, A, ?_, q2, q3, ?_, q5, cFp_t (cFp_t (cFp_v hx8 (by omega)) (cFp_v hx8 (by omega))) q6⟩
  · rw [← q1, ze_10_0 _ hb]
  · rw [q4, vup_fn (by omega), vup_fn (by omega)]
end
