/-! part 38: the class's reading of any token -/
theorem vup_c {V : zVt} {o1 o2 : Nat} {k1 k2 x1 x2 : Int} (h : o1 ≠ o2 ∨ k1 ≠ k2) : vup (vup V o1 k1 x1) o2 k2 x2 = vup (vup V o2 k2 x2) o1 k1 x1 := by
  funext o k
  unfold vup
  by_cases h1 : o = o1 ∧ k = k1
  · by_cases h2 : o = o2 ∧ k = k2
    · exfalso
      rcases h with h | h
      · exact h (h1.1.symm.trans h2.1)
      · exact h (h1.2.symm.trans h2.2)
    · simp only [if_pos h1, if_neg h2]
  · simp only [if_neg h1]
theorem cTk_4 (V : zVt) (x : Nat) (n k a u pl s t i e pl2 s2 t2 i2 : Int) : vup (vup (vup (vup (cTk V x n k a u pl s t i e) (x + 4) n pl2) (x + 5) n s2) (x + 6) n t2) (x + 7) n i2 = cTk V x n k a u pl2 s2 t2 i2 e := by
  unfold cTk
  generalize vup (vup (vup (vup (vup (vup V (x + 1) n k) (x + 2) n a) (x + 3) n u) (x + 8) n (-1)) x 0 (n + 1)) 7 2 e = W
  funext o j
  by_cases hj : j = n
  · subst hj
    by_cases o4 : o = x + 4
    · subst o4
      simp (disch := omega) only [vup_o, vup_at]
    · by_cases o5 : o = x + 5
      · subst o5
        simp (disch := omega) only [vup_o, vup_at]
      · by_cases o6 : o = x + 6
        · subst o6
          simp (disch := omega) only [vup_o, vup_at]
        · by_cases o7 : o = x + 7
          · subst o7
            simp (disch := omega) only [vup_at]
          · simp (disch := omega) only [vup_o]
  · simp (disch := assumption) only [vup_k]
theorem cTk_t (V : zVt) (x : Nat) (n k a u pl s t i e t2 : Int) : vup (cTk V x n k a u pl s t i e) (x + 6) n t2 = cTk V x n k a u pl s t2 i e := by
  unfold cTk
  rw [vup_c (o1 := x + 7) (o2 := x + 6) (by omega), vup_vup]
theorem cTk_0 (V : zVt) (x : Nat) (n k a u pl s t i e : Int) (hx : 13 ≤ x) : cTk V x n k a u pl s t i e x 0 = n + 1 := by
  unfold cTk
  simp (disch := omega) only [vup_o, vup_at]
theorem xps (p b : Int) : p + (b - p) = b := by omega
section
variable {V : zVt} {J : zJt} {d : Nat → Nat → UInt64} {T : Int → Int} {x : Nat}
theorem sp50 (h : rdOk (V 7 1) (V 8) T) (hp : 0 ≤ V 7 2 ∧ V 7 2 < 9000) (hb : zBk 10 x) (hx : 13 ≤ x) (hn : 0 ≤ V x 0 ∧ V x 0 < 60) : zGo false 50 0 [.ref 7, .ref x, .null] [] (zm V J d) =
    if T (V 7 2 + 1) = 71 ∨ T (V 7 2 + 1) = 70 ∨ T (V 7 2 + 1) = 67 then zI1 1 (cTk V x (V x 0) 0 (V 7 2) (if T (V 7 2 + 1) = 71 then 0 else if T (V 7 2 + 1) = 70 then 1 else 2) 0 0 0 0 (V 7 2 + 2)) J d else zI1 0 V J d := by
  have r1 := h.2.2.2 (V 7 2 + 1) (by omega)
  by_cases h1 : T (V 7 2 + 1) = 71
  · simp (disch := first | omega | assumption | (simp (disch := omega) only [cTk_0, vup_fn, vup_o, vup_k, vup_at]; first | done | omega | assumption)) only [ze_50_0, ze_50_5, ze_50_26, ze_50_50, ze_50_54, sp48, sp51, Int.add_zero, ↓reduceIte, qw_id, zck_T, zck_t, zGor_v, zGor_n, zGor_e, zbs, vup_at, vup_vup, vup_self, vup_o, vup_k, vup_fn, ne_eq, not_true_eq_false, not_false_eq_true, and_true, true_and, and_self, and_false, false_and, or_true, true_or, or_self, or_false, false_or, xlt_t, xlt_f, xle_t, xle_f, xeq_t, xeq_f, xand_f, xor_t]
  · by_cases h2 : T (V 7 2 + 1) = 70
    · simp (disch := first | omega | assumption | (simp (disch := omega) only [cTk_0, vup_fn, vup_o, vup_k, vup_at]; first | done | omega | assumption)) only [ze_50_0, ze_50_5, ze_50_26, ze_50_50, ze_50_54, sp48, sp51, Int.add_zero, ↓reduceIte, qw_id, zck_T, zck_t, zGor_v, zGor_n, zGor_e, zbs, vup_at, vup_vup, vup_self, vup_o, vup_k, vup_fn, ne_eq, not_true_eq_false, not_false_eq_true, and_true, true_and, and_self, and_false, false_and, or_true, true_or, or_self, or_false, false_or, xlt_t, xlt_f, xle_t, xle_f, xeq_t, xeq_f, xand_f, xor_t]
    · by_cases h3 : T (V 7 2 + 1) = 67
      · simp (disch := first | omega | assumption | (simp (disch := omega) only [cTk_0, vup_fn, vup_o, vup_k, vup_at]; first | done | omega | assumption)) only [ze_50_0, ze_50_5, ze_50_26, ze_50_50, ze_50_54, sp48, sp51, Int.add_zero, ↓reduceIte, qw_id, zck_T, zck_t, zGor_v, zGor_n, zGor_e, zbs, vup_at, vup_vup, vup_self, vup_o, vup_k, vup_fn, ne_eq, not_true_eq_false, not_false_eq_true, and_true, true_and, and_self, and_false, false_and, or_true, true_or, or_self, or_false, false_or, xlt_t, xlt_f, xle_t, xle_f, xeq_t, xeq_f, xand_f, xor_t]
      · simp (disch := first | omega | assumption | (simp (disch := omega) only [cTk_0, vup_fn, vup_o, vup_k, vup_at]; first | done | omega | assumption)) only [ze_50_0, ze_50_5, ze_50_26, ze_50_50, ze_50_54, sp48, sp51, Int.add_zero, ↓reduceIte, qw_id, zck_T, zck_t, zGor_v, zGor_n, zGor_e, zbs, vup_at, vup_vup, vup_self, vup_o, vup_k, vup_fn, ne_eq, not_true_eq_false, not_false_eq_true, and_true, true_and, and_self, and_false, false_and, or_true, true_or, or_self, or_false, false_or, xlt_t, xlt_f, xle_t, xle_f, xeq_t, xeq_f, xand_f, xor_t]
theorem sp52 (h : rdOk (V 7 1) (V 8) T) (hp : 0 ≤ V 7 2 ∧ V 7 2 < 9000) (hb : zBk 10 x) (hx : 13 ≤ x) (hn : 0 ≤ V x 0 ∧ V x 0 < 60) {c : Int} (hc : c = 1 ∨ c = -1) : zGo false 52 0 [.ref 7, .ref x, .int (zi c), .null] [] (zm V J d) =
    if 48 ≤ T (V 7 2 + 1) ∧ T (V 7 2 + 1) ≤ 55 then zI1 1 (cTk V x (V x 0) 1 (V 7 2) (c * (T (V 7 2 + 1) - 48)) 0 0 0 0 (V 7 2 + 2)) J d else zI1 0 V J d := by
  have r1 := h.2.2.2 (V 7 2 + 1) (by omega)
  rcases yDg_cs (T (V 7 2 + 1)) with ⟨a, b, e⟩ | ⟨a, e⟩
  · by_cases h1 : T (V 7 2 + 1) ≤ 55
    · simp (disch := first | omega | assumption | (simp (disch := omega) only [cTk_0, vup_fn, vup_o, vup_k, vup_at]; first | done | omega | assumption)) only [ze_52_0, ze_52_5, ze_52_26, ze_52_33, ze_52_34, sp53, sp51, e, Int.add_zero, ↓reduceIte, qw_id, zck_T, zck_t, zGor_v, zGor_n, zGor_e, zbs, vup_at, vup_vup, vup_self, vup_o, vup_k, vup_fn, ne_eq, not_true_eq_false, not_false_eq_true, and_true, true_and, and_self, and_false, false_and, or_true, true_or, or_self, or_false, false_or, xlt_t, xlt_f, xle_t, xle_f, xeq_t, xeq_f, xand_f, xor_t]
    · simp (disch := first | omega | assumption | (simp (disch := omega) only [cTk_0, vup_fn, vup_o, vup_k, vup_at]; first | done | omega | assumption)) only [ze_52_0, ze_52_5, ze_52_26, ze_52_33, ze_52_34, sp53, sp51, e, Int.add_zero, ↓reduceIte, qw_id, zck_T, zck_t, zGor_v, zGor_n, zGor_e, zbs, vup_at, vup_vup, vup_self, vup_o, vup_k, vup_fn, ne_eq, not_true_eq_false, not_false_eq_true, and_true, true_and, and_self, and_false, false_and, or_true, true_or, or_self, or_false, false_or, xlt_t, xlt_f, xle_t, xle_f, xeq_t, xeq_f, xand_f, xor_t]
  · simp (disch := first | omega | assumption | (simp (disch := omega) only [cTk_0, vup_fn, vup_o, vup_k, vup_at]; first | done | omega | assumption)) only [ze_52_0, ze_52_5, ze_52_26, ze_52_33, ze_52_34, sp53, sp51, e, Int.add_zero, ↓reduceIte, qw_id, zck_T, zck_t, zGor_v, zGor_n, zGor_e, zbs, vup_at, vup_vup, vup_self, vup_o, vup_k, vup_fn, ne_eq, not_true_eq_false, not_false_eq_true, and_true, true_and, and_self, and_false, false_and, or_true, true_or, or_self, or_false, false_or, xlt_t, xlt_f, xle_t, xle_f, xeq_t, xeq_f, xand_f, xor_t]
theorem sp59 (h : rdOk (V 7 1) (V 8) T) (hp : 0 ≤ V 7 2 ∧ V 7 2 < 9000) (hb : zBk 10 x) (hx : 13 ≤ x) (hn : 0 ≤ V x 0 ∧ V x 0 < 60) : zGo false 59 0 [.ref 7, .ref x, .null] [] (zm V J d) =
    if 50 ≤ T (V 7 2 + 1) ∧ T (V 7 2 + 1) ≤ 52 then zI1 1 (cTk V x (V x 0) 7 (V 7 2) (T (V 7 2 + 1) - 48) 0 0 0 0 (V 7 2 + 2)) J d else zI1 0 V J d := by
  have r1 := h.2.2.2 (V 7 2 + 1) (by omega)
  rcases yDg_cs (T (V 7 2 + 1)) with ⟨a, b, e⟩ | ⟨a, e⟩
  · by_cases h1 : T (V 7 2 + 1) < 50
    · simp (disch := first | omega | assumption | (simp (disch := omega) only [cTk_0, vup_fn, vup_o, vup_k, vup_at]; first | done | omega | assumption)) only [ze_59_0, ze_59_5, ze_59_25, ze_59_32, ze_59_33, sp53, sp51, e, Int.add_zero, ↓reduceIte, qw_id, zck_T, zck_t, zGor_v, zGor_n, zGor_e, zbs, vup_at, vup_vup, vup_self, vup_o, vup_k, vup_fn, ne_eq, not_true_eq_false, not_false_eq_true, and_true, true_and, and_self, and_false, false_and, or_true, true_or, or_self, or_false, false_or, xlt_t, xlt_f, xle_t, xle_f, xeq_t, xeq_f, xand_f, xor_t]
    · by_cases h2 : T (V 7 2 + 1) ≤ 52
      · simp (disch := first | omega | assumption | (simp (disch := omega) only [cTk_0, vup_fn, vup_o, vup_k, vup_at]; first | done | omega | assumption)) only [ze_59_0, ze_59_5, ze_59_25, ze_59_32, ze_59_33, sp53, sp51, e, Int.add_zero, ↓reduceIte, qw_id, zck_T, zck_t, zGor_v, zGor_n, zGor_e, zbs, vup_at, vup_vup, vup_self, vup_o, vup_k, vup_fn, ne_eq, not_true_eq_false, not_false_eq_true, and_true, true_and, and_self, and_false, false_and, or_true, true_or, or_self, or_false, false_or, xlt_t, xlt_f, xle_t, xle_f, xeq_t, xeq_f, xand_f, xor_t]
      · simp (disch := first | omega | assumption | (simp (disch := omega) only [cTk_0, vup_fn, vup_o, vup_k, vup_at]; first | done | omega | assumption)) only [ze_59_0, ze_59_5, ze_59_25, ze_59_32, ze_59_33, sp53, sp51, e, Int.add_zero, ↓reduceIte, qw_id, zck_T, zck_t, zGor_v, zGor_n, zGor_e, zbs, vup_at, vup_vup, vup_self, vup_o, vup_k, vup_fn, ne_eq, not_true_eq_false, not_false_eq_true, and_true, true_and, and_self, and_false, false_and, or_true, true_or, or_self, or_false, false_or, xlt_t, xlt_f, xle_t, xle_f, xeq_t, xeq_f, xand_f, xor_t]
  · simp (disch := first | omega | assumption | (simp (disch := omega) only [cTk_0, vup_fn, vup_o, vup_k, vup_at]; first | done | omega | assumption)) only [ze_59_0, ze_59_5, ze_59_25, ze_59_32, ze_59_33, sp53, sp51, e, Int.add_zero, ↓reduceIte, qw_id, zck_T, zck_t, zGor_v, zGor_n, zGor_e, zbs, vup_at, vup_vup, vup_self, vup_o, vup_k, vup_fn, ne_eq, not_true_eq_false, not_false_eq_true, and_true, true_and, and_self, and_false, false_and, or_true, true_or, or_self, or_false, false_or, xlt_t, xlt_f, xle_t, xle_f, xeq_t, xeq_f, xand_f, xor_t]
theorem sp60 (h : rdOk (V 7 1) (V 8) T) (hp : 0 ≤ V 7 2 ∧ V 7 2 < 9000) (hb : zBk 10 x) (hx : 13 ≤ x) (hn : 0 ≤ V x 0 ∧ V x 0 < 60) : zGo false 60 0 [.ref 7, .ref x, .null] [] (zm V J d) =
    if (49 ≤ T (V 7 2 + 1) ∧ T (V 7 2 + 1) ≤ 52) ∧ T (V 7 2 + 2) = 58 then zI1 1 (cTk V x (V x 0) 8 (V 7 2) (T (V 7 2 + 1) - 48) 0 0 0 0 (V 7 2 + 3)) J d else zI1 0 V J d := by
  have r1 := h.2.2.2 (V 7 2 + 1) (by omega)
  have r2 := h.2.2.2 (V 7 2 + 2) (by omega)
  rcases yDg_cs (T (V 7 2 + 1)) with ⟨a, b, e⟩ | ⟨a, e⟩
  · by_cases h1 : T (V 7 2 + 1) < 49
    · simp (disch := first | omega | assumption | (simp (disch := omega) only [cTk_0, vup_fn, vup_o, vup_k, vup_at]; first | done | omega | assumption)) only [ze_60_0, ze_60_5, ze_60_21, ze_60_35, ze_60_42, ze_60_43, sp48, sp53, sp51, e, Int.add_zero, ↓reduceIte, qw_id, zck_T, zck_t, zGor_v, zGor_n, zGor_e, zbs, vup_at, vup_vup, vup_self, vup_o, vup_k, vup_fn, ne_eq, not_true_eq_false, not_false_eq_true, and_true, true_and, and_self, and_false, false_and, or_true, true_or, or_self, or_false, false_or, xlt_t, xlt_f, xle_t, xle_f, xeq_t, xeq_f, xand_f, xor_t]
    · by_cases h2 : T (V 7 2 + 1) ≤ 52
      · by_cases h3 : T (V 7 2 + 2) = 58
        · simp (disch := first | omega | assumption | (simp (disch := omega) only [cTk_0, vup_fn, vup_o, vup_k, vup_at]; first | done | omega | assumption)) only [ze_60_0, ze_60_5, ze_60_21, ze_60_35, ze_60_42, ze_60_43, sp48, sp53, sp51, e, Int.add_zero, ↓reduceIte, qw_id, zck_T, zck_t, zGor_v, zGor_n, zGor_e, zbs, vup_at, vup_vup, vup_self, vup_o, vup_k, vup_fn, ne_eq, not_true_eq_false, not_false_eq_true, and_true, true_and, and_self, and_false, false_and, or_true, true_or, or_self, or_false, false_or, xlt_t, xlt_f, xle_t, xle_f, xeq_t, xeq_f, xand_f, xor_t]
        · simp (disch := first | omega | assumption | (simp (disch := omega) only [cTk_0, vup_fn, vup_o, vup_k, vup_at]; first | done | omega | assumption)) only [ze_60_0, ze_60_5, ze_60_21, ze_60_35, ze_60_42, ze_60_43, sp48, sp53, sp51, e, Int.add_zero, ↓reduceIte, qw_id, zck_T, zck_t, zGor_v, zGor_n, zGor_e, zbs, vup_at, vup_vup, vup_self, vup_o, vup_k, vup_fn, ne_eq, not_true_eq_false, not_false_eq_true, and_true, true_and, and_self, and_false, false_and, or_true, true_or, or_self, or_false, false_or, xlt_t, xlt_f, xle_t, xle_f, xeq_t, xeq_f, xand_f, xor_t]
      · simp (disch := first | omega | assumption | (simp (disch := omega) only [cTk_0, vup_fn, vup_o, vup_k, vup_at]; first | done | omega | assumption)) only [ze_60_0, ze_60_5, ze_60_21, ze_60_35, ze_60_42, ze_60_43, sp48, sp53, sp51, e, Int.add_zero, ↓reduceIte, qw_id, zck_T, zck_t, zGor_v, zGor_n, zGor_e, zbs, vup_at, vup_vup, vup_self, vup_o, vup_k, vup_fn, ne_eq, not_true_eq_false, not_false_eq_true, and_true, true_and, and_self, and_false, false_and, or_true, true_or, or_self, or_false, false_or, xlt_t, xlt_f, xle_t, xle_f, xeq_t, xeq_f, xand_f, xor_t]
  · simp (disch := first | omega | assumption | (simp (disch := omega) only [cTk_0, vup_fn, vup_o, vup_k, vup_at]; first | done | omega | assumption)) only [ze_60_0, ze_60_5, ze_60_21, ze_60_35, ze_60_42, ze_60_43, sp48, sp53, sp51, e, Int.add_zero, ↓reduceIte, qw_id, zck_T, zck_t, zGor_v, zGor_n, zGor_e, zbs, vup_at, vup_vup, vup_self, vup_o, vup_k, vup_fn, ne_eq, not_true_eq_false, not_false_eq_true, and_true, true_and, and_self, and_false, false_and, or_true, true_or, or_self, or_false, false_or, xlt_t, xlt_f, xle_t, xle_f, xeq_t, xeq_f, xand_f, xor_t]
theorem sp54 (h : rdOk (V 7 1) (V 8) T) (hp : 0 ≤ V 7 2 ∧ V 7 2 < 9000) (hb : zBk 10 x) (hx : 13 ≤ x) (hn : 0 ≤ V x 0 ∧ V x 0 < 60) : zGo false 54 0 [.ref 7, .ref x, .null, .null, .null] [] (zm V J d) =
    if yMet (T (V 7 2 + 1)) (T (V 7 2 + 2)) (T (V 7 2 + 3)) = 0 then zI1 0 V J d else zI1 1 (cTk V x (V x 0) 2 (V 7 2) (yMet (T (V 7 2 + 1)) (T (V 7 2 + 2)) (T (V 7 2 + 3))) 0 0 0 0 (V 7 2 + 4)) J d := by
  have r1 := h.2.2.2 (V 7 2 + 1) (by omega)
  have r2 := h.2.2.2 (V 7 2 + 2) (by omega)
  have r3 := h.2.2.2 (V 7 2 + 3) (by omega)
  unfold yMet
  rcases yDg_cs (T (V 7 2 + 1)) with ⟨a, b, e⟩ | ⟨a, e⟩
  · have c4 : (T (V 7 2 + 1) - 48) * 4 = 4 * (T (V 7 2 + 1) - 48) := by omega
    have c2 : (T (V 7 2 + 1) - 48) * 2 = 2 * (T (V 7 2 + 1) - 48) := by omega
    rcases yDg_cs (T (V 7 2 + 3)) with ⟨a3, b3, e3⟩ | ⟨a3, e3⟩
    · by_cases h1 : T (V 7 2 + 1) = 48
      · simp (disch := first | omega | assumption | (simp (disch := omega) only [cTk_0, vup_fn, vup_o, vup_k, vup_at]; first | done | omega | assumption)) only [ze_54_0, ze_54_5, ze_54_11, ze_54_22, ze_54_38, ze_54_40, ze_54_51, ze_54_76, ze_54_83, ze_54_84, sp48, sp53, sp51, e, e3, Int.add_zero, ↓reduceIte, qw_id, zck_T, zck_t, zGor_v, zGor_n, zGor_e, zbs, vup_at, vup_vup, vup_self, vup_o, vup_k, vup_fn, ne_eq, not_true_eq_false, not_false_eq_true, and_true, true_and, and_self, and_false, false_and, or_true, true_or, or_self, or_false, false_or, xlt_t, xlt_f, xle_t, xle_f, xeq_t, xeq_f, xand_f, xor_t]
      · by_cases h2 : T (V 7 2 + 2) = 47
        · by_cases h4 : T (V 7 2 + 3) = 52
          · by_cases h6 : 4 * (T (V 7 2 + 1) - 48) ≤ 16
            · simp (disch := first | omega | assumption | (simp (disch := omega) only [cTk_0, vup_fn, vup_o, vup_k, vup_at]; first | done | omega | assumption)) only [ze_54_0, ze_54_5, ze_54_11, ze_54_22, ze_54_38, ze_54_40, ze_54_51, ze_54_76, ze_54_83, ze_54_84, sp48, sp53, sp51, e, e3, c4, Int.add_zero, ↓reduceIte, qw_id, zck_T, zck_t, zGor_v, zGor_n, zGor_e, zbs, vup_at, vup_vup, vup_self, vup_o, vup_k, vup_fn, ne_eq, not_true_eq_false, not_false_eq_true, and_true, true_and, and_self, and_false, false_and, or_true, true_or, or_self, or_false, false_or, xlt_t, xlt_f, xle_t, xle_f, xeq_t, xeq_f, xand_f, xor_t]
            · simp (disch := first | omega | assumption | (simp (disch := omega) only [cTk_0, vup_fn, vup_o, vup_k, vup_at]; first | done | omega | assumption)) only [ze_54_0, ze_54_5, ze_54_11, ze_54_22, ze_54_38, ze_54_40, ze_54_51, ze_54_76, ze_54_83, ze_54_84, sp48, sp53, sp51, e, e3, c4, Int.add_zero, ↓reduceIte, qw_id, zck_T, zck_t, zGor_v, zGor_n, zGor_e, zbs, vup_at, vup_vup, vup_self, vup_o, vup_k, vup_fn, ne_eq, not_true_eq_false, not_false_eq_true, and_true, true_and, and_self, and_false, false_and, or_true, true_or, or_self, or_false, false_or, xlt_t, xlt_f, xle_t, xle_f, xeq_t, xeq_f, xand_f, xor_t]
          · by_cases h8 : T (V 7 2 + 3) = 56
            · by_cases h6 : 2 * (T (V 7 2 + 1) - 48) ≤ 16
              · simp (disch := first | omega | assumption | (simp (disch := omega) only [cTk_0, vup_fn, vup_o, vup_k, vup_at]; first | done | omega | assumption)) only [ze_54_0, ze_54_5, ze_54_11, ze_54_22, ze_54_38, ze_54_40, ze_54_51, ze_54_76, ze_54_83, ze_54_84, sp48, sp53, sp51, e, e3, c2, Int.add_zero, ↓reduceIte, qw_id, zck_T, zck_t, zGor_v, zGor_n, zGor_e, zbs, vup_at, vup_vup, vup_self, vup_o, vup_k, vup_fn, ne_eq, not_true_eq_false, not_false_eq_true, and_true, true_and, and_self, and_false, false_and, or_true, true_or, or_self, or_false, false_or, xlt_t, xlt_f, xle_t, xle_f, xeq_t, xeq_f, xand_f, xor_t]
              · simp (disch := first | omega | assumption | (simp (disch := omega) only [cTk_0, vup_fn, vup_o, vup_k, vup_at]; first | done | omega | assumption)) only [ze_54_0, ze_54_5, ze_54_11, ze_54_22, ze_54_38, ze_54_40, ze_54_51, ze_54_76, ze_54_83, ze_54_84, sp48, sp53, sp51, e, e3, c2, Int.add_zero, ↓reduceIte, qw_id, zck_T, zck_t, zGor_v, zGor_n, zGor_e, zbs, vup_at, vup_vup, vup_self, vup_o, vup_k, vup_fn, ne_eq, not_true_eq_false, not_false_eq_true, and_true, true_and, and_self, and_false, false_and, or_true, true_or, or_self, or_false, false_or, xlt_t, xlt_f, xle_t, xle_f, xeq_t, xeq_f, xand_f, xor_t]
            · simp (disch := first | omega | assumption | (simp (disch := omega) only [cTk_0, vup_fn, vup_o, vup_k, vup_at]; first | done | omega | assumption)) only [ze_54_0, ze_54_5, ze_54_11, ze_54_22, ze_54_38, ze_54_40, ze_54_51, ze_54_76, ze_54_83, ze_54_84, sp48, sp53, sp51, e, e3, Int.add_zero, ↓reduceIte, qw_id, zck_T, zck_t, zGor_v, zGor_n, zGor_e, zbs, vup_at, vup_vup, vup_self, vup_o, vup_k, vup_fn, ne_eq, not_true_eq_false, not_false_eq_true, and_true, true_and, and_self, and_false, false_and, or_true, true_or, or_self, or_false, false_or, xlt_t, xlt_f, xle_t, xle_f, xeq_t, xeq_f, xand_f, xor_t]
        · simp (disch := first | omega | assumption | (simp (disch := omega) only [cTk_0, vup_fn, vup_o, vup_k, vup_at]; first | done | omega | assumption)) only [ze_54_0, ze_54_5, ze_54_11, ze_54_22, ze_54_38, ze_54_40, ze_54_51, ze_54_76, ze_54_83, ze_54_84, sp48, sp53, sp51, e, e3, Int.add_zero, ↓reduceIte, qw_id, zck_T, zck_t, zGor_v, zGor_n, zGor_e, zbs, vup_at, vup_vup, vup_self, vup_o, vup_k, vup_fn, ne_eq, not_true_eq_false, not_false_eq_true, and_true, true_and, and_self, and_false, false_and, or_true, true_or, or_self, or_false, false_or, xlt_t, xlt_f, xle_t, xle_f, xeq_t, xeq_f, xand_f, xor_t]
    · by_cases h1 : T (V 7 2 + 1) = 48
      · simp (disch := first | omega | assumption | (simp (disch := omega) only [cTk_0, vup_fn, vup_o, vup_k, vup_at]; first | done | omega | assumption)) only [ze_54_0, ze_54_5, ze_54_11, ze_54_22, ze_54_38, ze_54_40, ze_54_51, ze_54_76, ze_54_83, ze_54_84, sp48, sp53, sp51, e, e3, Int.add_zero, ↓reduceIte, qw_id, zck_T, zck_t, zGor_v, zGor_n, zGor_e, zbs, vup_at, vup_vup, vup_self, vup_o, vup_k, vup_fn, ne_eq, not_true_eq_false, not_false_eq_true, and_true, true_and, and_self, and_false, false_and, or_true, true_or, or_self, or_false, false_or, xlt_t, xlt_f, xle_t, xle_f, xeq_t, xeq_f, xand_f, xor_t]
      · by_cases h2 : T (V 7 2 + 2) = 47
        · simp (disch := first | omega | assumption | (simp (disch := omega) only [cTk_0, vup_fn, vup_o, vup_k, vup_at]; first | done | omega | assumption)) only [ze_54_0, ze_54_5, ze_54_11, ze_54_22, ze_54_38, ze_54_40, ze_54_51, ze_54_76, ze_54_83, ze_54_84, sp48, sp53, sp51, e, e3, Int.add_zero, ↓reduceIte, qw_id, zck_T, zck_t, zGor_v, zGor_n, zGor_e, zbs, vup_at, vup_vup, vup_self, vup_o, vup_k, vup_fn, ne_eq, not_true_eq_false, not_false_eq_true, and_true, true_and, and_self, and_false, false_and, or_true, true_or, or_self, or_false, false_or, xlt_t, xlt_f, xle_t, xle_f, xeq_t, xeq_f, xand_f, xor_t]
        · simp (disch := first | omega | assumption | (simp (disch := omega) only [cTk_0, vup_fn, vup_o, vup_k, vup_at]; first | done | omega | assumption)) only [ze_54_0, ze_54_5, ze_54_11, ze_54_22, ze_54_38, ze_54_40, ze_54_51, ze_54_76, ze_54_83, ze_54_84, sp48, sp53, sp51, e, e3, Int.add_zero, ↓reduceIte, qw_id, zck_T, zck_t, zGor_v, zGor_n, zGor_e, zbs, vup_at, vup_vup, vup_self, vup_o, vup_k, vup_fn, ne_eq, not_true_eq_false, not_false_eq_true, and_true, true_and, and_self, and_false, false_and, or_true, true_or, or_self, or_false, false_or, xlt_t, xlt_f, xle_t, xle_f, xeq_t, xeq_f, xand_f, xor_t]
  · have e3 : -1 ≤ yDg (T (V 7 2 + 3)) ∧ yDg (T (V 7 2 + 3)) ≤ 9 := by
      rcases yDg_cs (T (V 7 2 + 3)) with ⟨a3, b3, e3⟩ | ⟨a3, e3⟩ <;> omega
    by_cases h1 : T (V 7 2 + 1) < 49
    · simp (disch := first | omega | assumption | (simp (disch := omega) only [cTk_0, vup_fn, vup_o, vup_k, vup_at]; first | done | omega | assumption)) only [ze_54_0, ze_54_5, ze_54_11, ze_54_22, ze_54_38, ze_54_40, ze_54_51, ze_54_76, ze_54_83, ze_54_84, sp48, sp53, sp51, e, Int.add_zero, ↓reduceIte, qw_id, zck_T, zck_t, zGor_v, zGor_n, zGor_e, zbs, vup_at, vup_vup, vup_self, vup_o, vup_k, vup_fn, ne_eq, not_true_eq_false, not_false_eq_true, and_true, true_and, and_self, and_false, false_and, or_true, true_or, or_self, or_false, false_or, xlt_t, xlt_f, xle_t, xle_f, xeq_t, xeq_f, xand_f, xor_t]
    · simp (disch := first | omega | assumption | (simp (disch := omega) only [cTk_0, vup_fn, vup_o, vup_k, vup_at]; first | done | omega | assumption)) only [ze_54_0, ze_54_5, ze_54_11, ze_54_22, ze_54_38, ze_54_40, ze_54_51, ze_54_76, ze_54_83, ze_54_84, sp48, sp53, sp51, e, Int.add_zero, ↓reduceIte, qw_id, zck_T, zck_t, zGor_v, zGor_n, zGor_e, zbs, vup_at, vup_vup, vup_self, vup_o, vup_k, vup_fn, ne_eq, not_true_eq_false, not_false_eq_true, and_true, true_and, and_self, and_false, false_and, or_true, true_or, or_self, or_false, false_or, xlt_t, xlt_f, xle_t, xle_f, xeq_t, xeq_f, xand_f, xor_t]
theorem sp55 (h : rdOk (V 7 1) (V 8) T) (hp : 0 ≤ V 7 2 ∧ V 7 2 < 9000) (hb : zBk 10 x) (hx : 13 ≤ x) (hn : 0 ≤ V x 0 ∧ V x 0 < 60) : zGo false 55 0 [.ref 7, .ref x, .null, .null] [] (zm V J d) =
    if yTe (T (V 7 2 + 1)) (T (V 7 2 + 2)) (V 7 2 + 1) = -1 then zI1 0 V J d else zI1 1 (cTk V x (V x 0) 4 (V 7 2) 0 0 0 (yTk (T (V 7 2 + 1)) (T (V 7 2 + 2))) 0 (yTe (T (V 7 2 + 1)) (T (V 7 2 + 2)) (V 7 2 + 1))) J d := by
  have r1 := h.2.2.2 (V 7 2 + 1) (by omega)
  have r2 := h.2.2.2 (V 7 2 + 2) (by omega)
  have hr := yTe_yTk (T (V 7 2 + 1)) (T (V 7 2 + 2)) (V 7 2 + 1)
  by_cases h1 : yTe (T (V 7 2 + 1)) (T (V 7 2 + 2)) (V 7 2 + 1) = -1
  · simp (disch := first | omega | assumption | (simp (disch := omega) only [cTk_0, vup_fn, vup_o, vup_k, vup_at]; first | done | omega | assumption)) only [ze_55_0, ze_55_6, ze_55_11, ze_55_14, ze_55_36, ze_55_41, ze_55_44, ze_55_52, ze_55_55, ze_55_61, ze_55_71, sp48, sp56, Int.add_zero, ↓reduceIte, qw_id, zck_T, zck_t, zGor_v, zGor_n, zGor_e, zbs, vup_at, vup_vup, vup_self, vup_o, vup_k, vup_fn, ne_eq, not_true_eq_false, not_false_eq_true, and_true, true_and, and_self, and_false, false_and, or_true, true_or, or_self, or_false, false_or, xlt_t, xlt_f, xle_t, xle_f, xeq_t, xeq_f, xand_f, xor_t]
  · have hd : yTe (T (V 7 2 + 1)) (T (V 7 2 + 2)) (V 7 2 + 1) = V 7 2 + (if 1 < yDur (T (V 7 2 + 1)) ∧ T (V 7 2 + 2) = 46 then 3 else 2) := by
      unfold yTe at h1 ⊢
      split
      · omega
      · rename_i hk
        rw [if_neg hk] at h1
        split
        · rename_i h0
          rw [if_pos h0] at h1
          omega
        · omega
    rw [hd] at hr ⊢
    by_cases h2 : 1 < yDur (T (V 7 2 + 1)) ∧ T (V 7 2 + 2) = 46
    · rw [if_pos h2] at hr ⊢
      have e58 := sp58 (V := V) (J := J) (d := d) r1 r2
      rw [if_pos h2] at e58
      simp (disch := first | omega | assumption | (simp (disch := omega) only [cTk_0, vup_fn, vup_o, vup_k, vup_at]; first | done | omega | assumption)) only [ze_55_0, ze_55_6, ze_55_11, ze_55_14, ze_55_36, ze_55_41, ze_55_44, ze_55_52, ze_55_55, ze_55_61, ze_55_71, sp48, sp56, e58, sp51, sp86, cTk_0, cTk_t, Int.add_zero, ↓reduceIte, qw_id, zck_T, zck_t, zGor_v, zGor_n, zGor_e, zbs, vup_at, vup_vup, vup_self, vup_o, vup_k, vup_fn, ne_eq, not_true_eq_false, not_false_eq_true, and_true, true_and, and_self, and_false, false_and, or_true, true_or, or_self, or_false, false_or, xlt_t, xlt_f, xle_t, xle_f, xeq_t, xeq_f, xand_f, xor_t]
    · rw [if_neg h2] at hr ⊢
      have e58 := sp58 (V := V) (J := J) (d := d) r1 r2
      rw [if_neg h2] at e58
      simp (disch := first | omega | assumption | (simp (disch := omega) only [cTk_0, vup_fn, vup_o, vup_k, vup_at]; first | done | omega | assumption)) only [ze_55_0, ze_55_6, ze_55_11, ze_55_14, ze_55_36, ze_55_41, ze_55_44, ze_55_52, ze_55_55, ze_55_61, ze_55_71, sp48, sp56, e58, sp51, sp86, cTk_0, cTk_t, Int.add_zero, ↓reduceIte, qw_id, zck_T, zck_t, zGor_v, zGor_n, zGor_e, zbs, vup_at, vup_vup, vup_self, vup_o, vup_k, vup_fn, ne_eq, not_true_eq_false, not_false_eq_true, and_true, true_and, and_self, and_false, false_and, or_true, true_or, or_self, or_false, false_or, xlt_t, xlt_f, xle_t, xle_f, xeq_t, xeq_f, xand_f, xor_t]
end
