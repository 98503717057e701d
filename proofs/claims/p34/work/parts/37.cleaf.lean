/-! part 37: the class's reading of a token -/
/-- the reader's letters are T -/
def rdOk (n : Int) (B T : Int → Int) : Prop := (0 ≤ n ∧ n ≤ 160) ∧ (∀ q, 0 ≤ q → q < n → B q = T q) ∧ (∀ q, n ≤ q → T q = 0) ∧ ∀ q, 0 ≤ q → 0 ≤ T q ∧ T q ≤ 126
def yDg (c : Int) : Int := if 48 ≤ c ∧ c ≤ 57 then c - 48 else -1
theorem yDg_cs (c : Int) : (48 ≤ c ∧ c ≤ 57 ∧ yDg c = c - 48) ∨ ((c < 48 ∨ 57 < c) ∧ yDg c = -1) := by
  unfold yDg
  split <;> omega
theorem vup_in (V : zVt) (o : Nat) (k x : Int) : vup V o k x o = fun j => if j = k then x else V o j := by
  funext j
  unfold vup
  simp only [true_and]
section
variable {V : zVt} {J : zJt} {d : Nat → Nat → UInt64} {T : Int → Int}
theorem sp48 (h : rdOk (V 7 1) (V 8) T) {x : Int} (hx : 0 ≤ V 7 2 + x ∧ V 7 2 + x < 100000) : zGo false 48 0 [.ref 7, .int (zi x), .null] [] (zm V J d) = zI1 (T (V 7 2 + x)) V J d := by
  obtain ⟨h1, h2, h3, h4⟩ := h
  have r := h4 _ hx.1
  by_cases hl : V 7 1 ≤ V 7 2 + x
  · have e := h3 _ hl
    rw [e]
    simp (disch := first | omega | assumption | (simp (disch := omega) only [vup_fn, vup_o, vup_k, vup_at]; first | done | omega | assumption)) only [ze_48_0, ze_48_28, ze_48_29, Int.add_zero, ↓reduceIte, qw_id, zck_T, zck_t, zGor_v, zGor_n, zGor_e, zbs, vup_at, vup_vup, vup_self, vup_o, vup_k, vup_fn, ne_eq, not_true_eq_false, not_false_eq_true, and_true, true_and, and_self, and_false, false_and, or_true, true_or, or_self, or_false, false_or, xlt_t, xlt_f, xle_t, xle_f, xeq_t, xeq_f, xand_f, xor_t]
  · have e := h2 _ hx.1 (by omega)
    simp (disch := first | omega | assumption | (simp (disch := omega) only [vup_fn, vup_o, vup_k, vup_at]; first | done | omega | assumption)) only [ze_48_0, ze_48_28, ze_48_29, e, Int.add_zero, ↓reduceIte, qw_id, zck_T, zck_t, zGor_v, zGor_n, zGor_e, zbs, vup_at, vup_vup, vup_self, vup_o, vup_k, vup_fn, ne_eq, not_true_eq_false, not_false_eq_true, and_true, true_and, and_self, and_false, false_and, or_true, true_or, or_self, or_false, false_or, xlt_t, xlt_f, xle_t, xle_f, xeq_t, xeq_f, xand_f, xor_t]
theorem sp53 (h : rdOk (V 7 1) (V 8) T) {x : Int} (hx : 0 ≤ V 7 2 + x ∧ V 7 2 + x < 100000) : zGo false 53 0 [.ref 7, .int (zi x), .null] [] (zm V J d) = zI1 (yDg (T (V 7 2 + x))) V J d := by
  have r := h.2.2.2 _ hx.1
  have e := sp48 (J := J) (d := d) h hx
  rcases yDg_cs (T (V 7 2 + x)) with ⟨a, b, c⟩ | ⟨a, b⟩
  · rw [c]
    simp (disch := first | omega | assumption | (simp (disch := omega) only [vup_fn, vup_o, vup_k, vup_at]; first | done | omega | assumption)) only [ze_53_0, ze_53_5, ze_53_25, ze_53_26, e, Int.add_zero, ↓reduceIte, qw_id, zck_T, zck_t, zGor_v, zGor_n, zGor_e, zbs, vup_at, vup_vup, vup_self, vup_o, vup_k, vup_fn, ne_eq, not_true_eq_false, not_false_eq_true, and_true, true_and, and_self, and_false, false_and, or_true, true_or, or_self, or_false, false_or, xlt_t, xlt_f, xle_t, xle_f, xeq_t, xeq_f, xand_f, xor_t]
  · rw [b]
    by_cases h1 : T (V 7 2 + x) < 48
    · simp (disch := first | omega | assumption | (simp (disch := omega) only [vup_fn, vup_o, vup_k, vup_at]; first | done | omega | assumption)) only [ze_53_0, ze_53_5, ze_53_25, ze_53_26, e, Int.add_zero, ↓reduceIte, qw_id, zck_T, zck_t, zGor_v, zGor_n, zGor_e, zbs, vup_at, vup_vup, vup_self, vup_o, vup_k, vup_fn, ne_eq, not_true_eq_false, not_false_eq_true, and_true, true_and, and_self, and_false, false_and, or_true, true_or, or_self, or_false, false_or, xlt_t, xlt_f, xle_t, xle_f, xeq_t, xeq_f, xand_f, xor_t]
    · simp (disch := first | omega | assumption | (simp (disch := omega) only [vup_fn, vup_o, vup_k, vup_at]; first | done | omega | assumption)) only [ze_53_0, ze_53_5, ze_53_25, ze_53_26, e, Int.add_zero, ↓reduceIte, qw_id, zck_T, zck_t, zGor_v, zGor_n, zGor_e, zbs, vup_at, vup_vup, vup_self, vup_o, vup_k, vup_fn, ne_eq, not_true_eq_false, not_false_eq_true, and_true, true_and, and_self, and_false, false_and, or_true, true_or, or_self, or_false, false_or, xlt_t, xlt_f, xle_t, xle_f, xeq_t, xeq_f, xand_f, xor_t]
theorem sp57 {c : Int} (hc : 0 ≤ c ∧ c ≤ 126) : zGo false 57 0 [.ref 7, .int (zi c)] [] (zm V J d) = zI1 (yDur c) V J d := by
  rcases yDur_cs c with ⟨e1, e2⟩ | ⟨e1, e2⟩ | ⟨e1, e2⟩ | ⟨e1, e2⟩ | ⟨e1, e2⟩ | ⟨e1, e2⟩
  all_goals
    rw [e2]
    simp (disch := first | omega | assumption | (simp (disch := omega) only [vup_fn, vup_o, vup_k, vup_at]; first | done | omega | assumption)) only [ze_57_0, Int.add_zero, ↓reduceIte, qw_id, zck_T, zck_t, zGor_v, zGor_n, zGor_e, zbs, vup_at, vup_vup, vup_self, vup_o, vup_k, vup_fn, ne_eq, not_true_eq_false, not_false_eq_true, and_true, true_and, and_self, and_false, false_and, or_true, true_or, or_self, or_false, false_or, xlt_t, xlt_f, xle_t, xle_f, xeq_t, xeq_f, xand_f, xor_t]
theorem sp56 {c n : Int} (hc : 0 ≤ c ∧ c ≤ 126) (hn : 0 ≤ n ∧ n ≤ 126) : zGo false 56 0 [.ref 7, .int (zi c), .int (zi n), .null] [] (zm V J d) = zI1 (yTk c n) V J d := by
  unfold yTk
  have e := sp57 (V := V) (J := J) (d := d) hc
  have r := yDur_rng c
  generalize yDur c = t at *
  by_cases h1 : n = 46
  · by_cases h2 : 1 < t
    · simp (disch := first | omega | assumption | (simp (disch := omega) only [vup_fn, vup_o, vup_k, vup_at]; first | done | omega | assumption)) only [ze_56_0, ze_56_5, ze_56_25, ze_56_26, e, qdiv_p, Int.add_zero, ↓reduceIte, qw_id, zck_T, zck_t, zGor_v, zGor_n, zGor_e, zbs, vup_at, vup_vup, vup_self, vup_o, vup_k, vup_fn, ne_eq, not_true_eq_false, not_false_eq_true, and_true, true_and, and_self, and_false, false_and, or_true, true_or, or_self, or_false, false_or, xlt_t, xlt_f, xle_t, xle_f, xeq_t, xeq_f, xand_f, xor_t]
    · simp (disch := first | omega | assumption | (simp (disch := omega) only [vup_fn, vup_o, vup_k, vup_at]; first | done | omega | assumption)) only [ze_56_0, ze_56_5, ze_56_25, ze_56_26, e, qdiv_p, Int.add_zero, ↓reduceIte, qw_id, zck_T, zck_t, zGor_v, zGor_n, zGor_e, zbs, vup_at, vup_vup, vup_self, vup_o, vup_k, vup_fn, ne_eq, not_true_eq_false, not_false_eq_true, and_true, true_and, and_self, and_false, false_and, or_true, true_or, or_self, or_false, false_or, xlt_t, xlt_f, xle_t, xle_f, xeq_t, xeq_f, xand_f, xor_t]
  · simp (disch := first | omega | assumption | (simp (disch := omega) only [vup_fn, vup_o, vup_k, vup_at]; first | done | omega | assumption)) only [ze_56_0, ze_56_5, ze_56_25, ze_56_26, e, qdiv_p, Int.add_zero, ↓reduceIte, qw_id, zck_T, zck_t, zGor_v, zGor_n, zGor_e, zbs, vup_at, vup_vup, vup_self, vup_o, vup_k, vup_fn, ne_eq, not_true_eq_false, not_false_eq_true, and_true, true_and, and_self, and_false, false_and, or_true, true_or, or_self, or_false, false_or, xlt_t, xlt_f, xle_t, xle_f, xeq_t, xeq_f, xand_f, xor_t]
theorem sp58 {c n : Int} (hc : 0 ≤ c ∧ c ≤ 126) (hn : 0 ≤ n ∧ n ≤ 126) : zGo false 58 0 [.ref 7, .int (zi c), .int (zi n)] [] (zm V J d) = zI1 (if 1 < yDur c ∧ n = 46 then 1 else 0) V J d := by
  have e := sp57 (V := V) (J := J) (d := d) hc
  have r := yDur_rng c
  generalize yDur c = t at *
  by_cases h1 : n = 46
  · by_cases h2 : 1 < t
    · simp (disch := first | omega | assumption | (simp (disch := omega) only [vup_fn, vup_o, vup_k, vup_at]; first | done | omega | assumption)) only [ze_58_0, ze_58_11, ze_58_19, ze_58_20, e, Int.add_zero, ↓reduceIte, qw_id, zck_T, zck_t, zGor_v, zGor_n, zGor_e, zbs, vup_at, vup_vup, vup_self, vup_o, vup_k, vup_fn, ne_eq, not_true_eq_false, not_false_eq_true, and_true, true_and, and_self, and_false, false_and, or_true, true_or, or_self, or_false, false_or, xlt_t, xlt_f, xle_t, xle_f, xeq_t, xeq_f, xand_f, xor_t]
    · simp (disch := first | omega | assumption | (simp (disch := omega) only [vup_fn, vup_o, vup_k, vup_at]; first | done | omega | assumption)) only [ze_58_0, ze_58_11, ze_58_19, ze_58_20, e, Int.add_zero, ↓reduceIte, qw_id, zck_T, zck_t, zGor_v, zGor_n, zGor_e, zbs, vup_at, vup_vup, vup_self, vup_o, vup_k, vup_fn, ne_eq, not_true_eq_false, not_false_eq_true, and_true, true_and, and_self, and_false, false_and, or_true, true_or, or_self, or_false, false_or, xlt_t, xlt_f, xle_t, xle_f, xeq_t, xeq_f, xand_f, xor_t]
  · simp (disch := first | omega | assumption | (simp (disch := omega) only [vup_fn, vup_o, vup_k, vup_at]; first | done | omega | assumption)) only [ze_58_0, ze_58_11, ze_58_19, ze_58_20, e, Int.add_zero, ↓reduceIte, qw_id, zck_T, zck_t, zGor_v, zGor_n, zGor_e, zbs, vup_at, vup_vup, vup_self, vup_o, vup_k, vup_fn, ne_eq, not_true_eq_false, not_false_eq_true, and_true, true_and, and_self, and_false, false_and, or_true, true_or, or_self, or_false, false_or, xlt_t, xlt_f, xle_t, xle_f, xeq_t, xeq_f, xand_f, xor_t]
theorem sp62 {c : Int} (hc : 0 ≤ c ∧ c ≤ 126) : zGo false 62 0 [.ref 7, .int (zi c)] [] (zm V J d) = zI1 (ySg c) V J d := by
  rcases ySg_cs c with ⟨e1, e2⟩ | ⟨e1, e2⟩ | ⟨e1, e2⟩ | ⟨e1, e2⟩
  all_goals
    rw [e2]
    simp (disch := first | omega | assumption | (simp (disch := omega) only [vup_fn, vup_o, vup_k, vup_at]; first | done | omega | assumption)) only [ze_62_0, ze_62_31, Int.add_zero, ↓reduceIte, qw_id, zck_T, zck_t, zGor_v, zGor_n, zGor_e, zbs, vup_at, vup_vup, vup_self, vup_o, vup_k, vup_fn, ne_eq, not_true_eq_false, not_false_eq_true, and_true, true_and, and_self, and_false, false_and, or_true, true_or, or_self, or_false, false_or, xlt_t, xlt_f, xle_t, xle_f, xeq_t, xeq_f, xand_f, xor_t]
theorem sp86 {x : Nat} {k : Int} (hb : zBk 10 x) (hk : -2147483648 ≤ k ∧ k < 2147483648) (hc : 0 ≤ V x 0 ∧ V x 0 ≤ 60) : zGo false 86 0 [.ref x, .int (zi k)] [] (zm V J d) = zI1 (if 0 ≤ k ∧ k < V x 0 then 1 else 0) V J d := by
  by_cases h1 : k < 0
  · simp (disch := first | omega | assumption | (simp (disch := omega) only [vup_fn, vup_o, vup_k, vup_at]; first | done | omega | assumption)) only [ze_86_0, ze_86_16, ze_86_17, Int.add_zero, ↓reduceIte, qw_id, zck_T, zck_t, zGor_v, zGor_n, zGor_e, zbs, vup_at, vup_vup, vup_self, vup_o, vup_k, vup_fn, ne_eq, not_true_eq_false, not_false_eq_true, and_true, true_and, and_self, and_false, false_and, or_true, true_or, or_self, or_false, false_or, xlt_t, xlt_f, xle_t, xle_f, xeq_t, xeq_f, xand_f, xor_t]
  · by_cases h2 : V x 0 ≤ k
    · simp (disch := first | omega | assumption | (simp (disch := omega) only [vup_fn, vup_o, vup_k, vup_at]; first | done | omega | assumption)) only [ze_86_0, ze_86_16, ze_86_17, Int.add_zero, ↓reduceIte, qw_id, zck_T, zck_t, zGor_v, zGor_n, zGor_e, zbs, vup_at, vup_vup, vup_self, vup_o, vup_k, vup_fn, ne_eq, not_true_eq_false, not_false_eq_true, and_true, true_and, and_self, and_false, false_and, or_true, true_or, or_self, or_false, false_or, xlt_t, xlt_f, xle_t, xle_f, xeq_t, xeq_f, xand_f, xor_t]
    · simp (disch := first | omega | assumption | (simp (disch := omega) only [vup_fn, vup_o, vup_k, vup_at]; first | done | omega | assumption)) only [ze_86_0, ze_86_16, ze_86_17, Int.add_zero, ↓reduceIte, qw_id, zck_T, zck_t, zGor_v, zGor_n, zGor_e, zbs, vup_at, vup_vup, vup_self, vup_o, vup_k, vup_fn, ne_eq, not_true_eq_false, not_false_eq_true, and_true, true_and, and_self, and_false, false_and, or_true, true_or, or_self, or_false, false_or, xlt_t, xlt_f, xle_t, xle_f, xeq_t, xeq_f, xand_f, xor_t]
end
/-- a token is put into a row x of the class: its nine cells, the count, the reader's place -/
def cTk (V : zVt) (x : Nat) (n k a u pl s t i e : Int) : zVt := vup (vup (vup (vup (vup (vup (vup (vup (vup (vup V (x + 1) n k) (x + 2) n a) (x + 3) n u) (x + 8) n (-1)) x 0 (n + 1)) 7 2 e) (x + 4) n pl) (x + 5) n s) (x + 6) n t) (x + 7) n i
section
variable {V : zVt} {J : zJt} {d : Nat → Nat → UInt64}
theorem sp51 {x : Nat} {k u m : Int} (hb : zBk 10 x) (hx : 13 ≤ x) (hn : 0 ≤ V x 0 ∧ V x 0 < 60) : zGo false 51 0 [.ref 7, .ref x, .int (zi k), .int (zi u), .int (zi m)] [] (zm V J d) = zI1 1 (cTk V x (V x 0) k (V 7 2) u 0 0 0 0 (V 7 2 + m)) J d := by
  have e : vup (vup (vup (vup (vup (vup (vup (vup (vup (vup V (x + 1) (V x 0) k) (x + 2) (V x 0) (V 7 2)) (x + 3) (V x 0) u) (x + 4) (V x 0) 0) (x + 5) (V x 0) 0) (x + 6) (V x 0) 0) (x + 7) (V x 0) 0) (x + 8) (V x 0) (-1)) x 0 (V x 0 + 1)) 7 2 (V 7 2 + m) = cTk V x (V x 0) k (V 7 2) u 0 0 0 0 (V 7 2 + m) := by
    unfold cTk
    funext o
    by_cases o7 : o = 7
    · subst o7
      simp (disch := omega) only [vup_fn, vup_in]
    · by_cases o4 : o = x + 4
      · subst o4
        simp (disch := omega) only [vup_fn, vup_in]
      · by_cases o5 : o = x + 5
        · subst o5
          simp (disch := omega) only [vup_fn, vup_in]
        · by_cases o6 : o = x + 6
          · subst o6
            simp (disch := omega) only [vup_fn, vup_in]
          · by_cases o8 : o = x + 7
            · subst o8
              simp (disch := omega) only [vup_fn, vup_in]
            · by_cases o9 : o = x
              · subst o9
                simp (disch := omega) only [vup_fn, vup_in]
              · simp (disch := omega) only [vup_fn]
                by_cases o10 : o = x + 8
                · subst o10
                  simp (disch := omega) only [vup_fn, vup_in]
                · simp (disch := omega) only [vup_fn]
  rw [← e]
  simp (disch := first | omega | assumption | (simp (disch := omega) only [vup_fn, vup_o, vup_k, vup_at]; first | done | omega | assumption)) only [ze_51_0, ze_51_10, ze_85_0, Int.add_zero, ↓reduceIte, qw_id, zck_T, zck_t, zGor_v, zGor_n, zGor_e, zbs, vup_at, vup_vup, vup_self, vup_o, vup_k, vup_fn, ne_eq, not_true_eq_false, not_false_eq_true, and_true, true_and, and_self, and_false, false_and, or_true, true_or, or_self, or_false, false_or, xlt_t, xlt_f, xle_t, xle_f, xeq_t, xeq_f, xand_f, xor_t]
end
