/-! part 39: the class's reading of a note, and of one token -/
section
variable {V : zVt} {J : zJt} {d : Nat → Nat → UInt64} {T : Int → Int} {x : Nat}
theorem sq61a (h : rdOk (V 7 1) (V 8) T) (hp : 0 ≤ V 7 2 ∧ V 7 2 < 9000) (hb : zBk 10 x) : zGo false 61 0 [.ref 7, .ref x, .null, .null, .null, .null, .null, .null, .null] [] (zm V J d) =
    zGo false 61 19 [.ref 7, .ref x, .int (zi (ySg (T (V 7 2)))), .null, .null, .null, .null, .null, .null] [.int (zi (if ySg (T (V 7 2)) = 0 then 0 else 1))] (zm V J d) := by
  have r1 := h.2.2.2 (V 7 2) hp.1
  have e48 := sp48 (J := J) (d := d) h (x := 0) (by omega)
  rw [Int.add_zero] at e48
  have e62 := sp62 (V := V) (J := J) (d := d) r1
  have hg : 0 ≤ ySg (T (V 7 2)) ∧ ySg (T (V 7 2)) ≤ 3 := by
    rcases ySg_cs (T (V 7 2)) with ⟨e1, e2⟩ | ⟨e1, e2⟩ | ⟨e1, e2⟩ | ⟨e1, e2⟩ <;> omega
  generalize ySg (T (V 7 2)) = g at *
  by_cases h1 : g = 0
  · simp (disch := first | omega | assumption | (simp (disch := omega) only [cTk_0, vup_fn, vup_o, vup_k, vup_at]; first | done | omega | assumption)) only [ze_61_0, ze_61_6, ze_61_9, e48, e62, Int.add_zero, ↓reduceIte, qw_id, zck_T, zck_t, zGor_v, zGor_n, zGor_e, zbs, vup_at, vup_vup, vup_self, vup_o, vup_k, vup_fn, ne_eq, not_true_eq_false, not_false_eq_true, and_true, true_and, and_self, and_false, false_and, or_true, true_or, or_self, or_false, false_or, xlt_t, xlt_f, xle_t, xle_f, xeq_t, xeq_f, xand_f, xor_t]
  · simp (disch := first | omega | assumption | (simp (disch := omega) only [cTk_0, vup_fn, vup_o, vup_k, vup_at]; first | done | omega | assumption)) only [ze_61_0, ze_61_6, ze_61_9, e48, e62, Int.add_zero, ↓reduceIte, qw_id, zck_T, zck_t, zGor_v, zGor_n, zGor_e, zbs, vup_at, vup_vup, vup_self, vup_o, vup_k, vup_fn, ne_eq, not_true_eq_false, not_false_eq_true, and_true, true_and, and_self, and_false, false_and, or_true, true_or, or_self, or_false, false_or, xlt_t, xlt_f, xle_t, xle_f, xeq_t, xeq_f, xand_f, xor_t]
theorem sq61b (h : rdOk (V 7 1) (V 8) T) {g y a : Int} (hy : V 7 2 + y = a) (hp : 0 ≤ V 7 2 ∧ V 7 2 < 9000) (ha : 0 ≤ y ∧ y < 50) (hb : zBk 10 x) : zGo false 61 19 [.ref 7, .ref x, .int (zi g), .null, .null, .null, .null, .null, .null] [.int (zi y)] (zm V J d) =
    zGo false 61 55 [.ref 7, .ref x, .int (zi g), .int (zi (y + yNm T a)), .int (zi (yNm T a)), .null, .null, .null, .null] [.int (zi (yDg (T (a + yNm T a))))] (zm V J d) := by
  have r1 := h.2.2.2 a (by omega)
  have e48 := sp48 (J := J) (d := d) h (x := y) (by omega)
  rw [hy] at e48
  have e53 := sp53 (J := J) (d := d) h (x := y + yNm T a) (by unfold yNm; split <;> omega)
  rw [show V 7 2 + (y + yNm T a) = a + yNm T a by omega] at e53
  unfold yNm at *
  by_cases h1 : T a = 45
  · rw [if_pos h1] at *
    simp (disch := first | omega | assumption | (simp (disch := omega) only [cTk_0, vup_fn, vup_o, vup_k, vup_at]; first | done | omega | assumption)) only [ze_61_19, ze_61_25, ze_61_35, ze_61_48, e48, e53, Int.add_zero, ↓reduceIte, qw_id, zck_T, zck_t, zGor_v, zGor_n, zGor_e, zbs, vup_at, vup_vup, vup_self, vup_o, vup_k, vup_fn, ne_eq, not_true_eq_false, not_false_eq_true, and_true, true_and, and_self, and_false, false_and, or_true, true_or, or_self, or_false, false_or, xlt_t, xlt_f, xle_t, xle_f, xeq_t, xeq_f, xand_f, xor_t]
  · rw [if_neg h1] at *
    simp only [Int.add_zero] at e53
    simp (disch := first | omega | assumption | (simp (disch := omega) only [cTk_0, vup_fn, vup_o, vup_k, vup_at]; first | done | omega | assumption)) only [ze_61_19, ze_61_25, ze_61_35, ze_61_48, e48, e53, Int.add_zero, ↓reduceIte, qw_id, zck_T, zck_t, zGor_v, zGor_n, zGor_e, zbs, vup_at, vup_vup, vup_self, vup_o, vup_k, vup_fn, ne_eq, not_true_eq_false, not_false_eq_true, and_true, true_and, and_self, and_false, false_and, or_true, true_or, or_self, or_false, false_or, xlt_t, xlt_f, xle_t, xle_f, xeq_t, xeq_f, xand_f, xor_t]
theorem sq61c (h : rdOk (V 7 1) (V 8) T) {g y m b : Int} (hy : V 7 2 + y = b) (hp : 0 ≤ V 7 2 ∧ V 7 2 < 9000) (ha : 0 ≤ y ∧ y < 50) (hb : zBk 10 x) : zGo false 61 55 [.ref 7, .ref x, .int (zi g), .int (zi y), .int (zi m), .null, .null, .null, .null] [.int (zi (yDg (T b)))] (zm V J d) =
    if yDe T b = b then zI1 0 V J d else zGo false 61 91 [.ref 7, .ref x, .int (zi g), .int (zi (y + (yDe T b - b))), .int (zi m), .int (zi (yDv T b)), .null, .null, .null] [] (zm V J d) := by
  have r1 := h.2.2.2 b (by omega)
  have r2 := h.2.2.2 (b + 1) (by omega)
  have e53 := sp53 (J := J) (d := d) h (x := y + 1) (by omega)
  rw [show V 7 2 + (y + 1) = b + 1 by omega] at e53
  rcases yD_cs T b with ⟨e1, e5, e6⟩ | ⟨e1, e4, e5, e6⟩ | ⟨e1, e4, e5, e6⟩
  · have e2 : yDg (T b) = -1 := by
      rcases yDg_cs (T b) with ⟨_, _, _⟩ | ⟨_, e⟩ <;> omega
    rw [e2, e5]
    simp (disch := first | omega | assumption | (simp (disch := omega) only [cTk_0, vup_fn, vup_o, vup_k, vup_at]; first | done | omega | assumption)) only [ze_61_55, Int.add_zero, ↓reduceIte, qw_id, zck_T, zck_t, zGor_v, zGor_n, zGor_e, zbs, vup_at, vup_vup, vup_self, vup_o, vup_k, vup_fn, ne_eq, not_true_eq_false, not_false_eq_true, and_true, true_and, and_self, and_false, false_and, or_true, true_or, or_self, or_false, false_or, xlt_t, xlt_f, xle_t, xle_f, xeq_t, xeq_f, xand_f, xor_t]
  · have e2 : yDg (T b) = T b - 48 := by
      rcases yDg_cs (T b) with ⟨_, _, e⟩ | ⟨_, _⟩ <;> omega
    have e3 : yDg (T (b + 1)) = -1 := by
      rcases yDg_cs (T (b + 1)) with ⟨_, _, _⟩ | ⟨_, e⟩ <;> omega
    have e7 : y + (b + 1 - b) = y + 1 := by omega
    rw [e2, e5, e6, e7]
    simp (disch := first | omega | assumption | (simp (disch := omega) only [cTk_0, vup_fn, vup_o, vup_k, vup_at]; first | done | omega | assumption)) only [ze_61_55, ze_61_72, e53, e3, Int.add_zero, ↓reduceIte, qw_id, zck_T, zck_t, zGor_v, zGor_n, zGor_e, zbs, vup_at, vup_vup, vup_self, vup_o, vup_k, vup_fn, ne_eq, not_true_eq_false, not_false_eq_true, and_true, true_and, and_self, and_false, false_and, or_true, true_or, or_self, or_false, false_or, xlt_t, xlt_f, xle_t, xle_f, xeq_t, xeq_f, xand_f, xor_t]
  · have e2 : yDg (T b) = T b - 48 := by
      rcases yDg_cs (T b) with ⟨_, _, e⟩ | ⟨_, _⟩ <;> omega
    have e3 : yDg (T (b + 1)) = T (b + 1) - 48 := by
      rcases yDg_cs (T (b + 1)) with ⟨_, _, e⟩ | ⟨_, _⟩ <;> omega
    have e7 : y + (b + 2 - b) = y + 1 + 1 := by omega
    rw [e2, e5, e6, e7]
    simp (disch := first | omega | assumption | (simp (disch := omega) only [cTk_0, vup_fn, vup_o, vup_k, vup_at]; first | done | omega | assumption)) only [ze_61_55, ze_61_72, ze_61_85, e53, e3, Int.add_zero, ↓reduceIte, qw_id, zck_T, zck_t, zGor_v, zGor_n, zGor_e, zbs, vup_at, vup_vup, vup_self, vup_o, vup_k, vup_fn, ne_eq, not_true_eq_false, not_false_eq_true, and_true, true_and, and_self, and_false, false_and, or_true, true_or, or_self, or_false, false_or, xlt_t, xlt_f, xle_t, xle_f, xeq_t, xeq_f, xand_f, xor_t]
theorem sq61d (h : rdOk (V 7 1) (V 8) T) {g y m v e : Int} (hy : V 7 2 + y = e) (hp : 0 ≤ V 7 2 ∧ V 7 2 < 9000) (ha : 0 ≤ y ∧ y < 50) (hv : 0 ≤ v ∧ v < 100) (hm : m = 0 ∨ m = 1) (hb : zBk 10 x) : zGo false 61 91 [.ref 7, .ref x, .int (zi g), .int (zi y), .int (zi m), .int (zi v), .null, .null, .null] [] (zm V J d) =
    zGo false 61 122 [.ref 7, .ref x, .int (zi g), .int (zi y), .int (zi m), .int (zi (yVs m v)), .null, .null, .null] [.int (zi (yTk (T e) (T (e + 1))))] (zm V J d) := by
  have r1 := h.2.2.2 e (by omega)
  have r2 := h.2.2.2 (e + 1) (by omega)
  have e48 := sp48 (J := J) (d := d) h (x := y) (by omega)
  have e49 := sp48 (J := J) (d := d) h (x := y + 1) (by omega)
  rw [hy] at e48
  rw [show V 7 2 + (y + 1) = e + 1 by omega] at e49
  have e56 := sp56 (V := V) (J := J) (d := d) r1 r2
  unfold yVs
  rcases hm with rfl | rfl
  · simp (disch := first | omega | assumption | (simp (disch := omega) only [cTk_0, vup_fn, vup_o, vup_k, vup_at]; first | done | omega | assumption)) only [ze_61_91, ze_61_104, ze_61_112, ze_61_119, e48, e49, e56, Int.add_zero, ↓reduceIte, qw_id, zck_T, zck_t, zGor_v, zGor_n, zGor_e, zbs, vup_at, vup_vup, vup_self, vup_o, vup_k, vup_fn, ne_eq, not_true_eq_false, not_false_eq_true, and_true, true_and, and_self, and_false, false_and, or_true, true_or, or_self, or_false, false_or, xlt_t, xlt_f, xle_t, xle_f, xeq_t, xeq_f, xand_f, xor_t]
  · simp (disch := first | omega | assumption | (simp (disch := omega) only [cTk_0, vup_fn, vup_o, vup_k, vup_at]; first | done | omega | assumption)) only [ze_61_91, ze_61_104, ze_61_112, ze_61_119, e48, e49, e56, Int.add_zero, ↓reduceIte, qw_id, zck_T, zck_t, zGor_v, zGor_n, zGor_e, zbs, vup_at, vup_vup, vup_self, vup_o, vup_k, vup_fn, ne_eq, not_true_eq_false, not_false_eq_true, and_true, true_and, and_self, and_false, false_and, or_true, true_or, or_self, or_false, false_or, xlt_t, xlt_f, xle_t, xle_f, xeq_t, xeq_f, xand_f, xor_t]
theorem sq61e (h : rdOk (V 7 1) (V 8) T) {g y m s e : Int} (hy : V 7 2 + y = e) (hp : 0 ≤ V 7 2 ∧ V 7 2 < 9000) (ha : 0 ≤ y ∧ y < 50) (hs : -100 ≤ s ∧ s < 100) (hb : zBk 10 x) (hx : 13 ≤ x) (hn : 0 ≤ V x 0 ∧ V x 0 < 60) : zGo false 61 122 [.ref 7, .ref x, .int (zi g), .int (zi y), .int (zi m), .int (zi s), .null, .null, .null] [.int (zi (yTk (T e) (T (e + 1))))] (zm V J d) =
    if (-9 ≤ s ∧ s ≤ 19) ∧ yTe (T e) (T (e + 1)) e ≠ -1 then zI1 1 (cTk V x (V x 0) 3 (V 7 2) 0 s g (yTk (T e) (T (e + 1))) (if T (yTe (T e) (T (e + 1)) e) = 126 then 1 else 0) (yTe (T e) (T (e + 1)) e + (if T (yTe (T e) (T (e + 1)) e) = 126 then 1 else 0))) J d else zI1 0 V J d := by
  have r1 := h.2.2.2 e (by omega)
  have r2 := h.2.2.2 (e + 1) (by omega)
  have hr := yTe_yTk (T e) (T (e + 1)) e
  by_cases h1 : -9 ≤ s
  · by_cases h2 : s ≤ 19
    · by_cases h3 : yTe (T e) (T (e + 1)) e = -1
      · simp (disch := first | omega | assumption | (simp (disch := omega) only [cTk_0, vup_fn, vup_o, vup_k, vup_at]; first | done | omega | assumption)) only [ze_61_122, ze_61_143, Int.add_zero, ↓reduceIte, qw_id, zck_T, zck_t, zGor_v, zGor_n, zGor_e, zbs, vup_at, vup_vup, vup_self, vup_o, vup_k, vup_fn, ne_eq, not_true_eq_false, not_false_eq_true, and_true, true_and, and_self, and_false, false_and, or_true, true_or, or_self, or_false, false_or, xlt_t, xlt_f, xle_t, xle_f, xeq_t, xeq_f, xand_f, xor_t]
      · have e48 := sp48 (J := J) (d := d) h (x := y) (by omega)
        have e49 := sp48 (J := J) (d := d) h (x := y + 1) (by omega)
        rw [hy] at e48
        rw [show V 7 2 + (y + 1) = e + 1 by omega] at e49
        have e58 := sp58 (V := V) (J := J) (d := d) r1 r2
        have hd : yTe (T e) (T (e + 1)) e = V 7 2 + (y + (if 1 < yDur (T e) ∧ T (e + 1) = 46 then 2 else 1)) := by
          unfold yTe at h3 ⊢
          split
          · omega
          · rename_i hk
            rw [if_neg hk] at h3
            split
            · rename_i h0
              rw [if_pos h0] at h3
              omega
            · omega
        have hs1 : zGo false 61 122 [.ref 7, .ref x, .int (zi g), .int (zi y), .int (zi m), .int (zi s), .null, .null, .null] [.int (zi (yTk (T e) (T (e + 1))))] (zm V J d) = zGo false 61 170 [.ref 7, .ref x, .int (zi g), .int (zi y), .int (zi m), .int (zi s), .int (zi (yTk (T e) (T (e + 1)))), .null, .null] [.int (zi (if 1 < yDur (T e) ∧ T (e + 1) = 46 then 2 else 1)), .int (zi y)] (zm V J d) := by
          by_cases h4 : 1 < yDur (T e) ∧ T (e + 1) = 46
          · rw [if_pos h4] at e58 ⊢
            simp (disch := first | omega | assumption | (simp (disch := omega) only [cTk_0, vup_fn, vup_o, vup_k, vup_at]; first | done | omega | assumption)) only [ze_61_122, ze_61_152, ze_61_159, ze_61_162, e48, e49, e58, Int.add_zero, ↓reduceIte, qw_id, zck_T, zck_t, zGor_v, zGor_n, zGor_e, zbs, vup_at, vup_vup, vup_self, vup_o, vup_k, vup_fn, ne_eq, not_true_eq_false, not_false_eq_true, and_true, true_and, and_self, and_false, false_and, or_true, true_or, or_self, or_false, false_or, xlt_t, xlt_f, xle_t, xle_f, xeq_t, xeq_f, xand_f, xor_t]
          · rw [if_neg h4] at e58 ⊢
            simp (disch := first | omega | assumption | (simp (disch := omega) only [cTk_0, vup_fn, vup_o, vup_k, vup_at]; first | done | omega | assumption)) only [ze_61_122, ze_61_152, ze_61_159, ze_61_162, e48, e49, e58, Int.add_zero, ↓reduceIte, qw_id, zck_T, zck_t, zGor_v, zGor_n, zGor_e, zbs, vup_at, vup_vup, vup_self, vup_o, vup_k, vup_fn, ne_eq, not_true_eq_false, not_false_eq_true, and_true, true_and, and_self, and_false, false_and, or_true, true_or, or_self, or_false, false_or, xlt_t, xlt_f, xle_t, xle_f, xeq_t, xeq_f, xand_f, xor_t]
        rw [hs1]
        generalize (if 1 < yDur (T e) ∧ T (e + 1) = 46 then (2 : Int) else 1) = z at *
        have e50 := sp48 (J := J) (d := d) h (x := y + z) (by omega)
        rw [← hd] at e50
        have r3 := h.2.2.2 (yTe (T e) (T (e + 1)) e) (by omega)
        by_cases h5 : T (yTe (T e) (T (e + 1)) e) = 126
        · have q1 : yTe (T e) (T (e + 1)) e + 1 = V 7 2 + (y + z + 1) := by omega
          rw [if_pos h5, q1]
          simp (disch := first | omega | assumption | (simp (disch := omega) only [cTk_0, vup_fn, vup_o, vup_k, vup_at]; first | done | omega | assumption)) only [ze_61_170, ze_61_177, ze_61_187, ze_61_211, ze_61_214, ze_61_221, ze_61_259, e50, sp51, sp86, cTk_0, cTk_4, Int.add_zero, ↓reduceIte, qw_id, zck_T, zck_t, zGor_v, zGor_n, zGor_e, zbs, vup_at, vup_vup, vup_self, vup_o, vup_k, vup_fn, ne_eq, not_true_eq_false, not_false_eq_true, and_true, true_and, and_self, and_false, false_and, or_true, true_or, or_self, or_false, false_or, xlt_t, xlt_f, xle_t, xle_f, xeq_t, xeq_f, xand_f, xor_t]
        · have q1 : yTe (T e) (T (e + 1)) e + 0 = V 7 2 + (y + z) := by omega
          rw [if_neg h5, q1]
          simp (disch := first | omega | assumption | (simp (disch := omega) only [cTk_0, vup_fn, vup_o, vup_k, vup_at]; first | done | omega | assumption)) only [ze_61_170, ze_61_177, ze_61_187, ze_61_211, ze_61_214, ze_61_221, ze_61_259, e50, sp51, sp86, cTk_0, cTk_4, Int.add_zero, ↓reduceIte, qw_id, zck_T, zck_t, zGor_v, zGor_n, zGor_e, zbs, vup_at, vup_vup, vup_self, vup_o, vup_k, vup_fn, ne_eq, not_true_eq_false, not_false_eq_true, and_true, true_and, and_self, and_false, false_and, or_true, true_or, or_self, or_false, false_or, xlt_t, xlt_f, xle_t, xle_f, xeq_t, xeq_f, xand_f, xor_t]
    · simp (disch := first | omega | assumption | (simp (disch := omega) only [cTk_0, vup_fn, vup_o, vup_k, vup_at]; first | done | omega | assumption)) only [ze_61_122, ze_61_143, Int.add_zero, ↓reduceIte, qw_id, zck_T, zck_t, zGor_v, zGor_n, zGor_e, zbs, vup_at, vup_vup, vup_self, vup_o, vup_k, vup_fn, ne_eq, not_true_eq_false, not_false_eq_true, and_true, true_and, and_self, and_false, false_and, or_true, true_or, or_self, or_false, false_or, xlt_t, xlt_f, xle_t, xle_f, xeq_t, xeq_f, xand_f, xor_t]
  · simp (disch := first | omega | assumption | (simp (disch := omega) only [cTk_0, vup_fn, vup_o, vup_k, vup_at]; first | done | omega | assumption)) only [ze_61_122, ze_61_143, Int.add_zero, ↓reduceIte, qw_id, zck_T, zck_t, zGor_v, zGor_n, zGor_e, zbs, vup_at, vup_vup, vup_self, vup_o, vup_k, vup_fn, ne_eq, not_true_eq_false, not_false_eq_true, and_true, true_and, and_self, and_false, false_and, or_true, true_or, or_self, or_false, false_or, xlt_t, xlt_f, xle_t, xle_f, xeq_t, xeq_f, xand_f, xor_t]
theorem sp61 (h : rdOk (V 7 1) (V 8) T) (hp : 0 ≤ V 7 2 ∧ V 7 2 < 9000) (hb : zBk 10 x) (hx : 13 ≤ x) (hn : 0 ≤ V x 0 ∧ V x 0 < 60) : zGo false 61 0 [.ref 7, .ref x, .null, .null, .null, .null, .null, .null, .null] [] (zm V J d) =
    if yNt T (V 7 2) = -1 then zI1 0 V J d else zI1 1 (cTk V x (V x 0) 3 (V 7 2) 0 (yNs T (V 7 2)) (ySg (T (V 7 2))) (yNl T (V 7 2) 0) (yNi T (V 7 2)) (yNt T (V 7 2) + yNi T (V 7 2))) J d := by
  have hr := yN_rng T (V 7 2) (fun q hq => h.2.2.2 q (by omega))
  have hm : yNm T (yNa T (V 7 2)) = 0 ∨ yNm T (yNa T (V 7 2)) = 1 := by
    unfold yNm
    split <;> omega
  have hs : -100 ≤ yNs T (V 7 2) ∧ yNs T (V 7 2) < 100 := by
    unfold yNs yVs
    split <;> omega
  rw [sq61a h hp hb, sq61b (y := if ySg (T (V 7 2)) = 0 then 0 else 1) (a := yNa T (V 7 2)) h rfl hp (by split <;> omega) hb]
  have hy2 : V 7 2 + ((if ySg (T (V 7 2)) = 0 then 0 else 1) + yNm T (yNa T (V 7 2))) = yNb T (V 7 2) := by
    unfold yNb yNa
    omega
  have hy3 : (0 : Int) ≤ (if ySg (T (V 7 2)) = 0 then 0 else 1) ∧ (if ySg (T (V 7 2)) = 0 then 0 else 1 : Int) ≤ 1 := by
    split <;> omega
  generalize (if ySg (T (V 7 2)) = 0 then (0 : Int) else 1) = y0 at *
  rw [show yNa T (V 7 2) + yNm T (yNa T (V 7 2)) = yNb T (V 7 2) from rfl, sq61c h hy2 hp (by omega) hb]
  by_cases h1 : yDe T (yNb T (V 7 2)) = yNb T (V 7 2)
  · have hk : ¬ yNo T (V 7 2) := fun q => q.1 h1
    rw [if_pos h1]
    unfold yNt
    rw [if_neg hk, if_pos rfl]
  · rw [if_neg h1, sq61d (e := yNe T (V 7 2)) h (by unfold yNe; omega) hp (by unfold yNe at hr; omega) (by omega) hm hb, show yVs (yNm T (yNa T (V 7 2))) (yDv T (yNb T (V 7 2))) = yNs T (V 7 2) from rfl, sq61e (e := yNe T (V 7 2)) h (by unfold yNe; omega) hp (by unfold yNe at hr; omega) hs hb hx hn]
    by_cases hk : -9 ≤ yNs T (V 7 2) ∧ yNs T (V 7 2) ≤ 19
    · have hk2 : yNo T (V 7 2) := ⟨h1, hk⟩
      have e1 : yNt T (V 7 2) = yTe (T (yNe T (V 7 2))) (T (yNe T (V 7 2) + 1)) (yNe T (V 7 2)) := if_pos hk2
      have e2 : yNl T (V 7 2) 0 = yTk (T (yNe T (V 7 2))) (T (yNe T (V 7 2) + 1)) := if_pos hk2
      unfold yNi
      rw [e1, e2]
      by_cases h3 : yTe (T (yNe T (V 7 2))) (T (yNe T (V 7 2) + 1)) (yNe T (V 7 2)) = -1
      · rw [if_pos h3, if_neg (fun q => q.2 h3)]
      · rw [if_neg h3, if_pos ⟨hk, h3⟩]
    · have hk2 : ¬ yNo T (V 7 2) := fun q => hk q.2
      unfold yNt
      rw [if_neg hk2, if_pos rfl]
      exact if_neg (fun q => hk q.1)
end
def cU (T : Int → Int) (p : Int) : Int := if yK T p = 3 then 0 else yU T p
def cL (T : Int → Int) (p : Int) : Int := if yK T p = 3 then yU T p else 0
section
variable {V : zVt} {J : zJt} {d : Nat → Nat → UInt64} {T : Int → Int} {x : Nat}
theorem sp49 (h : rdOk (V 7 1) (V 8) T) (hp : 0 ≤ V 7 2 ∧ V 7 2 < 9000) (hb : zBk 10 x) (hx : 13 ≤ x) (hn : 0 ≤ V x 0 ∧ V x 0 < 60) : zGo false 49 0 [.ref 7, .ref x] [] (zm V J d) =
    if yE T (V 7 2) = -1 then zI1 0 V J d else zI1 1 (cTk V x (V x 0) (yK T (V 7 2)) (V 7 2) (cU T (V 7 2)) (cL T (V 7 2)) (yG T (V 7 2)) (yC T (V 7 2)) (yI T (V 7 2)) (yE T (V 7 2))) J d := by
  have r0 := h.2.2.2 (V 7 2) hp.1
  have e48 := sp48 (J := J) (d := d) h (x := 0) (by omega)
  rw [Int.add_zero] at e48
  unfold cU cL yE yU yG yI yC
  rcases yK_cs T (V 7 2) with ⟨e1, e2⟩ | ⟨e1, e2⟩ | ⟨e1, e2⟩ | ⟨e1, e2⟩ | ⟨e1, e2⟩ | ⟨e1, e2⟩ | ⟨e1, e2⟩ | ⟨e1, e2⟩ | ⟨e1, e2⟩ | ⟨e1, e2⟩ | ⟨e1, e2⟩
  · rw [e2]
    have e0 := sp50 (J := J) (d := d) h hp hb hx hn
    by_cases h1 : T (V 7 2 + 1) = 71 ∨ T (V 7 2 + 1) = 70 ∨ T (V 7 2 + 1) = 67
    · rw [if_pos h1] at e0
      simp only [if_pos h1]
      simp (disch := first | omega | assumption | (simp (disch := omega) only [cTk_0, vup_fn, vup_o, vup_k, vup_at]; first | done | omega | assumption)) only [ze_49_0, ze_49_5, ze_49_101, ze_49_108, ze_49_115, ze_49_121, ze_49_127, ze_49_136, ze_49_146, ze_49_152, ze_49_158, ze_49_168, ze_49_174, e48, e0, Int.add_zero, ↓reduceIte, qw_id, zck_T, zck_t, zGor_v, zGor_n, zGor_e, zbs, vup_at, vup_vup, vup_self, vup_o, vup_k, vup_fn, ne_eq, not_true_eq_false, not_false_eq_true, and_true, true_and, and_self, and_false, false_and, or_true, true_or, or_self, or_false, false_or, xlt_t, xlt_f, xle_t, xle_f, xeq_t, xeq_f, xand_f, xor_t]
    · rw [if_neg h1] at e0
      simp only [if_neg h1]
      simp (disch := first | omega | assumption | (simp (disch := omega) only [cTk_0, vup_fn, vup_o, vup_k, vup_at]; first | done | omega | assumption)) only [ze_49_0, ze_49_5, ze_49_101, ze_49_108, ze_49_115, ze_49_121, ze_49_127, ze_49_136, ze_49_146, ze_49_152, ze_49_158, ze_49_168, ze_49_174, e48, e0, Int.add_zero, ↓reduceIte, qw_id, zck_T, zck_t, zGor_v, zGor_n, zGor_e, zbs, vup_at, vup_vup, vup_self, vup_o, vup_k, vup_fn, ne_eq, not_true_eq_false, not_false_eq_true, and_true, true_and, and_self, and_false, false_and, or_true, true_or, or_self, or_false, false_or, xlt_t, xlt_f, xle_t, xle_f, xeq_t, xeq_f, xand_f, xor_t]
  · rw [e2]
    have e0 := sp52 (J := J) (d := d) h hp hb hx hn (Or.inl rfl)
    rw [Int.one_mul] at e0
    by_cases h1 : 48 ≤ T (V 7 2 + 1) ∧ T (V 7 2 + 1) ≤ 55
    · rw [if_pos h1] at e0
      simp only [if_pos h1]
      simp (disch := first | omega | assumption | (simp (disch := omega) only [cTk_0, vup_fn, vup_o, vup_k, vup_at]; first | done | omega | assumption)) only [ze_49_0, ze_49_5, ze_49_101, ze_49_108, ze_49_115, ze_49_121, ze_49_127, ze_49_136, ze_49_146, ze_49_152, ze_49_158, ze_49_168, ze_49_174, e48, e0, Int.add_zero, ↓reduceIte, qw_id, zck_T, zck_t, zGor_v, zGor_n, zGor_e, zbs, vup_at, vup_vup, vup_self, vup_o, vup_k, vup_fn, ne_eq, not_true_eq_false, not_false_eq_true, and_true, true_and, and_self, and_false, false_and, or_true, true_or, or_self, or_false, false_or, xlt_t, xlt_f, xle_t, xle_f, xeq_t, xeq_f, xand_f, xor_t]
    · rw [if_neg h1] at e0
      simp only [if_neg h1]
      simp (disch := first | omega | assumption | (simp (disch := omega) only [cTk_0, vup_fn, vup_o, vup_k, vup_at]; first | done | omega | assumption)) only [ze_49_0, ze_49_5, ze_49_101, ze_49_108, ze_49_115, ze_49_121, ze_49_127, ze_49_136, ze_49_146, ze_49_152, ze_49_158, ze_49_168, ze_49_174, e48, e0, Int.add_zero, ↓reduceIte, qw_id, zck_T, zck_t, zGor_v, zGor_n, zGor_e, zbs, vup_at, vup_vup, vup_self, vup_o, vup_k, vup_fn, ne_eq, not_true_eq_false, not_false_eq_true, and_true, true_and, and_self, and_false, false_and, or_true, true_or, or_self, or_false, false_or, xlt_t, xlt_f, xle_t, xle_f, xeq_t, xeq_f, xand_f, xor_t]
  · rw [e2]
    have e0 := sp52 (J := J) (d := d) h hp hb hx hn (Or.inr rfl)
    rw [show -1 * (T (V 7 2 + 1) - 48) = 48 - T (V 7 2 + 1) by omega] at e0
    by_cases h1 : 48 ≤ T (V 7 2 + 1) ∧ T (V 7 2 + 1) ≤ 55
    · rw [if_pos h1] at e0
      simp only [if_pos h1]
      simp (disch := first | omega | assumption | (simp (disch := omega) only [cTk_0, vup_fn, vup_o, vup_k, vup_at]; first | done | omega | assumption)) only [ze_49_0, ze_49_5, ze_49_101, ze_49_108, ze_49_115, ze_49_121, ze_49_127, ze_49_136, ze_49_146, ze_49_152, ze_49_158, ze_49_168, ze_49_174, e48, e0, Int.add_zero, ↓reduceIte, qw_id, zck_T, zck_t, zGor_v, zGor_n, zGor_e, zbs, vup_at, vup_vup, vup_self, vup_o, vup_k, vup_fn, ne_eq, not_true_eq_false, not_false_eq_true, and_true, true_and, and_self, and_false, false_and, or_true, true_or, or_self, or_false, false_or, xlt_t, xlt_f, xle_t, xle_f, xeq_t, xeq_f, xand_f, xor_t]
    · rw [if_neg h1] at e0
      simp only [if_neg h1]
      simp (disch := first | omega | assumption | (simp (disch := omega) only [cTk_0, vup_fn, vup_o, vup_k, vup_at]; first | done | omega | assumption)) only [ze_49_0, ze_49_5, ze_49_101, ze_49_108, ze_49_115, ze_49_121, ze_49_127, ze_49_136, ze_49_146, ze_49_152, ze_49_158, ze_49_168, ze_49_174, e48, e0, Int.add_zero, ↓reduceIte, qw_id, zck_T, zck_t, zGor_v, zGor_n, zGor_e, zbs, vup_at, vup_vup, vup_self, vup_o, vup_k, vup_fn, ne_eq, not_true_eq_false, not_false_eq_true, and_true, true_and, and_self, and_false, false_and, or_true, true_or, or_self, or_false, false_or, xlt_t, xlt_f, xle_t, xle_f, xeq_t, xeq_f, xand_f, xor_t]
  · rw [e2]
    have e0 := sp54 (J := J) (d := d) h hp hb hx hn
    by_cases h1 : yMet (T (V 7 2 + 1)) (T (V 7 2 + 2)) (T (V 7 2 + 3)) = 0
    · rw [if_pos h1] at e0
      simp (disch := first | omega | assumption | (simp (disch := omega) only [cTk_0, vup_fn, vup_o, vup_k, vup_at]; first | done | omega | assumption)) only [ze_49_0, ze_49_5, ze_49_101, ze_49_108, ze_49_115, ze_49_121, ze_49_127, ze_49_136, ze_49_146, ze_49_152, ze_49_158, ze_49_168, ze_49_174, e48, e0, Int.add_zero, ↓reduceIte, qw_id, zck_T, zck_t, zGor_v, zGor_n, zGor_e, zbs, vup_at, vup_vup, vup_self, vup_o, vup_k, vup_fn, ne_eq, not_true_eq_false, not_false_eq_true, and_true, true_and, and_self, and_false, false_and, or_true, true_or, or_self, or_false, false_or, xlt_t, xlt_f, xle_t, xle_f, xeq_t, xeq_f, xand_f, xor_t]
    · rw [if_neg h1] at e0
      simp (disch := first | omega | assumption | (simp (disch := omega) only [cTk_0, vup_fn, vup_o, vup_k, vup_at]; first | done | omega | assumption)) only [ze_49_0, ze_49_5, ze_49_101, ze_49_108, ze_49_115, ze_49_121, ze_49_127, ze_49_136, ze_49_146, ze_49_152, ze_49_158, ze_49_168, ze_49_174, e48, e0, Int.add_zero, ↓reduceIte, qw_id, zck_T, zck_t, zGor_v, zGor_n, zGor_e, zbs, vup_at, vup_vup, vup_self, vup_o, vup_k, vup_fn, ne_eq, not_true_eq_false, not_false_eq_true, and_true, true_and, and_self, and_false, false_and, or_true, true_or, or_self, or_false, false_or, xlt_t, xlt_f, xle_t, xle_f, xeq_t, xeq_f, xand_f, xor_t]
  · rw [e2]
    have e0 := sp55 (J := J) (d := d) h hp hb hx hn
    by_cases h1 : yTe (T (V 7 2 + 1)) (T (V 7 2 + 2)) (V 7 2 + 1) = -1
    · rw [if_pos h1] at e0
      simp (disch := first | omega | assumption | (simp (disch := omega) only [cTk_0, vup_fn, vup_o, vup_k, vup_at]; first | done | omega | assumption)) only [ze_49_0, ze_49_5, ze_49_101, ze_49_108, ze_49_115, ze_49_121, ze_49_127, ze_49_136, ze_49_146, ze_49_152, ze_49_158, ze_49_168, ze_49_174, e48, e0, Int.add_zero, ↓reduceIte, qw_id, zck_T, zck_t, zGor_v, zGor_n, zGor_e, zbs, vup_at, vup_vup, vup_self, vup_o, vup_k, vup_fn, ne_eq, not_true_eq_false, not_false_eq_true, and_true, true_and, and_self, and_false, false_and, or_true, true_or, or_self, or_false, false_or, xlt_t, xlt_f, xle_t, xle_f, xeq_t, xeq_f, xand_f, xor_t]
    · rw [if_neg h1] at e0
      simp (disch := first | omega | assumption | (simp (disch := omega) only [cTk_0, vup_fn, vup_o, vup_k, vup_at]; first | done | omega | assumption)) only [ze_49_0, ze_49_5, ze_49_101, ze_49_108, ze_49_115, ze_49_121, ze_49_127, ze_49_136, ze_49_146, ze_49_152, ze_49_158, ze_49_168, ze_49_174, e48, e0, Int.add_zero, ↓reduceIte, qw_id, zck_T, zck_t, zGor_v, zGor_n, zGor_e, zbs, vup_at, vup_vup, vup_self, vup_o, vup_k, vup_fn, ne_eq, not_true_eq_false, not_false_eq_true, and_true, true_and, and_self, and_false, false_and, or_true, true_or, or_self, or_false, false_or, xlt_t, xlt_f, xle_t, xle_f, xeq_t, xeq_f, xand_f, xor_t]
  · rw [e2]
    simp (disch := first | omega | assumption | (simp (disch := omega) only [cTk_0, vup_fn, vup_o, vup_k, vup_at]; first | done | omega | assumption)) only [ze_49_0, ze_49_5, ze_49_101, ze_49_108, ze_49_115, ze_49_121, ze_49_127, ze_49_136, ze_49_146, ze_49_152, ze_49_158, ze_49_168, ze_49_174, e48, sp51, Int.add_zero, ↓reduceIte, qw_id, zck_T, zck_t, zGor_v, zGor_n, zGor_e, zbs, vup_at, vup_vup, vup_self, vup_o, vup_k, vup_fn, ne_eq, not_true_eq_false, not_false_eq_true, and_true, true_and, and_self, and_false, false_and, or_true, true_or, or_self, or_false, false_or, xlt_t, xlt_f, xle_t, xle_f, xeq_t, xeq_f, xand_f, xor_t]
  · rw [e2]
    simp (disch := first | omega | assumption | (simp (disch := omega) only [cTk_0, vup_fn, vup_o, vup_k, vup_at]; first | done | omega | assumption)) only [ze_49_0, ze_49_5, ze_49_101, ze_49_108, ze_49_115, ze_49_121, ze_49_127, ze_49_136, ze_49_146, ze_49_152, ze_49_158, ze_49_168, ze_49_174, e48, sp51, Int.add_zero, ↓reduceIte, qw_id, zck_T, zck_t, zGor_v, zGor_n, zGor_e, zbs, vup_at, vup_vup, vup_self, vup_o, vup_k, vup_fn, ne_eq, not_true_eq_false, not_false_eq_true, and_true, true_and, and_self, and_false, false_and, or_true, true_or, or_self, or_false, false_or, xlt_t, xlt_f, xle_t, xle_f, xeq_t, xeq_f, xand_f, xor_t]
  · rw [e2]
    have e0 := sp59 (J := J) (d := d) h hp hb hx hn
    by_cases h1 : 50 ≤ T (V 7 2 + 1) ∧ T (V 7 2 + 1) ≤ 52
    · rw [if_pos h1] at e0
      simp only [if_pos h1]
      simp (disch := first | omega | assumption | (simp (disch := omega) only [cTk_0, vup_fn, vup_o, vup_k, vup_at]; first | done | omega | assumption)) only [ze_49_0, ze_49_5, ze_49_101, ze_49_108, ze_49_115, ze_49_121, ze_49_127, ze_49_136, ze_49_146, ze_49_152, ze_49_158, ze_49_168, ze_49_174, e48, e0, Int.add_zero, ↓reduceIte, qw_id, zck_T, zck_t, zGor_v, zGor_n, zGor_e, zbs, vup_at, vup_vup, vup_self, vup_o, vup_k, vup_fn, ne_eq, not_true_eq_false, not_false_eq_true, and_true, true_and, and_self, and_false, false_and, or_true, true_or, or_self, or_false, false_or, xlt_t, xlt_f, xle_t, xle_f, xeq_t, xeq_f, xand_f, xor_t]
    · rw [if_neg h1] at e0
      simp only [if_neg h1]
      simp (disch := first | omega | assumption | (simp (disch := omega) only [cTk_0, vup_fn, vup_o, vup_k, vup_at]; first | done | omega | assumption)) only [ze_49_0, ze_49_5, ze_49_101, ze_49_108, ze_49_115, ze_49_121, ze_49_127, ze_49_136, ze_49_146, ze_49_152, ze_49_158, ze_49_168, ze_49_174, e48, e0, Int.add_zero, ↓reduceIte, qw_id, zck_T, zck_t, zGor_v, zGor_n, zGor_e, zbs, vup_at, vup_vup, vup_self, vup_o, vup_k, vup_fn, ne_eq, not_true_eq_false, not_false_eq_true, and_true, true_and, and_self, and_false, false_and, or_true, true_or, or_self, or_false, false_or, xlt_t, xlt_f, xle_t, xle_f, xeq_t, xeq_f, xand_f, xor_t]
  · rw [e2]
    have e0 := sp60 (J := J) (d := d) h hp hb hx hn
    by_cases h1 : (49 ≤ T (V 7 2 + 1) ∧ T (V 7 2 + 1) ≤ 52) ∧ T (V 7 2 + 2) = 58
    · rw [if_pos h1] at e0
      simp only [if_pos h1]
      simp (disch := first | omega | assumption | (simp (disch := omega) only [cTk_0, vup_fn, vup_o, vup_k, vup_at]; first | done | omega | assumption)) only [ze_49_0, ze_49_5, ze_49_101, ze_49_108, ze_49_115, ze_49_121, ze_49_127, ze_49_136, ze_49_146, ze_49_152, ze_49_158, ze_49_168, ze_49_174, e48, e0, Int.add_zero, ↓reduceIte, qw_id, zck_T, zck_t, zGor_v, zGor_n, zGor_e, zbs, vup_at, vup_vup, vup_self, vup_o, vup_k, vup_fn, ne_eq, not_true_eq_false, not_false_eq_true, and_true, true_and, and_self, and_false, false_and, or_true, true_or, or_self, or_false, false_or, xlt_t, xlt_f, xle_t, xle_f, xeq_t, xeq_f, xand_f, xor_t]
    · rw [if_neg h1] at e0
      simp only [if_neg h1]
      simp (disch := first | omega | assumption | (simp (disch := omega) only [cTk_0, vup_fn, vup_o, vup_k, vup_at]; first | done | omega | assumption)) only [ze_49_0, ze_49_5, ze_49_101, ze_49_108, ze_49_115, ze_49_121, ze_49_127, ze_49_136, ze_49_146, ze_49_152, ze_49_158, ze_49_168, ze_49_174, e48, e0, Int.add_zero, ↓reduceIte, qw_id, zck_T, zck_t, zGor_v, zGor_n, zGor_e, zbs, vup_at, vup_vup, vup_self, vup_o, vup_k, vup_fn, ne_eq, not_true_eq_false, not_false_eq_true, and_true, true_and, and_self, and_false, false_and, or_true, true_or, or_self, or_false, false_or, xlt_t, xlt_f, xle_t, xle_f, xeq_t, xeq_f, xand_f, xor_t]
  · rw [e2]
    simp (disch := first | omega | assumption | (simp (disch := omega) only [cTk_0, vup_fn, vup_o, vup_k, vup_at]; first | done | omega | assumption)) only [ze_49_0, ze_49_5, ze_49_101, ze_49_108, ze_49_115, ze_49_121, ze_49_127, ze_49_136, ze_49_146, ze_49_152, ze_49_158, ze_49_168, ze_49_174, e48, sp51, Int.add_zero, ↓reduceIte, qw_id, zck_T, zck_t, zGor_v, zGor_n, zGor_e, zbs, vup_at, vup_vup, vup_self, vup_o, vup_k, vup_fn, ne_eq, not_true_eq_false, not_false_eq_true, and_true, true_and, and_self, and_false, false_and, or_true, true_or, or_self, or_false, false_or, xlt_t, xlt_f, xle_t, xle_f, xeq_t, xeq_f, xand_f, xor_t]
  · rw [e2]
    have e0 := sp61 (J := J) (d := d) h hp hb hx hn
    by_cases h1 : yNt T (V 7 2) = -1
    · rw [if_pos h1] at e0
      simp (disch := first | omega | assumption | (simp (disch := omega) only [cTk_0, vup_fn, vup_o, vup_k, vup_at]; first | done | omega | assumption)) only [ze_49_0, ze_49_5, ze_49_101, ze_49_108, ze_49_115, ze_49_121, ze_49_127, ze_49_136, ze_49_146, ze_49_152, ze_49_158, ze_49_168, ze_49_174, e48, e0, Int.add_zero, ↓reduceIte, qw_id, zck_T, zck_t, zGor_v, zGor_n, zGor_e, zbs, vup_at, vup_vup, vup_self, vup_o, vup_k, vup_fn, ne_eq, not_true_eq_false, not_false_eq_true, and_true, true_and, and_self, and_false, false_and, or_true, true_or, or_self, or_false, false_or, xlt_t, xlt_f, xle_t, xle_f, xeq_t, xeq_f, xand_f, xor_t]
    · rw [if_neg h1] at e0
      have h5 := yNt_rng T (V 7 2) (fun q hq => h.2.2.2 q (by omega)) hp.1
      simp (disch := first | omega | assumption | (simp (disch := omega) only [cTk_0, vup_fn, vup_o, vup_k, vup_at]; first | done | omega | assumption)) only [ze_49_0, ze_49_5, ze_49_101, ze_49_108, ze_49_115, ze_49_121, ze_49_127, ze_49_136, ze_49_146, ze_49_152, ze_49_158, ze_49_168, ze_49_174, e48, e0, Int.add_zero, ↓reduceIte, qw_id, zck_T, zck_t, zGor_v, zGor_n, zGor_e, zbs, vup_at, vup_vup, vup_self, vup_o, vup_k, vup_fn, ne_eq, not_true_eq_false, not_false_eq_true, and_true, true_and, and_self, and_false, false_and, or_true, true_or, or_self, or_false, false_or, xlt_t, xlt_f, xle_t, xle_f, xeq_t, xeq_f, xand_f, xor_t]
end
