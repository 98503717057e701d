/-! part 99u: the law's method sings writes a song -/
theorem wck_T (x : Option (Int32 × zM × Nat)) {h : Decidable True} : @wck True h x = x := if_pos trivial
theorem wbS {cf : Int32 → Int32} {y pc : Nat} {ls st : List Value} {k : Nat} {x : Int32} {m : zM} : (some (x, m)).bind (wGos cf y pc ls st k) = wGo cf y pc ls (.int x :: st) m (k + 1) := rfl
theorem wbV {cf : Int32 → Int32} {y pc : Nat} {ls st : List Value} {k : Nat} {x : Int32} {m : zM} : (some (x, m)).bind (wGov cf y pc ls st k) = wGo cf y pc ls (.int x :: st) m k := rfl
theorem wbR {cf : Int32 → Int32} {y pc : Nat} {ls st : List Value} {k : Nat} {x : Int32} {m : zM} : (some (x, m, k)).bind (wGor cf y pc ls st) = wGo cf y pc ls (.int x :: st) m k := rfl
/-- part w is being written: its text is l -/
def lW (V : zVt) (J : zJt) (N : Int) (w : Nat) (l : List Int) : Prop := zInv N V J ∧ V 432 w = (l.length : Nat) ∧ yTt V w = lGet l ∧ V (50 + 15 * w) 3 = 0
/-- what writing part w leaves -/
def lWr (w : Nat) (V V' : zVt) : Prop := (∀ o : Nat, o ≠ 50 + 15 * w → o ≠ 51 + 15 * w → o ≠ 481 → o ≠ 432 → V' o = V o) ∧ ∀ w2 : Nat, w2 < 12 → w2 ≠ w → V' 432 w2 = V 432 w2 ∧ yTt V' w2 = yTt V w2
theorem lWr_r {w : Nat} {V : zVt} : lWr w V V := ⟨fun _ _ _ _ _ => rfl, fun _ _ _ => ⟨rfl, rfl⟩⟩
theorem lWr_t {w : Nat} {V V1 V2 : zVt} (h : lWr w V V1) (h2 : lWr w V1 V2) : lWr w V V2 := ⟨fun o a b c d => (h2.1 o a b c d).trans (h.1 o a b c d), fun w2 a b => ⟨(h2.2 w2 a b).1.trans (h.2 w2 a b).1, (h2.2 w2 a b).2.trans (h.2 w2 a b).2⟩⟩
section
variable {cf : Int32 → Int32} {V : zVt} {J : zJt} {N a b : Int} {d : Nat → Nat → UInt64} {w kk : Nat} {l : List Int}
theorem lW1 (h : lW V J N w l) (hp : (0 ≤ a ∧ a < 3) ∧ (0 ≤ b ∧ b < 4)) (hw : 4 * a + b = w) (hl : l.length < 160) (c : Int) (hc : 32 ≤ c ∧ c ≤ 126) : ∃ x V', wstub 0 [zi a, zi b, zi c] (zm V J d) = some (zi x, zm V' J d) ∧ (1 ≤ x ∧ x ≤ 160) ∧ lW V' J N w (l ++ [c]) ∧ lWr w V V' := by
  obtain ⟨h1, h2, h3, h4⟩ := h
  obtain ⟨V', q1, q2, q3, q4, q5, q6, q7⟩ := c_write (d := d) h1 hp hw hc h4 (by omega)
  refine ⟨V 432 w + 1, V', q1, by omega, ⟨q2, ?_, ?_, q5.2⟩, q6, q7⟩
  · rw [q3, h2, List.length_append, List.length_cons, List.length_nil]
    omega
  · funext p
    rw [q4, h2, h3]
    by_cases hp0 : 0 ≤ p
    · obtain ⟨i, rfl⟩ : ∃ i : Nat, p = i := ⟨p.toNat, by omega⟩
      by_cases e : i < l.length
      · rw [if_neg (by omega), lGet_lt l [c] i e]
      · by_cases e2 : i = l.length
        · rw [if_pos (by omega), e2]
          have := lGet_app l [c] 0
          rw [show ((l.length : Nat) : Int) + ((0 : Nat) : Int) = ((l.length : Nat) : Int) from Int.add_zero _] at this
          rw [this]
          rfl
        · rw [if_neg (by omega), lGet_end l (by omega), lGet_end (l ++ [c]) (by rw [List.length_append, List.length_cons, List.length_nil]; omega)]
    · rw [if_neg (by omega)]
      unfold lGet
      rw [if_neg hp0, if_neg hp0]
/-- the head of the song -/
theorem lS0 {n : Int} (h : lW V J N w []) (hp : (0 ≤ a ∧ a < 3) ∧ (0 ≤ b ∧ b < 4)) (hw : 4 * a + b = w) (hn : 0 ≤ n ∧ n < 2147483648) : ∃ V' e s k c, (e = 71 ∨ e = 70) ∧ (s = 35 ∨ s = 98) ∧ (0 ≤ k ∧ k ≤ 7) ∧ (c = 49 ∧ n / 24 % 5 ≠ 4 ∨ c = 50 ∧ n / 24 % 5 = 4) ∧ wGo cf 143 0 [.ref 0, .int (zi a), .int (zi b), .int (zi n), .null, .null, .null, .null, .null, .null, .null] [] (zm V J d) kk = wGo cf 143 157 [.ref 0, .int (zi a), .int (zi b), .int (zi n), .int (zi 1), .int (zi (n / 48)), .int (zi 0), .int (zi 0), .null, .null, .null] [] (zm V' J d) (kk + 8) ∧ lW V' J N w (lFl [lCl e, lKy s k, lMt c]) ∧ lWr w V V' := by
  obtain ⟨x1, V1, a1, b1, c1, d1⟩ := lW1 (d := d) h hp hw (Nat.lt_of_sub_pos (by decide)) 64 (by omega)
  obtain ⟨e, he, hn3⟩ : ∃ e : Int, (e = 71 ∨ e = 70) ∧ (e = 71 ∧ n % 3 ≠ 0 ∨ e = 70 ∧ n % 3 = 0) := by
    by_cases q : n % 3 = 0
    · exact ⟨70, by omega, by omega⟩
    · exact ⟨71, by omega, by omega⟩
  obtain ⟨s, hs, hn2⟩ : ∃ s : Int, (s = 35 ∨ s = 98) ∧ (s = 98 ∧ n % 2 ≠ 0 ∨ s = 35 ∧ n % 2 = 0) := by
    by_cases q : n % 2 = 0
    · exact ⟨35, by omega, by omega⟩
    · exact ⟨98, by omega, by omega⟩
  obtain ⟨k, hk⟩ : ∃ k, n / 3 % 8 = k := ⟨_, rfl⟩
  obtain ⟨c, hc⟩ : ∃ c, 49 + n / 24 % 5 / 4 = c := ⟨_, rfl⟩
  obtain ⟨x2, V2, a2, b2, c2, d2⟩ := lW1 (d := d) c1 hp hw (Nat.le_of_ble_eq_true rfl) e (by omega)
  obtain ⟨x3, V3, a3, b3, c3, d3⟩ := lW1 (d := d) c2 hp hw (Nat.le_of_ble_eq_true rfl) s (by omega)
  obtain ⟨x4, V4, a4, b4, c4, d4⟩ := lW1 (d := d) c3 hp hw (Nat.le_of_ble_eq_true rfl) (48 + k) (by omega)
  obtain ⟨x5, V5, a5, b5, c5, d5⟩ := lW1 (d := d) c4 hp hw (Nat.le_of_ble_eq_true rfl) 77 (by omega)
  obtain ⟨x6, V6, a6, b6, c6, d6⟩ := lW1 (d := d) c5 hp hw (Nat.le_of_ble_eq_true rfl) c (by omega)
  obtain ⟨x7, V7, a7, b7, c7, d7⟩ := lW1 (d := d) c6 hp hw (Nat.le_of_ble_eq_true rfl) 47 (by omega)
  obtain ⟨x8, V8, a8, b8, c8, d8⟩ := lW1 (d := d) c7 hp hw (Nat.le_of_ble_eq_true rfl) 52 (by omega)
  refine ⟨V8, e, s, k, c, he, hs, by omega, by omega, ?_, c8, lWr_t d1 (lWr_t d2 (lWr_t d3 (lWr_t d4 (lWr_t d5 (lWr_t d6 (lWr_t d7 d8))))))⟩
  rcases hn3 with ⟨e1, e2⟩ | ⟨e1, e2⟩ <;> rcases hn2 with ⟨f1, f2⟩ | ⟨f1, f2⟩ <;> subst e1 <;> subst f1
  · simp (disch := first | omega | assumption) only [lw_143_0, lw_143_8, lw_143_27, lw_143_30, lw_143_49, lw_143_52, lw_143_70, lw_143_78, lw_143_93, lw_143_113, lw_143_124, lw_143_135, lw_143_143, a1, a2, a3, hk, a4, a5, hc, a6, a7, a8, wck_t, wck_T, wbS, wbV, wbR, qdiv_p, qrem_p, Int.add_zero, ↓reduceIte, qw_id, ne_eq, not_true_eq_false, not_false_eq_true, and_true, true_and, and_self, and_false, false_and, or_true, true_or, or_self, or_false, false_or, xlt_t, xlt_f, xle_t, xle_f, xeq_t, xeq_f, xand_f, xor_t]
  · simp (disch := first | omega | assumption) only [lw_143_0, lw_143_8, lw_143_27, lw_143_30, lw_143_49, lw_143_52, lw_143_70, lw_143_78, lw_143_93, lw_143_113, lw_143_124, lw_143_135, lw_143_143, a1, a2, a3, hk, a4, a5, hc, a6, a7, a8, wck_t, wck_T, wbS, wbV, wbR, qdiv_p, qrem_p, Int.add_zero, ↓reduceIte, qw_id, ne_eq, not_true_eq_false, not_false_eq_true, and_true, true_and, and_self, and_false, false_and, or_true, true_or, or_self, or_false, false_or, xlt_t, xlt_f, xle_t, xle_f, xeq_t, xeq_f, xand_f, xor_t]
  · simp (disch := first | omega | assumption) only [lw_143_0, lw_143_8, lw_143_27, lw_143_30, lw_143_49, lw_143_52, lw_143_70, lw_143_78, lw_143_93, lw_143_113, lw_143_124, lw_143_135, lw_143_143, a1, a2, a3, hk, a4, a5, hc, a6, a7, a8, wck_t, wck_T, wbS, wbV, wbR, qdiv_p, qrem_p, Int.add_zero, ↓reduceIte, qw_id, ne_eq, not_true_eq_false, not_false_eq_true, and_true, true_and, and_self, and_false, false_and, or_true, true_or, or_self, or_false, false_or, xlt_t, xlt_f, xle_t, xle_f, xeq_t, xeq_f, xand_f, xor_t]
  · simp (disch := first | omega | assumption) only [lw_143_0, lw_143_8, lw_143_27, lw_143_30, lw_143_49, lw_143_52, lw_143_70, lw_143_78, lw_143_93, lw_143_113, lw_143_124, lw_143_135, lw_143_143, a1, a2, a3, hk, a4, a5, hc, a6, a7, a8, wck_t, wck_T, wbS, wbV, wbR, qdiv_p, qrem_p, Int.add_zero, ↓reduceIte, qw_id, ne_eq, not_true_eq_false, not_false_eq_true, and_true, true_and, and_self, and_false, false_and, or_true, true_or, or_self, or_false, false_or, xlt_t, xlt_f, xle_t, xle_f, xeq_t, xeq_f, xand_f, xor_t]
/-- a repeat is opened, or none -/
theorem lS1 {n x5 x6 x7 : Int} {x8 x9 x10 : Value} (h : lW V J N w l) (hp : (0 ≤ a ∧ a < 3) ∧ (0 ≤ b ∧ b < 4)) (hw : 4 * a + b = w) (hl : l.length + 1 ≤ 160) (h5 : 0 ≤ x5 ∧ x5 < 2147483648) (h6 : x6 = 0 ∨ x6 = 1) (h7 : 0 ≤ x7 ∧ x7 < 5) : ∃ V' y6 j, (x6 = 1 ∧ y6 = 1 ∧ j = 0 ∧ V' = V ∨ x6 = 0 ∧ y6 = 0 ∧ j = 0 ∧ V' = V ∨ x6 = 0 ∧ y6 = 1 ∧ j = 1 ∧ lW V' J N w (l ++ lOp.2.2.2)) ∧ wGo cf 143 157 [.ref 0, .int (zi a), .int (zi b), .int (zi n), .int (zi 1), .int (zi x5), .int (zi x6), .int (zi x7), x8, x9, x10] [] (zm V J d) kk = wGo cf 143 202 [.ref 0, .int (zi a), .int (zi b), .int (zi n), .int (zi 1), .int (zi x5), .int (zi y6), .int (zi x7), x8, x9, x10] [] (zm V' J d) (kk + j) ∧ lWr w V V' := by
  rcases h6 with h6 | h6
  · subst h6
    by_cases q : x5 % 7 = 0
    · obtain ⟨x1, V1, a1, b1, c1, d1⟩ := lW1 (d := d) h hp hw (by omega) 91 (by omega)
      refine ⟨V1, 1, 1, Or.inr (Or.inr ⟨rfl, rfl, rfl, c1⟩), ?_, d1⟩
      simp (disch := first | omega | assumption) only [lw_143_157, lw_143_189, lw_143_197, q, a1, wck_t, wck_T, wbS, wbV, wbR, qdiv_p, qrem_p, Int.add_zero, ↓reduceIte, qw_id, ne_eq, not_true_eq_false, not_false_eq_true, and_true, true_and, and_self, and_false, false_and, or_true, true_or, or_self, or_false, false_or, xlt_t, xlt_f, xle_t, xle_f, xeq_t, xeq_f, xand_f, xor_t]
    · refine ⟨V, 0, 0, Or.inr (Or.inl ⟨rfl, rfl, rfl, rfl⟩), ?_, lWr_r⟩
      simp (disch := first | omega | assumption) only [lw_143_157, wck_t, wck_T, wbS, wbV, wbR, qdiv_p, qrem_p, Int.add_zero, ↓reduceIte, qw_id, ne_eq, not_true_eq_false, not_false_eq_true, and_true, true_and, and_self, and_false, false_and, or_true, true_or, or_self, or_false, false_or, xlt_t, xlt_f, xle_t, xle_f, xeq_t, xeq_f, xand_f, xor_t]
      rfl
  · subst h6
    refine ⟨V, 1, 0, Or.inl ⟨rfl, rfl, rfl, rfl⟩, ?_, lWr_r⟩
    by_cases q : x5 % 7 = 0
    · simp (disch := first | omega | assumption) only [lw_143_157, q, wck_t, wck_T, wbS, wbV, wbR, qdiv_p, qrem_p, Int.add_zero, ↓reduceIte, qw_id, ne_eq, not_true_eq_false, not_false_eq_true, and_true, true_and, and_self, and_false, false_and, or_true, true_or, or_self, or_false, false_or, xlt_t, xlt_f, xle_t, xle_f, xeq_t, xeq_f, xand_f, xor_t]
      rfl
    · simp (disch := first | omega | assumption) only [lw_143_157, wck_t, wck_T, wbS, wbV, wbR, qdiv_p, qrem_p, Int.add_zero, ↓reduceIte, qw_id, ne_eq, not_true_eq_false, not_false_eq_true, and_true, true_and, and_self, and_false, false_and, or_true, true_or, or_self, or_false, false_or, xlt_t, xlt_f, xle_t, xle_f, xeq_t, xeq_f, xand_f, xor_t]
      rfl
/-- the bar of two beats has one more note -/
theorem lS2 {n x5 x6 x7 : Int} {x8 x9 x10 : Value} (h : lW V J N w l) (hp : (0 ≤ a ∧ a < 3) ∧ (0 ≤ b ∧ b < 4)) (hw : 4 * a + b = w) (hl : l.length + 2 ≤ 160) (hn : 0 ≤ n ∧ n < 2147483648) (h5 : 0 ≤ x5 ∧ x5 < 2147483648) : ∃ V' j, (n / 24 % 5 ≠ 4 ∧ j = 0 ∧ V' = V ∨ n / 24 % 5 = 4 ∧ j = 2 ∧ lW V' J N w (l ++ [48 + x5 % 10] ++ [113])) ∧ wGo cf 143 202 [.ref 0, .int (zi a), .int (zi b), .int (zi n), .int (zi 1), .int (zi x5), .int (zi x6), .int (zi x7), x8, x9, x10] [] (zm V J d) kk = wGo cf 143 281 [.ref 0, .int (zi a), .int (zi b), .int (zi n), .int (zi 1), .int (zi x5), .int (zi x6), .int (zi x7), .int (zi (x5 % 10)), .int (zi ((x5 % 10 + x5 / 10 % 4) % 10)), .int (zi (x5 / 40 % 6))] [] (zm V' J d) (kk + j) ∧ lWr w V V' := by
  by_cases q : n / 24 % 5 = 4
  · obtain ⟨x1, V1, a1, b1, c1, d1⟩ := lW1 (d := d) h hp hw (by omega) (48 + x5 % 10) (by omega)
    obtain ⟨x2, V2, a2, b2, c2, d2⟩ := lW1 (d := d) c1 hp hw (by rw [List.length_append, List.length_cons, List.length_nil]; omega) 113 (by omega)
    refine ⟨V2, 2, Or.inr ⟨q, rfl, c2⟩, ?_, lWr_t d1 d2⟩
    simp (disch := first | omega | assumption) only [lw_143_202, lw_143_260, lw_143_271, lw_143_279, q, a1, a2, wck_t, wck_T, wbS, wbV, wbR, qdiv_p, qrem_p, Int.add_zero, ↓reduceIte, qw_id, ne_eq, not_true_eq_false, not_false_eq_true, and_true, true_and, and_self, and_false, false_and, or_true, true_or, or_self, or_false, false_or, xlt_t, xlt_f, xle_t, xle_f, xeq_t, xeq_f, xand_f, xor_t]
  · refine ⟨V, 0, Or.inl ⟨q, rfl, rfl⟩, ?_, lWr_r⟩
    simp (disch := first | omega | assumption) only [lw_143_202, wck_t, wck_T, wbS, wbV, wbR, qdiv_p, qrem_p, Int.add_zero, ↓reduceIte, qw_id, ne_eq, not_true_eq_false, not_false_eq_true, and_true, true_and, and_self, and_false, false_and, or_true, true_or, or_self, or_false, false_or, xlt_t, xlt_f, xle_t, xle_f, xeq_t, xeq_f, xand_f, xor_t]
    rfl
/-- the bar's last beat -/
theorem lS3 {n x5 x6 x7 x8 x9 x10 : Int} (h : lW V J N w l) (hp : (0 ≤ a ∧ a < 3) ∧ (0 ≤ b ∧ b < 4)) (hw : 4 * a + b = w) (hl : l.length + 4 ≤ 160) (h8 : 0 ≤ x8 ∧ x8 ≤ 9) (h9 : 0 ≤ x9 ∧ x9 ≤ 9) (h10 : 0 ≤ x10 ∧ x10 < 6) : ∃ V' j ns, j ≤ 4 ∧ (∀ t ∈ ns, lWf t ∧ (t.1 = 3 ∨ t.1 = 4) ∧ 0 ≤ t.2.2.1) ∧ lSu ns = 4 ∧ ns.length ≤ 2 ∧ (lFl ns).length ≤ 4 ∧ lW V' J N w (l ++ lFl ns) ∧ wGo cf 143 281 [.ref 0, .int (zi a), .int (zi b), .int (zi n), .int (zi 1), .int (zi x5), .int (zi x6), .int (zi x7), .int (zi x8), .int (zi x9), .int (zi x10)] [] (zm V J d) kk = wGo cf 143 468 [.ref 0, .int (zi a), .int (zi b), .int (zi n), .int (zi 1), .int (zi x5), .int (zi x6), .int (zi x7), .int (zi x8), .int (zi x9), .int (zi x10)] [] (zm V' J d) (kk + j) ∧ lWr w V V' := by
  have len1 : ∀ x : Int, (l ++ [x]).length = l.length + 1 := fun x => by rw [List.length_append, List.length_cons, List.length_nil]
  have len2 : ∀ x y : Int, (l ++ [x] ++ [y]).length = l.length + 2 := fun x y => by rw [List.length_append, len1, List.length_cons, List.length_nil]
  have len3 : ∀ x y z : Int, (l ++ [x] ++ [y] ++ [z]).length = l.length + 3 := fun x y z => by rw [List.length_append, len2, List.length_cons, List.length_nil]
  have ap2 : ∀ x y : Int, l ++ [x] ++ [y] = l ++ [x, y] := fun x y => by rw [List.append_assoc]; rfl
  have ap3 : ∀ x y z : Int, l ++ [x] ++ [y] ++ [z] = l ++ [x, y, z] := fun x y z => by rw [ap2, List.append_assoc]; rfl
  have ap4 : ∀ x y z u : Int, l ++ [x] ++ [y] ++ [z] ++ [u] = l ++ [x, y, z, u] := fun x y z u => by rw [ap3, List.append_assoc]; rfl
  have wno : ∀ x y, (0 ≤ x ∧ x ≤ 9) → (y = 113 ∨ y = 101) → lWf (lNo x y) := fun x y hx hy => Or.inr (Or.inr (Or.inr (Or.inl ⟨x, y, hx, hy, rfl⟩)))
  have wsn : ∀ g x, (g = 94 ∨ g = 61) → (0 ≤ x ∧ x ≤ 9) → lWf (lSn g x) := fun g x hg hx => Or.inr (Or.inr (Or.inr (Or.inr (Or.inl ⟨g, x, hg, hx, rfl⟩))))
  have tno : ∀ x y : Int, 0 ≤ (lNo x y).2.2.1 := fun x y => by
    show 0 ≤ (if y = 113 then (4 : Int) else 2)
    split <;> decide
  by_cases q : x10 < 2
  · obtain ⟨y1, V1, a1, b1, c1, d1⟩ := lW1 (d := d) h hp hw (by omega) (48 + x8) (by omega)
    obtain ⟨y2, V2, a2, b2, c2, d2⟩ := lW1 (d := d) c1 hp hw (by rw [len1]; omega) 113 (by omega)
    refine ⟨V2, 2, [lNo x8 113], by omega, fun t ht => ?_, rfl, Nat.le_of_ble_eq_true rfl, Nat.le_of_ble_eq_true rfl, by rw [ap2] at c2; exact c2, ?_, lWr_t d1 d2⟩
    · rw [List.mem_singleton.mp ht]
      exact ⟨wno x8 113 h8 (Or.inl rfl), Or.inl rfl, tno _ _⟩
    · simp (disch := first | omega | assumption) only [lw_143_281, lw_143_303, lw_143_314, lw_143_322, a1, a2, wck_t, wck_T, wbS, wbV, wbR, qdiv_p, qrem_p, Int.add_zero, ↓reduceIte, qw_id, ne_eq, not_true_eq_false, not_false_eq_true, and_true, true_and, and_self, and_false, false_and, or_true, true_or, or_self, or_false, false_or, xlt_t, xlt_f, xle_t, xle_f, xeq_t, xeq_f, xand_f, xor_t]
  · by_cases q2 : x10 < 4
    · obtain ⟨y1, V1, a1, b1, c1, d1⟩ := lW1 (d := d) h hp hw (by omega) (48 + x8) (by omega)
      obtain ⟨y2, V2, a2, b2, c2, d2⟩ := lW1 (d := d) c1 hp hw (by rw [len1]; omega) 101 (by omega)
      by_cases q3 : x10 = 2
      · obtain ⟨y3, V3, a3, b3, c3, d3⟩ := lW1 (d := d) c2 hp hw (by rw [len2]; omega) 114 (by omega)
        obtain ⟨y4, V4, a4, b4, c4, d4⟩ := lW1 (d := d) c3 hp hw (by rw [len3]; omega) 101 (by omega)
        refine ⟨V4, 4, [lNo x8 101, lRe], by omega, fun t ht => ?_, rfl, Nat.le_of_ble_eq_true rfl, Nat.le_of_ble_eq_true rfl, by rw [ap4] at c4; exact c4, ?_, lWr_t d1 (lWr_t d2 (lWr_t d3 d4))⟩
        · rcases List.mem_cons.mp ht with e | e
          · rw [e]
            exact ⟨wno x8 101 h8 (Or.inr rfl), Or.inl rfl, tno _ _⟩
          · rw [List.mem_singleton.mp e]
            exact ⟨Or.inr (Or.inr (Or.inr (Or.inr (Or.inr (Or.inl rfl))))), Or.inr rfl, by decide⟩
        · simp (disch := first | omega | assumption) only [lw_143_281, lw_143_349, lw_143_360, lw_143_382, lw_143_385, lw_143_396, lw_143_404, q3, a1, a2, a3, a4, wck_t, wck_T, wbS, wbV, wbR, qdiv_p, qrem_p, Int.add_zero, ↓reduceIte, qw_id, ne_eq, not_true_eq_false, not_false_eq_true, and_true, true_and, and_self, and_false, false_and, or_true, true_or, or_self, or_false, false_or, xlt_t, xlt_f, xle_t, xle_f, xeq_t, xeq_f, xand_f, xor_t]
      · obtain ⟨y3, V3, a3, b3, c3, d3⟩ := lW1 (d := d) c2 hp hw (by rw [len2]; omega) (48 + x9) (by omega)
        obtain ⟨y4, V4, a4, b4, c4, d4⟩ := lW1 (d := d) c3 hp hw (by rw [len3]; omega) 101 (by omega)
        refine ⟨V4, 4, [lNo x8 101, lNo x9 101], by omega, fun t ht => ?_, rfl, Nat.le_of_ble_eq_true rfl, Nat.le_of_ble_eq_true rfl, by rw [ap4] at c4; exact c4, ?_, lWr_t d1 (lWr_t d2 (lWr_t d3 d4))⟩
        · rcases List.mem_cons.mp ht with e | e
          · rw [e]
            exact ⟨wno x8 101 h8 (Or.inr rfl), Or.inl rfl, tno _ _⟩
          · rw [List.mem_singleton.mp e]
            exact ⟨wno x9 101 h9 (Or.inr rfl), Or.inl rfl, tno _ _⟩
        · simp (disch := first | omega | assumption) only [lw_143_281, lw_143_349, lw_143_360, lw_143_382, lw_143_385, lw_143_396, lw_143_404, a1, a2, a3, a4, wck_t, wck_T, wbS, wbV, wbR, qdiv_p, qrem_p, Int.add_zero, ↓reduceIte, qw_id, ne_eq, not_true_eq_false, not_false_eq_true, and_true, true_and, and_self, and_false, false_and, or_true, true_or, or_self, or_false, false_or, xlt_t, xlt_f, xle_t, xle_f, xeq_t, xeq_f, xand_f, xor_t]
    · obtain ⟨g, hg, hg2⟩ : ∃ g : Int, (g = 94 ∨ g = 61) ∧ (g = 94 ∧ x10 = 4 ∨ g = 61 ∧ x10 = 5) := by
        by_cases e : x10 = 4
        · exact ⟨94, by omega, by omega⟩
        · exact ⟨61, by omega, by omega⟩
      obtain ⟨y1, V1, a1, b1, c1, d1⟩ := lW1 (d := d) h hp hw (by omega) g (by omega)
      obtain ⟨y2, V2, a2, b2, c2, d2⟩ := lW1 (d := d) c1 hp hw (by rw [len1]; omega) (48 + x9) (by omega)
      obtain ⟨y3, V3, a3, b3, c3, d3⟩ := lW1 (d := d) c2 hp hw (by rw [len2]; omega) 113 (by omega)
      refine ⟨V3, 3, [lSn g x9], by omega, fun t ht => ?_, rfl, Nat.le_of_ble_eq_true rfl, Nat.le_of_ble_eq_true rfl, by rw [ap3] at c3; exact c3, ?_, lWr_t d1 (lWr_t d2 d3)⟩
      · rw [List.mem_singleton.mp ht]
        exact ⟨wsn g x9 hg h9, Or.inl rfl, (by decide : (0 : Int) ≤ 4)⟩
      · rcases hg2 with ⟨e1, e2⟩ | ⟨e1, e2⟩
        · subst e1
          simp (disch := first | omega | assumption) only [lw_143_281, lw_143_430, lw_143_433, lw_143_447, lw_143_458, lw_143_466, e2, a1, a2, a3, wck_t, wck_T, wbS, wbV, wbR, qdiv_p, qrem_p, Int.add_zero, ↓reduceIte, qw_id, ne_eq, not_true_eq_false, not_false_eq_true, and_true, true_and, and_self, and_false, false_and, or_true, true_or, or_self, or_false, false_or, xlt_t, xlt_f, xle_t, xle_f, xeq_t, xeq_f, xand_f, xor_t]
        · subst e1
          simp (disch := first | omega | assumption) only [lw_143_281, lw_143_430, lw_143_433, lw_143_447, lw_143_458, lw_143_466, e2, a1, a2, a3, wck_t, wck_T, wbS, wbV, wbR, qdiv_p, qrem_p, Int.add_zero, ↓reduceIte, qw_id, ne_eq, not_true_eq_false, not_false_eq_true, and_true, true_and, and_self, and_false, false_and, or_true, true_or, or_self, or_false, false_or, xlt_t, xlt_f, xle_t, xle_f, xeq_t, xeq_f, xand_f, xor_t]
/-- the bar's end -/
theorem lS4 {n x5 x6 x7 x8 x9 x10 : Int} (h : lW V J N w l) (hp : (0 ≤ a ∧ a < 3) ∧ (0 ≤ b ∧ b < 4)) (hw : 4 * a + b = w) (hl : l.length + 3 ≤ 160) (h5 : 0 ≤ x5 ∧ x5 < 100000000) (h6 : x6 = 0 ∨ x6 = 1) (h7 : 0 ≤ x7 ∧ x7 < 5) : ∃ V' y6 j, (y6 = x6 ∧ j = 1 ∧ lW V' J N w (l ++ [124]) ∨ x6 = 1 ∧ y6 = 0 ∧ j = 3 ∧ lW V' J N w (l ++ [124] ++ [93] ++ [50])) ∧ wGo cf 143 468 [.ref 0, .int (zi a), .int (zi b), .int (zi n), .int (zi 1), .int (zi x5), .int (zi x6), .int (zi x7), .int (zi x8), .int (zi x9), .int (zi x10)] [] (zm V J d) kk = wGo cf 143 157 [.ref 0, .int (zi a), .int (zi b), .int (zi n), .int (zi 1), .int (zi (x5 / 11 + 3 * x7)), .int (zi y6), .int (zi (x7 + 1)), .int (zi x8), .int (zi x9), .int (zi x10)] [] (zm V' J d) (kk + j) ∧ lWr w V V' := by
  have len1 : ∀ x : Int, (l ++ [x]).length = l.length + 1 := fun x => by rw [List.length_append, List.length_cons, List.length_nil]
  have len2 : ∀ x y : Int, (l ++ [x] ++ [y]).length = l.length + 2 := fun x y => by rw [List.length_append, len1, List.length_cons, List.length_nil]
  obtain ⟨y1, V1, a1, b1, c1, d1⟩ := lW1 (d := d) h hp hw (by omega) 124 (by omega)
  rcases h6 with h6 | h6
  · subst h6
    refine ⟨V1, 0, 1, Or.inl ⟨rfl, rfl, c1⟩, ?_, d1⟩
    simp (disch := first | omega | assumption) only [lw_143_468, lw_143_481, lw_143_489, lw_143_540, a1, wck_t, wck_T, wbS, wbV, wbR, qdiv_p, qrem_p, Int.add_zero, ↓reduceIte, qw_id, ne_eq, not_true_eq_false, not_false_eq_true, and_true, true_and, and_self, and_false, false_and, or_true, true_or, or_self, or_false, false_or, xlt_t, xlt_f, xle_t, xle_f, xeq_t, xeq_f, xand_f, xor_t]
  · subst h6
    by_cases q : x5 % 3 = 0
    · obtain ⟨y2, V2, a2, b2, c2, d2⟩ := lW1 (d := d) c1 hp hw (by rw [len1]; omega) 93 (by omega)
      obtain ⟨y3, V3, a3, b3, c3, d3⟩ := lW1 (d := d) c2 hp hw (by rw [len2]; omega) 50 (by omega)
      refine ⟨V3, 0, 3, Or.inr ⟨rfl, rfl, rfl, c3⟩, ?_, lWr_t d1 (lWr_t d2 d3)⟩
      simp (disch := first | omega | assumption) only [lw_143_468, lw_143_481, lw_143_489, lw_143_516, lw_143_527, lw_143_535, lw_143_540, q, a1, a2, a3, wck_t, wck_T, wbS, wbV, wbR, qdiv_p, qrem_p, Int.add_zero, ↓reduceIte, qw_id, ne_eq, not_true_eq_false, not_false_eq_true, and_true, true_and, and_self, and_false, false_and, or_true, true_or, or_self, or_false, false_or, xlt_t, xlt_f, xle_t, xle_f, xeq_t, xeq_f, xand_f, xor_t]
    · refine ⟨V1, 1, 1, Or.inl ⟨rfl, rfl, c1⟩, ?_, d1⟩
      simp (disch := first | omega | assumption) only [lw_143_468, lw_143_481, lw_143_489, lw_143_540, a1, wck_t, wck_T, wbS, wbV, wbR, qdiv_p, qrem_p, Int.add_zero, ↓reduceIte, qw_id, ne_eq, not_true_eq_false, not_false_eq_true, and_true, true_and, and_self, and_false, false_and, or_true, true_or, or_self, or_false, false_or, xlt_t, xlt_f, xle_t, xle_f, xeq_t, xeq_f, xand_f, xor_t]
end
