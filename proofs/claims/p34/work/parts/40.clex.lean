/-! part 40: the class's reading of a text -/
/-- the tokens' cells of a row of the class -/
def cTok (V : zVt) (x : Nat) (T : Int → Int) (k : Int) : Prop := V (x + 1) k = yK T (yP T k) ∧ V (x + 2) k = yP T k ∧ V (x + 3) k = cU T (yP T k) ∧ V (x + 4) k = cL T (yP T k) ∧ V (x + 5) k = yG T (yP T k) ∧ V (x + 6) k = yC T (yP T k) ∧ V (x + 7) k = yI T (yP T k) ∧ V (x + 8) k = -1
theorem cTk_1 (V : zVt) (x : Nat) (n k a u pl s t i e : Int) (hx : 13 ≤ x) : cTk V x n k a u pl s t i e (x + 1) n = k := by
  unfold cTk
  simp (disch := omega) only [vup_o, vup_at]
theorem cTk_2 (V : zVt) (x : Nat) (n k a u pl s t i e : Int) (hx : 13 ≤ x) : cTk V x n k a u pl s t i e (x + 2) n = a := by
  unfold cTk
  simp (disch := omega) only [vup_o, vup_at]
theorem cTk_3 (V : zVt) (x : Nat) (n k a u pl s t i e : Int) (hx : 13 ≤ x) : cTk V x n k a u pl s t i e (x + 3) n = u := by
  unfold cTk
  simp (disch := omega) only [vup_o, vup_at]
theorem cTk_4' (V : zVt) (x : Nat) (n k a u pl s t i e : Int) (hx : 13 ≤ x) : cTk V x n k a u pl s t i e (x + 4) n = pl := by
  unfold cTk
  simp (disch := omega) only [vup_o, vup_at]
theorem cTk_5 (V : zVt) (x : Nat) (n k a u pl s t i e : Int) (hx : 13 ≤ x) : cTk V x n k a u pl s t i e (x + 5) n = s := by
  unfold cTk
  simp (disch := omega) only [vup_o, vup_at]
theorem cTk_6 (V : zVt) (x : Nat) (n k a u pl s t i e : Int) (hx : 13 ≤ x) : cTk V x n k a u pl s t i e (x + 6) n = t := by
  unfold cTk
  simp (disch := omega) only [vup_o, vup_at]
theorem cTk_7 (V : zVt) (x : Nat) (n k a u pl s t i e : Int) (hx : 13 ≤ x) : cTk V x n k a u pl s t i e (x + 7) n = i := by
  unfold cTk
  simp (disch := omega) only [vup_at]
theorem cTk_8 (V : zVt) (x : Nat) (n k a u pl s t i e : Int) (hx : 13 ≤ x) : cTk V x n k a u pl s t i e (x + 8) n = -1 := by
  unfold cTk
  simp (disch := omega) only [vup_o, vup_at]
theorem cTk_e (V : zVt) (x : Nat) (n k a u pl s t i e : Int) (hx : 13 ≤ x) : cTk V x n k a u pl s t i e 7 2 = e := by
  unfold cTk
  simp (disch := omega) only [vup_o, vup_at]
theorem cTk_n {V : zVt} {x o : Nat} {n k a u pl s t i e : Int} (h : o < x ∧ o ≠ 7 ∨ x + 8 < o) (hx : 13 ≤ x) : cTk V x n k a u pl s t i e o = V o := by
  unfold cTk
  simp (disch := omega) only [vup_fn]
theorem cTk_k {V : zVt} {x o : Nat} {n k a u pl s t i e j : Int} (h : j ≠ n) (hx : 13 ≤ x) (ho : x < o) : cTk V x n k a u pl s t i e o j = V o j := by
  unfold cTk
  simp (disch := omega) only [vup_o, vup_k]
theorem cTk_x {V : zVt} {x : Nat} {n k a u pl s t i e j : Int} (h : j ≠ 0) (hx : 13 ≤ x) : cTk V x n k a u pl s t i e x j = V x j := by
  unfold cTk
  simp (disch := omega) only [vup_o, vup_k]
theorem cTk_r {V : zVt} {x : Nat} {n k a u pl s t i e j : Int} (h : j ≠ 2) (hx : 13 ≤ x) : cTk V x n k a u pl s t i e 7 j = V 7 j := by
  unfold cTk
  simp (disch := omega) only [vup_o, vup_k]
/-- what the class's reading leaves -/
def cFr (x : Nat) (V V' : zVt) : Prop := ∀ o : Nat, ¬(o = 7 ∨ o = 8 ∨ (x ≤ o ∧ o ≤ x + 8)) → V' o = V o
theorem cFr_r (x : Nat) (V : zVt) : cFr x V V := fun _ _ => rfl
theorem cFr_t {x : Nat} {V V1 V2 : zVt} (h : cFr x V V1) (h2 : cFr x V1 V2) : cFr x V V2 := fun o ho => (h2 o ho).trans (h o ho)
theorem cFr_v {x : Nat} {V : zVt} {o : Nat} {k v : Int} (h : o = 7 ∨ o = 8 ∨ (x ≤ o ∧ o ≤ x + 8)) : cFr x V (vup V o k v) := fun o2 ho => vup_fn (fun q => ho (q ▸ h))
theorem cFr_cTk {V : zVt} {x : Nat} {n k a u pl s t i e : Int} (hx : 13 ≤ x) : cFr x V (cTk V x n k a u pl s t i e) := fun o ho => cTk_n (by omega) hx
section
variable {J : zJt} {d : Nat → Nat → UInt64} {T : Int → Int} {x : Nat}
theorem sp47 (n : Nat) : ∀ {V : zVt}, rdOk (V 7 1) (V 8) T → (0 ≤ V 7 2 ∧ V 7 2 ≤ 170) → V 7 1 - V 7 2 < n → zGo false 47 0 [.ref 7] [] (zm V J d) = zN1 (vup V 7 2 (skp T (V 7 2))) J d := by
  induction n with
  | zero =>
    intro V h hp hn
    have h0 := h.2.2.1 (V 7 2) (by omega)
    have e := skp_id (T := T) (p := V 7 2) (by rw [h0]; decide)
    have r := h.1
    rw [e, vup_self]
    simp (disch := first | omega | assumption | (simp (disch := omega) only [cTk_0, vup_fn, vup_o, vup_k, vup_at]; first | done | omega | assumption)) only [ze_47_0, ze_47_16, ze_47_34, Int.add_zero, ↓reduceIte, qw_id, zck_T, zck_t, zGor_v, zGor_n, zGor_e, zbs, vup_at, vup_vup, vup_self, vup_o, vup_k, vup_fn, ne_eq, not_true_eq_false, not_false_eq_true, and_true, true_and, and_self, and_false, false_and, or_true, true_or, or_self, or_false, false_or, xlt_t, xlt_f, xle_t, xle_f, xeq_t, xeq_f, xand_f, xor_t]
  | succ n ih =>
    intro V h hp hn
    have r := h.1
    by_cases hpl : V 7 1 ≤ V 7 2
    · have h0 := h.2.2.1 (V 7 2) hpl
      have e := skp_id (T := T) (p := V 7 2) (by rw [h0]; decide)
      rw [e, vup_self]
      simp (disch := first | omega | assumption | (simp (disch := omega) only [cTk_0, vup_fn, vup_o, vup_k, vup_at]; first | done | omega | assumption)) only [ze_47_0, ze_47_16, ze_47_34, Int.add_zero, ↓reduceIte, qw_id, zck_T, zck_t, zGor_v, zGor_n, zGor_e, zbs, vup_at, vup_vup, vup_self, vup_o, vup_k, vup_fn, ne_eq, not_true_eq_false, not_false_eq_true, and_true, true_and, and_self, and_false, false_and, or_true, true_or, or_self, or_false, false_or, xlt_t, xlt_f, xle_t, xle_f, xeq_t, xeq_f, xand_f, xor_t]
    · have e48 := sp48 (J := J) (d := d) h (x := 0) (by omega)
      rw [Int.add_zero] at e48
      have r1 := h.2.2.2 (V 7 2) (by omega)
      by_cases h32 : T (V 7 2) = 32
      · have q := ih (V := vup V 7 2 (V 7 2 + 1)) (by rw [vup_k (by decide), vup_fn (by decide)]; exact h) (by rw [vup_at]; omega) (by rw [vup_k (by decide), vup_at]; omega)
        rw [vup_at, ← skp_sp (by omega) h32, vup_vup] at q
        rw [← q, ze_47_0]
        simp (disch := first | omega | assumption | (simp (disch := omega) only [cTk_0, vup_fn, vup_o, vup_k, vup_at]; first | done | omega | assumption)) only [e48, ze_47_16, Int.add_zero, ↓reduceIte, qw_id, zck_T, zck_t, zGor_v, zGor_n, zGor_e, zbs, vup_at, vup_vup, vup_self, vup_o, vup_k, vup_fn, ne_eq, not_true_eq_false, not_false_eq_true, and_true, true_and, and_self, and_false, false_and, or_true, true_or, or_self, or_false, false_or, xlt_t, xlt_f, xle_t, xle_f, xeq_t, xeq_f, xand_f, xor_t]
      · rw [skp_id h32, vup_self, ze_47_0]
        simp (disch := first | omega | assumption | (simp (disch := omega) only [cTk_0, vup_fn, vup_o, vup_k, vup_at]; first | done | omega | assumption)) only [e48, ze_47_16, ze_47_34, Int.add_zero, ↓reduceIte, qw_id, zck_T, zck_t, zGor_v, zGor_n, zGor_e, zbs, vup_at, vup_vup, vup_self, vup_o, vup_k, vup_fn, ne_eq, not_true_eq_false, not_false_eq_true, and_true, true_and, and_self, and_false, false_and, or_true, true_or, or_self, or_false, false_or, xlt_t, xlt_f, xle_t, xle_f, xeq_t, xeq_f, xand_f, xor_t]
theorem sl46 (hb : zBk 10 x) (hx : 13 ≤ x) {x1 : Nat} {x2 : Int} (h1 : zS0 x1 = (15, 160)) (n : Nat) : ∀ {V : zVt} {p c t : Int}, rdOk (V 7 1) (V 8) T → V 7 2 = p → (0 ≤ t ∧ t ≤ p ∧ p ≤ 170) → V 7 1 - p < n → V x 0 = c → V x 1 = V 7 1 → V x 2 = 0 → V x 3 = -1 → (0 ≤ c ∧ c ≤ 60) → skp T p = yP T c → (∀ k, 0 ≤ k → k < c → yP T k < V 7 1 ∧ yE T (yP T k) ≠ -1) → (∀ k, 0 ≤ k → k < c → cTok V x T k) →
    ∃ V' c' b, zGo false 46 61 [.ref 7, .ref x1, .int (zi x2), .ref x, .int (zi t)] [] (zm V J d) = zN1 V' J d ∧ yLx T (V 7 1) c' b ∧ V' x 0 = c' ∧ V' x 1 = V 7 1 ∧ V' x 2 = (if b = -1 then 0 else 1) ∧ V' x 3 = b ∧ (∀ k, 0 ≤ k → k < c' → cTok V' x T k) ∧ cFr x V V' := by
  induction n with
  | zero =>
    intro V p c t h hp ht hn hc hx1 hx2 hx3 hc2 hs hk hm
    have r := h.1
    have h0 := h.2.2.1 p (by omega)
    have e := skp_id (T := T) (p := p) (by rw [h0]; decide)
    have e47 := sp47 (J := J) (d := d) 200 h (by omega) (by omega)
    rw [hp, e] at e47
    have ev : vup V 7 2 p = V := by rw [← hp, vup_self]
    rw [ev] at e47
    refine ⟨V, c, -1, ?_, ⟨hc2, hk, Or.inl ⟨by omega, rfl⟩⟩, hc, hx1, hx2, hx3, hm, cFr_r x V⟩
    by_cases ht2 : t ≤ 160
    · rw [ze_46_61 _ _ _ _ h1 hb]
      simp (disch := first | omega | assumption | (simp (disch := omega) only [cTk_0, vup_fn, vup_o, vup_k, vup_at]; first | done | omega | assumption)) only [e47, ze_46_80, Int.add_zero, ↓reduceIte, qw_id, zck_T, zck_t, zGor_v, zGor_n, zGor_e, zbs, vup_at, vup_vup, vup_self, vup_o, vup_k, vup_fn, ne_eq, not_true_eq_false, not_false_eq_true, and_true, true_and, and_self, and_false, false_and, or_true, true_or, or_self, or_false, false_or, xlt_t, xlt_f, xle_t, xle_f, xeq_t, xeq_f, xand_f, xor_t]
    · rw [ze_46_61 _ _ _ _ h1 hb]
      simp (disch := first | omega | assumption | (simp (disch := omega) only [cTk_0, vup_fn, vup_o, vup_k, vup_at]; first | done | omega | assumption)) only [ze_46_124, Int.add_zero, ↓reduceIte, qw_id, zck_T, zck_t, zGor_v, zGor_n, zGor_e, zbs, vup_at, vup_vup, vup_self, vup_o, vup_k, vup_fn, ne_eq, not_true_eq_false, not_false_eq_true, and_true, true_and, and_self, and_false, false_and, or_true, true_or, or_self, or_false, false_or, xlt_t, xlt_f, xle_t, xle_f, xeq_t, xeq_f, xand_f, xor_t]
  | succ n ih =>
    intro V p c t h hp ht hn hc hx1 hx2 hx3 hc2 hs hk hm
    have r := h.1
    by_cases hpl : V 7 1 ≤ p
    · have h0 := h.2.2.1 p (by omega)
      have e := skp_id (T := T) (p := p) (by rw [h0]; decide)
      have e47 := sp47 (J := J) (d := d) 200 h (by omega) (by omega)
      rw [hp, e] at e47
      have ev : vup V 7 2 p = V := by rw [← hp, vup_self]
      rw [ev] at e47
      refine ⟨V, c, -1, ?_, ⟨hc2, hk, Or.inl ⟨by omega, rfl⟩⟩, hc, hx1, hx2, hx3, hm, cFr_r x V⟩
      by_cases ht2 : t ≤ 160
      · rw [ze_46_61 _ _ _ _ h1 hb]
        simp (disch := first | omega | assumption | (simp (disch := omega) only [cTk_0, vup_fn, vup_o, vup_k, vup_at]; first | done | omega | assumption)) only [e47, ze_46_80, Int.add_zero, ↓reduceIte, qw_id, zck_T, zck_t, zGor_v, zGor_n, zGor_e, zbs, vup_at, vup_vup, vup_self, vup_o, vup_k, vup_fn, ne_eq, not_true_eq_false, not_false_eq_true, and_true, true_and, and_self, and_false, false_and, or_true, true_or, or_self, or_false, false_or, xlt_t, xlt_f, xle_t, xle_f, xeq_t, xeq_f, xand_f, xor_t]
      · rw [ze_46_61 _ _ _ _ h1 hb]
        simp (disch := first | omega | assumption | (simp (disch := omega) only [cTk_0, vup_fn, vup_o, vup_k, vup_at]; first | done | omega | assumption)) only [ze_46_124, Int.add_zero, ↓reduceIte, qw_id, zck_T, zck_t, zGor_v, zGor_n, zGor_e, zbs, vup_at, vup_vup, vup_self, vup_o, vup_k, vup_fn, ne_eq, not_true_eq_false, not_false_eq_true, and_true, true_and, and_self, and_false, false_and, or_true, true_or, or_self, or_false, false_or, xlt_t, xlt_f, xle_t, xle_f, xeq_t, xeq_f, xand_f, xor_t]
    · have e47 := sp47 (J := J) (d := d) 200 h (by omega) (by omega)
      rw [hp, hs] at e47
      have hs2 := skp_rng T p
      rw [hs] at hs2
      have hkc : ∀ (W : zVt) (v : Int), (∀ k, 0 ≤ k → k < c → cTok W x T k) → (∀ k, 0 ≤ k → k < c → cTok (vup W 7 2 v) x T k) := by
        intro W v q k k1 k2
        have := q k k1 k2
        unfold cTok at *
        simp (disch := omega) only [vup_o]
        exact this
      by_cases hle : V 7 1 ≤ yP T c
      · refine ⟨vup V 7 2 (yP T c), c, -1, ?_, ⟨hc2, hk, Or.inl ⟨hle, rfl⟩⟩, ?_, ?_, ?_, ?_, hkc V _ hm, cFr_v (by omega)⟩
        · rw [ze_46_61 _ _ _ _ h1 hb]
          simp (disch := first | omega | assumption | (simp (disch := omega) only [cTk_0, vup_fn, vup_o, vup_k, vup_at]; first | done | omega | assumption)) only [e47, ze_46_80, Int.add_zero, ↓reduceIte, qw_id, zck_T, zck_t, zGor_v, zGor_n, zGor_e, zbs, vup_at, vup_vup, vup_self, vup_o, vup_k, vup_fn, ne_eq, not_true_eq_false, not_false_eq_true, and_true, true_and, and_self, and_false, false_and, or_true, true_or, or_self, or_false, false_or, xlt_t, xlt_f, xle_t, xle_f, xeq_t, xeq_f, xand_f, xor_t]
        · rw [vup_o (by omega), hc]
        · rw [vup_o (by omega), hx1]
        · rw [vup_o (by omega), hx2]; rfl
        · rw [vup_o (by omega), hx3]
      · by_cases h60 : c = 60
        · refine ⟨vup (vup (vup V 7 2 (yP T c)) x 2 1) x 3 (yP T c), c, yP T c, ?_, ⟨hc2, hk, Or.inr ⟨by omega, Or.inl h60, rfl⟩⟩, ?_, ?_, ?_, vup_at _ _ _ _, ?_, cFr_t (cFr_t (cFr_v (by omega)) (cFr_v (by omega))) (cFr_v (by omega))⟩
          · rw [ze_46_61 _ _ _ _ h1 hb]
            simp (disch := first | omega | assumption | (simp (disch := omega) only [cTk_0, vup_fn, vup_o, vup_k, vup_at]; first | done | omega | assumption)) only [e47, ze_46_80, ze_46_109, ze_87_0, ze_46_118, Int.add_zero, ↓reduceIte, qw_id, zck_T, zck_t, zGor_v, zGor_n, zGor_e, zbs, vup_at, vup_vup, vup_self, vup_o, vup_k, vup_fn, ne_eq, not_true_eq_false, not_false_eq_true, and_true, true_and, and_self, and_false, false_and, or_true, true_or, or_self, or_false, false_or, xlt_t, xlt_f, xle_t, xle_f, xeq_t, xeq_f, xand_f, xor_t]
            rw [ze_46_61 _ _ _ _ h1 hb]
            by_cases ht2 : t + 1 ≤ 160
            · simp (disch := first | omega | assumption | (simp (disch := omega) only [cTk_0, vup_fn, vup_o, vup_k, vup_at]; first | done | omega | assumption)) only [ze_46_124, Int.add_zero, ↓reduceIte, qw_id, zck_T, zck_t, zGor_v, zGor_n, zGor_e, zbs, vup_at, vup_vup, vup_self, vup_o, vup_k, vup_fn, ne_eq, not_true_eq_false, not_false_eq_true, and_true, true_and, and_self, and_false, false_and, or_true, true_or, or_self, or_false, false_or, xlt_t, xlt_f, xle_t, xle_f, xeq_t, xeq_f, xand_f, xor_t]
            · simp (disch := first | omega | assumption | (simp (disch := omega) only [cTk_0, vup_fn, vup_o, vup_k, vup_at]; first | done | omega | assumption)) only [ze_46_124, Int.add_zero, ↓reduceIte, qw_id, zck_T, zck_t, zGor_v, zGor_n, zGor_e, zbs, vup_at, vup_vup, vup_self, vup_o, vup_k, vup_fn, ne_eq, not_true_eq_false, not_false_eq_true, and_true, true_and, and_self, and_false, false_and, or_true, true_or, or_self, or_false, false_or, xlt_t, xlt_f, xle_t, xle_f, xeq_t, xeq_f, xand_f, xor_t]
          · rw [vup_k (by decide), vup_k (by decide), vup_o (by omega), hc]
          · rw [vup_k (by decide), vup_k (by decide), vup_o (by omega), hx1]
          · rw [vup_k (by decide), vup_at, if_neg (by omega)]
          · intro k k1 k2
            have := hkc V (yP T c) hm k k1 k2
            unfold cTok at *
            simp (disch := omega) only [vup_o] at this ⊢
            exact this
        · have e49 := sp49 (V := vup V 7 2 (yP T c)) (J := J) (d := d) (T := T) (x := x) (by rw [vup_k (by decide), vup_fn (by decide)]; exact h) (by rw [vup_at]; omega) hb hx (by rw [vup_o (by omega)]; omega)
          rw [vup_at, vup_o (by omega), hc] at e49
          have hE := yE_rng T (yP T c) (by omega) (fun q hq => h.2.2.2 q (by omega))
          by_cases hEn : yE T (yP T c) = -1
          · rw [if_pos hEn] at e49
            refine ⟨vup (vup (vup V 7 2 (yP T c)) x 2 1) x 3 (yP T c), c, yP T c, ?_, ⟨hc2, hk, Or.inr ⟨by omega, Or.inr hEn, rfl⟩⟩, ?_, ?_, ?_, vup_at _ _ _ _, ?_, cFr_t (cFr_t (cFr_v (by omega)) (cFr_v (by omega))) (cFr_v (by omega))⟩
            · rw [ze_46_61 _ _ _ _ h1 hb]
              simp (disch := first | omega | assumption | (simp (disch := omega) only [cTk_0, vup_fn, vup_o, vup_k, vup_at]; first | done | omega | assumption)) only [e47, ze_46_80, e49, ze_46_106, ze_46_109, ze_87_0, ze_46_118, Int.add_zero, ↓reduceIte, qw_id, zck_T, zck_t, zGor_v, zGor_n, zGor_e, zbs, vup_at, vup_vup, vup_self, vup_o, vup_k, vup_fn, ne_eq, not_true_eq_false, not_false_eq_true, and_true, true_and, and_self, and_false, false_and, or_true, true_or, or_self, or_false, false_or, xlt_t, xlt_f, xle_t, xle_f, xeq_t, xeq_f, xand_f, xor_t]
              rw [ze_46_61 _ _ _ _ h1 hb]
              by_cases ht2 : t + 1 ≤ 160
              · simp (disch := first | omega | assumption | (simp (disch := omega) only [cTk_0, vup_fn, vup_o, vup_k, vup_at]; first | done | omega | assumption)) only [ze_46_124, Int.add_zero, ↓reduceIte, qw_id, zck_T, zck_t, zGor_v, zGor_n, zGor_e, zbs, vup_at, vup_vup, vup_self, vup_o, vup_k, vup_fn, ne_eq, not_true_eq_false, not_false_eq_true, and_true, true_and, and_self, and_false, false_and, or_true, true_or, or_self, or_false, false_or, xlt_t, xlt_f, xle_t, xle_f, xeq_t, xeq_f, xand_f, xor_t]
              · simp (disch := first | omega | assumption | (simp (disch := omega) only [cTk_0, vup_fn, vup_o, vup_k, vup_at]; first | done | omega | assumption)) only [ze_46_124, Int.add_zero, ↓reduceIte, qw_id, zck_T, zck_t, zGor_v, zGor_n, zGor_e, zbs, vup_at, vup_vup, vup_self, vup_o, vup_k, vup_fn, ne_eq, not_true_eq_false, not_false_eq_true, and_true, true_and, and_self, and_false, false_and, or_true, true_or, or_self, or_false, false_or, xlt_t, xlt_f, xle_t, xle_f, xeq_t, xeq_f, xand_f, xor_t]
            · rw [vup_k (by decide), vup_k (by decide), vup_o (by omega), hc]
            · rw [vup_k (by decide), vup_k (by decide), vup_o (by omega), hx1]
            · rw [vup_k (by decide), vup_at, if_neg (by omega)]
            · intro k k1 k2
              have := hkc V (yP T c) hm k k1 k2
              unfold cTok at *
              simp (disch := omega) only [vup_o] at this ⊢
              exact this
          · rw [if_neg hEn] at e49
            generalize hV1 : cTk (vup V 7 2 (yP T c)) x c (yK T (yP T c)) (yP T c) (cU T (yP T c)) (cL T (yP T c)) (yG T (yP T c)) (yC T (yP T c)) (yI T (yP T c)) (yE T (yP T c)) = V1 at e49
            have f1 : cFr x V V1 := by
              rw [← hV1]
              exact cFr_t (cFr_v (by omega)) (cFr_cTk hx)
            have n1 : V1 7 1 = V 7 1 := by rw [← hV1, cTk_r (by decide) hx, vup_k (by decide)]
            have b1 : V1 8 = V 8 := by rw [← hV1, cTk_n (by omega) hx, vup_fn (by decide)]
            obtain ⟨V', c', b, q1, q2, q3, q4, q5, q6, q7, q8⟩ := ih (V := V1) (p := yE T (yP T c)) (c := c + 1) (t := t + 1) (by rw [n1, b1]; exact h) (by rw [← hV1, cTk_e _ _ _ _ _ _ _ _ _ _ _ hx]) (by omega) (by rw [n1]; omega) (by rw [← hV1, cTk_0 _ _ _ _ _ _ _ _ _ _ _ hx]) (by rw [n1, ← hV1, cTk_x (by decide) hx, vup_o (by omega), hx1]) (by rw [← hV1, cTk_x (by decide) hx, vup_o (by omega), hx2]) (by rw [← hV1, cTk_x (by decide) hx, vup_o (by omega), hx3]) (by omega) (yP_s _ hc2.1).symm (by
                rw [n1]
                intro k k1 k2
                by_cases hkc : k = c
                · subst hkc
                  exact ⟨by omega, hEn⟩
                · exact hk k k1 (by omega)) (by
                intro k k1 k2
                by_cases hkc2 : k = c
                · subst hkc2
                  unfold cTok
                  rw [← hV1]
                  exact ⟨cTk_1 _ _ _ _ _ _ _ _ _ _ _ hx, cTk_2 _ _ _ _ _ _ _ _ _ _ _ hx, cTk_3 _ _ _ _ _ _ _ _ _ _ _ hx, cTk_4' _ _ _ _ _ _ _ _ _ _ _ hx, cTk_5 _ _ _ _ _ _ _ _ _ _ _ hx, cTk_6 _ _ _ _ _ _ _ _ _ _ _ hx, cTk_7 _ _ _ _ _ _ _ _ _ _ _ hx, cTk_8 _ _ _ _ _ _ _ _ _ _ _ hx⟩
                · have := hm k k1 (by omega)
                  unfold cTok at *
                  rw [← hV1]
                  simp (disch := omega) only [cTk_k, vup_o]
                  exact this)
            rw [n1] at q2 q4
            refine ⟨V', c', b, ?_, q2, q3, q4, q5, q6, q7, cFr_t f1 q8⟩
            rw [← q1, ze_46_61 _ _ _ _ h1 hb]
            simp (disch := first | omega | assumption | (simp (disch := omega) only [cTk_0, vup_fn, vup_o, vup_k, vup_at]; first | done | omega | assumption)) only [e47, ze_46_80, e49, ze_46_106, ze_46_118, Int.add_zero, ↓reduceIte, qw_id, zck_T, zck_t, zGor_v, zGor_n, zGor_e, zbs, vup_at, vup_vup, vup_self, vup_o, vup_k, vup_fn, ne_eq, not_true_eq_false, not_false_eq_true, and_true, true_and, and_self, and_false, false_and, or_true, true_or, or_self, or_false, false_or, xlt_t, xlt_f, xle_t, xle_f, xeq_t, xeq_f, xand_f, xor_t]
end
