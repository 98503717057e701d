/-! part 73: a text changes; write, strike -/
theorem yTt_of {V V' : zVt} {w : Nat} (h : V' 432 w = V 432 w) (h2 : ∀ p, 0 ≤ p → p < 160 → V' 431 (160 * w + p) = V 431 (160 * w + p)) (h3 : V 432 w ≤ 160) : yTt V' w = yTt V w := by
  funext p
  unfold yTt zt
  rw [h]
  by_cases q : 0 ≤ p ∧ p < V 432 w
  · rw [if_pos q, if_pos q, h2 p q.1 (by omega)]
  · rw [if_neg q, if_neg q]
section
variable {V V' : zVt} {J J' : zJt}
theorem iMs_tx {M w : Nat} {H : Int → Int} (h1 : V' M = V M) (h2 : J' (M + 1) = J (M + 1)) (ht : yTt V' w = yTt V w) (h4 : V' 432 w = V 432 w) (h5 : V' 3 = V 3) (h6 : V' 4 = V 4 ∧ V' 5 = V 5 ∧ V' 6 = V 6) (h : iMs V J M w H) : iMs V' J' M w H := by
  unfold iMs cMus at *
  rw [h1, h2, ht, h4, h5, h6.1, h6.2.1, h6.2.2]
  exact h
theorem iRd_tx {w : Nat} (hr : ∀ o : Nat, 50 + 15 * w ≤ o → o < 65 + 15 * w → V' o = V o) (h2 : J' (64 + 15 * w) = J (64 + 15 * w)) (ht : yTt V' w = yTt V w) (h4 : V' 432 w = V 432 w) (h5 : V' 3 = V 3) (h6 : V' 4 = V 4 ∧ V' 5 = V 5 ∧ V' 6 = V 6) (h : iRd V J w) : iRd V' J' w := by
  unfold iRd at *
  refine ⟨?_, ?_⟩
  · obtain ⟨n, b, F, A, fa, c1, c2, c3⟩ := h.1
    refine ⟨n, b, F, A, fa, ?_, ?_, ?_⟩
    · unfold cRow cTok7 at *
      rw [ht, h4, hr (52 + 15 * w) (by omega) (by omega), hr (52 + 15 * w + 1) (by omega) (by omega), hr (52 + 15 * w + 2) (by omega) (by omega), hr (52 + 15 * w + 3) (by omega) (by omega), hr (52 + 15 * w + 4) (by omega) (by omega), hr (52 + 15 * w + 5) (by omega) (by omega), hr (52 + 15 * w + 6) (by omega) (by omega), hr (52 + 15 * w + 7) (by omega) (by omega), hr (52 + 15 * w + 8) (by omega) (by omega)]
      exact c1
    · rw [ht, h4, h5, h6.1, h6.2.1, h6.2.2, hr (50 + 15 * w) (by omega) (by omega)]
      exact c2
    · rw [ht, h4, h5, h6.1, h6.2.1, h6.2.2, hr (50 + 15 * w) (by omega) (by omega)]
      exact c3
  · rw [hr (62 + 15 * w) (by omega) (by omega)]
    exact iMs_tx (hr _ (by omega) (by omega)) (by rw [show 63 + 15 * w + 1 = 64 + 15 * w by omega]; exact h2) ht h4 h5 h6 h.2
theorem zInv_tx {N : Int} {w0 : Nat} (hw0 : w0 < 12) (h : zInv N V J) (hpr : V (50 + 15 * w0) 3 = 0) (hf : ∀ o : Nat, o ≠ 50 + 15 * w0 → o ≠ 51 + 15 * w0 → o ≠ 430 → o ≠ 431 → o ≠ 432 → V' o = V o) (h430 : V' 430 37 = V 430 37 ∧ V' 430 42 = V 430 42 ∧ V' 430 46 = V 430 46 ∧ V' 430 52 = V 430 52 ∧ V' 430 59 = V 430 59) (hP3 : V' (50 + 15 * w0) 3 = 0) (hP2 : V' (50 + 15 * w0) 2 = 0) (hP1 : V' (50 + 15 * w0) 1 = V' 432 w0) (hx : zTx (V' 432) (V' 431)) (hl : ∀ p, 0 ≤ p → p < V' 432 w0 → V' (51 + 15 * w0) p = V' 431 (160 * w0 + p)) (ho : ∀ w : Nat, w < 12 → w ≠ w0 → V' 432 w = V 432 w ∧ ∀ p, 0 ≤ p → p < 160 → V' 431 (160 * w + p) = V 431 (160 * w + p)) : zInv N V' J := by
  obtain ⟨a1, a2, a3, a4, a5, a6, a7, a8, a9, a10⟩ := h
  have hty : ∀ w : Nat, w < 12 → w ≠ w0 → yTt V' w = yTt V w := fun w w1 w2 => yTt_of (ho w w1 w2).1 (ho w w1 w2).2 (a1.1 w (by omega) (by omega)).1.2
  have h456 : V' 4 = V 4 ∧ V' 5 = V 5 ∧ V' 6 = V 6 := ⟨hf 4 (by omega) (by omega) (by omega) (by omega) (by omega), hf 5 (by omega) (by omega) (by omega) (by omega) (by omega), hf 6 (by omega) (by omega) (by omega) (by omega) (by omega)⟩
  have h3 : V' 3 = V 3 := hf 3 (by omega) (by omega) (by omega) (by omega) (by omega)
  have hfh : ∀ o : Nat, 433 ≤ o → V' o = V o := fun o ho => hf o (by omega) (by omega) (by omega) (by omega) (by omega)
  have hfm : ∀ o : Nat, 230 ≤ o → o ≤ 429 → V' o = V o := fun o ho _ => hf o (by omega) (by omega) (by omega) (by omega) (by omega)
  have hfl : ∀ o : Nat, o ≤ 49 → V' o = V o := fun o ho => hf o (by omega) (by omega) (by omega) (by omega) (by omega)
  have hno : ∀ j : Nat, (j : Int) < V 430 37 → V 454 j = w0 → False := fun j j1 j2 => by
    have := (a3 w0 hw0).2.2.1.2 ⟨j, ⟨by omega, j1⟩, j2⟩
    omega
  refine ⟨⟨hx, ?_⟩, ?_, ?_, ?_, ?_, ?_, ?_, ?_, ?_, a10⟩
  · intro w w1
    by_cases e : w = w0
    · subst e
      exact ⟨hP1, hl⟩
    · have q := a1.2 w w1
      have r := (a1.1 w (by omega) (by omega)).1
      rw [hf (50 + 15 * w) (by omega) (by omega) (by omega) (by omega) (by omega), hf (51 + 15 * w) (by omega) (by omega) (by omega) (by omega) (by omega), (ho w w1 e).1]
      refine ⟨q.1, fun p p0 p1 => ?_⟩
      rw [(ho w w1 e).2 p p0 (by omega)]
      exact q.2 p p0 p1
  · unfold iCor at *
    rw [h430.2.1, h3, h456.1, h456.2.1, h456.2.2, hfh 457 (by omega), hfh 458 (by omega), hfh 459 (by omega)]
    exact a2
  · intro w w1
    have q := a3 w w1
    by_cases e : w = w0
    · subst e
      obtain ⟨b1, b2, b3, b4, b5, b6, b7⟩ := q
      have f61 : V' (61 + 15 * w) = V (61 + 15 * w) := hf _ (by omega) (by omega) (by omega) (by omega) (by omega)
      have f62 : V' (62 + 15 * w) = V (62 + 15 * w) := hf _ (by omega) (by omega) (by omega) (by omega) (by omega)
      unfold iPart
      rw [hP3, hP2, f62, hfh 454 (by omega), h430.1]
      rw [hpr] at b3
      refine ⟨Or.inl rfl, Or.inl rfl, b3, iMk_fr f61 (by rw [show 61 + 15 * w + 1 = 62 + 15 * w by omega]; exact f62) (hfh 456 (by omega)) h430.2.1 b4, fun _ => b5 hpr, fun q => by omega, fun q => by omega⟩
    · have hr : ∀ o : Nat, 50 + 15 * w ≤ o → o < 65 + 15 * w → V' o = V o := fun o h1 h2 => hf o (by omega) (by omega) (by omega) (by omega) (by omega)
      obtain ⟨b1, b2, b3, b4, b5, b6, b7⟩ := q
      unfold iPart
      rw [hr (50 + 15 * w) (by omega) (by omega), hr (62 + 15 * w) (by omega) (by omega), hfh 454 (by omega), h430.1]
      exact ⟨b1, b2, b3, iMk_fr (hr _ (by omega) (by omega)) (hr _ (by omega) (by omega)) (hfh 456 (by omega)) h430.2.1 b4, b5, fun q => iRd_tx hr rfl (hty w w1 e) (ho w w1 e).1 h3 h456 (b6 q), b7⟩
  · rw [h430.1, hfl 0 (by omega)]
    exact a4
  · intro j j1
    obtain ⟨b1, b2, b3⟩ := a5 j j1
    unfold iCopy
    rw [hfm (230 + 5 * j) (by omega) (by omega), hfm (232 + 5 * j) (by omega) (by omega), h430.1, hfh 454 (by omega), hfh 455 (by omega)]
    refine ⟨iMk_fr (hfm _ (by omega) (by omega)) (hfm _ (by omega) (by omega)) (hfh 456 (by omega)) h430.2.1 b1, fun q => ?_, b3⟩
    obtain ⟨c1, c2, c3, c4, c5⟩ := b2 q
    have hw1 : (V 454 j).toNat < 12 := by omega
    have hw2 : (V 454 j).toNat ≠ w0 := fun e => hno j q (by omega)
    exact ⟨c1, c2, c3, c4, iMs_tx (hfm _ (by omega) (by omega)) rfl (hty _ hw1 hw2) (ho _ hw1 hw2).1 h3 h456 c5⟩
  · unfold iOne at *
    rw [h430.1, hfh 454 (by omega), hfh 455 (by omega)]
    exact a6
  · unfold iReh at *
    rw [hfl 43 (by omega), hfl 44 (by omega), hfl 45 (by omega), hfl 37 (by omega), hfl 38 (by omega), hfl 39 (by omega), hfl 40 (by omega), hfl 41 (by omega), hfl 42 (by omega), hfh 460 (by omega), hfh 461 (by omega), hfh 462 (by omega), hfh 463 (by omega), hfh 464 (by omega), hfh 465 (by omega), hfh 466 (by omega), hfh 467 (by omega), h430.2.2.1, h430.2.2.2.1]
    exact a7
  · intro i i0 i1
    obtain ⟨b1, b2, b3⟩ := a8 i i0 i1
    rw [hfl 47 (by omega), hfh 472 (by omega)]
    refine ⟨b1, b2, fun q => ?_⟩
    obtain ⟨c1, c2, c3⟩ := b3 q
    have hw1 : (i / 40 % 12).toNat < 12 := by omega
    have hw2 : (i / 40 % 12).toNat ≠ w0 := fun e => by rw [e] at c1; omega
    unfold iLb at *
    rw [hf (50 + 15 * (i / 40 % 12).toNat) (by omega) (by omega) (by omega) (by omega) (by omega), hfh 471 (by omega), hfh 470 (by omega), hty _ hw1 hw2]
    exact ⟨c1, c2, c3⟩
  · rw [hfl 0 (by omega), h430.2.2.2.2]
    exact a9
end
section
variable {V : zVt} {J : zJt} {N a b c : Int} {d : Nat → Nat → UInt64}
/-- isPrinted of the reference -/
theorem ml149 {w : Int} (hw : 0 ≤ w ∧ w < 12) (hc : 0 ≤ V 430 37 ∧ V 430 37 ≤ 40) (hr : ∀ j, 0 ≤ j → j < V 430 37 → 0 ≤ V 454 j ∧ V 454 j < 12) (n : Nat) : ∀ k x : Int, 0 ≤ k → V 430 37 = k + n → (x = 0 ∨ x = 1) → (x = 1 ↔ ∃ j, (0 ≤ j ∧ j < k) ∧ V 454 j = w) → ∃ y : Int, (y = 0 ∨ y = 1) ∧ (y = 1 ↔ ∃ j, (0 ≤ j ∧ j < V 430 37) ∧ V 454 j = w) ∧ zGo false 149 4 [.ref 430, .int (zi w), .int (zi x), .int (zi k)] [] (zm V J d) = zI1 y V J d := by
  induction n with
  | zero =>
    intro k x k0 hk hx he
    have e : k = V 430 37 := by omega
    subst e
    refine ⟨x, hx, he, ?_⟩
    rw [ze_149_4]
    simp (disch := first | omega | assumption | (simp (disch := omega) only [vup_fn, vup_o, vup_k, vup_at]; first | done | omega | assumption)) only [Int.add_zero, ↓reduceIte, qw_id, zck_T, zck_t, zGor_v, zGor_n, zGor_e, zbs, vup_at, vup_vup, vup_self, vup_o, vup_k, vup_fn, ne_eq, not_true_eq_false, not_false_eq_true, and_true, true_and, and_self, and_false, false_and, or_true, true_or, or_self, or_false, false_or, xlt_t, xlt_f, xle_t, xle_f, xeq_t, xeq_f, xand_f, xor_t]
  | succ n ih =>
    intro k x k0 hk hx he
    have h454 := hr k k0 (by omega)
    by_cases h1 : x = 1
    · obtain ⟨y, y1, y2, y3⟩ := ih (k + 1) 1 (by omega) (by omega) (Or.inr rfl) ⟨fun _ => by
        obtain ⟨j, j1, j2⟩ := he.1 h1
        exact ⟨j, ⟨j1.1, by omega⟩, j2⟩, fun _ => rfl⟩
      refine ⟨y, y1, y2, ?_⟩
      rw [ze_149_4]
      simp (disch := first | omega | assumption | (simp (disch := omega) only [vup_fn, vup_o, vup_k, vup_at]; first | done | omega | assumption)) only [ze_149_26, ze_149_31, y3, Int.add_zero, ↓reduceIte, qw_id, zck_T, zck_t, zGor_v, zGor_n, zGor_e, zbs, vup_at, vup_vup, vup_self, vup_o, vup_k, vup_fn, ne_eq, not_true_eq_false, not_false_eq_true, and_true, true_and, and_self, and_false, false_and, or_true, true_or, or_self, or_false, false_or, xlt_t, xlt_f, xle_t, xle_f, xeq_t, xeq_f, xand_f, xor_t]
    · obtain rfl : x = 0 := by omega
      by_cases h2 : V 454 k = w
      · obtain ⟨y, y1, y2, y3⟩ := ih (k + 1) 1 (by omega) (by omega) (Or.inr rfl) ⟨fun _ => ⟨k, ⟨k0, by omega⟩, h2⟩, fun _ => rfl⟩
        refine ⟨y, y1, y2, ?_⟩
        rw [ze_149_4]
        simp (disch := first | omega | assumption | (simp (disch := omega) only [vup_fn, vup_o, vup_k, vup_at]; first | done | omega | assumption)) only [ze_149_26, ze_149_31, y3, Int.add_zero, ↓reduceIte, qw_id, zck_T, zck_t, zGor_v, zGor_n, zGor_e, zbs, vup_at, vup_vup, vup_self, vup_o, vup_k, vup_fn, ne_eq, not_true_eq_false, not_false_eq_true, and_true, true_and, and_self, and_false, false_and, or_true, true_or, or_self, or_false, false_or, xlt_t, xlt_f, xle_t, xle_f, xeq_t, xeq_f, xand_f, xor_t]
      · obtain ⟨y, y1, y2, y3⟩ := ih (k + 1) 0 (by omega) (by omega) (Or.inl rfl) ⟨fun q => by omega, fun ⟨j, j1, j2⟩ => by
          by_cases e : j = k
          · rw [e] at j2
            exact absurd j2 h2
          · exact absurd (he.2 ⟨j, ⟨j1.1, by omega⟩, j2⟩) h1⟩
        refine ⟨y, y1, y2, ?_⟩
        rw [ze_149_4]
        simp (disch := first | omega | assumption | (simp (disch := omega) only [vup_fn, vup_o, vup_k, vup_at]; first | done | omega | assumption)) only [ze_149_26, ze_149_31, y3, Int.add_zero, ↓reduceIte, qw_id, zck_T, zck_t, zGor_v, zGor_n, zGor_e, zbs, vup_at, vup_vup, vup_self, vup_o, vup_k, vup_fn, ne_eq, not_true_eq_false, not_false_eq_true, and_true, true_and, and_self, and_false, false_and, or_true, true_or, or_self, or_false, false_or, xlt_t, xlt_f, xle_t, xle_f, xeq_t, xeq_f, xand_f, xor_t]
theorem m149 (hi : zInv N V J) {V1 : zVt} {J1 : zJt} (h1 : V1 430 37 = V 430 37) (h2 : V1 454 = V 454) {w : Nat} (hw : w < 12) : zGo false 149 0 [.ref 430, .int (zi w), .null, .null] [] (zm V1 J1 d) = zI1 (V (50 + 15 * w) 3) V1 J1 d := by
  have h37 := hi.2.2.2.1
  have hr : ∀ j, 0 ≤ j → j < V1 430 37 → 0 ≤ V1 454 j ∧ V1 454 j < 12 := fun j j0 j1 => by
    rw [h2]
    exact (iCp_ms hi ⟨j0, by omega⟩).2.1
  obtain ⟨y, y1, y2, y3⟩ := ml149 (V := V1) (J := J1) (d := d) (w := w) (by omega) (by omega) hr (V1 430 37).toNat 0 0 (by omega) (by omega) (Or.inl rfl) ⟨fun q => by omega, fun ⟨j, j1, j2⟩ => by omega⟩
  obtain ⟨a1, a2, a3, _⟩ := hi.2.2.1 w hw
  rw [h1, h2] at y2
  have e : y = V (50 + 15 * w) 3 := by
    rcases a2 with q | q
    · rcases y1 with p | p
      · omega
      · have := a3.2 (y2.1 p)
        omega
    · have := y2.2 (a3.1 q)
      omega
  rw [ze_149_0, y3, e]
theorem x96 (h : zInv N V J) (hN : N < 600) (ha : -2147483648 ≤ a ∧ a < 2147483648) (hb : -2147483648 ≤ b ∧ b < 2147483648) (hc : 0 ≤ c ∧ c < 65536) : zTw N V J 96 [.ref 0, .int (zi a), .int (zi b), .int (zi c), .null] 145 [.ref 430, .int (zi a), .int (zi b), .int (zi c), .null, .null] [0, 1, 2] := by
  intro d
  by_cases hp : (0 ≤ a ∧ a < 3) ∧ (0 ≤ b ∧ b < 4)
  · have e97 := cp97 (V := V) (J := J) (d := d) ha hb
    rw [if_pos hp] at e97
    have hw12 : (4 * a + b).toNat < 12 := by omega
    have hwi : (((4 * a + b).toNat : Nat) : Int) = 4 * a + b := by omega
    generalize (4 * a + b).toNat = w at *
    have hB := zBk_part hw12
    obtain ⟨a1, a2, a3, _⟩ := h.2.2.1 w hw12
    have htx := h.1.2 w hw12
    have hln := (h.1.1 w (by omega) (by omega)).1
    by_cases hq : 32 ≤ c ∧ c ≤ 126
    · by_cases hr : V (50 + 15 * w) 3 = 0 ∧ V (50 + 15 * w) 1 < 160
      · left
        refine ⟨V (50 + 15 * w) 1 + 1, vup (vup (vup V (50 + 15 * w + 1) (V (50 + 15 * w) 1) c) (50 + 15 * w) 1 (V (50 + 15 * w) 1 + 1)) (50 + 15 * w) 2 0, J, ?_, ?_⟩
        · simp (disch := first | omega | assumption | (simp (disch := omega) only [vup_fn, vup_o, vup_k, vup_at]; first | done | omega | assumption)) only [ze_96_0, ze_96_6, ze_96_20, ze_96_49, e97, hr.1, Int.add_zero, ↓reduceIte, qw_id, zck_T, zck_t, zGor_v, zGor_n, zGor_e, zbs, vup_at, vup_vup, vup_self, vup_o, vup_k, vup_fn, ne_eq, not_true_eq_false, not_false_eq_true, and_true, true_and, and_self, and_false, false_and, or_true, true_or, or_self, or_false, false_or, xlt_t, xlt_f, xle_t, xle_f, xeq_t, xeq_f, xand_f, xor_t]
        intro J2 d2 hj
        have hi := zInv_fr (pM_j hj) (pC_j hj) h
        have f430 : vup (vup (vup V (50 + 15 * w + 1) (V (50 + 15 * w) 1) c) (50 + 15 * w) 1 (V (50 + 15 * w) 1 + 1)) (50 + 15 * w) 2 0 430 37 = V 430 37 := by rw [vup_o (by omega), vup_o (by omega), vup_o (by omega)]
        have f454 : vup (vup (vup V (50 + 15 * w + 1) (V (50 + 15 * w) 1) c) (50 + 15 * w) 1 (V (50 + 15 * w) 1 + 1)) (50 + 15 * w) 2 0 454 = V 454 := by rw [vup_fn (by omega), vup_fn (by omega), vup_fn (by omega)]
        have f432 : vup (vup (vup V (50 + 15 * w + 1) (V (50 + 15 * w) 1) c) (50 + 15 * w) 1 (V (50 + 15 * w) 1 + 1)) (50 + 15 * w) 2 0 432 = V 432 := by rw [vup_fn (by omega), vup_fn (by omega), vup_fn (by omega)]
        have e149 := m149 (d := d2) (J1 := J2) hi f430 f454 hw12
        have fo : ∀ o : Nat, o ≠ 50 + 15 * w → o ≠ 51 + 15 * w → vup (vup (vup V (50 + 15 * w + 1) (V (50 + 15 * w) 1) c) (50 + 15 * w) 1 (V (50 + 15 * w) 1 + 1)) (50 + 15 * w) 2 0 o = V o := fun o h1 h2 => by rw [vup_fn (by omega), vup_fn (by omega), vup_fn (by omega)]
        have f1 : vup (vup (vup V (50 + 15 * w + 1) (V (50 + 15 * w) 1) c) (50 + 15 * w) 1 (V (50 + 15 * w) 1 + 1)) (50 + 15 * w) 2 0 (50 + 15 * w) 1 = V (50 + 15 * w) 1 + 1 := by rw [vup_k (by omega), vup_at]
        have f2 : vup (vup (vup V (50 + 15 * w + 1) (V (50 + 15 * w) 1) c) (50 + 15 * w) 1 (V (50 + 15 * w) 1 + 1)) (50 + 15 * w) 2 0 (50 + 15 * w) 2 = 0 := vup_at _ _ _ _
        have f3 : vup (vup (vup V (50 + 15 * w + 1) (V (50 + 15 * w) 1) c) (50 + 15 * w) 1 (V (50 + 15 * w) 1 + 1)) (50 + 15 * w) 2 0 (50 + 15 * w) 3 = V (50 + 15 * w) 3 := by rw [vup_k (by omega), vup_k (by omega), vup_o (by omega)]
        have f4 : vup (vup (vup V (50 + 15 * w + 1) (V (50 + 15 * w) 1) c) (50 + 15 * w) 1 (V (50 + 15 * w) 1 + 1)) (50 + 15 * w) 2 0 (51 + 15 * w) = vup V (51 + 15 * w) (V (50 + 15 * w) 1) c (51 + 15 * w) := by rw [vup_fn (by omega), vup_fn (by omega), show 50 + 15 * w + 1 = 51 + 15 * w by omega]
        generalize vup (vup (vup V (50 + 15 * w + 1) (V (50 + 15 * w) 1) c) (50 + 15 * w) 1 (V (50 + 15 * w) 1 + 1)) (50 + 15 * w) 2 0 = V1 at *
        have e1 := sm146 (V := V1) (J := J2) (d := d2) ha hb
        rw [if_pos hp] at e1
        have e3 := sp148 (V := V1) (J := J2) (d := d2) (a := c) (b := 32) (c := 126) (by omega) (by omega) (by omega)
        rw [if_pos hq] at e3
        rw [hwi] at e149
        have g432 : V1 432 (4 * a + b) = V (50 + 15 * w) 1 := by rw [f432, ← hwi]; exact htx.1.symm
        have e2 := sm150 (V := V1) (J := J2) (d := d2) (p := 1) (q := 1) (r := 1) (by omega) (by omega) (by omega)
        rw [if_pos (show gC 1 1 1 = 0 from rfl)] at e2
        have f431 : V1 431 = V 431 := fo 431 (by omega) (by omega)
        refine ⟨V (50 + 15 * w) 1 + 1, vup (vup (vup V1 430 60 (gC 1 1 1)) 431 (160 * (4 * a + b) + V (50 + 15 * w) 1) c) 432 (4 * a + b) (V (50 + 15 * w) 1 + 1), J2, ?_, by rw [vup_o (by omega), vup_o (by omega), vup_at]; rfl, ?_, rfl, fun _ => rfl⟩
        · simp (disch := first | omega | assumption | (simp (disch := omega) only [vup_fn, vup_o, vup_k, vup_at]; first | done | omega | assumption)) only [ze_145_0, ze_145_5, ze_145_25, ze_145_36, ze_145_56, ze_145_57, ze_145_60, e1, e2, e3, e149, g432, hr.1, Int.add_zero, ↓reduceIte, qw_id, zck_T, zck_t, zGor_v, zGor_n, zGor_e, zbs, vup_at, vup_vup, vup_self, vup_o, vup_k, vup_fn, ne_eq, not_true_eq_false, not_false_eq_true, and_true, true_and, and_self, and_false, false_and, or_true, true_or, or_self, or_false, false_or, xlt_t, xlt_f, xle_t, xle_f, xeq_t, xeq_f, xand_f, xor_t]
        have g431 : ∀ k, vup (vup (vup V1 430 60 (gC 1 1 1)) 431 (160 * (4 * a + b) + V (50 + 15 * w) 1) c) 432 (4 * a + b) (V (50 + 15 * w) 1 + 1) 431 k = if k = 160 * (4 * a + b) + V (50 + 15 * w) 1 then c else V 431 k := fun k => by
          rw [vup_o (by omega)]
          by_cases e : k = 160 * (4 * a + b) + V (50 + 15 * w) 1
          · rw [if_pos e, e, vup_at]
          · rw [if_neg e, vup_k e, vup_o (by omega), f431]
        have g432' : ∀ k, vup (vup (vup V1 430 60 (gC 1 1 1)) 431 (160 * (4 * a + b) + V (50 + 15 * w) 1) c) 432 (4 * a + b) (V (50 + 15 * w) 1 + 1) 432 k = if k = 4 * a + b then V (50 + 15 * w) 1 + 1 else V 432 k := fun k => by
          by_cases e : k = 4 * a + b
          · rw [if_pos e, e, vup_at]
          · rw [if_neg e, vup_k e, vup_o (by omega), vup_o (by omega), f432]
        have g51 : ∀ k, vup (vup (vup V1 430 60 (gC 1 1 1)) 431 (160 * (4 * a + b) + V (50 + 15 * w) 1) c) 432 (4 * a + b) (V (50 + 15 * w) 1 + 1) (51 + 15 * w) k = if k = V (50 + 15 * w) 1 then c else V (51 + 15 * w) k := fun k => by
          rw [vup_o (by omega), vup_o (by omega), vup_o (by omega), f4]
          by_cases e : k = V (50 + 15 * w) 1
          · rw [if_pos e, e, vup_at]
          · rw [if_neg e, vup_k e]
        refine zInv_up (zInv_tx hw12 hi hr.1 (fun o h1 h2 h3 h4 h5 => by rw [vup_fn h5, vup_fn h4, vup_fn h3]; exact fo o h1 h2) ?_ ?_ ?_ ?_ ?_ ?_ ?_) hN
        · rw [vup_fn (by omega), vup_fn (by omega), vup_k (by omega), vup_k (by omega), vup_k (by omega), vup_k (by omega), vup_k (by omega), fo 430 (by omega) (by omega)]
          exact ⟨rfl, rfl, rfl, rfl, rfl⟩
        · rw [vup_o (by omega), vup_o (by omega), vup_o (by omega), f3, hr.1]
        · rw [vup_o (by omega), vup_o (by omega), vup_o (by omega), f2]
        · rw [g432', if_pos hwi, vup_o (by omega), vup_o (by omega), vup_o (by omega), f1]
        · intro w2 w0 w1
          have q := h.1.1 w2 w0 w1
          by_cases e : w2 = 4 * a + b
          · have e3 : V 432 w2 = V (50 + 15 * w) 1 := by rw [e, ← hwi]; exact htx.1.symm
            rw [g432', if_pos e]
            refine ⟨by omega, fun p p0 p1 => ?_⟩
            rw [g431]
            by_cases e4 : p = V (50 + 15 * w) 1
            · rw [if_pos (by omega)]
              exact hq
            · rw [if_neg (by omega)]
              exact q.2 p p0 (by omega)
          · rw [g432', if_neg e]
            refine ⟨q.1, fun p p0 p1 => ?_⟩
            rw [g431, if_neg (by omega)]
            exact q.2 p p0 p1
        · intro p p0 p1
          rw [g432', if_pos hwi] at p1
          rw [g51, g431]
          by_cases e4 : p = V (50 + 15 * w) 1
          · rw [if_pos e4, if_pos (by omega)]
          · rw [if_neg e4, if_neg (by omega)]
            exact htx.2 p p0 (by omega)
        · intro w2 w1 hne
          exact ⟨by rw [g432', if_neg (by omega)], fun p p0 p1 => by rw [g431, if_neg (by omega)]⟩
      · right
        refine ⟨2, 2, V, J, rfl, ?_, zRn_of h hN ?_⟩
        · by_cases h3 : V (50 + 15 * w) 3 = 0
          · simp (disch := first | omega | assumption | (simp (disch := omega) only [vup_fn, vup_o, vup_k, vup_at]; first | done | omega | assumption)) only [ze_96_0, ze_96_6, ze_96_20, ze_96_49, e97, Int.add_zero, ↓reduceIte, qw_id, zck_T, zck_t, zGor_v, zGor_n, zGor_e, zbs, vup_at, vup_vup, vup_self, vup_o, vup_k, vup_fn, ne_eq, not_true_eq_false, not_false_eq_true, and_true, true_and, and_self, and_false, false_and, or_true, true_or, or_self, or_false, false_or, xlt_t, xlt_f, xle_t, xle_f, xeq_t, xeq_f, xand_f, xor_t]
          · simp (disch := first | omega | assumption | (simp (disch := omega) only [vup_fn, vup_o, vup_k, vup_at]; first | done | omega | assumption)) only [ze_96_0, ze_96_6, ze_96_20, ze_96_49, e97, Int.add_zero, ↓reduceIte, qw_id, zck_T, zck_t, zGor_v, zGor_n, zGor_e, zbs, vup_at, vup_vup, vup_self, vup_o, vup_k, vup_fn, ne_eq, not_true_eq_false, not_false_eq_true, and_true, true_and, and_self, and_false, false_and, or_true, true_or, or_self, or_false, false_or, xlt_t, xlt_f, xle_t, xle_f, xeq_t, xeq_f, xand_f, xor_t]
        intro J2 d2 hj hi
        have e149 := m149 (V1 := V) (J1 := J2) (d := d2) hi rfl rfl hw12
        rw [hwi] at e149
        have e1 := sm146 (V := V) (J := J2) (d := d2) ha hb
        rw [if_pos hp] at e1
        have e3 := sp148 (V := V) (J := J2) (d := d2) (a := c) (b := 32) (c := 126) (by omega) (by omega) (by omega)
        rw [if_pos hq] at e3
        have g432 : V 432 (4 * a + b) = V (50 + 15 * w) 1 := by rw [← hwi]; exact htx.1.symm
        have e2 := sm150 (V := V) (J := J2) (d := d2) (p := 1) (q := 1) (r := 0) (by omega) (by omega) (by omega)
        rw [if_neg (show ¬ gC 1 1 0 = 0 by decide)] at e2
        refine ⟨0, vup V 430 60 (gC 1 1 0), J2, ?_, vup_at _ _ _ _, pM_60, pC_60, rfl, fun w => by omega⟩
        by_cases h3 : V (50 + 15 * w) 3 = 0
        · simp (disch := first | omega | assumption | (simp (disch := omega) only [vup_fn, vup_o, vup_k, vup_at]; first | done | omega | assumption)) only [ze_145_0, ze_145_5, ze_145_25, ze_145_36, ze_145_56, ze_145_57, ze_145_60, e1, e2, e3, e149, g432, h3, Int.add_zero, ↓reduceIte, qw_id, zck_T, zck_t, zGor_v, zGor_n, zGor_e, zbs, vup_at, vup_vup, vup_self, vup_o, vup_k, vup_fn, ne_eq, not_true_eq_false, not_false_eq_true, and_true, true_and, and_self, and_false, false_and, or_true, true_or, or_self, or_false, false_or, xlt_t, xlt_f, xle_t, xle_f, xeq_t, xeq_f, xand_f, xor_t]
        · simp (disch := first | omega | assumption | (simp (disch := omega) only [vup_fn, vup_o, vup_k, vup_at]; first | done | omega | assumption)) only [ze_145_0, ze_145_5, ze_145_25, ze_145_36, ze_145_56, ze_145_57, ze_145_60, e1, e2, e3, e149, Int.add_zero, ↓reduceIte, qw_id, zck_T, zck_t, zGor_v, zGor_n, zGor_e, zbs, vup_at, vup_vup, vup_self, vup_o, vup_k, vup_fn, ne_eq, not_true_eq_false, not_false_eq_true, and_true, true_and, and_self, and_false, false_and, or_true, true_or, or_self, or_false, false_or, xlt_t, xlt_f, xle_t, xle_f, xeq_t, xeq_f, xand_f, xor_t]
    · right
      refine ⟨1, 1, V, J, rfl, ?_, zRn_of h hN ?_⟩
      · by_cases h3 : c < 32
        · simp (disch := first | omega | assumption | (simp (disch := omega) only [vup_fn, vup_o, vup_k, vup_at]; first | done | omega | assumption)) only [ze_96_0, ze_96_6, ze_96_20, ze_96_49, e97, Int.add_zero, ↓reduceIte, qw_id, zck_T, zck_t, zGor_v, zGor_n, zGor_e, zbs, vup_at, vup_vup, vup_self, vup_o, vup_k, vup_fn, ne_eq, not_true_eq_false, not_false_eq_true, and_true, true_and, and_self, and_false, false_and, or_true, true_or, or_self, or_false, false_or, xlt_t, xlt_f, xle_t, xle_f, xeq_t, xeq_f, xand_f, xor_t]
        · simp (disch := first | omega | assumption | (simp (disch := omega) only [vup_fn, vup_o, vup_k, vup_at]; first | done | omega | assumption)) only [ze_96_0, ze_96_6, ze_96_20, ze_96_49, e97, Int.add_zero, ↓reduceIte, qw_id, zck_T, zck_t, zGor_v, zGor_n, zGor_e, zbs, vup_at, vup_vup, vup_self, vup_o, vup_k, vup_fn, ne_eq, not_true_eq_false, not_false_eq_true, and_true, true_and, and_self, and_false, false_and, or_true, true_or, or_self, or_false, false_or, xlt_t, xlt_f, xle_t, xle_f, xeq_t, xeq_f, xand_f, xor_t]
      intro J2 d2 hj hi
      have e149 := m149 (V1 := V) (J1 := J2) (d := d2) hi rfl rfl hw12
      rw [hwi] at e149
      have e1 := sm146 (V := V) (J := J2) (d := d2) ha hb
      rw [if_pos hp] at e1
      have e3 := sp148 (V := V) (J := J2) (d := d2) (a := c) (b := 32) (c := 126) (by omega) (by omega) (by omega)
      rw [if_neg hq] at e3
      have g432 : V 432 (4 * a + b) = V (50 + 15 * w) 1 := by rw [← hwi]; exact htx.1.symm
      by_cases hr : V (50 + 15 * w) 3 = 0 ∧ V (50 + 15 * w) 1 < 160
      · skip
        have e2 := sm150 (V := V) (J := J2) (d := d2) (p := 1) (q := 0) (r := 1) (by omega) (by omega) (by omega)
        rw [if_neg (show ¬ gC 1 0 1 = 0 by decide)] at e2
        refine ⟨0, vup V 430 60 (gC 1 0 1), J2, ?_, vup_at _ _ _ _, pM_60, pC_60, rfl, fun w => by omega⟩
        simp (disch := first | omega | assumption | (simp (disch := omega) only [vup_fn, vup_o, vup_k, vup_at]; first | done | omega | assumption)) only [ze_145_0, ze_145_5, ze_145_25, ze_145_36, ze_145_56, ze_145_57, ze_145_60, e1, e2, e3, e149, g432, hr.1, Int.add_zero, ↓reduceIte, qw_id, zck_T, zck_t, zGor_v, zGor_n, zGor_e, zbs, vup_at, vup_vup, vup_self, vup_o, vup_k, vup_fn, ne_eq, not_true_eq_false, not_false_eq_true, and_true, true_and, and_self, and_false, false_and, or_true, true_or, or_self, or_false, false_or, xlt_t, xlt_f, xle_t, xle_f, xeq_t, xeq_f, xand_f, xor_t]
      · skip
        have e2 := sm150 (V := V) (J := J2) (d := d2) (p := 1) (q := 0) (r := 0) (by omega) (by omega) (by omega)
        rw [if_neg (show ¬ gC 1 0 0 = 0 by decide)] at e2
        refine ⟨0, vup V 430 60 (gC 1 0 0), J2, ?_, vup_at _ _ _ _, pM_60, pC_60, rfl, fun w => by omega⟩
        by_cases h3 : V (50 + 15 * w) 3 = 0
        · simp (disch := first | omega | assumption | (simp (disch := omega) only [vup_fn, vup_o, vup_k, vup_at]; first | done | omega | assumption)) only [ze_145_0, ze_145_5, ze_145_25, ze_145_36, ze_145_56, ze_145_57, ze_145_60, e1, e2, e3, e149, g432, h3, Int.add_zero, ↓reduceIte, qw_id, zck_T, zck_t, zGor_v, zGor_n, zGor_e, zbs, vup_at, vup_vup, vup_self, vup_o, vup_k, vup_fn, ne_eq, not_true_eq_false, not_false_eq_true, and_true, true_and, and_self, and_false, false_and, or_true, true_or, or_self, or_false, false_or, xlt_t, xlt_f, xle_t, xle_f, xeq_t, xeq_f, xand_f, xor_t]
        · simp (disch := first | omega | assumption | (simp (disch := omega) only [vup_fn, vup_o, vup_k, vup_at]; first | done | omega | assumption)) only [ze_145_0, ze_145_5, ze_145_25, ze_145_36, ze_145_56, ze_145_57, ze_145_60, e1, e2, e3, e149, Int.add_zero, ↓reduceIte, qw_id, zck_T, zck_t, zGor_v, zGor_n, zGor_e, zbs, vup_at, vup_vup, vup_self, vup_o, vup_k, vup_fn, ne_eq, not_true_eq_false, not_false_eq_true, and_true, true_and, and_self, and_false, false_and, or_true, true_or, or_self, or_false, false_or, xlt_t, xlt_f, xle_t, xle_f, xeq_t, xeq_f, xand_f, xor_t]
  · right
    have e97 := cp97 (V := V) (J := J) (d := d) ha hb
    rw [if_neg hp] at e97
    refine ⟨0, 0, V, J, rfl, ?_, zRn_of h hN ?_⟩
    · simp (disch := first | omega | assumption | (simp (disch := omega) only [vup_fn, vup_o, vup_k, vup_at]; first | done | omega | assumption)) only [ze_96_0, ze_96_6, ze_96_20, ze_96_49, e97, Int.add_zero, ↓reduceIte, qw_id, zck_T, zck_t, zGor_v, zGor_n, zGor_e, zbs, vup_at, vup_vup, vup_self, vup_o, vup_k, vup_fn, ne_eq, not_true_eq_false, not_false_eq_true, and_true, true_and, and_self, and_false, false_and, or_true, true_or, or_self, or_false, false_or, xlt_t, xlt_f, xle_t, xle_f, xeq_t, xeq_f, xand_f, xor_t]
    intro J2 d2 hj hi
    have e1 := sm146 (V := V) (J := J2) (d := d2) ha hb
    rw [if_neg hp] at e1
    have e3 := sp148 (V := V) (J := J2) (d := d2) (a := c) (b := 32) (c := 126) (by omega) (by omega) (by omega)
    by_cases hq : 32 ≤ c ∧ c ≤ 126
    · rw [if_pos hq] at e3
      have e2 := sm150 (V := V) (J := J2) (d := d2) (p := 0) (q := 1) (r := 0) (by omega) (by omega) (by omega)
      rw [if_neg (show ¬ gC 0 1 0 = 0 by decide)] at e2
      refine ⟨0, vup V 430 60 (gC 0 1 0), J2, ?_, vup_at _ _ _ _, pM_60, pC_60, rfl, fun w => by omega⟩
      simp (disch := first | omega | assumption | (simp (disch := omega) only [vup_fn, vup_o, vup_k, vup_at]; first | done | omega | assumption)) only [ze_145_0, ze_145_5, ze_145_25, ze_145_36, ze_145_56, ze_145_57, ze_145_60, e1, e2, e3, Int.add_zero, ↓reduceIte, qw_id, zck_T, zck_t, zGor_v, zGor_n, zGor_e, zbs, vup_at, vup_vup, vup_self, vup_o, vup_k, vup_fn, ne_eq, not_true_eq_false, not_false_eq_true, and_true, true_and, and_self, and_false, false_and, or_true, true_or, or_self, or_false, false_or, xlt_t, xlt_f, xle_t, xle_f, xeq_t, xeq_f, xand_f, xor_t]
    · rw [if_neg hq] at e3
      have e2 := sm150 (V := V) (J := J2) (d := d2) (p := 0) (q := 0) (r := 0) (by omega) (by omega) (by omega)
      rw [if_neg (show ¬ gC 0 0 0 = 0 by decide)] at e2
      refine ⟨0, vup V 430 60 (gC 0 0 0), J2, ?_, vup_at _ _ _ _, pM_60, pC_60, rfl, fun w => by omega⟩
      simp (disch := first | omega | assumption | (simp (disch := omega) only [vup_fn, vup_o, vup_k, vup_at]; first | done | omega | assumption)) only [ze_145_0, ze_145_5, ze_145_25, ze_145_36, ze_145_56, ze_145_57, ze_145_60, e1, e2, e3, Int.add_zero, ↓reduceIte, qw_id, zck_T, zck_t, zGor_v, zGor_n, zGor_e, zbs, vup_at, vup_vup, vup_self, vup_o, vup_k, vup_fn, ne_eq, not_true_eq_false, not_false_eq_true, and_true, true_and, and_self, and_false, false_and, or_true, true_or, or_self, or_false, false_or, xlt_t, xlt_f, xle_t, xle_f, xeq_t, xeq_f, xand_f, xor_t]
end
