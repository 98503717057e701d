/-! part 74: strike -/
section
variable {V : zVt} {J : zJt} {N a b c : Int}
theorem sp231 {d : Nat → Nat → UInt64} {x y : Int} (hx : -2147483648 ≤ x ∧ x < 2147483648) (hy : -2147483648 ≤ y ∧ y < 2147483648) : zGo false 231 0 [.int (zi x), .int (zi y)] [] (zm V J d) = zI1 (if x < y then y else x) V J d := by
  by_cases h : x < y
  · rw [if_pos h]
    simp (disch := first | omega | assumption | (simp (disch := omega) only [vup_fn, vup_o, vup_k, vup_at]; first | done | omega | assumption)) only [ze_231_0, ze_231_10, Int.add_zero, ↓reduceIte, qw_id, zck_T, zck_t, zGor_v, zGor_n, zGor_e, zbs, vup_at, vup_vup, vup_self, vup_o, vup_k, vup_fn, ne_eq, not_true_eq_false, not_false_eq_true, and_true, true_and, and_self, and_false, false_and, or_true, true_or, or_self, or_false, false_or, xlt_t, xlt_f, xle_t, xle_f, xeq_t, xeq_f, xand_f, xor_t]
  · rw [if_neg h]
    simp (disch := first | omega | assumption | (simp (disch := omega) only [vup_fn, vup_o, vup_k, vup_at]; first | done | omega | assumption)) only [ze_231_0, ze_231_10, Int.add_zero, ↓reduceIte, qw_id, zck_T, zck_t, zGor_v, zGor_n, zGor_e, zbs, vup_at, vup_vup, vup_self, vup_o, vup_k, vup_fn, ne_eq, not_true_eq_false, not_false_eq_true, and_true, true_and, and_self, and_false, false_and, or_true, true_or, or_self, or_false, false_or, xlt_t, xlt_f, xle_t, xle_f, xeq_t, xeq_f, xand_f, xor_t]
theorem x98 (h : zInv N V J) (hN : N < 600) (ha : -2147483648 ≤ a ∧ a < 2147483648) (hb : -2147483648 ≤ b ∧ b < 2147483648) (hc : -2147483648 ≤ c ∧ c < 2147483648) : zTw N V J 98 [.ref 0, .int (zi a), .int (zi b), .int (zi c), .null] 151 [.ref 430, .int (zi a), .int (zi b), .int (zi c), .null, .null] [0, 1, 2] := by
  intro d
  by_cases hp : (0 ≤ a ∧ a < 3) ∧ (0 ≤ b ∧ b < 4)
  · have e97 := cp97 (V := V) (J := J) (d := d) ha hb
    rw [if_pos hp] at e97
    have hw12 : (4 * a + b).toNat < 12 := by omega
    have hwi : (((4 * a + b).toNat : Nat) : Int) = 4 * a + b := by omega
    generalize (4 * a + b).toNat = w at *
    have hB := zBk_part hw12
    obtain ⟨a1, a2, a3, _⟩ := h.2.2.1 w hw12
    have htx := h.1.2 w hw12
    have hln := (h.1.1 w (by omega) (by omega)).1
    by_cases hq : 1 ≤ c ∧ c ≤ 160
    · by_cases hr : V (50 + 15 * w) 3 = 0
      · left
        have hnl : ∃ nl, nl = (if 0 < V (50 + 15 * w) 1 - c then V (50 + 15 * w) 1 - c else 0) := ⟨_, rfl⟩
        obtain ⟨nl, hnl⟩ := hnl
        have e231 := sp231 (V := V) (J := J) (d := d) (x := 0) (y := V (50 + 15 * w) 1 - c) (by omega) (by omega)
        rw [← hnl] at e231
        have hnr : (c ≤ V (50 + 15 * w) 1 ∧ nl = V (50 + 15 * w) 1 - c) ∨ (V (50 + 15 * w) 1 < c ∧ nl = 0) := by
          by_cases q : 0 < V (50 + 15 * w) 1 - c
          · rw [if_pos q] at hnl; omega
          · rw [if_neg q] at hnl; omega
        refine ⟨nl, vup (vup V (50 + 15 * w) 1 nl) (50 + 15 * w) 2 0, J, ?_, ?_⟩
        · simp (disch := first | omega | assumption | (simp (disch := omega) only [vup_fn, vup_o, vup_k, vup_at]; first | done | omega | assumption)) only [ze_98_0, ze_98_6, ze_98_20, ze_98_61, e97, hr, e231, Int.add_zero, ↓reduceIte, qw_id, zck_T, zck_t, zGor_v, zGor_n, zGor_e, zbs, vup_at, vup_vup, vup_self, vup_o, vup_k, vup_fn, ne_eq, not_true_eq_false, not_false_eq_true, and_true, true_and, and_self, and_false, false_and, or_true, true_or, or_self, or_false, false_or, xlt_t, xlt_f, xle_t, xle_f, xeq_t, xeq_f, xand_f, xor_t]
        intro J2 d2 hj
        have hi := zInv_fr (pM_j hj) (pC_j hj) h
        have fo : ∀ o : Nat, o ≠ 50 + 15 * w → vup (vup V (50 + 15 * w) 1 nl) (50 + 15 * w) 2 0 o = V o := fun o h1 => by rw [vup_fn (by omega), vup_fn (by omega)]
        have f1 : vup (vup V (50 + 15 * w) 1 nl) (50 + 15 * w) 2 0 (50 + 15 * w) 1 = nl := by rw [vup_k (by omega), vup_at]
        have f2 : vup (vup V (50 + 15 * w) 1 nl) (50 + 15 * w) 2 0 (50 + 15 * w) 2 = 0 := vup_at _ _ _ _
        have f3 : vup (vup V (50 + 15 * w) 1 nl) (50 + 15 * w) 2 0 (50 + 15 * w) 3 = V (50 + 15 * w) 3 := by rw [vup_k (by omega), vup_k (by omega)]
        generalize vup (vup V (50 + 15 * w) 1 nl) (50 + 15 * w) 2 0 = V1 at *
        have f432 : V1 432 = V 432 := fo 432 (by omega)
        have f431 : V1 431 = V 431 := fo 431 (by omega)
        have e149 := m149 (d := d2) (V1 := V1) (J1 := J2) hi (by rw [fo 430 (by omega)]) (fo 454 (by omega)) hw12
        have e1 := sm146 (V := V1) (J := J2) (d := d2) ha hb
        rw [if_pos hp] at e1
        have e3 := sp148 (V := V1) (J := J2) (d := d2) (a := c) (b := 1) (c := 160) (by omega) (by omega) (by omega)
        rw [if_pos hq] at e3
        rw [hwi] at e149
        have g432 : V1 432 (4 * a + b) = V (50 + 15 * w) 1 := by rw [f432, ← hwi]; exact htx.1.symm
        have e2 := sm150 (V := V1) (J := J2) (d := d2) (p := 1) (q := 1) (r := 1) (by omega) (by omega) (by omega)
        rw [if_pos (show gC 1 1 1 = 0 from rfl)] at e2
        refine ⟨nl, vup (vup V1 430 60 (gC 1 1 1)) 432 (4 * a + b) nl, J2, ?_, by rw [vup_o (by omega), vup_at]; rfl, ?_, rfl, fun _ => rfl⟩
        · rcases hnr with ⟨n1, n2⟩ | ⟨n1, n2⟩
          · have n3 : V1 432 (4 * a + b) - c = nl := by omega
            simp (disch := first | omega | assumption | (simp (disch := omega) only [vup_fn, vup_o, vup_k, vup_at]; first | done | omega | assumption)) only [ze_151_0, ze_151_5, ze_151_25, ze_151_36, ze_151_43, ze_151_44, ze_151_47, ze_151_82, e1, e2, e3, e149, hr, n3, Int.add_zero, ↓reduceIte, qw_id, zck_T, zck_t, zGor_v, zGor_n, zGor_e, zbs, vup_at, vup_vup, vup_self, vup_o, vup_k, vup_fn, ne_eq, not_true_eq_false, not_false_eq_true, and_true, true_and, and_self, and_false, false_and, or_true, true_or, or_self, or_false, false_or, xlt_t, xlt_f, xle_t, xle_f, xeq_t, xeq_f, xand_f, xor_t]
          · rw [n2]
            simp (disch := first | omega | assumption | (simp (disch := omega) only [vup_fn, vup_o, vup_k, vup_at]; first | done | omega | assumption)) only [ze_151_0, ze_151_5, ze_151_25, ze_151_36, ze_151_43, ze_151_44, ze_151_47, ze_151_82, e1, e2, e3, e149, hr, Int.add_zero, ↓reduceIte, qw_id, zck_T, zck_t, zGor_v, zGor_n, zGor_e, zbs, vup_at, vup_vup, vup_self, vup_o, vup_k, vup_fn, ne_eq, not_true_eq_false, not_false_eq_true, and_true, true_and, and_self, and_false, false_and, or_true, true_or, or_self, or_false, false_or, xlt_t, xlt_f, xle_t, xle_f, xeq_t, xeq_f, xand_f, xor_t]
        have g432' : ∀ k, vup (vup V1 430 60 (gC 1 1 1)) 432 (4 * a + b) nl 432 k = if k = 4 * a + b then nl else V 432 k := fun k => by
          by_cases e : k = 4 * a + b
          · rw [if_pos e, e, vup_at]
          · rw [if_neg e, vup_k e, vup_o (by omega), f432]
        have g431 : vup (vup V1 430 60 (gC 1 1 1)) 432 (4 * a + b) nl 431 = V 431 := by rw [vup_fn (by omega), vup_fn (by omega), f431]
        refine zInv_up (zInv_tx hw12 hi hr (fun o h1 h2 h3 h4 h5 => by rw [vup_fn h5, vup_fn h3]; exact fo o h1) ?_ ?_ ?_ ?_ ?_ ?_ ?_) hN
        · rw [vup_fn (by omega), vup_k (by omega), vup_k (by omega), vup_k (by omega), vup_k (by omega), vup_k (by omega), fo 430 (by omega)]
          exact ⟨rfl, rfl, rfl, rfl, rfl⟩
        · rw [vup_o (by omega), vup_o (by omega), f3, hr]
        · rw [vup_o (by omega), vup_o (by omega), f2]
        · rw [g432', if_pos hwi, vup_o (by omega), vup_o (by omega), f1]
        · intro w2 w0 w1
          have q := h.1.1 w2 w0 w1
          rw [g431]
          by_cases e : w2 = 4 * a + b
          · have e3 : V 432 w2 = V (50 + 15 * w) 1 := by rw [e, ← hwi]; exact htx.1.symm
            rw [g432', if_pos e]
            exact ⟨by omega, fun p p0 p1 => q.2 p p0 (by omega)⟩
          · rw [g432', if_neg e]
            exact q
        · intro p p0 p1
          rw [g432', if_pos hwi] at p1
          rw [g431, vup_fn (by omega), vup_fn (by omega), fo _ (by omega)]
          exact htx.2 p p0 (by omega)
        · intro w2 w1 hne
          exact ⟨by rw [g432', if_neg (by omega)], fun p p0 p1 => by rw [g431]⟩
      · right
        refine ⟨2, 2, V, J, rfl, ?_, zRn_of h hN ?_⟩
        · simp (disch := first | omega | assumption | (simp (disch := omega) only [vup_fn, vup_o, vup_k, vup_at]; first | done | omega | assumption)) only [ze_98_0, ze_98_6, ze_98_20, ze_98_61, e97, Int.add_zero, ↓reduceIte, qw_id, zck_T, zck_t, zGor_v, zGor_n, zGor_e, zbs, vup_at, vup_vup, vup_self, vup_o, vup_k, vup_fn, ne_eq, not_true_eq_false, not_false_eq_true, and_true, true_and, and_self, and_false, false_and, or_true, true_or, or_self, or_false, false_or, xlt_t, xlt_f, xle_t, xle_f, xeq_t, xeq_f, xand_f, xor_t]
        intro J2 d2 hj hi
        have e149 := m149 (V1 := V) (J1 := J2) (d := d2) hi rfl rfl hw12
        rw [hwi] at e149
        have e1 := sm146 (V := V) (J := J2) (d := d2) ha hb
        rw [if_pos hp] at e1
        have e3 := sp148 (V := V) (J := J2) (d := d2) (a := c) (b := 1) (c := 160) (by omega) (by omega) (by omega)
        rw [if_pos hq] at e3
        have e2 := sm150 (V := V) (J := J2) (d := d2) (p := 1) (q := 1) (r := 0) (by omega) (by omega) (by omega)
        rw [if_neg (show ¬ gC 1 1 0 = 0 by decide)] at e2
        refine ⟨0, vup V 430 60 (gC 1 1 0), J2, ?_, vup_at _ _ _ _, pM_60, pC_60, rfl, fun w => by omega⟩
        simp (disch := first | omega | assumption | (simp (disch := omega) only [vup_fn, vup_o, vup_k, vup_at]; first | done | omega | assumption)) only [ze_151_0, ze_151_5, ze_151_25, ze_151_36, ze_151_43, ze_151_44, ze_151_47, ze_151_82, e1, e2, e3, e149, Int.add_zero, ↓reduceIte, qw_id, zck_T, zck_t, zGor_v, zGor_n, zGor_e, zbs, vup_at, vup_vup, vup_self, vup_o, vup_k, vup_fn, ne_eq, not_true_eq_false, not_false_eq_true, and_true, true_and, and_self, and_false, false_and, or_true, true_or, or_self, or_false, false_or, xlt_t, xlt_f, xle_t, xle_f, xeq_t, xeq_f, xand_f, xor_t]
    · right
      refine ⟨1, 1, V, J, rfl, ?_, zRn_of h hN ?_⟩
      · by_cases h3 : c < 1
        · simp (disch := first | omega | assumption | (simp (disch := omega) only [vup_fn, vup_o, vup_k, vup_at]; first | done | omega | assumption)) only [ze_98_0, ze_98_6, ze_98_20, ze_98_61, e97, Int.add_zero, ↓reduceIte, qw_id, zck_T, zck_t, zGor_v, zGor_n, zGor_e, zbs, vup_at, vup_vup, vup_self, vup_o, vup_k, vup_fn, ne_eq, not_true_eq_false, not_false_eq_true, and_true, true_and, and_self, and_false, false_and, or_true, true_or, or_self, or_false, false_or, xlt_t, xlt_f, xle_t, xle_f, xeq_t, xeq_f, xand_f, xor_t]
        · simp (disch := first | omega | assumption | (simp (disch := omega) only [vup_fn, vup_o, vup_k, vup_at]; first | done | omega | assumption)) only [ze_98_0, ze_98_6, ze_98_20, ze_98_61, e97, Int.add_zero, ↓reduceIte, qw_id, zck_T, zck_t, zGor_v, zGor_n, zGor_e, zbs, vup_at, vup_vup, vup_self, vup_o, vup_k, vup_fn, ne_eq, not_true_eq_false, not_false_eq_true, and_true, true_and, and_self, and_false, false_and, or_true, true_or, or_self, or_false, false_or, xlt_t, xlt_f, xle_t, xle_f, xeq_t, xeq_f, xand_f, xor_t]
      intro J2 d2 hj hi
      have e149 := m149 (V1 := V) (J1 := J2) (d := d2) hi rfl rfl hw12
      rw [hwi] at e149
      have e1 := sm146 (V := V) (J := J2) (d := d2) ha hb
      rw [if_pos hp] at e1
      have e3 := sp148 (V := V) (J := J2) (d := d2) (a := c) (b := 1) (c := 160) (by omega) (by omega) (by omega)
      rw [if_neg hq] at e3
      by_cases hr : V (50 + 15 * w) 3 = 0
      · skip
        have e2 := sm150 (V := V) (J := J2) (d := d2) (p := 1) (q := 0) (r := 1) (by omega) (by omega) (by omega)
        rw [if_neg (show ¬ gC 1 0 1 = 0 by decide)] at e2
        refine ⟨0, vup V 430 60 (gC 1 0 1), J2, ?_, vup_at _ _ _ _, pM_60, pC_60, rfl, fun w => by omega⟩
        simp (disch := first | omega | assumption | (simp (disch := omega) only [vup_fn, vup_o, vup_k, vup_at]; first | done | omega | assumption)) only [ze_151_0, ze_151_5, ze_151_25, ze_151_36, ze_151_43, ze_151_44, ze_151_47, ze_151_82, e1, e2, e3, e149, hr, Int.add_zero, ↓reduceIte, qw_id, zck_T, zck_t, zGor_v, zGor_n, zGor_e, zbs, vup_at, vup_vup, vup_self, vup_o, vup_k, vup_fn, ne_eq, not_true_eq_false, not_false_eq_true, and_true, true_and, and_self, and_false, false_and, or_true, true_or, or_self, or_false, false_or, xlt_t, xlt_f, xle_t, xle_f, xeq_t, xeq_f, xand_f, xor_t]
      · skip
        have e2 := sm150 (V := V) (J := J2) (d := d2) (p := 1) (q := 0) (r := 0) (by omega) (by omega) (by omega)
        rw [if_neg (show ¬ gC 1 0 0 = 0 by decide)] at e2
        refine ⟨0, vup V 430 60 (gC 1 0 0), J2, ?_, vup_at _ _ _ _, pM_60, pC_60, rfl, fun w => by omega⟩
        simp (disch := first | omega | assumption | (simp (disch := omega) only [vup_fn, vup_o, vup_k, vup_at]; first | done | omega | assumption)) only [ze_151_0, ze_151_5, ze_151_25, ze_151_36, ze_151_43, ze_151_44, ze_151_47, ze_151_82, e1, e2, e3, e149, Int.add_zero, ↓reduceIte, qw_id, zck_T, zck_t, zGor_v, zGor_n, zGor_e, zbs, vup_at, vup_vup, vup_self, vup_o, vup_k, vup_fn, ne_eq, not_true_eq_false, not_false_eq_true, and_true, true_and, and_self, and_false, false_and, or_true, true_or, or_self, or_false, false_or, xlt_t, xlt_f, xle_t, xle_f, xeq_t, xeq_f, xand_f, xor_t]
  · right
    have e97 := cp97 (V := V) (J := J) (d := d) ha hb
    rw [if_neg hp] at e97
    refine ⟨0, 0, V, J, rfl, ?_, zRn_of h hN ?_⟩
    · simp (disch := first | omega | assumption | (simp (disch := omega) only [vup_fn, vup_o, vup_k, vup_at]; first | done | omega | assumption)) only [ze_98_0, ze_98_6, ze_98_20, ze_98_61, e97, Int.add_zero, ↓reduceIte, qw_id, zck_T, zck_t, zGor_v, zGor_n, zGor_e, zbs, vup_at, vup_vup, vup_self, vup_o, vup_k, vup_fn, ne_eq, not_true_eq_false, not_false_eq_true, and_true, true_and, and_self, and_false, false_and, or_true, true_or, or_self, or_false, false_or, xlt_t, xlt_f, xle_t, xle_f, xeq_t, xeq_f, xand_f, xor_t]
    intro J2 d2 hj hi
    have e1 := sm146 (V := V) (J := J2) (d := d2) ha hb
    rw [if_neg hp] at e1
    have e3 := sp148 (V := V) (J := J2) (d := d2) (a := c) (b := 1) (c := 160) (by omega) (by omega) (by omega)
    by_cases hq : 1 ≤ c ∧ c ≤ 160
    · rw [if_pos hq] at e3
      have e2 := sm150 (V := V) (J := J2) (d := d2) (p := 0) (q := 1) (r := 0) (by omega) (by omega) (by omega)
      rw [if_neg (show ¬ gC 0 1 0 = 0 by decide)] at e2
      refine ⟨0, vup V 430 60 (gC 0 1 0), J2, ?_, vup_at _ _ _ _, pM_60, pC_60, rfl, fun w => by omega⟩
      simp (disch := first | omega | assumption | (simp (disch := omega) only [vup_fn, vup_o, vup_k, vup_at]; first | done | omega | assumption)) only [ze_151_0, ze_151_5, ze_151_25, ze_151_36, ze_151_43, ze_151_44, ze_151_47, ze_151_82, e1, e2, e3, Int.add_zero, ↓reduceIte, qw_id, zck_T, zck_t, zGor_v, zGor_n, zGor_e, zbs, vup_at, vup_vup, vup_self, vup_o, vup_k, vup_fn, ne_eq, not_true_eq_false, not_false_eq_true, and_true, true_and, and_self, and_false, false_and, or_true, true_or, or_self, or_false, false_or, xlt_t, xlt_f, xle_t, xle_f, xeq_t, xeq_f, xand_f, xor_t]
    · rw [if_neg hq] at e3
      have e2 := sm150 (V := V) (J := J2) (d := d2) (p := 0) (q := 0) (r := 0) (by omega) (by omega) (by omega)
      rw [if_neg (show ¬ gC 0 0 0 = 0 by decide)] at e2
      refine ⟨0, vup V 430 60 (gC 0 0 0), J2, ?_, vup_at _ _ _ _, pM_60, pC_60, rfl, fun w => by omega⟩
      simp (disch := first | omega | assumption | (simp (disch := omega) only [vup_fn, vup_o, vup_k, vup_at]; first | done | omega | assumption)) only [ze_151_0, ze_151_5, ze_151_25, ze_151_36, ze_151_43, ze_151_44, ze_151_47, ze_151_82, e1, e2, e3, Int.add_zero, ↓reduceIte, qw_id, zck_T, zck_t, zGor_v, zGor_n, zGor_e, zbs, vup_at, vup_vup, vup_self, vup_o, vup_k, vup_fn, ne_eq, not_true_eq_false, not_false_eq_true, and_true, true_and, and_self, and_false, false_and, or_true, true_or, or_self, or_false, false_or, xlt_t, xlt_f, xle_t, xle_f, xeq_t, xeq_f, xand_f, xor_t]
end
