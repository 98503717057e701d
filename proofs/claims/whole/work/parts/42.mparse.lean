/-! part 42: the reference's parsing -/
def gPh (E F : Int) : Int := if F ≠ -1 then 1 else if 0 < E then 2 else 0
theorem gPh_cs (E F : Int) : (F ≠ -1 ∧ gPh E F = 1) ∨ (F = -1 ∧ 0 < E ∧ gPh E F = 2) ∨ (F = -1 ∧ E ≤ 0 ∧ gPh E F = 0) := by
  unfold gPh
  split
  · exact Or.inl ⟨by assumption, rfl⟩
  · split <;> omega
section
variable {V : zVt} {J : zJt} {d : Nat → Nat → UInt64}
theorem sq164 {k b1 b2 m D E F w : Int} (hk : 0 ≤ k ∧ k < 60) (hw : -100 ≤ w ∧ w ≤ 100) (hm : -100 ≤ m ∧ m ≤ 100) (eN : V 435 k = m) (eD : V 430 19 = D) (hD : 0 ≤ D ∧ D ≤ 3) (eE : 0 < D → V 443 (D - 1) = E) (hE : 0 ≤ E ∧ E ≤ 100) (h0 : D = 0 → E = 0 ∧ F = -1) (h1 : b1 = if 0 < D ∧ F = -1 ∧ 0 < E then 1 else 0) (h2 : b2 = if F ≠ -1 then 1 else 0) : zGo false 164 60 [.ref 430, .int (zi k), .int (zi w), .int (zi (D - 1)), .int (zi b1), .null] [.int (zi b2)] (zm V J d) = zI1 (gXf w m D E F) V J d := by
  unfold gXf
  by_cases w12 : w = 1 ∨ w = 2
  · rw [if_pos (by omega)]
    rcases w12 with rfl | rfl
    · simp (disch := first | omega | assumption | (simp (disch := omega) only [vup_fn, vup_o, vup_k, vup_at]; first | done | omega | assumption)) only [ze_164_60, ze_164_89, Int.add_zero, ↓reduceIte, qw_id, zck_T, zck_t, zGor_v, zGor_n, zGor_e, zbs, vup_at, vup_vup, vup_self, vup_o, vup_k, vup_fn, ne_eq, not_true_eq_false, not_false_eq_true, and_true, true_and, and_self, and_false, false_and, or_true, true_or, or_self, or_false, false_or, xlt_t, xlt_f, xle_t, xle_f, xeq_t, xeq_f, xand_f, xor_t]
    · simp (disch := first | omega | assumption | (simp (disch := omega) only [vup_fn, vup_o, vup_k, vup_at]; first | done | omega | assumption)) only [ze_164_60, ze_164_89, Int.add_zero, ↓reduceIte, qw_id, zck_T, zck_t, zGor_v, zGor_n, zGor_e, zbs, vup_at, vup_vup, vup_self, vup_o, vup_k, vup_fn, ne_eq, not_true_eq_false, not_false_eq_true, and_true, true_and, and_self, and_false, false_and, or_true, true_or, or_self, or_false, false_or, xlt_t, xlt_f, xle_t, xle_f, xeq_t, xeq_f, xand_f, xor_t]
  · by_cases hb : (0 < D ∧ F = -1 ∧ 0 < E) ∧ w ≠ 8 ∧ w ≠ 7
    · rw [if_pos (Or.inr (Or.inr hb)), h1, if_pos hb.1]
      simp (disch := first | omega | assumption | (simp (disch := omega) only [vup_fn, vup_o, vup_k, vup_at]; first | done | omega | assumption)) only [ze_164_60, ze_164_89, Int.add_zero, ↓reduceIte, qw_id, zck_T, zck_t, zGor_v, zGor_n, zGor_e, zbs, vup_at, vup_vup, vup_self, vup_o, vup_k, vup_fn, ne_eq, not_true_eq_false, not_false_eq_true, and_true, true_and, and_self, and_false, false_and, or_true, true_or, or_self, or_false, false_or, xlt_t, xlt_f, xle_t, xle_f, xeq_t, xeq_f, xand_f, xor_t]
    · rw [if_neg (by omega)]
      have hs : zGo false 164 60 [.ref 430, .int (zi k), .int (zi w), .int (zi (D - 1)), .int (zi b1), .null] [.int (zi b2)] (zm V J d) = zGo false 164 91 [.ref 430, .int (zi k), .int (zi w), .int (zi (D - 1)), .int (zi b1), .int (zi b2)] [] (zm V J d) := by
        by_cases hb2 : 0 < D ∧ F = -1 ∧ 0 < E
        · rw [h1, if_pos hb2]
          by_cases h8 : w = 8
          · simp (disch := first | omega | assumption | (simp (disch := omega) only [vup_fn, vup_o, vup_k, vup_at]; first | done | omega | assumption)) only [ze_164_60, Int.add_zero, ↓reduceIte, qw_id, zck_T, zck_t, zGor_v, zGor_n, zGor_e, zbs, vup_at, vup_vup, vup_self, vup_o, vup_k, vup_fn, ne_eq, not_true_eq_false, not_false_eq_true, and_true, true_and, and_self, and_false, false_and, or_true, true_or, or_self, or_false, false_or, xlt_t, xlt_f, xle_t, xle_f, xeq_t, xeq_f, xand_f, xor_t]
          · simp (disch := first | omega | assumption | (simp (disch := omega) only [vup_fn, vup_o, vup_k, vup_at]; first | done | omega | assumption)) only [ze_164_60, Int.add_zero, ↓reduceIte, qw_id, zck_T, zck_t, zGor_v, zGor_n, zGor_e, zbs, vup_at, vup_vup, vup_self, vup_o, vup_k, vup_fn, ne_eq, not_true_eq_false, not_false_eq_true, and_true, true_and, and_self, and_false, false_and, or_true, true_or, or_self, or_false, false_or, xlt_t, xlt_f, xle_t, xle_f, xeq_t, xeq_f, xand_f, xor_t]
        · rw [h1, if_neg hb2]
          simp (disch := first | omega | assumption | (simp (disch := omega) only [vup_fn, vup_o, vup_k, vup_at]; first | done | omega | assumption)) only [ze_164_60, Int.add_zero, ↓reduceIte, qw_id, zck_T, zck_t, zGor_v, zGor_n, zGor_e, zbs, vup_at, vup_vup, vup_self, vup_o, vup_k, vup_fn, ne_eq, not_true_eq_false, not_false_eq_true, and_true, true_and, and_self, and_false, false_and, or_true, true_or, or_self, or_false, false_or, xlt_t, xlt_f, xle_t, xle_f, xeq_t, xeq_f, xand_f, xor_t]
      rw [hs]
      by_cases hF : F = -1
      · rw [h2, if_neg (by omega)]
        by_cases h7 : w = 7
        · by_cases hd : D = 0
          · simp (disch := first | omega | assumption | (simp (disch := omega) only [vup_fn, vup_o, vup_k, vup_at]; first | done | omega | assumption)) only [ze_164_91, ze_164_109, ze_164_141, ze_164_142, Int.add_zero, ↓reduceIte, qw_id, zck_T, zck_t, zGor_v, zGor_n, zGor_e, zbs, vup_at, vup_vup, vup_self, vup_o, vup_k, vup_fn, ne_eq, not_true_eq_false, not_false_eq_true, and_true, true_and, and_self, and_false, false_and, or_true, true_or, or_self, or_false, false_or, xlt_t, xlt_f, xle_t, xle_f, xeq_t, xeq_f, xand_f, xor_t]
          · have e := eE (by omega)
            by_cases he : E ≤ 0
            · simp (disch := first | omega | assumption | (simp (disch := omega) only [vup_fn, vup_o, vup_k, vup_at]; first | done | omega | assumption)) only [ze_164_91, ze_164_109, ze_164_141, ze_164_142, e, eN, Int.add_zero, ↓reduceIte, qw_id, zck_T, zck_t, zGor_v, zGor_n, zGor_e, zbs, vup_at, vup_vup, vup_self, vup_o, vup_k, vup_fn, ne_eq, not_true_eq_false, not_false_eq_true, and_true, true_and, and_self, and_false, false_and, or_true, true_or, or_self, or_false, false_or, xlt_t, xlt_f, xle_t, xle_f, xeq_t, xeq_f, xand_f, xor_t]
            · by_cases hem : E = m
              · simp (disch := first | omega | assumption | (simp (disch := omega) only [vup_fn, vup_o, vup_k, vup_at]; first | done | omega | assumption)) only [ze_164_91, ze_164_109, ze_164_141, ze_164_142, e, eN, Int.add_zero, ↓reduceIte, qw_id, zck_T, zck_t, zGor_v, zGor_n, zGor_e, zbs, vup_at, vup_vup, vup_self, vup_o, vup_k, vup_fn, ne_eq, not_true_eq_false, not_false_eq_true, and_true, true_and, and_self, and_false, false_and, or_true, true_or, or_self, or_false, false_or, xlt_t, xlt_f, xle_t, xle_f, xeq_t, xeq_f, xand_f, xor_t]
              · simp (disch := first | omega | assumption | (simp (disch := omega) only [vup_fn, vup_o, vup_k, vup_at]; first | done | omega | assumption)) only [ze_164_91, ze_164_109, ze_164_141, ze_164_142, e, eN, Int.add_zero, ↓reduceIte, qw_id, zck_T, zck_t, zGor_v, zGor_n, zGor_e, zbs, vup_at, vup_vup, vup_self, vup_o, vup_k, vup_fn, ne_eq, not_true_eq_false, not_false_eq_true, and_true, true_and, and_self, and_false, false_and, or_true, true_or, or_self, or_false, false_or, xlt_t, xlt_f, xle_t, xle_f, xeq_t, xeq_f, xand_f, xor_t]
        · by_cases h9 : w = 9
          · simp (disch := first | omega | assumption | (simp (disch := omega) only [vup_fn, vup_o, vup_k, vup_at]; first | done | omega | assumption)) only [ze_164_91, ze_164_159, Int.add_zero, ↓reduceIte, qw_id, zck_T, zck_t, zGor_v, zGor_n, zGor_e, zbs, vup_at, vup_vup, vup_self, vup_o, vup_k, vup_fn, ne_eq, not_true_eq_false, not_false_eq_true, and_true, true_and, and_self, and_false, false_and, or_true, true_or, or_self, or_false, false_or, xlt_t, xlt_f, xle_t, xle_f, xeq_t, xeq_f, xand_f, xor_t]
          · by_cases h8 : w = 8
            · by_cases hd : D = 0
              · simp (disch := first | omega | assumption | (simp (disch := omega) only [vup_fn, vup_o, vup_k, vup_at]; first | done | omega | assumption)) only [ze_164_91, ze_164_178, ze_164_204, Int.add_zero, ↓reduceIte, qw_id, zck_T, zck_t, zGor_v, zGor_n, zGor_e, zbs, vup_at, vup_vup, vup_self, vup_o, vup_k, vup_fn, ne_eq, not_true_eq_false, not_false_eq_true, and_true, true_and, and_self, and_false, false_and, or_true, true_or, or_self, or_false, false_or, xlt_t, xlt_f, xle_t, xle_f, xeq_t, xeq_f, xand_f, xor_t]
              · have e := eE (by omega)
                by_cases hem : m = E + 1
                · simp (disch := first | omega | assumption | (simp (disch := omega) only [vup_fn, vup_o, vup_k, vup_at]; first | done | omega | assumption)) only [ze_164_91, ze_164_178, ze_164_204, e, eN, Int.add_zero, ↓reduceIte, qw_id, zck_T, zck_t, zGor_v, zGor_n, zGor_e, zbs, vup_at, vup_vup, vup_self, vup_o, vup_k, vup_fn, ne_eq, not_true_eq_false, not_false_eq_true, and_true, true_and, and_self, and_false, false_and, or_true, true_or, or_self, or_false, false_or, xlt_t, xlt_f, xle_t, xle_f, xeq_t, xeq_f, xand_f, xor_t]
                · simp (disch := first | omega | assumption | (simp (disch := omega) only [vup_fn, vup_o, vup_k, vup_at]; first | done | omega | assumption)) only [ze_164_91, ze_164_178, ze_164_204, e, eN, Int.add_zero, ↓reduceIte, qw_id, zck_T, zck_t, zGor_v, zGor_n, zGor_e, zbs, vup_at, vup_vup, vup_self, vup_o, vup_k, vup_fn, ne_eq, not_true_eq_false, not_false_eq_true, and_true, true_and, and_self, and_false, false_and, or_true, true_or, or_self, or_false, false_or, xlt_t, xlt_f, xle_t, xle_f, xeq_t, xeq_f, xand_f, xor_t]
            · by_cases h6 : w = 6
              · by_cases hd : D = 3
                · simp (disch := first | omega | assumption | (simp (disch := omega) only [vup_fn, vup_o, vup_k, vup_at]; first | done | omega | assumption)) only [ze_164_91, ze_164_237, Int.add_zero, ↓reduceIte, qw_id, zck_T, zck_t, zGor_v, zGor_n, zGor_e, zbs, vup_at, vup_vup, vup_self, vup_o, vup_k, vup_fn, ne_eq, not_true_eq_false, not_false_eq_true, and_true, true_and, and_self, and_false, false_and, or_true, true_or, or_self, or_false, false_or, xlt_t, xlt_f, xle_t, xle_f, xeq_t, xeq_f, xand_f, xor_t]
                · simp (disch := first | omega | assumption | (simp (disch := omega) only [vup_fn, vup_o, vup_k, vup_at]; first | done | omega | assumption)) only [ze_164_91, ze_164_237, Int.add_zero, ↓reduceIte, qw_id, zck_T, zck_t, zGor_v, zGor_n, zGor_e, zbs, vup_at, vup_vup, vup_self, vup_o, vup_k, vup_fn, ne_eq, not_true_eq_false, not_false_eq_true, and_true, true_and, and_self, and_false, false_and, or_true, true_or, or_self, or_false, false_or, xlt_t, xlt_f, xle_t, xle_f, xeq_t, xeq_f, xand_f, xor_t]
              · simp (disch := first | omega | assumption | (simp (disch := omega) only [vup_fn, vup_o, vup_k, vup_at]; first | done | omega | assumption)) only [ze_164_91, ze_164_237, Int.add_zero, ↓reduceIte, qw_id, zck_T, zck_t, zGor_v, zGor_n, zGor_e, zbs, vup_at, vup_vup, vup_self, vup_o, vup_k, vup_fn, ne_eq, not_true_eq_false, not_false_eq_true, and_true, true_and, and_self, and_false, false_and, or_true, true_or, or_self, or_false, false_or, xlt_t, xlt_f, xle_t, xle_f, xeq_t, xeq_f, xand_f, xor_t]
      · rw [h2, if_pos hF]
        have hd : D ≠ 0 := fun q => hF (h0 q).2
        by_cases h7 : w = 7
        · simp (disch := first | omega | assumption | (simp (disch := omega) only [vup_fn, vup_o, vup_k, vup_at]; first | done | omega | assumption)) only [ze_164_91, ze_164_109, ze_164_141, ze_164_142, Int.add_zero, ↓reduceIte, qw_id, zck_T, zck_t, zGor_v, zGor_n, zGor_e, zbs, vup_at, vup_vup, vup_self, vup_o, vup_k, vup_fn, ne_eq, not_true_eq_false, not_false_eq_true, and_true, true_and, and_self, and_false, false_and, or_true, true_or, or_self, or_false, false_or, xlt_t, xlt_f, xle_t, xle_f, xeq_t, xeq_f, xand_f, xor_t]
        · by_cases h9 : w = 9
          · simp (disch := first | omega | assumption | (simp (disch := omega) only [vup_fn, vup_o, vup_k, vup_at]; first | done | omega | assumption)) only [ze_164_91, ze_164_159, Int.add_zero, ↓reduceIte, qw_id, zck_T, zck_t, zGor_v, zGor_n, zGor_e, zbs, vup_at, vup_vup, vup_self, vup_o, vup_k, vup_fn, ne_eq, not_true_eq_false, not_false_eq_true, and_true, true_and, and_self, and_false, false_and, or_true, true_or, or_self, or_false, false_or, xlt_t, xlt_f, xle_t, xle_f, xeq_t, xeq_f, xand_f, xor_t]
          · by_cases h8 : w = 8
            · simp (disch := first | omega | assumption | (simp (disch := omega) only [vup_fn, vup_o, vup_k, vup_at]; first | done | omega | assumption)) only [ze_164_91, ze_164_178, ze_164_204, Int.add_zero, ↓reduceIte, qw_id, zck_T, zck_t, zGor_v, zGor_n, zGor_e, zbs, vup_at, vup_vup, vup_self, vup_o, vup_k, vup_fn, ne_eq, not_true_eq_false, not_false_eq_true, and_true, true_and, and_self, and_false, false_and, or_true, true_or, or_self, or_false, false_or, xlt_t, xlt_f, xle_t, xle_f, xeq_t, xeq_f, xand_f, xor_t]
            · by_cases h6 : w = 6
              · simp (disch := first | omega | assumption | (simp (disch := omega) only [vup_fn, vup_o, vup_k, vup_at]; first | done | omega | assumption)) only [ze_164_91, ze_164_237, Int.add_zero, ↓reduceIte, qw_id, zck_T, zck_t, zGor_v, zGor_n, zGor_e, zbs, vup_at, vup_vup, vup_self, vup_o, vup_k, vup_fn, ne_eq, not_true_eq_false, not_false_eq_true, and_true, true_and, and_self, and_false, false_and, or_true, true_or, or_self, or_false, false_or, xlt_t, xlt_f, xle_t, xle_f, xeq_t, xeq_f, xand_f, xor_t]
              · simp (disch := first | omega | assumption | (simp (disch := omega) only [vup_fn, vup_o, vup_k, vup_at]; first | done | omega | assumption)) only [ze_164_91, ze_164_237, Int.add_zero, ↓reduceIte, qw_id, zck_T, zck_t, zGor_v, zGor_n, zGor_e, zbs, vup_at, vup_vup, vup_self, vup_o, vup_k, vup_fn, ne_eq, not_true_eq_false, not_false_eq_true, and_true, true_and, and_self, and_false, false_and, or_true, true_or, or_self, or_false, false_or, xlt_t, xlt_f, xle_t, xle_f, xeq_t, xeq_f, xand_f, xor_t]
theorem sp164 {k m D E F w : Int} (hk : 0 ≤ k ∧ k < 60) (hw : -100 ≤ w ∧ w ≤ 100) (hm : -100 ≤ m ∧ m ≤ 100) (eK : V 433 k = w) (eN : V 435 k = m) (eD : V 430 19 = D) (hD : 0 ≤ D ∧ D ≤ 3) (eE : 0 < D → V 443 (D - 1) = E ∧ V 444 (D - 1) = gPh E F) (hE : 0 ≤ E ∧ E ≤ 100) (h0 : D = 0 → E = 0 ∧ F = -1) : zGo false 164 0 [.ref 430, .int (zi k), .null, .null, .null, .null] [] (zm V J d) = zI1 (gXf w m D E F) V J d := by
  by_cases hd : D = 0
  · have e0 := h0 hd
    have hs : zGo false 164 0 [.ref 430, .int (zi k), .null, .null, .null, .null] [] (zm V J d) = zGo false 164 60 [.ref 430, .int (zi k), .int (zi w), .int (zi (D - 1)), .int (zi 0), .null] [.int (zi 0)] (zm V J d) := by
      simp (disch := first | omega | assumption | (simp (disch := omega) only [vup_fn, vup_o, vup_k, vup_at]; first | done | omega | assumption)) only [ze_164_0, ze_164_35, ze_164_36, ze_164_59, eK, eD, Int.add_zero, ↓reduceIte, qw_id, zck_T, zck_t, zGor_v, zGor_n, zGor_e, zbs, vup_at, vup_vup, vup_self, vup_o, vup_k, vup_fn, ne_eq, not_true_eq_false, not_false_eq_true, and_true, true_and, and_self, and_false, false_and, or_true, true_or, or_self, or_false, false_or, xlt_t, xlt_f, xle_t, xle_f, xeq_t, xeq_f, xand_f, xor_t]
    rw [hs]
    exact sq164 hk hw hm eN eD hD (fun q => (eE q).1) hE h0 (by rw [if_neg (by omega)]) (by rw [if_neg (by omega)])
  · have e1 := eE (by omega)
    have e2 := gPh_cs E F
    have hs : zGo false 164 0 [.ref 430, .int (zi k), .null, .null, .null, .null] [] (zm V J d) = zGo false 164 60 [.ref 430, .int (zi k), .int (zi w), .int (zi (D - 1)), .int (zi (if gPh E F = 2 then 1 else 0)), .null] [.int (zi (if gPh E F = 1 then 1 else 0))] (zm V J d) := by
      rcases e2 with ⟨a1, a2⟩ | ⟨a0, a1, a2⟩ | ⟨a0, a1, a2⟩
      · rw [a2] at e1 ⊢
        simp (disch := first | omega | assumption | (simp (disch := omega) only [vup_fn, vup_o, vup_k, vup_at]; first | done | omega | assumption)) only [ze_164_0, ze_164_35, ze_164_36, ze_164_59, eK, eD, e1.1, e1.2, Int.add_zero, ↓reduceIte, qw_id, zck_T, zck_t, zGor_v, zGor_n, zGor_e, zbs, vup_at, vup_vup, vup_self, vup_o, vup_k, vup_fn, ne_eq, not_true_eq_false, not_false_eq_true, and_true, true_and, and_self, and_false, false_and, or_true, true_or, or_self, or_false, false_or, xlt_t, xlt_f, xle_t, xle_f, xeq_t, xeq_f, xand_f, xor_t]
      · rw [a2] at e1 ⊢
        simp (disch := first | omega | assumption | (simp (disch := omega) only [vup_fn, vup_o, vup_k, vup_at]; first | done | omega | assumption)) only [ze_164_0, ze_164_35, ze_164_36, ze_164_59, eK, eD, e1.1, e1.2, Int.add_zero, ↓reduceIte, qw_id, zck_T, zck_t, zGor_v, zGor_n, zGor_e, zbs, vup_at, vup_vup, vup_self, vup_o, vup_k, vup_fn, ne_eq, not_true_eq_false, not_false_eq_true, and_true, true_and, and_self, and_false, false_and, or_true, true_or, or_self, or_false, false_or, xlt_t, xlt_f, xle_t, xle_f, xeq_t, xeq_f, xand_f, xor_t]
      · rw [a2] at e1 ⊢
        simp (disch := first | omega | assumption | (simp (disch := omega) only [vup_fn, vup_o, vup_k, vup_at]; first | done | omega | assumption)) only [ze_164_0, ze_164_35, ze_164_36, ze_164_59, eK, eD, e1.1, e1.2, Int.add_zero, ↓reduceIte, qw_id, zck_T, zck_t, zGor_v, zGor_n, zGor_e, zbs, vup_at, vup_vup, vup_self, vup_o, vup_k, vup_fn, ne_eq, not_true_eq_false, not_false_eq_true, and_true, true_and, and_self, and_false, false_and, or_true, true_or, or_self, or_false, false_or, xlt_t, xlt_f, xle_t, xle_f, xeq_t, xeq_f, xand_f, xor_t]
    rw [hs]
    refine sq164 hk hw hm eN eD hD (fun q => (eE q).1) hE h0 ?_ ?_
    · rcases e2 with ⟨a1, a2⟩ | ⟨a0, a1, a2⟩ | ⟨a0, a1, a2⟩
      · rw [a2, if_neg (by omega), if_neg (by omega)]
      · rw [a2, if_pos (by omega), if_pos (by omega)]
      · rw [a2, if_neg (by omega), if_neg (by omega)]
    · rcases e2 with ⟨a1, a2⟩ | ⟨a0, a1, a2⟩ | ⟨a0, a1, a2⟩
      · rw [a2, if_pos (by omega), if_pos (by omega)]
      · rw [a2, if_neg (by omega), if_neg (by omega)]
      · rw [a2, if_neg (by omega), if_neg (by omega)]
/-- what a token does behind its check -/
def mFo (V : zVt) (k w m D : Int) : zVt :=
  if w = 6 then vup (vup (vup (vup V 441 D k) 443 D 0) 444 D 0) 430 19 (D + 1)
  else if w = 7 then vup (vup V 430 19 (D - 1)) 440 (V 441 (D - 1)) k
  else if w = 8 then vup (vup (vup V 443 (D - 1) m) 444 (D - 1) 1) 442 (D - 1) k
  else if w = 9 then vup (vup V 444 (D - 1) 2) 440 (V 442 (D - 1)) k
  else V
theorem sp165 {k m D w : Int} (hk : 0 ≤ k ∧ k < 60) (hw : -100 ≤ w ∧ w ≤ 100) (eK : V 433 k = w) (eN : V 435 k = m) (eD : V 430 19 = D) (hD : 0 ≤ D ∧ D ≤ 3) (h6 : w = 6 → D < 3) (h7 : w = 7 → 0 < D ∧ 0 ≤ V 441 (D - 1) ∧ V 441 (D - 1) < 60) (h8 : w = 8 → 0 < D) (h9 : w = 9 → 0 < D ∧ 0 ≤ V 442 (D - 1) ∧ V 442 (D - 1) < 60) : zGo false 165 0 [.ref 430, .int (zi k), .null] [] (zm V J d) = zN1 (mFo V k w m D) J d := by
  unfold mFo
  by_cases w6 : w = 6
  · have := h6 w6
    rw [if_pos w6]
    simp (disch := first | omega | assumption | (simp (disch := omega) only [vup_fn, vup_o, vup_k, vup_at]; first | done | omega | assumption)) only [ze_165_0, ze_165_175, eK, eD, eN, Int.add_zero, ↓reduceIte, qw_id, zck_T, zck_t, zGor_v, zGor_n, zGor_e, zbs, vup_at, vup_vup, vup_self, vup_o, vup_k, vup_fn, ne_eq, not_true_eq_false, not_false_eq_true, and_true, true_and, and_self, and_false, false_and, or_true, true_or, or_self, or_false, false_or, xlt_t, xlt_f, xle_t, xle_f, xeq_t, xeq_f, xand_f, xor_t]
  · by_cases w7 : w = 7
    · have := h7 w7
      rw [if_neg w6, if_pos w7]
      simp (disch := first | omega | assumption | (simp (disch := omega) only [vup_fn, vup_o, vup_k, vup_at]; first | done | omega | assumption)) only [ze_165_0, ze_165_175, eK, eD, eN, Int.add_zero, ↓reduceIte, qw_id, zck_T, zck_t, zGor_v, zGor_n, zGor_e, zbs, vup_at, vup_vup, vup_self, vup_o, vup_k, vup_fn, ne_eq, not_true_eq_false, not_false_eq_true, and_true, true_and, and_self, and_false, false_and, or_true, true_or, or_self, or_false, false_or, xlt_t, xlt_f, xle_t, xle_f, xeq_t, xeq_f, xand_f, xor_t]
    · by_cases w8 : w = 8
      · have := h8 w8
        rw [if_neg w6, if_neg w7, if_pos w8]
        simp (disch := first | omega | assumption | (simp (disch := omega) only [vup_fn, vup_o, vup_k, vup_at]; first | done | omega | assumption)) only [ze_165_0, ze_165_175, eK, eD, eN, Int.add_zero, ↓reduceIte, qw_id, zck_T, zck_t, zGor_v, zGor_n, zGor_e, zbs, vup_at, vup_vup, vup_self, vup_o, vup_k, vup_fn, ne_eq, not_true_eq_false, not_false_eq_true, and_true, true_and, and_self, and_false, false_and, or_true, true_or, or_self, or_false, false_or, xlt_t, xlt_f, xle_t, xle_f, xeq_t, xeq_f, xand_f, xor_t]
      · by_cases w9 : w = 9
        · have := h9 w9
          rw [if_neg w6, if_neg w7, if_neg w8, if_pos w9]
          simp (disch := first | omega | assumption | (simp (disch := omega) only [vup_fn, vup_o, vup_k, vup_at]; first | done | omega | assumption)) only [ze_165_0, ze_165_175, eK, eD, eN, Int.add_zero, ↓reduceIte, qw_id, zck_T, zck_t, zGor_v, zGor_n, zGor_e, zbs, vup_at, vup_vup, vup_self, vup_o, vup_k, vup_fn, ne_eq, not_true_eq_false, not_false_eq_true, and_true, true_and, and_self, and_false, false_and, or_true, true_or, or_self, or_false, false_or, xlt_t, xlt_f, xle_t, xle_f, xeq_t, xeq_f, xand_f, xor_t]
        · rw [if_neg w6, if_neg w7, if_neg w8, if_neg w9]
          simp (disch := first | omega | assumption | (simp (disch := omega) only [vup_fn, vup_o, vup_k, vup_at]; first | done | omega | assumption)) only [ze_165_0, ze_165_175, eK, eD, eN, Int.add_zero, ↓reduceIte, qw_id, zck_T, zck_t, zGor_v, zGor_n, zGor_e, zbs, vup_at, vup_vup, vup_self, vup_o, vup_k, vup_fn, ne_eq, not_true_eq_false, not_false_eq_true, and_true, true_and, and_self, and_false, false_and, or_true, true_or, or_self, or_false, false_or, xlt_t, xlt_f, xle_t, xle_f, xeq_t, xeq_f, xand_f, xor_t]
end
/-- the reference's state ahead of token k -/
def mGr (V : zVt) (K N : Int → Int) (k : Int) : Prop := V 430 19 = hD K k ∧ (∀ i, 0 ≤ i → i < hD K k → V 441 i = hO K k i) ∧ (0 < hD K k → V 443 (hD K k - 1) = hE K N k ∧ V 444 (hD K k - 1) = gPh (hE K N k) (hF K k)) ∧ (∀ i, 0 ≤ i → i < hD K k - 1 → V 443 i = 0 ∧ V 444 i = 0) ∧ (hF K k ≠ -1 → V 442 (hD K k - 1) = hF K k) ∧ ∀ l, 3 ≤ l → l < k → K l = 9 → V 440 (hF K l) = l
theorem mGr_v {V V2 : zVt} {K N : Int → Int} {k : Int} (h : mGr V K N k) (h1 : V2 430 19 = V 430 19) (h2 : V2 440 = V 440 ∧ V2 441 = V 441 ∧ V2 442 = V 442 ∧ V2 443 = V 443 ∧ V2 444 = V 444) : mGr V2 K N k := by
  unfold mGr at *
  rw [h1, h2.1, h2.2.1, h2.2.2.1, h2.2.2.2.1, h2.2.2.2.2]
  exact h
theorem mGr_0 {V : zVt} {K N : Int → Int} {k : Int} (h0 : 0 ≤ k) (h : k ≤ 3) (h1 : V 430 19 = 0) : mGr V K N k := by
  obtain ⟨e1, e2, e3⟩ := h_le3 (K := K) (N := N) h0 h
  unfold mGr
  rw [e1, e2, e3]
  exact ⟨h1, fun i _ _ => by omega, fun q => by omega, fun i _ _ => by omega, fun q => absurd rfl q, fun l _ _ _ => by omega⟩
theorem mGr_s {V : zVt} {K N : Int → Int} {k : Int} (h3 : 3 ≤ k) (hi : gInv K N k) (hx : gX K N k = 0) (h : mGr V K N k) : mGr (mFo V k (K k) (N k) (hD K k)) K N (k + 1) := by
  obtain ⟨⟨a1, a2, a3, a4⟩, b, c⟩ := hi
  obtain ⟨s1, s2, s3, s4, s5, s6⟩ := h
  unfold gX at hx
  rw [if_neg (by omega)] at hx
  have q := gXf_cs hx
  have eD := hD_s (K := K) (k := k) (by omega)
  have eE := hE_s (K := K) (N := N) (k := k) (by omega)
  have eF := hF_s (K := K) (k := k) (by omega)
  rw [if_neg (by omega)] at eD eE eF
  have eO := fun i => hO_s (K := K) (k := k) (i := i) (by omega)
  unfold mGr mFo
  by_cases h6 : K k = 6
  · rw [if_pos h6] at eD
    rw [if_pos (Or.inl h6)] at eE
    rw [if_neg (by omega), if_neg (by omega)] at eF
    rw [eD, eE, eF, if_pos h6]
    have q6 := q.2.2.2.2.2 h6
    refine ⟨vup_at _ _ _ _, ?_, ?_, ?_, ?_, ?_⟩
    · intro i i1 i2
      rw [eO]
      by_cases hi : i = hD K k
      · rw [if_pos ⟨h3, h6, hi⟩, hi]
        simp (disch := omega) only [vup_o, vup_at]
      · rw [if_neg (fun q => hi q.2.2)]
        simp (disch := omega) only [vup_o, vup_k]
        exact s2 i i1 (by omega)
    · intro _
      rw [show hD K k + 1 - 1 = hD K k by omega, q6.1]
      simp (disch := omega) only [vup_o, vup_at]
      exact ⟨trivial, rfl⟩
    · intro i i1 i2
      simp (disch := omega) only [vup_o, vup_k]
      by_cases hi : i = hD K k - 1
      · have := s3 (by omega)
        rw [hi, this.1, this.2, q6.1]
        have e0 : hE K N k = 0 := by omega
        rw [e0]
        exact ⟨rfl, rfl⟩
      · exact s4 i i1 (by omega)
    · intro hf
      exact absurd q6.1 hf
    · intro l l1 l2 l3
      have hl : l ≠ k := fun q => by rw [q] at l3; omega
      simp (disch := omega) only [vup_o]
      exact s6 l l1 (by omega) l3
  · rw [if_neg h6] at eD
    rw [if_neg h6]
    have eO2 : ∀ i, hO K (k + 1) i = hO K k i := fun i => by rw [eO, if_neg (fun q => h6 q.2.1)]
    by_cases h7 : K k = 7
    · rw [if_pos h7] at eD
      rw [if_pos (Or.inr h7)] at eE
      rw [if_neg (by omega), if_neg (by omega)] at eF
      have q7 := q.2.2.1 h7
      rw [eD, eE, eF, if_pos h7, q7.2.1]
      refine ⟨?_, ?_, ?_, ?_, ?_, ?_⟩
      · simp (disch := omega) only [vup_o, vup_at]
      · intro i i1 i2
        rw [eO2]
        simp (disch := omega) only [vup_o]
        exact s2 i i1 (by omega)
      · intro i2
        simp (disch := omega) only [vup_o]
        have := s4 (hD K k - 1 - 1) (by omega) (by omega)
        exact this
      · intro i i1 i2
        simp (disch := omega) only [vup_o]
        exact s4 i i1 (by omega)
      · intro hf
        exact absurd rfl hf
      · intro l l1 l2 l3
        have hl : l ≠ k := fun q => by rw [q] at l3; omega
        have cl := c l l1 (by omega) l3
        have ho := s2 (hD K k - 1) (by omega) (by omega)
        have hb := b (hD K k - 1) (by omega) (by omega)
        have hne : hF K l ≠ V 441 (hD K k - 1) := by
          intro q
          have := cl.2.1
          rw [q, ho, hb.2] at this
          omega
        rw [vup_k hne, vup_o (by decide)]
        exact s6 l l1 (by omega) l3
    · rw [if_neg h7] at eD
      rw [if_neg (by omega)] at eE
      rw [if_neg h7]
      by_cases h8 : K k = 8
      · rw [if_pos h8] at eE eF
        rw [eD, eE, eF, if_pos h8]
        have q8 := q.2.2.2.2.1 h8
        refine ⟨?_, ?_, ?_, ?_, ?_, ?_⟩
        · simp (disch := omega) only [vup_o]
          exact s1
        · intro i i1 i2
          rw [eO2]
          simp (disch := omega) only [vup_o]
          exact s2 i i1 i2
        · intro i2
          simp (disch := omega) only [vup_o, vup_at]
          refine ⟨trivial, ?_⟩
          unfold gPh
          rw [if_pos (by omega)]
        · intro i i1 i2
          simp (disch := omega) only [vup_o, vup_k]
          exact s4 i i1 i2
        · intro _
          exact vup_at _ _ _ _
        · intro l l1 l2 l3
          have hl : l ≠ k := fun q => by rw [q] at l3; omega
          simp (disch := omega) only [vup_o]
          exact s6 l l1 (by omega) l3
      · rw [if_neg h8] at eE eF
        rw [if_neg h8]
        by_cases h9 : K k = 9
        · rw [if_pos h9] at eF
          have q9 := q.2.2.2.1 h9
          have a3' : 0 < hD K k ∧ 0 < hE K N k ∧ (3 ≤ hF K k ∧ hF K k < k) ∧ K (hF K k) = 8 := by
            rcases a3 with a3 | a3
            · exact absurd a3 q9
            · exact a3
          rw [eD, eE, eF, if_pos h9, s5 q9]
          refine ⟨?_, ?_, ?_, ?_, ?_, ?_⟩
          · simp (disch := omega) only [vup_o]
            exact s1
          · intro i i1 i2
            rw [eO2]
            simp (disch := omega) only [vup_o]
            exact s2 i i1 i2
          · intro i2
            simp (disch := omega) only [vup_o, vup_at]
            refine ⟨(s3 i2).1, ?_⟩
            unfold gPh
            rw [if_neg (by omega), if_pos a3'.2.1]
          · intro i i1 i2
            simp (disch := omega) only [vup_o, vup_k]
            exact s4 i i1 i2
          · intro hf
            exact absurd rfl hf
          · intro l l1 l2 l3
            by_cases hl : l = k
            · rw [hl, vup_at]
            · have cl := c l l1 (by omega) l3
              rw [vup_k cl.2.2, vup_o (by decide)]
              exact s6 l l1 (by omega) l3
        · rw [if_neg h9] at eF
          rw [eD, eE, eF, if_neg h9]
          refine ⟨s1, ?_, s3, s4, s5, ?_⟩
          · intro i i1 i2
            rw [eO2]
            exact s2 i i1 i2
          · intro l l1 l2 l3
            have hl : l ≠ k := fun q => by rw [q] at l3; omega
            exact s6 l l1 (by omega) l3
/-- what parsing leaves -/
def mFp (V V' : zVt) : Prop := (∀ o : Nat, ¬(o = 430 ∨ (440 ≤ o ∧ o ≤ 444)) → V' o = V o) ∧ ∀ k : Int, ¬(k = 13 ∨ k = 14 ∨ k = 19) → V' 430 k = V 430 k
theorem mFp_r (V : zVt) : mFp V V := ⟨fun _ _ => rfl, fun _ _ => rfl⟩
theorem mFp_t {V V1 V2 : zVt} (h : mFp V V1) (h2 : mFp V1 V2) : mFp V V2 := ⟨fun o ho => (h2.1 o ho).trans (h.1 o ho), fun k hk => (h2.2 k hk).trans (h.2 k hk)⟩
theorem mFp_v {V : zVt} {o : Nat} {k x : Int} (h : (440 ≤ o ∧ o ≤ 444) ∨ o = 430 ∧ (k = 13 ∨ k = 14 ∨ k = 19)) : mFp V (vup V o k x) := ⟨fun o2 ho => vup_fn (by omega), fun k2 hk => vup_ne (by omega)⟩
theorem mFp_mFo (V : zVt) (k w m D : Int) : mFp V (mFo V k w m D) := by
  unfold mFo
  split
  · exact mFp_t (mFp_t (mFp_t (mFp_v (by omega)) (mFp_v (by omega))) (mFp_v (by omega))) (mFp_v (by omega))
  · split
    · exact mFp_t (mFp_v (by omega)) (mFp_v (by omega))
    · split
      · exact mFp_t (mFp_t (mFp_v (by omega)) (mFp_v (by omega))) (mFp_v (by omega))
      · split
        · exact mFp_t (mFp_v (by omega)) (mFp_v (by omega))
        · exact mFp_r V
theorem mFo_13 (V : zVt) (k w m D : Int) (j : Int) (hj : j ≠ 19) : mFo V k w m D 430 j = V 430 j := by
  unfold mFo
  split
  · simp (disch := omega) only [vup_o, vup_k]
  · split
    · simp (disch := omega) only [vup_o, vup_k]
    · split
      · simp (disch := omega) only [vup_o]
      · split
        · simp (disch := omega) only [vup_o]
        · rfl
