/-! part 70: pitch; what is asked of copies -/
section
variable {V : zVt} {J : zJt} {N a b c t : Int} {d : Nat → Nat → UInt64}
theorem cp112 (hi : zInv N V J) (hc : -2147483648 ≤ c ∧ c < 2147483648) : zGo false 112 0 [.ref 0, .int (zi c)] [] (zm V J d) = if 0 ≤ c ∧ c < V 480 37 then zR1 (230 + 5 * c.toNat) V J d else zE1 0 V J d := by
  have h1 := hi.2.2.2.1
  by_cases h2 : c < 0
  · rw [if_neg (by omega)]
    simp (disch := first | omega | assumption | (simp (disch := omega) only [vup_fn, vup_o, vup_k, vup_at]; first | done | omega | assumption)) only [ze_112_0, ze_112_12, Int.add_zero, ↓reduceIte, qw_id, zck_T, zck_t, zGor_v, zGor_n, zGor_e, zbs, vup_at, vup_vup, vup_self, vup_o, vup_k, vup_fn, ne_eq, not_true_eq_false, not_false_eq_true, and_true, true_and, and_self, and_false, false_and, or_true, true_or, or_self, or_false, false_or, xlt_t, xlt_f, xle_t, xle_f, xeq_t, xeq_f, xand_f, xor_t]
  · by_cases h3 : c < V 480 37
    · rw [if_pos (by omega)]
      simp (disch := first | omega | assumption | (simp (disch := omega) only [vup_fn, vup_o, vup_k, vup_at]; first | done | omega | assumption)) only [ze_112_0, ze_112_12, Int.add_zero, ↓reduceIte, qw_id, zck_T, zck_t, zGor_v, zGor_n, zGor_e, zbs, vup_at, vup_vup, vup_self, vup_o, vup_k, vup_fn, ne_eq, not_true_eq_false, not_false_eq_true, and_true, true_and, and_self, and_false, false_and, or_true, true_or, or_self, or_false, false_or, xlt_t, xlt_f, xle_t, xle_f, xeq_t, xeq_f, xand_f, xor_t]
    · rw [if_neg (by omega)]
      simp (disch := first | omega | assumption | (simp (disch := omega) only [vup_fn, vup_o, vup_k, vup_at]; first | done | omega | assumption)) only [ze_112_0, ze_112_12, Int.add_zero, ↓reduceIte, qw_id, zck_T, zck_t, zGor_v, zGor_n, zGor_e, zbs, vup_at, vup_vup, vup_self, vup_o, vup_k, vup_fn, ne_eq, not_true_eq_false, not_false_eq_true, and_true, true_and, and_self, and_false, false_and, or_true, true_or, or_self, or_false, false_or, xlt_t, xlt_f, xle_t, xle_f, xeq_t, xeq_f, xand_f, xor_t]
theorem iCp_ms (hi : zInv N V J) (hc : 0 ≤ c ∧ c < V 480 37) : iMs V J (233 + 5 * c.toNat) (V 454 c).toNat (V (232 + 5 * c.toNat)) ∧ (0 ≤ V 454 c ∧ V 454 c < 12) ∧ V (230 + 5 * c.toNat) 0 = V 454 c ∧ V (230 + 5 * c.toNat) 1 = V 455 c ∧ (-1 ≤ V 455 c ∧ V 455 c < 12) := by
  have h1 := hi.2.2.2.1
  have hk := hi.2.2.2.2.1 c.toNat (by omega)
  have ec : ((c.toNat : Nat) : Int) = c := by omega
  unfold iCopy at hk
  rw [ec] at hk
  obtain ⟨b1, b2, b3, b4, b5⟩ := hk.2.1 hc.2
  exact ⟨b5, b1, b2, b3, b4⟩
theorem iMs_mok (hi : zInv N V J) {M w : Nat} (hw : w < 12) {H : Int → Int} (h : iMs V J M w H) : cMok V M := iMs_ok (zt_ok hi.1.1 (w := (w : Int)) (by omega)) h
end
