/-! part 89: clashes, clashesOf -/
section
variable {V : zVt} {J : zJt} {N p b : Int} {d : Nat → Nat → UInt64}
section
variable {W : zVt} {K : zJt}
end
theorem sp124 {a : Int} (ha : -2147483648 ≤ a ∧ a < 2147483648) : zGo false 124 0 [.ref 0, .int (zi a)] [] (zm V J d) = if 0 ≤ a ∧ a < 3 then zN1 V J d else zE1 0 V J d := by
  by_cases h1 : a < 0
  · rw [if_neg (by omega)]
    simp (disch := first | omega | assumption | (simp (disch := omega) only [vup_fn, vup_o, vup_k, vup_at]; first | done | omega | assumption)) only [ze_124_0, ze_124_9, Int.add_zero, ↓reduceIte, qw_id, zck_T, zck_t, zGor_v, zGor_n, zGor_e, zbs, vup_at, vup_vup, vup_self, vup_o, vup_k, vup_fn, ne_eq, not_true_eq_false, not_false_eq_true, and_true, true_and, and_self, and_false, false_and, or_true, true_or, or_self, or_false, false_or, xlt_t, xlt_f, xle_t, xle_f, xeq_t, xeq_f, xand_f, xor_t]
  · by_cases h2 : a < 3
    · rw [if_pos (by omega)]
      simp (disch := first | omega | assumption | (simp (disch := omega) only [vup_fn, vup_o, vup_k, vup_at]; first | done | omega | assumption)) only [ze_124_0, ze_124_9, Int.add_zero, ↓reduceIte, qw_id, zck_T, zck_t, zGor_v, zGor_n, zGor_e, zbs, vup_at, vup_vup, vup_self, vup_o, vup_k, vup_fn, ne_eq, not_true_eq_false, not_false_eq_true, and_true, true_and, and_self, and_false, false_and, or_true, true_or, or_self, or_false, false_or, xlt_t, xlt_f, xle_t, xle_f, xeq_t, xeq_f, xand_f, xor_t]
    · rw [if_neg (by omega)]
      simp (disch := first | omega | assumption | (simp (disch := omega) only [vup_fn, vup_o, vup_k, vup_at]; first | done | omega | assumption)) only [ze_124_0, ze_124_9, Int.add_zero, ↓reduceIte, qw_id, zck_T, zck_t, zGor_v, zGor_n, zGor_e, zbs, vup_at, vup_vup, vup_self, vup_o, vup_k, vup_fn, ne_eq, not_true_eq_false, not_false_eq_true, and_true, true_and, and_self, and_false, false_and, or_true, true_or, or_self, or_false, false_or, xlt_t, xlt_f, xle_t, xle_f, xeq_t, xeq_f, xand_f, xor_t]
/-- which bars clash in meter -/
theorem qY_ex (V : zVt) (p : Int) : ∃ Y : Int → Int, ∀ b, (Y b = 0 ∨ Y b = 1) ∧ (Y b = 1 ↔ qU V p b) := by
  refine ⟨fun b => @ite Int (qU V p b) (Classical.propDecidable _) 1 0, fun b => ?_⟩
  by_cases q : qU V p b
  · have e : @ite Int (qU V p b) (Classical.propDecidable _) 1 0 = 1 := if_pos q
    exact ⟨Or.inr e, fun _ => q, fun _ => e⟩
  · have e : @ite Int (qU V p b) (Classical.propDecidable _) 1 0 = 0 := if_neg q
    exact ⟨Or.inl e, fun w => absurd (e.symm.trans w) (by decide), fun w => absurd w q⟩
end
section
variable {V : zVt} {J : zJt} {N p b : Int}
theorem sl123 (h : zInv N V J) (hp : 0 ≤ p ∧ p < 3) (hb : 0 ≤ b ∧ b < 40) {y : Int} (hY : (y = 0 ∨ y = 1) ∧ (y = 1 ↔ qU V p b)) (d : Nat → Nat → UInt64) (n : Nat) : ∀ k : Int, 0 ≤ k → 4 = k + n → zGo false 123 31 [.ref 0, .int (zi p), .int (zi b), .int (zi (oS (fun k => qC V J p b k y) k.toNat)), .int (zi k)] [] (zm V J d) = zI1 (oS (fun k => qC V J p b k y) 4) V J d := by
  induction n with
  | zero =>
    intro k k0 hk
    obtain rfl : k = 4 := by omega
    rw [ze_123_31]
    simp (disch := first | omega | assumption | (simp (disch := omega) only [vup_fn, vup_o, vup_k, vup_at]; first | done | omega | assumption)) only [Int.add_zero, ↓reduceIte, qw_id, zck_T, zck_t, zGor_v, zGor_n, zGor_e, zbs, vup_at, vup_vup, vup_self, vup_o, vup_k, vup_fn, ne_eq, not_true_eq_false, not_false_eq_true, and_true, true_and, and_self, and_false, false_and, or_true, true_or, or_self, or_false, false_or, xlt_t, xlt_f, xle_t, xle_f, xeq_t, xeq_f, xand_f, xor_t]
    rfl
  | succ n ih =>
    intro k k0 hk
    have e := ih (k + 1) (by omega) (by omega)
    rw [oS_s k0] at e
    have e1 := sp125 (d := d) h hp hb (k := k) (by omega) hY.1 hY.2
    rw [ze_123_31]
    simp (disch := first | omega | assumption | (simp (disch := omega) only [vup_fn, vup_o, vup_k, vup_at]; first | done | omega | assumption)) only [e1, ze_123_46, e, Int.add_zero, ↓reduceIte, qw_id, zck_T, zck_t, zGor_v, zGor_n, zGor_e, zbs, vup_at, vup_vup, vup_self, vup_o, vup_k, vup_fn, ne_eq, not_true_eq_false, not_false_eq_true, and_true, true_and, and_self, and_false, false_and, or_true, true_or, or_self, or_false, false_or, xlt_t, xlt_f, xle_t, xle_f, xeq_t, xeq_f, xand_f, xor_t]
theorem sl128 (h : zInv N V J) (hp : 0 ≤ p ∧ p < 3) {k : Int} (hk : 0 ≤ k ∧ k ≤ 3) {Y : Int → Int} (hY : ∀ b, (Y b = 0 ∨ Y b = 1) ∧ (Y b = 1 ↔ qU V p b)) (d : Nat → Nat → UInt64) (n : Nat) : ∀ b : Int, 0 ≤ b → 40 = b + n → zGo false 128 30 [.ref 0, .int (zi p), .int (zi k), .int (zi (oS (fun b => qC V J p b k (Y b)) b.toNat)), .int (zi b)] [] (zm V J d) = zI1 (oS (fun b => qC V J p b k (Y b)) 40) V J d := by
  induction n with
  | zero =>
    intro b b0 hb
    obtain rfl : b = 40 := by omega
    rw [ze_128_30]
    simp (disch := first | omega | assumption | (simp (disch := omega) only [vup_fn, vup_o, vup_k, vup_at]; first | done | omega | assumption)) only [Int.add_zero, ↓reduceIte, qw_id, zck_T, zck_t, zGor_v, zGor_n, zGor_e, zbs, vup_at, vup_vup, vup_self, vup_o, vup_k, vup_fn, ne_eq, not_true_eq_false, not_false_eq_true, and_true, true_and, and_self, and_false, false_and, or_true, true_or, or_self, or_false, false_or, xlt_t, xlt_f, xle_t, xle_f, xeq_t, xeq_f, xand_f, xor_t]
    rfl
  | succ n ih =>
    intro b b0 hb
    have e := ih (b + 1) (by omega) (by omega)
    rw [oS_s b0] at e
    have e1 := sp125 (d := d) h hp (b := b) (by omega) hk (hY b).1 (hY b).2
    rw [ze_128_30]
    simp (disch := first | omega | assumption | (simp (disch := omega) only [vup_fn, vup_o, vup_k, vup_at]; first | done | omega | assumption)) only [e1, ze_128_46, e, Int.add_zero, ↓reduceIte, qw_id, zck_T, zck_t, zGor_v, zGor_n, zGor_e, zbs, vup_at, vup_vup, vup_self, vup_o, vup_k, vup_fn, ne_eq, not_true_eq_false, not_false_eq_true, and_true, true_and, and_self, and_false, false_and, or_true, true_or, or_self, or_false, false_or, xlt_t, xlt_f, xle_t, xle_f, xeq_t, xeq_f, xand_f, xor_t]
end
