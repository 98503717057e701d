/-! part 78: who has a copy of a piece -/
section
variable {V : zVt} {J : zJt} {N : Int} {d : Nat → Nat → UInt64}
theorem sl113 (hi : zInv N V J) {s p : Int} (hs : -2147483648 ≤ s ∧ s < 2147483648) (hp : -2147483648 ≤ p ∧ p < 2147483648) (n : Nat) : ∀ k : Int, 0 ≤ k → V 480 37 = k + n → ∃ y : Int, (y = 0 ∨ y = 1) ∧ (y = 1 ↔ ∃ j, (k ≤ j ∧ j < V 480 37) ∧ V 455 j = s ∧ V 454 j / 4 = p) ∧ zGo false 113 2 [.ref 0, .int (zi s), .int (zi p), .int (zi k)] [] (zm V J d) = zI1 y V J d := by
  have h37 := hi.2.2.2.1
  induction n with
  | zero =>
    intro k k0 hk
    refine ⟨0, Or.inl rfl, ⟨fun q => by omega, fun ⟨j, j1, _⟩ => by omega⟩, ?_⟩
    rw [ze_113_2]
    simp (disch := first | omega | assumption | (simp (disch := omega) only [vup_fn, vup_o, vup_k, vup_at]; first | done | omega | assumption)) only [Int.add_zero, ↓reduceIte, qw_id, zck_T, zck_t, zGor_v, zGor_n, zGor_e, zbs, vup_at, vup_vup, vup_self, vup_o, vup_k, vup_fn, ne_eq, not_true_eq_false, not_false_eq_true, and_true, true_and, and_self, and_false, false_and, or_true, true_or, or_self, or_false, false_or, xlt_t, xlt_f, xle_t, xle_f, xeq_t, xeq_f, xand_f, xor_t]
  | succ n ih =>
    intro k k0 hk
    obtain ⟨_, c2, c3, c4, c5⟩ := iCp_ms hi (c := k) ⟨k0, by omega⟩
    have hB := zBk_copy (i := k.toNat) (by omega)
    have hdv := qdiv_p (a := V 454 k) (b := 4) (by omega) (by omega)
    obtain ⟨y, y1, y2, y3⟩ := ih (k + 1) (by omega) (by omega)
    by_cases h1 : V 455 k = s
    · by_cases h2 : V 454 k / 4 = p
      · refine ⟨1, Or.inr rfl, ⟨fun _ => ⟨k, ⟨by omega, by omega⟩, h1, h2⟩, fun _ => rfl⟩, ?_⟩
        rw [ze_113_2]
        simp (disch := first | omega | assumption | (simp (disch := omega) only [vup_fn, vup_o, vup_k, vup_at]; first | done | omega | assumption)) only [c3, c4, hdv, Int.add_zero, ↓reduceIte, qw_id, zck_T, zck_t, zGor_v, zGor_n, zGor_e, zbs, vup_at, vup_vup, vup_self, vup_o, vup_k, vup_fn, ne_eq, not_true_eq_false, not_false_eq_true, and_true, true_and, and_self, and_false, false_and, or_true, true_or, or_self, or_false, false_or, xlt_t, xlt_f, xle_t, xle_f, xeq_t, xeq_f, xand_f, xor_t]
      · refine ⟨y, y1, ⟨fun q => ?_, fun ⟨j, j1, j2, j3⟩ => ?_⟩, ?_⟩
        · obtain ⟨j, j1, j2⟩ := y2.1 q
          exact ⟨j, ⟨by omega, j1.2⟩, j2⟩
        · by_cases e : j = k
          · rw [e] at j3
            exact absurd j3 h2
          · exact y2.2 ⟨j, ⟨by omega, j1.2⟩, j2, j3⟩
        · rw [ze_113_2]
          simp (disch := first | omega | assumption | (simp (disch := omega) only [vup_fn, vup_o, vup_k, vup_at]; first | done | omega | assumption)) only [c3, c4, hdv, ze_113_40, y3, Int.add_zero, ↓reduceIte, qw_id, zck_T, zck_t, zGor_v, zGor_n, zGor_e, zbs, vup_at, vup_vup, vup_self, vup_o, vup_k, vup_fn, ne_eq, not_true_eq_false, not_false_eq_true, and_true, true_and, and_self, and_false, false_and, or_true, true_or, or_self, or_false, false_or, xlt_t, xlt_f, xle_t, xle_f, xeq_t, xeq_f, xand_f, xor_t]
    · refine ⟨y, y1, ⟨fun q => ?_, fun ⟨j, j1, j2, j3⟩ => ?_⟩, ?_⟩
      · obtain ⟨j, j1, j2⟩ := y2.1 q
        exact ⟨j, ⟨by omega, j1.2⟩, j2⟩
      · by_cases e : j = k
        · rw [e] at j2
          exact absurd j2 h1
        · exact y2.2 ⟨j, ⟨by omega, j1.2⟩, j2, j3⟩
      · rw [ze_113_2]
        simp (disch := first | omega | assumption | (simp (disch := omega) only [vup_fn, vup_o, vup_k, vup_at]; first | done | omega | assumption)) only [c3, c4, ze_113_40, y3, Int.add_zero, ↓reduceIte, qw_id, zck_T, zck_t, zGor_v, zGor_n, zGor_e, zbs, vup_at, vup_vup, vup_self, vup_o, vup_k, vup_fn, ne_eq, not_true_eq_false, not_false_eq_true, and_true, true_and, and_self, and_false, false_and, or_true, true_or, or_self, or_false, false_or, xlt_t, xlt_f, xle_t, xle_f, xeq_t, xeq_f, xand_f, xor_t]
theorem sp113 (hi : zInv N V J) {s p : Int} (hs : -2147483648 ≤ s ∧ s < 2147483648) (hp : -2147483648 ≤ p ∧ p < 2147483648) : ∃ y : Int, (y = 0 ∨ y = 1) ∧ (y = 1 ↔ ∃ j, (0 ≤ j ∧ j < V 480 37) ∧ V 455 j = s ∧ V 454 j / 4 = p) ∧ zGo false 113 0 [.ref 0, .int (zi s), .int (zi p), .null] [] (zm V J d) = zI1 y V J d := by
  have h37 := hi.2.2.2.1
  obtain ⟨y, y1, y2, y3⟩ := sl113 (d := d) hi hs hp (V 480 37).toNat 0 (by omega) (by omega)
  exact ⟨y, y1, y2, by rw [ze_113_0]; exact y3⟩
end
