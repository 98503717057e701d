/-! part 63: the reference's sings -/
section
variable {d : Nat → Nat → UInt64} {s : Int} {P : zVt} {D : Int → Int} {O : Int → Int → Int}
theorem sl167 (hs : 0 ≤ s ∧ s < 5) (hP : yTok P D O) (j : Nat) : ∀ (W : zVt) (J : zJt) (S : zVt), mSg W J s P O S → (yInv P D S ∨ S 0 7 ≠ 0) → (3 ≤ S 0 0 ∧ S 0 0 ≤ P 8 0) → (0 ≤ S 0 7 ∧ S 0 7 ≤ 10) → yDone P (yRun P j S) →
    ∃ W' J' z, zGo false 167 83 [.ref 430, .int (zi s), .int (zi (S 0 0))] [] (zm W J d) = zGo false 167 193 [.ref 430, .int (zi s), .int (zi z)] [] (zm W' J' d) ∧ mSg W' J' s P O (yRun P j S) ∧ mFt s W J W' J' := by
  induction j with
  | zero =>
    intro W J S h hi hs0 hf hd
    have hn := hP.1
    have hd' : P 8 0 ≤ S 0 0 ∨ S 0 7 ≠ 0 := hd
    refine ⟨W, J, S 0 0, ?_, h, mFt_r s W J⟩
    have e13 := h.2.1
    have e10 := h.1.1
    rw [ze_167_83]
    by_cases hc : S 0 0 < P 8 0
    · simp (disch := first | omega | assumption | (simp (disch := omega) only [vup_fn, vup_o, vup_k, vup_at]; first | done | omega | assumption)) only [e10, e13, Int.add_zero, ↓reduceIte, qw_id, zck_T, zck_t, zGor_v, zGor_n, zGor_e, zbs, vup_at, vup_vup, vup_self, vup_o, vup_k, vup_fn, ne_eq, not_true_eq_false, not_false_eq_true, and_true, true_and, and_self, and_false, false_and, or_true, true_or, or_self, or_false, false_or, xlt_t, xlt_f, xle_t, xle_f, xeq_t, xeq_f, xand_f, xor_t]
    · simp (disch := first | omega | assumption | (simp (disch := omega) only [vup_fn, vup_o, vup_k, vup_at]; first | done | omega | assumption)) only [e10, Int.add_zero, ↓reduceIte, qw_id, zck_T, zck_t, zGor_v, zGor_n, zGor_e, zbs, vup_at, vup_vup, vup_self, vup_o, vup_k, vup_fn, ne_eq, not_true_eq_false, not_false_eq_true, and_true, true_and, and_self, and_false, false_and, or_true, true_or, or_self, or_false, false_or, xlt_t, xlt_f, xle_t, xle_f, xeq_t, xeq_f, xand_f, xor_t]
  | succ j ih =>
    intro W J S h hi hs0 hf hd
    have hn := hP.1
    have e13 := h.2.1
    have e10 := h.1.1
    unfold yRun at hd ⊢
    by_cases hc : S 0 0 < P 8 0 ∧ S 0 7 = 0
    · rw [if_pos hc] at hd ⊢
      have hi' : yInv P D S := by
        rcases hi with q | q
        · exact q
        · exact absurd hc.2 q
      obtain ⟨W1, J1, q1, q2, q3⟩ := sm167s (d := d) hs hP h hi' hc.1
      have hi1 : yInv P D (yStep P S) ∨ yStep P S 0 7 ≠ 0 := by
        by_cases w : yStep P S 0 7 = 0
        · exact Or.inl (yStep_inv hP hi' hc.1 w).1
        · exact Or.inr w
      obtain ⟨W', J', z, p1, p2, p3⟩ := ih W1 J1 (yStep P S) q2 hi1 (yStep_00 hP hi' hc.1) (yStep_7 hc.2) hd
      exact ⟨W', J', z, q1.trans p1, p2, mFt_t q3 p3⟩
    · rw [if_neg hc] at hd ⊢
      refine ⟨W, J, S 0 0, ?_, h, mFt_r s W J⟩
      rw [ze_167_83]
      by_cases hc1 : S 0 0 < P 8 0
      · simp (disch := first | omega | assumption | (simp (disch := omega) only [vup_fn, vup_o, vup_k, vup_at]; first | done | omega | assumption)) only [e10, e13, Int.add_zero, ↓reduceIte, qw_id, zck_T, zck_t, zGor_v, zGor_n, zGor_e, zbs, vup_at, vup_vup, vup_self, vup_o, vup_k, vup_fn, ne_eq, not_true_eq_false, not_false_eq_true, and_true, true_and, and_self, and_false, false_and, or_true, true_or, or_self, or_false, false_or, xlt_t, xlt_f, xle_t, xle_f, xeq_t, xeq_f, xand_f, xor_t]
      · simp (disch := first | omega | assumption | (simp (disch := omega) only [vup_fn, vup_o, vup_k, vup_at]; first | done | omega | assumption)) only [e10, Int.add_zero, ↓reduceIte, qw_id, zck_T, zck_t, zGor_v, zGor_n, zGor_e, zbs, vup_at, vup_vup, vup_self, vup_o, vup_k, vup_fn, ne_eq, not_true_eq_false, not_false_eq_true, and_true, true_and, and_self, and_false, false_and, or_true, true_or, or_self, or_false, false_or, xlt_t, xlt_f, xle_t, xle_f, xeq_t, xeq_f, xand_f, xor_t]
/-- the end of the text: what is left of the relation -/
def mEnd (W : zVt) (J : zJt) (s : Int) (P S : zVt) : Prop := mTs W P ∧ W 430 13 = S 0 7 ∧ (S 0 7 ≠ 0 → W 430 14 = S 0 8) ∧ (S 0 7 = 0 → W 430 25 = S 0 3 ∧ ∀ b, 0 ≤ b → b < S 0 3 → mBar W J (40 * s + b) (fun t => S 4 (16 * b + t)))
theorem mEnd_of {W : zVt} {J : zJt} {S : zVt} (h : mSg W J s P O S) : mEnd W J s P S := ⟨h.1, h.2.1, h.2.2.1, fun q => ⟨(h.2.2.2 q).2.2.2.2.2.1, (h.2.2.2 q).2.2.2.2.2.2.2.2⟩⟩
theorem mEnd_ns {W : zVt} {J : zJt} {S : zVt} (h : mEnd (mNs W 64) J s P S) : mEnd W J s P S := by
  have rd : ∀ o : Nat, o ≠ 447 → mNs W 64 o = W o := fun o ho => vst_o ho
  unfold mEnd mTs mBar at *
  rw [rd 430 (by decide), rd 433 (by decide), rd 435 (by decide), rd 436 (by decide), rd 437 (by decide), rd 438 (by decide), rd 439 (by decide), rd 440 (by decide), rd 453 (by decide)] at h
  exact h
theorem sm178 {W : zVt} {J : zJt} {S : zVt} (hs : 0 ≤ s ∧ s < 5) (hP : yTok P D O) (h : mSg W J s P O S) (hi : yInv P D S) :
    ∃ W' J', zGo false 178 0 [.ref 430, .int (zi s)] [] (zm W J d) = zN1 W' J' d ∧ mEnd W' J' s P (yFin P S) ∧ mFt s W J W' J' := by
  have h7 : S 0 7 = 0 := hi.2.2.2.2.2.2.2.2.2.2
  obtain ⟨k1, k2, k3, k4, k5, k6, k8, k9, k10⟩ := h.2.2.2 h7
  have hfl := hi.2.2.2.2.1
  have hnb := hi.2.2.2.2.2.2.2.1
  have htie := hi.2.2.2.2.2.2.2.2.1
  have hmt := hP.2.1
  have hnn := hP.1
  have e23 := h.1.2.2.1
  have e13 : W 430 13 = 0 := by rw [h.2.1, h7]
  unfold yFin
  by_cases ht : S 0 4 = -1
  · rw [if_neg (show ¬ S 0 4 ≠ -1 from fun q => q ht)]
    by_cases hf : 0 < S 0 2
    · rw [if_pos hf]
      by_cases hc : S 0 2 = 0 ∨ S 0 2 < P 8 1 ∧ 0 < S 0 3
      · have e173 := sp173 (V := W) (J := J) (d := d) (f := 8) (t := -1) e13
        refine ⟨vup (vup W 430 13 8) 430 14 (-1), J, ?_, ?_, mFt_t (mFt_v (by omega)) (mFt_v (by omega))⟩
        · rw [ze_178_0]
          simp (disch := first | omega | assumption | (simp (disch := omega) only [vup_fn, vup_o, vup_k, vup_at]; first | done | omega | assumption)) only [k8, ht, k3, e23, k6, e173, ze_178_53, ze_178_69, Int.add_zero, ↓reduceIte, qw_id, zck_T, zck_t, zGor_v, zGor_n, zGor_e, zbs, vup_at, vup_vup, vup_self, vup_o, vup_k, vup_fn, ne_eq, not_true_eq_false, not_false_eq_true, and_true, true_and, and_self, and_false, false_and, or_true, true_or, or_self, or_false, false_or, xlt_t, xlt_f, xle_t, xle_f, xeq_t, xeq_f, xand_f, xor_t]
        · unfold yBar
          rw [if_pos hc]
          exact mEnd_of (mSg_fl h (by decide))
      · obtain ⟨W', J', q1, q2, q3, q4⟩ := sm176b (d := d) (t := -1) hs hP h hi hf hc
        refine ⟨W', J', ?_, mEnd_ns (mEnd_of q2), q3⟩
        rw [ze_178_0]
        by_cases hm : P 8 1 ≤ S 0 2
        · simp (disch := first | omega | assumption | (simp (disch := omega) only [vup_fn, vup_o, vup_k, vup_at]; first | done | omega | assumption)) only [k8, ht, k3, e23, ze_178_56, q1, ze_178_69, Int.add_zero, ↓reduceIte, qw_id, zck_T, zck_t, zGor_v, zGor_n, zGor_e, zbs, vup_at, vup_vup, vup_self, vup_o, vup_k, vup_fn, ne_eq, not_true_eq_false, not_false_eq_true, and_true, true_and, and_self, and_false, false_and, or_true, true_or, or_self, or_false, false_or, xlt_t, xlt_f, xle_t, xle_f, xeq_t, xeq_f, xand_f, xor_t]
        · simp (disch := first | omega | assumption | (simp (disch := omega) only [vup_fn, vup_o, vup_k, vup_at]; first | done | omega | assumption)) only [k8, ht, k3, e23, k6, ze_178_56, q1, ze_178_69, Int.add_zero, ↓reduceIte, qw_id, zck_T, zck_t, zGor_v, zGor_n, zGor_e, zbs, vup_at, vup_vup, vup_self, vup_o, vup_k, vup_fn, ne_eq, not_true_eq_false, not_false_eq_true, and_true, true_and, and_self, and_false, false_and, or_true, true_or, or_self, or_false, false_or, xlt_t, xlt_f, xle_t, xle_f, xeq_t, xeq_f, xand_f, xor_t]
    · rw [if_neg hf]
      refine ⟨W, J, ?_, mEnd_of h, mFt_r s W J⟩
      rw [ze_178_0]
      simp (disch := first | omega | assumption | (simp (disch := omega) only [vup_fn, vup_o, vup_k, vup_at]; first | done | omega | assumption)) only [k8, ht, k3, ze_178_56, ze_178_69, Int.add_zero, ↓reduceIte, qw_id, zck_T, zck_t, zGor_v, zGor_n, zGor_e, zbs, vup_at, vup_vup, vup_self, vup_o, vup_k, vup_fn, ne_eq, not_true_eq_false, not_false_eq_true, and_true, true_and, and_self, and_false, false_and, or_true, true_or, or_self, or_false, false_or, xlt_t, xlt_f, xle_t, xle_f, xeq_t, xeq_f, xand_f, xor_t]
  · have htr : 3 ≤ S 0 4 := by omega
    have e173 := sp173 (V := W) (J := J) (d := d) (f := 9) (t := S 0 4) e13
    rw [if_pos ht]
    refine ⟨vup (vup W 430 13 9) 430 14 (S 0 4), J, ?_, mEnd_of (mSg_fl h (by decide)), mFt_t (mFt_v (by omega)) (mFt_v (by omega))⟩
    rw [ze_178_0]
    simp (disch := first | omega | assumption | (simp (disch := omega) only [vup_fn, vup_o, vup_k, vup_at]; first | done | omega | assumption)) only [k8, e173, ze_178_18, ze_178_69, Int.add_zero, ↓reduceIte, qw_id, zck_T, zck_t, zGor_v, zGor_n, zGor_e, zbs, vup_at, vup_vup, vup_self, vup_o, vup_k, vup_fn, ne_eq, not_true_eq_false, not_false_eq_true, and_true, true_and, and_self, and_false, false_and, or_true, true_or, or_self, or_false, false_or, xlt_t, xlt_f, xle_t, xle_f, xeq_t, xeq_f, xand_f, xor_t]
/-- the clefs -/
theorem sl167c {W0 : zVt} {J : zJt} {K N : Int → Int} {n : Int} (hn : 0 ≤ n ∧ n ≤ 60) (h10 : W0 430 10 = n) (h0 : K 0 = 0) (hr : ∀ k, 0 ≤ k → k < n → W0 433 k = K k ∧ (0 ≤ K k ∧ K k ≤ 9)) (j : Nat) : ∀ (W : zVt) (p : Int), (0 ≤ p ∧ p ≤ n) → n - p < j → (∀ o, o ≠ 439 → W o = W0 o) → (∀ k, 0 ≤ k → k < p → (0 ≤ W 439 k ∧ W 439 k ≤ k) ∧ yBs (N (W 439 k)) = hL K N (k + 1)) →
    ∃ W', zGo false 167 2 [.ref 430, .int (zi s), .int (zi p)] [] (zm W J d) = zGo false 167 2 [.ref 430, .int (zi s), .int (zi n)] [] (zm W' J d) ∧ (∀ o, o ≠ 439 → W' o = W0 o) ∧ ∀ k, 0 ≤ k → k < n → (0 ≤ W' 439 k ∧ W' 439 k ≤ k) ∧ yBs (N (W' 439 k)) = hL K N (k + 1) := by
  induction j with
  | zero => intro W p hp hj; omega
  | succ j ih =>
    intro W p hp hj hf hk
    by_cases hpn : p = n
    · subst hpn
      exact ⟨W, rfl, hf, hk⟩
    · have e10 : W 430 10 = n := by rw [hf 430 (by decide), h10]
      have r := hr p hp.1 (by omega)
      have e33 : W 433 p = K p := by rw [hf 433 (by decide), r.1]
      have eL := hL_s (K := K) (N := N) hp.1
      by_cases hk0 : K p = 0
      · rw [if_pos hk0] at eL
        obtain ⟨W', q1, q2⟩ := ih (vup W 439 p p) (p + 1) (by omega) (by omega) (fun o ho => by rw [vup_fn ho, hf o ho]) (by
          intro k k0 k1
          by_cases hkp : k = p
          · rw [hkp, vup_at, eL]
            exact ⟨by omega, rfl⟩
          · rw [vup_k hkp]
            exact hk k k0 (by omega))
        refine ⟨W', ?_, q2⟩
        rw [← q1, ze_167_2]
        simp (disch := first | omega | assumption | (simp (disch := omega) only [vup_fn, vup_o, vup_k, vup_at]; first | done | omega | assumption)) only [e10, e33, hk0, ze_167_28, ze_167_40, Int.add_zero, ↓reduceIte, qw_id, zck_T, zck_t, zGor_v, zGor_n, zGor_e, zbs, vup_at, vup_vup, vup_self, vup_o, vup_k, vup_fn, ne_eq, not_true_eq_false, not_false_eq_true, and_true, true_and, and_self, and_false, false_and, or_true, true_or, or_self, or_false, false_or, xlt_t, xlt_f, xle_t, xle_f, xeq_t, xeq_f, xand_f, xor_t]
      · rw [if_neg hk0] at eL
        have hp0 : p ≠ 0 := fun w => hk0 (by rw [w]; exact h0)
        have w := hk (p - 1) (by omega) (by omega)
        rw [show p - 1 + 1 = p by omega] at w
        obtain ⟨W', q1, q2⟩ := ih (vup W 439 p (W 439 (p - 1))) (p + 1) (by omega) (by omega) (fun o ho => by rw [vup_fn ho, hf o ho]) (by
          intro k k0 k1
          by_cases hkp : k = p
          · rw [hkp, vup_at, eL]
            exact ⟨by omega, w.2⟩
          · rw [vup_k hkp]
            exact hk k k0 (by omega))
        refine ⟨W', ?_, q2⟩
        rw [← q1, ze_167_2]
        simp (disch := first | omega | assumption | (simp (disch := omega) only [vup_fn, vup_o, vup_k, vup_at]; first | done | omega | assumption)) only [e10, e33, ze_167_40, Int.add_zero, ↓reduceIte, qw_id, zck_T, zck_t, zGor_v, zGor_n, zGor_e, zbs, vup_at, vup_vup, vup_self, vup_o, vup_k, vup_fn, ne_eq, not_true_eq_false, not_false_eq_true, and_true, true_and, and_self, and_false, false_and, or_true, true_or, or_self, or_false, false_or, xlt_t, xlt_f, xle_t, xle_f, xeq_t, xeq_f, xand_f, xor_t]
end
