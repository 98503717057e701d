/-! part 43: the reference's parsing, its loop -/
section
variable {J : zJt} {d : Nat → Nat → UInt64}
/-- the tokens' numbers and kinds are small -/
def kRng (K N : Int → Int) (n : Int) : Prop := ∀ k, 0 ≤ k → k < n → (0 ≤ K k ∧ K k ≤ 9) ∧ (-100 ≤ N k ∧ N k ≤ 100)
theorem hE_rng {K N : Int → Int} {n : Int} (hr : kRng K N n) {k : Int} (h0 : 0 ≤ k) (hk : k ≤ n) : hE K N k ≤ 100 := by
  have key : ∀ m : Nat, (m : Int) ≤ n → hE K N m ≤ 100 := by
    intro m
    induction m with
    | zero => intro _; show (0 : Int) ≤ 100; decide
    | succ m ih =>
      intro hm
      rw [show ((m + 1 : Nat) : Int) = (m : Int) + 1 by omega] at hm ⊢
      rw [hE_s (by omega)]
      have := ih (by omega)
      have := (hr m (by omega) (by omega)).2
      split
      · decide
      · split
        · decide
        · split
          · omega
          · assumption
  have := key k.toNat (by omega)
  rwa [toNat_c h0] at this
theorem sl163 {K N : Int → Int} {n : Int} (hn : 0 ≤ n ∧ n ≤ 60) (hr : kRng K N n) (m : Nat) : ∀ (V : zVt) (k : Int), (0 ≤ k ∧ k ≤ n) → n - k < m → V 430 10 = n → V 430 13 = 0 → V 430 14 = -1 → (∀ j, 0 ≤ j → j < n → V 433 j = K j ∧ V 435 j = N j) → (∀ j, 0 ≤ j → j < k → gX K N j = 0) → mGr V K N k →
    ∃ V' F A, zGo false 163 29 [.ref 430, .int (zi k)] [] (zm V J d) = zN1 V' J d ∧ yPs K N n F A ∧ V' 430 13 = F ∧ V' 430 14 = A ∧ (F = 0 → mGr V' K N n) ∧ mFp V V' := by
  induction m with
  | zero => intro V k hk hm; omega
  | succ m ih =>
    intro V k hk hm hV hFF hA hc hx hg
    by_cases hkn : k = n
    · subst hkn
      have hi := gInv_n hk.1 hx
      by_cases h3 : k < 3
      · refine ⟨vup V 430 13 2, 2, -1, ?_, Or.inr ⟨hx, rfl, by rw [if_pos h3]⟩, vup_at _ _ _ _, ?_, fun q => absurd q (by decide), mFp_v (by omega)⟩
        · simp (disch := first | omega | assumption | (simp (disch := omega) only [vup_fn, vup_o, vup_k, vup_at]; first | done | omega | assumption)) only [ze_163_29, ze_163_115, ze_163_137, ze_163_152, ze_163_155, hV, hFF, Int.add_zero, ↓reduceIte, qw_id, zck_T, zck_t, zGor_v, zGor_n, zGor_e, zbs, vup_at, vup_vup, vup_self, vup_o, vup_k, vup_fn, ne_eq, not_true_eq_false, not_false_eq_true, and_true, true_and, and_self, and_false, false_and, or_true, true_or, or_self, or_false, false_or, xlt_t, xlt_f, xle_t, xle_f, xeq_t, xeq_f, xand_f, xor_t]
        · rw [vup_k (by decide), hA]
      · by_cases hd : 0 < hD K k
        · refine ⟨vup V 430 13 6, 6, -1, ?_, Or.inr ⟨hx, rfl, by rw [if_neg h3, if_pos hd]⟩, vup_at _ _ _ _, ?_, fun q => absurd q (by decide), mFp_v (by omega)⟩
          · have e := hg.1
            have e2 := hi.1.1
            simp (disch := first | omega | assumption | (simp (disch := omega) only [vup_fn, vup_o, vup_k, vup_at]; first | done | omega | assumption)) only [ze_163_29, ze_163_115, ze_163_137, ze_163_152, ze_163_155, hV, hFF, Int.add_zero, ↓reduceIte, qw_id, zck_T, zck_t, zGor_v, zGor_n, zGor_e, zbs, vup_at, vup_vup, vup_self, vup_o, vup_k, vup_fn, ne_eq, not_true_eq_false, not_false_eq_true, and_true, true_and, and_self, and_false, false_and, or_true, true_or, or_self, or_false, false_or, xlt_t, xlt_f, xle_t, xle_f, xeq_t, xeq_f, xand_f, xor_t]
          · rw [vup_k (by decide), hA]
        · refine ⟨V, 0, -1, ?_, Or.inr ⟨hx, rfl, by rw [if_neg h3, if_neg hd]⟩, hFF, hA, fun _ => hg, mFp_r V⟩
          have e := hg.1
          have e2 := hi.1.1
          simp (disch := first | omega | assumption | (simp (disch := omega) only [vup_fn, vup_o, vup_k, vup_at]; first | done | omega | assumption)) only [ze_163_29, ze_163_115, ze_163_155, hV, hFF, Int.add_zero, ↓reduceIte, qw_id, zck_T, zck_t, zGor_v, zGor_n, zGor_e, zbs, vup_at, vup_vup, vup_self, vup_o, vup_k, vup_fn, ne_eq, not_true_eq_false, not_false_eq_true, and_true, true_and, and_self, and_false, false_and, or_true, true_or, or_self, or_false, false_or, xlt_t, xlt_f, xle_t, xle_f, xeq_t, xeq_f, xand_f, xor_t]
    · have hkr := hr k hk.1 (by omega)
      have hck := hc k hk.1 (by omega)
      by_cases h3 : k < 3
      · by_cases hkk : K k = k
        · have hx0 : gX K N k = 0 := by
            unfold gX
            rw [if_pos h3, if_pos hkk]
          obtain ⟨V', F, A, q1, q2, q3, q4, q5, q6⟩ := ih (vup (vup V 430 13 0) 430 14 (-1)) (k + 1) (by omega) (by omega) (by rw [vup_k (by decide), vup_k (by decide), hV]) (by rw [vup_k (by decide), vup_at]) (vup_at _ _ _ _) (by
              intro j j1 j2
              rw [vup_o (by decide), vup_o (by decide), vup_o (by decide), vup_o (by decide)]
              exact hc j j1 j2) (by
              intro j j1 j2
              by_cases hj : j = k
              · rw [hj]; exact hx0
              · exact hx j j1 (by omega)) (by
              have e0 : V 430 19 = 0 := by rw [hg.1]; exact (h_le3 (N := N) hk.1 (by omega)).1
              exact mGr_0 (by omega) (by omega) (by rw [vup_k (by decide), vup_k (by decide), e0]))
          refine ⟨V', F, A, ?_, q2, q3, q4, q5, mFp_t (mFp_t (mFp_v (by omega)) (mFp_v (by omega))) q6⟩
          have e1 := hck.1
          rw [← q1, ze_163_29]
          simp (disch := first | omega | assumption | (simp (disch := omega) only [vup_fn, vup_o, vup_k, vup_at]; first | done | omega | assumption)) only [hV, hFF, e1, hkk, ze_163_73, ze_163_89, ze_163_109, Int.add_zero, ↓reduceIte, qw_id, zck_T, zck_t, zGor_v, zGor_n, zGor_e, zbs, vup_at, vup_vup, vup_self, vup_o, vup_k, vup_fn, ne_eq, not_true_eq_false, not_false_eq_true, and_true, true_and, and_self, and_false, false_and, or_true, true_or, or_self, or_false, false_or, xlt_t, xlt_f, xle_t, xle_f, xeq_t, xeq_f, xand_f, xor_t]
        · have hx0 : gX K N k = 2 := by
            unfold gX
            rw [if_pos h3, if_neg hkk]
          refine ⟨vup (vup V 430 13 2) 430 14 k, 2, k, ?_, Or.inl ⟨k, by omega, hx, by omega, hx0.symm, rfl⟩, by rw [vup_k (by decide), vup_at], vup_at _ _ _ _, fun q => absurd q (by decide), mFp_t (mFp_v (by omega)) (mFp_v (by omega))⟩
          have e1 := hck.1
          rw [ze_163_29]
          simp (disch := first | omega | assumption | (simp (disch := omega) only [vup_fn, vup_o, vup_k, vup_at]; first | done | omega | assumption)) only [hV, hFF, e1, ze_163_73, ze_163_89, ze_163_109, Int.add_zero, ↓reduceIte, qw_id, zck_T, zck_t, zGor_v, zGor_n, zGor_e, zbs, vup_at, vup_vup, vup_self, vup_o, vup_k, vup_fn, ne_eq, not_true_eq_false, not_false_eq_true, and_true, true_and, and_self, and_false, false_and, or_true, true_or, or_self, or_false, false_or, xlt_t, xlt_f, xle_t, xle_f, xeq_t, xeq_f, xand_f, xor_t]
          rw [ze_163_29]
          by_cases hkn2 : n ≤ k + 1
          · simp (disch := first | omega | assumption | (simp (disch := omega) only [vup_fn, vup_o, vup_k, vup_at]; first | done | omega | assumption)) only [ze_163_115, ze_163_155, hV, Int.add_zero, ↓reduceIte, qw_id, zck_T, zck_t, zGor_v, zGor_n, zGor_e, zbs, vup_at, vup_vup, vup_self, vup_o, vup_k, vup_fn, ne_eq, not_true_eq_false, not_false_eq_true, and_true, true_and, and_self, and_false, false_and, or_true, true_or, or_self, or_false, false_or, xlt_t, xlt_f, xle_t, xle_f, xeq_t, xeq_f, xand_f, xor_t]
          · simp (disch := first | omega | assumption | (simp (disch := omega) only [vup_fn, vup_o, vup_k, vup_at]; first | done | omega | assumption)) only [ze_163_115, ze_163_155, hV, Int.add_zero, ↓reduceIte, qw_id, zck_T, zck_t, zGor_v, zGor_n, zGor_e, zbs, vup_at, vup_vup, vup_self, vup_o, vup_k, vup_fn, ne_eq, not_true_eq_false, not_false_eq_true, and_true, true_and, and_self, and_false, false_and, or_true, true_or, or_self, or_false, false_or, xlt_t, xlt_f, xle_t, xle_f, xeq_t, xeq_f, xand_f, xor_t]
      · have hi := gInv_n hk.1 hx
        have hEE := hE_rng hr hk.1 (by omega)
        have g3 := hg.2.2.1
        have e164 := sp164 (V := V) (J := J) (d := d) (k := k) (w := K k) (m := N k) (D := hD K k) (E := hE K N k) (F := hF K k) (by omega) (by omega) (by omega) hck.1 hck.2 hg.1 hi.1.1 g3 (by have := hi.1; omega) (by have := hi.1; omega)
        have ex : gX K N k = gXf (K k) (N k) (hD K k) (hE K N k) (hF K k) := by
          unfold gX
          rw [if_neg h3]
        rw [← ex] at e164
        have hxr : 0 ≤ gX K N k ∧ gX K N k ≤ 5 := by
          rw [ex]
          unfold gXf
          repeat' split
          all_goals omega
        by_cases hx0 : gX K N k = 0
        · rw [hx0] at e164
          have q := gXf_cs (ex ▸ hx0)
          have hgs := mGr_s (by omega) hi hx0 hg
          have hg1 : mGr (vup (vup V 430 13 0) 430 14 (-1)) K N k := mGr_v hg (by rw [vup_k (by decide), vup_k (by decide)]) ⟨by rw [vup_fn (by decide), vup_fn (by decide)], by rw [vup_fn (by decide), vup_fn (by decide)], by rw [vup_fn (by decide), vup_fn (by decide)], by rw [vup_fn (by decide), vup_fn (by decide)], by rw [vup_fn (by decide), vup_fn (by decide)]⟩
          have hgs := mGr_s (by omega) hi hx0 hg1
          have e165 := sp165 (V := vup (vup V 430 13 0) 430 14 (-1)) (J := J) (d := d) (k := k) (w := K k) (m := N k) (D := hD K k) (by omega) (by omega) (by rw [vup_o (by decide), vup_o (by decide)]; exact hck.1) (by rw [vup_o (by decide), vup_o (by decide)]; exact hck.2) (by rw [vup_k (by decide), vup_k (by decide)]; exact hg.1) hi.1.1 (by have := hi.1; omega) (by
              intro h7
              rw [vup_o (by decide), vup_o (by decide)]
              have := q.2.2.1 h7
              have := hi.1.1
              have h2 := hg.2.1 (hD K k - 1) (by omega) (by omega)
              have := hi.2.1 (hD K k - 1) (by omega) (by omega)
              rw [h2]
              omega) (by
              intro h8
              have := q.2.2.2.2.1 h8
              have := hi.1.1
              omega) (by
              intro h9
              rw [vup_o (by decide), vup_o (by decide)]
              have := q.2.2.2.1 h9
              have := hi.1
              have h2 := hg.2.2.2.2.1 (by omega)
              rw [h2]
              omega)
          generalize hV1 : mFo (vup (vup V 430 13 0) 430 14 (-1)) k (K k) (N k) (hD K k) = V1 at *
          have f1 : mFp V V1 := by
            rw [← hV1]
            exact mFp_t (mFp_t (mFp_v (by omega)) (mFp_v (by omega))) (mFp_mFo _ _ _ _ _)
          obtain ⟨V', F, A, q1, q2, q3, q4, q5, q6⟩ := ih V1 (k + 1) (by omega) (by omega) (by rw [f1.2 10 (by omega), hV]) (by rw [← hV1, mFo_13 _ _ _ _ _ _ (by decide), vup_k (by decide), vup_at]) (by rw [← hV1, mFo_13 _ _ _ _ _ _ (by decide), vup_at]) (by
              intro j j1 j2
              rw [f1.1 433 (by omega), f1.1 435 (by omega)]
              exact hc j j1 j2) (by
              intro j j1 j2
              by_cases hj : j = k
              · rw [hj]; exact hx0
              · exact hx j j1 (by omega)) hgs
          refine ⟨V', F, A, ?_, q2, q3, q4, q5, mFp_t f1 q6⟩
          rw [← q1, ze_163_29]
          simp (disch := first | omega | assumption | (simp (disch := omega) only [vup_fn, vup_o, vup_k, vup_at]; first | done | omega | assumption)) only [hV, hFF, e164, ze_163_73, ze_163_89, e165, ze_163_109, Int.add_zero, ↓reduceIte, qw_id, zck_T, zck_t, zGor_v, zGor_n, zGor_e, zbs, vup_at, vup_vup, vup_self, vup_o, vup_k, vup_fn, ne_eq, not_true_eq_false, not_false_eq_true, and_true, true_and, and_self, and_false, false_and, or_true, true_or, or_self, or_false, false_or, xlt_t, xlt_f, xle_t, xle_f, xeq_t, xeq_f, xand_f, xor_t]
        · refine ⟨vup (vup V 430 13 (gX K N k)) 430 14 k, gX K N k, k, ?_, Or.inl ⟨k, by omega, hx, hx0, rfl, rfl⟩, by rw [vup_k (by decide), vup_at], vup_at _ _ _ _, fun q => absurd q hx0, mFp_t (mFp_v (by omega)) (mFp_v (by omega))⟩
          rw [ze_163_29]
          simp (disch := first | omega | assumption | (simp (disch := omega) only [vup_fn, vup_o, vup_k, vup_at]; first | done | omega | assumption)) only [hV, hFF, e164, ze_163_73, ze_163_89, ze_163_109, Int.add_zero, ↓reduceIte, qw_id, zck_T, zck_t, zGor_v, zGor_n, zGor_e, zbs, vup_at, vup_vup, vup_self, vup_o, vup_k, vup_fn, ne_eq, not_true_eq_false, not_false_eq_true, and_true, true_and, and_self, and_false, false_and, or_true, true_or, or_self, or_false, false_or, xlt_t, xlt_f, xle_t, xle_f, xeq_t, xeq_f, xand_f, xor_t]
          rw [ze_163_29]
          by_cases hkn2 : n ≤ k + 1
          · simp (disch := first | omega | assumption | (simp (disch := omega) only [vup_fn, vup_o, vup_k, vup_at]; first | done | omega | assumption)) only [ze_163_115, ze_163_155, hV, Int.add_zero, ↓reduceIte, qw_id, zck_T, zck_t, zGor_v, zGor_n, zGor_e, zbs, vup_at, vup_vup, vup_self, vup_o, vup_k, vup_fn, ne_eq, not_true_eq_false, not_false_eq_true, and_true, true_and, and_self, and_false, false_and, or_true, true_or, or_self, or_false, false_or, xlt_t, xlt_f, xle_t, xle_f, xeq_t, xeq_f, xand_f, xor_t]
          · simp (disch := first | omega | assumption | (simp (disch := omega) only [vup_fn, vup_o, vup_k, vup_at]; first | done | omega | assumption)) only [ze_163_115, ze_163_155, hV, Int.add_zero, ↓reduceIte, qw_id, zck_T, zck_t, zGor_v, zGor_n, zGor_e, zbs, vup_at, vup_vup, vup_self, vup_o, vup_k, vup_fn, ne_eq, not_true_eq_false, not_false_eq_true, and_true, true_and, and_self, and_false, false_and, or_true, true_or, or_self, or_false, false_or, xlt_t, xlt_f, xle_t, xle_f, xeq_t, xeq_f, xand_f, xor_t]
/-- parsing what was read: b is the error's place or -1 -/
theorem sp163 {V : zVt} {K N : Int → Int} {n b : Int} (hn : 0 ≤ n ∧ n ≤ 60) (hb : -1 ≤ b ∧ b < 1000) (hr : kRng K N n) (hV : V 430 10 = n) (hB : V 430 11 = b) (hc : ∀ j, 0 ≤ j → j < n → V 433 j = K j ∧ V 435 j = N j) :
    ∃ V' F A, zGo false 163 0 [.ref 430, .null] [] (zm V J d) = zN1 V' J d ∧ (b ≠ -1 → F = 1 ∧ A = -1) ∧ (b = -1 → yPs K N n F A) ∧ V' 430 13 = F ∧ V' 430 14 = A ∧ (F = 0 → mGr V' K N n) ∧ mFp V V' := by
  by_cases h : b = -1
  · obtain ⟨V', F, A, q1, q2, q3, q4, q5, q6⟩ := sl163 (J := J) (d := d) hn hr 100 (vup (vup (vup V 430 13 0) 430 14 (-1)) 430 19 0) 0 (by omega) (by omega) (by rw [vup_k (by decide), vup_k (by decide), vup_k (by decide), hV]) (by rw [vup_k (by decide), vup_k (by decide), vup_at]) (by rw [vup_k (by decide), vup_at]) (by
      intro j j1 j2
      simp (disch := decide) only [vup_o]
      exact hc j j1 j2) (by intro j j1 j2; omega) (mGr_0 (by omega) (by omega) (vup_at _ _ _ _))
    refine ⟨V', F, A, ?_, fun q => absurd h q, fun _ => q2, q3, q4, q5, mFp_t (mFp_t (mFp_t (mFp_v (by omega)) (mFp_v (by omega))) (mFp_v (by omega))) q6⟩
    rw [← q1, ze_163_0]
    simp (disch := first | omega | assumption | (simp (disch := omega) only [vup_fn, vup_o, vup_k, vup_at]; first | done | omega | assumption)) only [ze_163_14, hB, Int.add_zero, ↓reduceIte, qw_id, zck_T, zck_t, zGor_v, zGor_n, zGor_e, zbs, vup_at, vup_vup, vup_self, vup_o, vup_k, vup_fn, ne_eq, not_true_eq_false, not_false_eq_true, and_true, true_and, and_self, and_false, false_and, or_true, true_or, or_self, or_false, false_or, xlt_t, xlt_f, xle_t, xle_f, xeq_t, xeq_f, xand_f, xor_t]
  · refine ⟨vup (vup (vup V 430 13 1) 430 14 (-1)) 430 19 0, 1, -1, ?_, fun _ => ⟨rfl, rfl⟩, fun q => absurd q h, by rw [vup_k (by decide), vup_k (by decide), vup_at], by rw [vup_k (by decide), vup_at], fun q => absurd q (by decide), mFp_t (mFp_t (mFp_v (by omega)) (mFp_v (by omega))) (mFp_v (by omega))⟩
    rw [ze_163_0]
    simp (disch := first | omega | assumption | (simp (disch := omega) only [vup_fn, vup_o, vup_k, vup_at]; first | done | omega | assumption)) only [ze_163_14, hB, Int.add_zero, ↓reduceIte, qw_id, zck_T, zck_t, zGor_v, zGor_n, zGor_e, zbs, vup_at, vup_vup, vup_self, vup_o, vup_k, vup_fn, ne_eq, not_true_eq_false, not_false_eq_true, and_true, true_and, and_self, and_false, false_and, or_true, true_or, or_self, or_false, false_or, xlt_t, xlt_f, xle_t, xle_f, xeq_t, xeq_f, xand_f, xor_t]
    rw [ze_163_29]
    by_cases h0 : n ≤ 0
    · simp (disch := first | omega | assumption | (simp (disch := omega) only [vup_fn, vup_o, vup_k, vup_at]; first | done | omega | assumption)) only [ze_163_115, ze_163_155, hV, Int.add_zero, ↓reduceIte, qw_id, zck_T, zck_t, zGor_v, zGor_n, zGor_e, zbs, vup_at, vup_vup, vup_self, vup_o, vup_k, vup_fn, ne_eq, not_true_eq_false, not_false_eq_true, and_true, true_and, and_self, and_false, false_and, or_true, true_or, or_self, or_false, false_or, xlt_t, xlt_f, xle_t, xle_f, xeq_t, xeq_f, xand_f, xor_t]
    · simp (disch := first | omega | assumption | (simp (disch := omega) only [vup_fn, vup_o, vup_k, vup_at]; first | done | omega | assumption)) only [ze_163_115, ze_163_155, hV, Int.add_zero, ↓reduceIte, qw_id, zck_T, zck_t, zGor_v, zGor_n, zGor_e, zbs, vup_at, vup_vup, vup_self, vup_o, vup_k, vup_fn, ne_eq, not_true_eq_false, not_false_eq_true, and_true, true_and, and_self, and_false, false_and, or_true, true_or, or_self, or_false, false_or, xlt_t, xlt_f, xle_t, xle_f, xeq_t, xeq_f, xand_f, xor_t]
end
