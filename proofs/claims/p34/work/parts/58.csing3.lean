/-! part 58: the class's singing: the whole -/
theorem yStep_00 {P S : zVt} {D : Int → Int} {O : Int → Int → Int} (hP : yTok P D O) (h : yInv P D S) (hn : S 0 0 < P 8 0) : 3 ≤ yStep P S 0 0 ∧ yStep P S 0 0 ≤ P 8 0 := by
  have ha := h.1
  have hb := hP.2.2.2.2 (S 0 0) ha.1 hn
  unfold yStep
  split
  · rw [vup_at]; omega
  · split
    · rw [vup_at]; omega
    · split
      · rw [vup_at]; omega
      · split
        · rw [vup_at]; omega
        · split
          · rename_i c7
            have q := hb.2.2.2.2.2.2.1 c7
            have r := hb.2.2.1 (D (S 0 0) - 1) (by omega) (by omega)
            rw [← q.2.2.2.2.1] at r
            split
            · rw [vup_at]; omega
            · rw [vup_at]; omega
          · split
            · rename_i c8
              have q := hb.2.2.2.2.2.2.2.1 c8
              rw [vup_at]
              split <;> omega
            · rw [vup_at]; omega
section
variable {d : Nat → Nat → UInt64} {M : Nat} {P : zVt} {D : Int → Int} {O : Int → Int → Int}
theorem sl68 (hMb : zBk 5 M) (hM : 26 ≤ M) (hP : yTok P D O) {x1 x2 : Nat} (h1 : zBk 10 x1) (h2 : zBk 4 x2) (j : Nat) : ∀ (V : zVt) (J : zJt) (S : zVt) (t : Int), cSg V J M P S → (yInv P D S ∨ S 0 7 ≠ 0) → (3 ≤ S 0 0 ∧ S 0 0 ≤ P 8 0) → (-100 ≤ S 0 7 ∧ S 0 7 ≤ 100) → yDone P (yRun P j S) → 0 ≤ t → t + j ≤ 999999 →
    ∃ V' J' t', zGo false 68 66 [.ref 12, .ref x1, .ref x2, .ref 3, .ref M, .int (zi t)] [] (zm V J d) = zGo false 68 107 [.ref 12, .ref x1, .ref x2, .ref 3, .ref M, .int (zi t')] [] (zm V' J' d) ∧ cSg V' J' M P (yRun P j S) ∧ cFs M V V' ∧ ∀ o, o ≠ M + 1 → J' o = J o := by
  induction j with
  | zero =>
    intro V J S t h hi hs hf hd t0 t1
    have hn := hP.1
    have e7 : V 12 7 = S 0 0 := by
      by_cases h7 : S 0 7 = 0
      · exact (h.2.2.2.2 h7).2.1
      · exact (h.2.2.2.1 h7).2.2
    have hd' : P 8 0 ≤ S 0 0 ∨ S 0 7 ≠ 0 := hd
    refine ⟨V, J, t, ?_, h, cFs_r M V, fun _ _ => rfl⟩
    have e86 := sp86 (V := V) (J := J) (d := d) (x := 13) (k := S 0 0) zBk_13 (by omega) (by rw [h.1.1]; omega)
    rw [h.1.1] at e86
    have em := h.2.1
    by_cases hc : S 0 0 < P 8 0
    · rw [if_pos (by omega)] at e86
      rw [ze_68_66 _ _ _ _ h1 h2 hMb]
      simp (disch := first | omega | assumption | (simp (disch := omega) only [vup_fn, vup_o, vup_k, vup_at]; first | done | omega | assumption)) only [e7, e86, ze_68_84, em, Int.add_zero, ↓reduceIte, qw_id, zck_T, zck_t, zGor_v, zGor_n, zGor_e, zbs, vup_at, vup_vup, vup_self, vup_o, vup_k, vup_fn, ne_eq, not_true_eq_false, not_false_eq_true, and_true, true_and, and_self, and_false, false_and, or_true, true_or, or_self, or_false, false_or, xlt_t, xlt_f, xle_t, xle_f, xeq_t, xeq_f, xand_f, xor_t]
    · rw [if_neg (by omega)] at e86
      rw [ze_68_66 _ _ _ _ h1 h2 hMb]
      simp (disch := first | omega | assumption | (simp (disch := omega) only [vup_fn, vup_o, vup_k, vup_at]; first | done | omega | assumption)) only [e7, e86, ze_68_84, Int.add_zero, ↓reduceIte, qw_id, zck_T, zck_t, zGor_v, zGor_n, zGor_e, zbs, vup_at, vup_vup, vup_self, vup_o, vup_k, vup_fn, ne_eq, not_true_eq_false, not_false_eq_true, and_true, true_and, and_self, and_false, false_and, or_true, true_or, or_self, or_false, false_or, xlt_t, xlt_f, xle_t, xle_f, xeq_t, xeq_f, xand_f, xor_t]
  | succ j ih =>
    intro V J S t h hi hs hf hd t0 t1
    have hn := hP.1
    have e7 : V 12 7 = S 0 0 := by
      by_cases h7 : S 0 7 = 0
      · exact (h.2.2.2.2 h7).2.1
      · exact (h.2.2.2.1 h7).2.2
    have e86 := sp86 (V := V) (J := J) (d := d) (x := 13) (k := S 0 0) zBk_13 (by omega) (by rw [h.1.1]; omega)
    rw [h.1.1] at e86
    have em := h.2.1
    unfold yRun at hd ⊢
    by_cases hc : S 0 0 < P 8 0 ∧ S 0 7 = 0
    · rw [if_pos hc] at hd ⊢
      have hi' : yInv P D S := by
        rcases hi with q | q
        · exact q
        · exact absurd hc.2 q
      obtain ⟨V1, J1, q1, q2, q3, q4⟩ := sn71 (d := d) hMb hM hP h hi' hc.1
      have hs1 := yStep_00 hP hi' hc.1
      have hi1 : yInv P D (yStep P S) ∨ yStep P S 0 7 ≠ 0 := by
        by_cases w : yStep P S 0 7 = 0
        · exact Or.inl (yStep_inv hP hi' hc.1 w).1
        · exact Or.inr w
      have hf1 : -100 ≤ yStep P S 0 7 ∧ yStep P S 0 7 ≤ 100 := by
        have w : ∀ a, (-100 ≤ yNote P S a 0 7 ∧ yNote P S a 0 7 ≤ 100) ∧ (-100 ≤ yRest P S a 0 7 ∧ yRest P S a 0 7 ≤ 100) ∧ (-100 ≤ yBar P S a 0 7 ∧ yBar P S a 0 7 ≤ 100) := by
          intro a
          refine ⟨?_, ?_, ?_⟩
          · unfold yNote
            split
            · rw [yFl_7]; decide
            · split
              · rw [yFl_7]; decide
              · rw [vup_k (by decide), vup_k (by decide), vup_k (by decide)]
                split
                · rw [vup_o (by decide), yFil_0 (by decide)]; exact hf
                · rw [yFil_0 (by decide)]; exact hf
          · unfold yRest
            split
            · rw [yFl_7]; decide
            · split
              · rw [yFl_7]; decide
              · rw [yFil_0 (by decide)]; exact hf
          · unfold yBar
            split
            · rw [yFl_7]; decide
            · split
              · rw [yFl_7]; decide
              · simp (disch := decide) only [vst_o, vup_k]
                exact hf
        unfold yStep
        split
        · rw [vup_k (by decide)]; exact (w _).1
        · split
          · rw [vup_k (by decide)]; exact (w _).2.1
          · split
            · rw [vup_k (by decide)]; exact (w _).2.2
            · split
              · rw [vup_k (by decide), vup_k (by decide), vup_o (by decide)]; exact hf
              · split
                · split
                  · rw [vup_k (by decide), vup_o (by decide)]; exact hf
                  · rw [vup_k (by decide), vup_k (by decide)]; exact hf
                · split
                  · rw [vup_k (by decide)]; exact hf
                  · rw [vup_k (by decide)]; exact hf
      obtain ⟨V', J', t', p1, p2, p3, p4⟩ := ih V1 J1 (yStep P S) (t + 1) q2 hi1 hs1 hf1 hd (by omega) (by omega)
      refine ⟨V', J', t', ?_, p2, cFs_t q3 p3, fun o ho => (p4 o ho).trans (q4 o ho)⟩
      rw [if_pos (by omega)] at e86
      rw [hc.2] at em
      rw [← p1, ze_68_66 _ _ _ _ h1 h2 hMb]
      simp (disch := first | omega | assumption | (simp (disch := omega) only [vup_fn, vup_o, vup_k, vup_at]; first | done | omega | assumption)) only [e7, e86, ze_68_84, em, q1, ze_68_101, Int.add_zero, ↓reduceIte, qw_id, zck_T, zck_t, zGor_v, zGor_n, zGor_e, zbs, vup_at, vup_vup, vup_self, vup_o, vup_k, vup_fn, ne_eq, not_true_eq_false, not_false_eq_true, and_true, true_and, and_self, and_false, false_and, or_true, true_or, or_self, or_false, false_or, xlt_t, xlt_f, xle_t, xle_f, xeq_t, xeq_f, xand_f, xor_t]
    · rw [if_neg hc] at hd ⊢
      refine ⟨V, J, t, ?_, h, cFs_r M V, fun _ _ => rfl⟩
      by_cases hc1 : S 0 0 < P 8 0
      · rw [if_pos (by omega)] at e86
        rw [ze_68_66 _ _ _ _ h1 h2 hMb]
        simp (disch := first | omega | assumption | (simp (disch := omega) only [vup_fn, vup_o, vup_k, vup_at]; first | done | omega | assumption)) only [e7, e86, ze_68_84, em, Int.add_zero, ↓reduceIte, qw_id, zck_T, zck_t, zGor_v, zGor_n, zGor_e, zbs, vup_at, vup_vup, vup_self, vup_o, vup_k, vup_fn, ne_eq, not_true_eq_false, not_false_eq_true, and_true, true_and, and_self, and_false, false_and, or_true, true_or, or_self, or_false, false_or, xlt_t, xlt_f, xle_t, xle_f, xeq_t, xeq_f, xand_f, xor_t]
      · rw [if_neg (by omega)] at e86
        rw [ze_68_66 _ _ _ _ h1 h2 hMb]
        simp (disch := first | omega | assumption | (simp (disch := omega) only [vup_fn, vup_o, vup_k, vup_at]; first | done | omega | assumption)) only [e7, e86, ze_68_84, Int.add_zero, ↓reduceIte, qw_id, zck_T, zck_t, zGor_v, zGor_n, zGor_e, zbs, vup_at, vup_vup, vup_self, vup_o, vup_k, vup_fn, ne_eq, not_true_eq_false, not_false_eq_true, and_true, true_and, and_self, and_false, false_and, or_true, true_or, or_self, or_false, false_or, xlt_t, xlt_f, xle_t, xle_f, xeq_t, xeq_f, xand_f, xor_t]
theorem sn82 {V : zVt} {J : zJt} {S : zVt} (hMb : zBk 5 M) (hM : 26 ≤ M) (hP : yTok P D O) (h : cSg V J M P S) (hi : yInv P D S) :
    ∃ V' J', zGo false 82 0 [.ref 12, .ref M] [] (zm V J d) = zN1 V' J' d ∧ cSg V' J' M P (yFin P S) ∧ cFs M V V' ∧ ∀ o, o ≠ M + 1 → J' o = J o := by
  have h7 : S 0 7 = 0 := hi.2.2.2.2.2.2.2.2.2.2
  obtain ⟨k1, k2, k3, k4, k5, k6, k7, k8, k9, k10, k11⟩ := h.2.2.2.2 h7
  obtain ⟨t0, t1, t2, t3⟩ := h.1
  have hnn := hP.1
  have hmt := hP.2.1
  have hfl := hi.2.2.2.2.1
  have htie := hi.2.2.2.2.2.2.2.2.1
  unfold yFin
  by_cases ht : S 0 4 = -1
  · rw [if_neg (fun q => q ht)]
    by_cases hf : 0 < S 0 2
    · rw [if_pos hf]
      obtain ⟨V', J', q1, q2, q3, q4⟩ := sn79 (d := d) hMb hM hP h hi (t := -1) (pl := V 13 1) (by unfold cPl; rw [if_pos rfl, t1])
      refine ⟨V', J', ?_, q2, q3, q4⟩
      rw [ze_82_0 _ hMb]
      simp (disch := first | omega | assumption | (simp (disch := omega) only [vup_fn, vup_o, vup_k, vup_at]; first | done | omega | assumption)) only [k9, ht, k5, q1, ze_82_35, Int.add_zero, ↓reduceIte, qw_id, zck_T, zck_t, zGor_v, zGor_n, zGor_e, zbs, vup_at, vup_vup, vup_self, vup_o, vup_k, vup_fn, ne_eq, not_true_eq_false, not_false_eq_true, and_true, true_and, and_self, and_false, false_and, or_true, true_or, or_self, or_false, false_or, xlt_t, xlt_f, xle_t, xle_f, xeq_t, xeq_f, xand_f, xor_t]
    · rw [if_neg hf]
      refine ⟨V, J, ?_, h, cFs_r M V, fun _ _ => rfl⟩
      rw [ze_82_0 _ hMb]
      simp (disch := first | omega | assumption | (simp (disch := omega) only [vup_fn, vup_o, vup_k, vup_at]; first | done | omega | assumption)) only [k9, ht, k5, ze_82_35, Int.add_zero, ↓reduceIte, qw_id, zck_T, zck_t, zGor_v, zGor_n, zGor_e, zbs, vup_at, vup_vup, vup_self, vup_o, vup_k, vup_fn, ne_eq, not_true_eq_false, not_false_eq_true, and_true, true_and, and_self, and_false, false_and, or_true, true_or, or_self, or_false, false_or, xlt_t, xlt_f, xle_t, xle_f, xeq_t, xeq_f, xand_f, xor_t]
  · have htr : 3 ≤ S 0 4 ∧ S 0 4 < P 8 0 := by
      rcases htie with q | q
      · exact absurd q ht
      · exact q.1
    have e76 := sp76 (V := V) (J := J) (d := d) (M := M) (t := S 0 4) (n := P 8 0) hMb k9 t0 (by omega)
    rw [if_pos ht]
    refine ⟨cFl V M 9 (V 15 (S 0 4)), J, ?_, ?_, cFs_fl hM _ _ _, fun _ _ => rfl⟩
    · rw [ze_82_0 _ hMb]
      simp (disch := first | omega | assumption | (simp (disch := omega) only [vup_fn, vup_o, vup_k, vup_at]; first | done | omega | assumption)) only [k9, e76, ze_82_13, ze_82_35, Int.add_zero, ↓reduceIte, qw_id, zck_T, zck_t, zGor_v, zGor_n, zGor_e, zbs, vup_at, vup_vup, vup_self, vup_o, vup_k, vup_fn, ne_eq, not_true_eq_false, not_false_eq_true, and_true, true_and, and_self, and_false, false_and, or_true, true_or, or_self, or_false, false_or, xlt_t, xlt_f, xle_t, xle_f, xeq_t, xeq_f, xand_f, xor_t]
    · have := cSg_fl hM h h7 (f := 9) (t := S 0 4) (by decide)
      unfold cPl at this
      rw [if_neg ht] at this
      rw [(t3 (S 0 4) (by omega) (by omega)).2.1]
      exact this
/-- the steps -/
theorem sl70 {V0 : zVt} {J : zJt} {K N : Int → Int} {n : Int} (hn : 0 ≤ n ∧ n ≤ 60) (h13 : V0 13 0 = n) (hr : ∀ k, 0 ≤ k → k < n → V0 14 k = K k ∧ (0 ≤ K k ∧ K k ≤ 9) ∧ (K k = 0 → V0 16 k = N k ∧ -100 ≤ N k ∧ N k ≤ 100)) (j : Nat) : ∀ (V : zVt) (p : Int) (x3 : Value), (0 ≤ p ∧ p ≤ n) → n - p < j → (∀ o, o ≠ 22 → V o = V0 o) → (∀ k, 0 ≤ k → k < p → V 22 k = hL K N (k + 1) + V0 17 k) →
    ∃ V', zGo false 70 4 [.ref 12, .int (zi (hL K N p)), .int (zi p), x3] [] (zm V J d) = zN1 V' J d ∧ (∀ o, o ≠ 22 → V' o = V0 o) ∧ ∀ k, 0 ≤ k → k < n → V' 22 k = hL K N (k + 1) + V0 17 k := by
  induction j with
  | zero => intro V p x3 hp hj; omega
  | succ j ih =>
    intro V p x3 hp hj hf hk
    have e13 : V 13 0 = n := by rw [hf 13 (by decide), h13]
    by_cases hpn : p = n
    · subst hpn
      refine ⟨V, ?_, hf, hk⟩
      rw [ze_70_4]
      simp (disch := first | omega | assumption | (simp (disch := omega) only [vup_fn, vup_o, vup_k, vup_at]; first | done | omega | assumption)) only [e13, Int.add_zero, ↓reduceIte, qw_id, zck_T, zck_t, zGor_v, zGor_n, zGor_e, zbs, vup_at, vup_vup, vup_self, vup_o, vup_k, vup_fn, ne_eq, not_true_eq_false, not_false_eq_true, and_true, true_and, and_self, and_false, false_and, or_true, true_or, or_self, or_false, false_or, xlt_t, xlt_f, xle_t, xle_f, xeq_t, xeq_f, xand_f, xor_t]
    · have r := hr p hp.1 (by omega)
      have e14 : V 14 p = K p := by rw [hf 14 (by decide), r.1]
      have e17 : V 17 p = V0 17 p := by rw [hf 17 (by decide)]
      obtain ⟨V', q1, q2, q3⟩ := ih (vup V 22 p (hL K N (p + 1) + V0 17 p)) (p + 1) (if K p = 0 then .int (zi (N p)) else x3) (by omega) (by omega) (fun o ho => by rw [vup_fn ho, hf o ho]) (by
        intro k k0 k1
        by_cases hkp : k = p
        · rw [hkp, vup_at]
        · rw [vup_k hkp]
          exact hk k k0 (by omega))
      refine ⟨V', ?_, q2, q3⟩
      rw [← q1, ze_70_4]
      have eL := hL_s (K := K) (N := N) hp.1
      by_cases hk0 : K p = 0
      · rw [if_pos hk0] at eL ⊢
        have r3 := r.2.2 hk0
        have e16 : V 16 p = N p := by rw [hf 16 (by decide), r3.1]
        rw [eL]
        unfold yBs
        by_cases n0 : N p = 0
        · simp (disch := first | omega | assumption | (simp (disch := omega) only [vup_fn, vup_o, vup_k, vup_at]; first | done | omega | assumption)) only [e13, e14, hk0, Nat.reduceAdd, e16, n0, ze_70_58, ze_70_59, e17, Int.add_zero, ↓reduceIte, qw_id, zck_T, zck_t, zGor_v, zGor_n, zGor_e, zbs, vup_at, vup_vup, vup_self, vup_o, vup_k, vup_fn, ne_eq, not_true_eq_false, not_false_eq_true, and_true, true_and, and_self, and_false, false_and, or_true, true_or, or_self, or_false, false_or, xlt_t, xlt_f, xle_t, xle_f, xeq_t, xeq_f, xand_f, xor_t]
        · by_cases n1 : N p = 1
          · simp (disch := first | omega | assumption | (simp (disch := omega) only [vup_fn, vup_o, vup_k, vup_at]; first | done | omega | assumption)) only [e13, e14, hk0, Nat.reduceAdd, e16, n1, ze_70_58, ze_70_59, e17, Int.add_zero, ↓reduceIte, qw_id, zck_T, zck_t, zGor_v, zGor_n, zGor_e, zbs, vup_at, vup_vup, vup_self, vup_o, vup_k, vup_fn, ne_eq, not_true_eq_false, not_false_eq_true, and_true, true_and, and_self, and_false, false_and, or_true, true_or, or_self, or_false, false_or, xlt_t, xlt_f, xle_t, xle_f, xeq_t, xeq_f, xand_f, xor_t]
          · simp (disch := first | omega | assumption | (simp (disch := omega) only [vup_fn, vup_o, vup_k, vup_at]; first | done | omega | assumption)) only [e13, e14, hk0, Nat.reduceAdd, e16, ze_70_58, ze_70_59, e17, Int.add_zero, ↓reduceIte, qw_id, zck_T, zck_t, zGor_v, zGor_n, zGor_e, zbs, vup_at, vup_vup, vup_self, vup_o, vup_k, vup_fn, ne_eq, not_true_eq_false, not_false_eq_true, and_true, true_and, and_self, and_false, false_and, or_true, true_or, or_self, or_false, false_or, xlt_t, xlt_f, xle_t, xle_f, xeq_t, xeq_f, xand_f, xor_t]
      · rw [if_neg hk0] at eL ⊢
        rw [eL]
        simp (disch := first | omega | assumption | (simp (disch := omega) only [vup_fn, vup_o, vup_k, vup_at]; first | done | omega | assumption)) only [e13, e14, Nat.reduceAdd, ze_70_59, e17, Int.add_zero, ↓reduceIte, qw_id, zck_T, zck_t, zGor_v, zGor_n, zGor_e, zbs, vup_at, vup_vup, vup_self, vup_o, vup_k, vup_fn, ne_eq, not_true_eq_false, not_false_eq_true, and_true, true_and, and_self, and_false, false_and, or_true, true_or, or_self, or_false, false_or, xlt_t, xlt_f, xle_t, xle_f, xeq_t, xeq_f, xand_f, xor_t]
end
