/-! part 56: the class's singing: the other tokens, and one token -/
theorem yFl_0 {S : zVt} {f t k : Int} (h : k ≠ 7 ∧ k ≠ 8) : yFl S f t 0 k = S 0 k := by
  unfold yFl
  rw [vup_k h.2, vup_k h.1]
theorem yNote_00 (P S : zVt) (a : Int) : yNote P S a 0 0 = S 0 0 := by
  unfold yNote
  split
  · exact yFl_0 (by decide)
  · split
    · exact yFl_0 (by decide)
    · rw [vup_k (by decide), vup_k (by decide), vup_k (by decide)]
      split
      · rw [vup_o (by decide), yFil_0 (by decide)]
      · rw [yFil_0 (by decide)]
theorem yRest_00 (P S : zVt) (a : Int) : yRest P S a 0 0 = S 0 0 := by
  unfold yRest
  split
  · exact yFl_0 (by decide)
  · split
    · exact yFl_0 (by decide)
    · rw [yFil_0 (by decide)]
theorem yBar_00 (P S : zVt) (a : Int) : yBar P S a 0 0 = S 0 0 := by
  unfold yBar
  split
  · exact yFl_0 (by decide)
  · split
    · exact yFl_0 (by decide)
    · simp (disch := decide) only [vst_o, vup_k]
theorem yAdd_in {B H : Int → Int} {nb fl mt r : Int} (h : 0 ≤ r ∧ r < 16) : yAdd B H nb fl mt (16 * nb + r) = if mt - fl ≤ r ∧ r < mt then H (r - (mt - fl)) else 0 := by
  unfold yAdd
  rw [if_pos (by omega), show 16 * nb + r - 16 * nb = r by omega]
theorem yAdd_out {B H : Int → Int} {nb fl mt b r : Int} (hb : b < nb) (h : 0 ≤ r ∧ r < 16) : yAdd B H nb fl mt (16 * b + r) = B (16 * b + r) := by
  unfold yAdd
  rw [if_neg (by omega)]
/-- a change of place, depth or passes -/
theorem cSg_ctl {V W : zVt} {J : zJt} {M : Nat} {P S T : zVt} (h : cSg V J M P S) (hM : 26 ≤ M) (h2 : S 0 7 = 0) (hT : (∀ k, 2 ≤ k → T 0 k = S 0 k) ∧ T 2 = S 2 ∧ T 3 = S 3 ∧ T 4 = S 4) (hW : (∀ o : Nat, o ≠ 12 → o ≠ 25 → W o = V o) ∧ ∀ k, k ≠ 6 → k ≠ 7 → W 12 k = V 12 k) (h7 : W 12 7 = T 0 0) (h6 : W 12 6 = T 0 1) (hp : ∀ i, 0 ≤ i → i < T 0 1 → W 25 (i + 1) = T 1 i) : cSg W J M P T := by
  obtain ⟨k1, k2, k3, k4, k5, k6, k7, k8, k9, k10, k11⟩ := h.2.2.2.2 h2
  refine ⟨cTs_v h.1 (hW.2 8 (by decide) (by decide)) (fun o h1 h2 => hW.1 o (by omega) (by omega)), ?_, ?_, ?_, ?_⟩
  · rw [hW.1 M (by omega) (by omega), hT.1 7 (by decide)]
    exact h.2.1
  · rw [hW.1 M (by omega) (by omega)]
    exact h.2.2.1
  · rw [hT.1 7 (by decide)]
    exact fun q => absurd h2 q
  · intro _
    refine ⟨?_, h7, h6, hp, ?_, ?_, ?_, ?_, ?_, ?_, ?_⟩
    · rw [hW.1 M (by omega) (by omega)]
      exact k1
    · rw [hW.2 4 (by decide) (by decide), hT.1 2 (by decide)]
      exact k5
    · rw [hT.1 2 (by decide), hW.1 24 (by decide) (by decide), hT.2.1]
      exact k6
    · rw [hW.1 23 (by decide) (by decide), hT.2.2.1]
      exact k7
    · rw [hW.1 M (by omega) (by omega), hT.1 3 (by decide)]
      exact k8
    · rw [hW.2 9 (by decide) (by decide), hT.1 4 (by decide)]
      exact k9
    · rw [hW.2 10 (by decide) (by decide), hW.2 11 (by decide) (by decide), hT.1 4 (by decide), hT.1 5 (by decide), hT.1 6 (by decide)]
      exact k10
    · rw [hT.1 3 (by decide), hT.2.2.2]
      exact k11
/-- one place on, whatever happened -/
theorem cSg_at {V : zVt} {J : zJt} {M : Nat} {P S : zVt} (h : cSg V J M P S) (hM : 26 ≤ M) : cSg (vup V 12 7 (V 12 7 + 1)) J M P (vup S 0 0 (S 0 0 + 1)) := by
  by_cases h7 : S 0 7 = 0
  · have k2 := (h.2.2.2.2 h7).2.1
    have k3 := (h.2.2.2.2 h7).2.2.1
    have k4 := (h.2.2.2.2 h7).2.2.2.1
    refine cSg_ctl h hM h7 ⟨fun k hk => vup_k (by omega), vup_fn (by decide), vup_fn (by decide), vup_fn (by decide)⟩ ⟨fun o h1 h2 => vup_fn h1, fun k h1 h2 => vup_k h2⟩ ?_ ?_ ?_
    · rw [vup_at, vup_at, k2]
    · rw [vup_k (by decide), vup_k (by decide)]
      exact k3
    · rw [vup_k (by decide), vup_fn (by decide), vup_fn (by decide)]
      exact k4
  · refine ⟨cTs_v h.1 (vup_k (by decide)) (fun o h1 h2 => vup_fn (by omega)), ?_, ?_, ?_, ?_⟩
    · rw [vup_o (by omega), vup_k (by decide)]
      exact h.2.1
    · rw [vup_o (by omega)]
      exact h.2.2.1
    · rw [vup_k (show (7 : Int) ≠ 0 by decide), vup_k (show (8 : Int) ≠ 0 by decide), vup_at, vup_at]
      simp (disch := omega) only [vup_o]
      intro q
      have := h.2.2.2.1 q
      exact ⟨this.1, this.2.1, by rw [this.2.2]⟩
    · rw [vup_k (by decide)]
      exact fun q => absurd q h7
section
variable {J : zJt} {d : Nat → Nat → UInt64} {M : Nat} {P S : zVt} {D : Int → Int} {O : Int → Int → Int}
theorem sn78 {V : zVt} (hMb : zBk 5 M) (hM : 26 ≤ M) (hP : yTok P D O) (h : cSg V J M P S) (hi : yInv P D S) (hn : S 0 0 < P 8 0) (hk : P 0 (S 0 0) = 4) :
    ∃ V', zGo false 78 0 [.ref 12, .ref M] [] (zm V J d) = zN1 V' J d ∧ cSg V' J M P (yRest P S (S 0 0)) ∧ cFs M V V' := by
  have h7 : S 0 7 = 0 := hi.2.2.2.2.2.2.2.2.2.2
  obtain ⟨k1, k2, k3, k4, k5, k6, k7, k8, k9, k10, k11⟩ := h.2.2.2.2 h7
  obtain ⟨t0, t1, t2, t3⟩ := h.1
  have ha := hi.1
  have hq := (hP.2.2.2.2 (S 0 0) ha.1 hn).2.2.2.2.1 hk
  have hT := t3 (S 0 0) (by omega) hn
  have hfl := hi.2.2.2.2.1
  have htie := hi.2.2.2.2.2.2.2.2.1
  have hmt := hP.2.1
  have hnn := hP.1
  unfold yRest
  by_cases ht : S 0 4 = -1
  · rw [if_neg (fun q => q ht)]
    have e77 := sp77 (V := V) (J := J) (d := d) (M := M) hMb (a := S 0 0) (fl := S 0 2) (c := P 4 (S 0 0)) (mt := P 8 1) (f := 0) (l := 0) k2 (by omega) k5 (hT.2.2.2.2 (Or.inr hk)) h.2.2.1 hfl hmt.2 hq
    by_cases hlong : P 8 1 < S 0 2 + P 4 (S 0 0)
    · rw [if_pos hlong] at e77 ⊢
      refine ⟨cFl V M 7 (V 15 (S 0 0)), ?_, ?_, cFs_fl hM _ _ _⟩
      · rw [ze_78_0 _ hMb]
        simp (disch := first | omega | assumption | (simp (disch := omega) only [vup_fn, vup_o, vup_k, vup_at]; first | done | omega | assumption)) only [k9, ht, e77, ze_78_21, Int.add_zero, ↓reduceIte, qw_id, zck_T, zck_t, zGor_v, zGor_n, zGor_e, zbs, vup_at, vup_vup, vup_self, vup_o, vup_k, vup_fn, ne_eq, not_true_eq_false, not_false_eq_true, and_true, true_and, and_self, and_false, false_and, or_true, true_or, or_self, or_false, false_or, xlt_t, xlt_f, xle_t, xle_f, xeq_t, xeq_f, xand_f, xor_t]
      · have := cSg_fl hM h h7 (f := 7) (t := S 0 0) (by decide)
        unfold cPl at this
        rw [if_neg (by omega)] at this
        rw [hT.2.1]
        exact this
    · rw [if_neg hlong] at e77 ⊢
      refine ⟨_, ?_, cSg_fil (f := 0) (l := 0) hM h hi (c := P 4 (S 0 0)) (by omega), cFs_t (cFs_fi hM _ _ _ _ _) (cFs_v hM (by omega))⟩
      rw [ze_78_0 _ hMb]
      simp (disch := first | omega | assumption | (simp (disch := omega) only [vup_fn, vup_o, vup_k, vup_at]; first | done | omega | assumption)) only [k9, ht, e77, ze_78_21, Int.add_zero, ↓reduceIte, qw_id, zck_T, zck_t, zGor_v, zGor_n, zGor_e, zbs, vup_at, vup_vup, vup_self, vup_o, vup_k, vup_fn, ne_eq, not_true_eq_false, not_false_eq_true, and_true, true_and, and_self, and_false, false_and, or_true, true_or, or_self, or_false, false_or, xlt_t, xlt_f, xle_t, xle_f, xeq_t, xeq_f, xand_f, xor_t]
  · have htr : 3 ≤ S 0 4 ∧ S 0 4 < P 8 0 := by
      rcases htie with q | q
      · exact absurd q ht
      · exact q.1
    have e76 := sp76 (V := V) (J := J) (d := d) (M := M) (t := S 0 4) (n := P 8 0) hMb k9 t0 (by omega)
    rw [if_pos ht]
    refine ⟨cFl V M 9 (V 15 (S 0 4)), ?_, ?_, cFs_fl hM _ _ _⟩
    · rw [ze_78_0 _ hMb]
      simp (disch := first | omega | assumption | (simp (disch := omega) only [vup_fn, vup_o, vup_k, vup_at]; first | done | omega | assumption)) only [k9, e76, ze_78_13, Int.add_zero, ↓reduceIte, qw_id, zck_T, zck_t, zGor_v, zGor_n, zGor_e, zbs, vup_at, vup_vup, vup_self, vup_o, vup_k, vup_fn, ne_eq, not_true_eq_false, not_false_eq_true, and_true, true_and, and_self, and_false, false_and, or_true, true_or, or_self, or_false, false_or, xlt_t, xlt_f, xle_t, xle_f, xeq_t, xeq_f, xand_f, xor_t]
    · have := cSg_fl hM h h7 (f := 9) (t := S 0 4) (by decide)
      unfold cPl at this
      rw [if_neg ht] at this
      rw [(t3 (S 0 4) (by omega) (by omega)).2.1]
      exact this
theorem sn79 {V : zVt} (hMb : zBk 5 M) (hM : 26 ≤ M) (hP : yTok P D O) (h : cSg V J M P S) (hi : yInv P D S) {t pl : Int} (hpl : cPl P t = pl) :
    ∃ V' J', zGo false 79 0 [.ref 12, .ref M, .int (zi pl)] [] (zm V J d) = zN1 V' J' d ∧ cSg V' J' M P (yBar P S t) ∧ cFs M V V' ∧ ∀ o, o ≠ M + 1 → J' o = J o := by
  have h7 : S 0 7 = 0 := hi.2.2.2.2.2.2.2.2.2.2
  obtain ⟨k1, k2, k3, k4, k5, k6, k7, k8, k9, k10, k11⟩ := h.2.2.2.2 h7
  have hfl := hi.2.2.2.2.1
  have hby := hi.2.2.2.2.2.1
  have hnb := hi.2.2.2.2.2.2.2.1
  have hmt := hP.2.1
  have em := h.2.2.1
  unfold yBar
  by_cases hs : S 0 2 = 0 ∨ S 0 2 < P 8 1 ∧ 0 < S 0 3
  · have e34 := sp34 (V := V) (J := J) (d := d) (M := M) (f := 8) (p := pl) hMb
    rw [if_pos hs]
    refine ⟨cFl V M 8 pl, J, ?_, ?_, cFs_fl hM _ _ _, fun _ _ => rfl⟩
    · rw [ze_79_0 _ _ hMb]
      by_cases hs0 : S 0 2 = 0
      · simp (disch := first | omega | assumption | (simp (disch := omega) only [vup_fn, vup_o, vup_k, vup_at]; first | done | omega | assumption)) only [k5, hs0, ze_79_25, e34, ze_79_32, ze_79_80, Int.add_zero, ↓reduceIte, qw_id, zck_T, zck_t, zGor_v, zGor_n, zGor_e, zbs, vup_at, vup_vup, vup_self, vup_o, vup_k, vup_fn, ne_eq, not_true_eq_false, not_false_eq_true, and_true, true_and, and_self, and_false, false_and, or_true, true_or, or_self, or_false, false_or, xlt_t, xlt_f, xle_t, xle_f, xeq_t, xeq_f, xand_f, xor_t]
      · simp (disch := first | omega | assumption | (simp (disch := omega) only [vup_fn, vup_o, vup_k, vup_at]; first | done | omega | assumption)) only [k5, em, k8, ze_79_25, e34, ze_79_32, ze_79_80, Int.add_zero, ↓reduceIte, qw_id, zck_T, zck_t, zGor_v, zGor_n, zGor_e, zbs, vup_at, vup_vup, vup_self, vup_o, vup_k, vup_fn, ne_eq, not_true_eq_false, not_false_eq_true, and_true, true_and, and_self, and_false, false_and, or_true, true_or, or_self, or_false, false_or, xlt_t, xlt_f, xle_t, xle_f, xeq_t, xeq_f, xand_f, xor_t]
    · rw [← hpl]
      exact cSg_fl hM h h7 (by decide)
  · rw [if_neg hs]
    have s0 : zGo false 79 0 [.ref 12, .ref M, .int (zi pl)] [] (zm V J d) = zGo false 79 35 [.ref 12, .ref M, .int (zi pl)] [] (zm V J d) := by
      rw [ze_79_0 _ _ hMb]
      by_cases hs0 : P 8 1 ≤ S 0 2
      · simp (disch := first | omega | assumption | (simp (disch := omega) only [vup_fn, vup_o, vup_k, vup_at]; first | done | omega | assumption)) only [k5, em, k8, Int.add_zero, ↓reduceIte, qw_id, zck_T, zck_t, zGor_v, zGor_n, zGor_e, zbs, vup_at, vup_vup, vup_self, vup_o, vup_k, vup_fn, ne_eq, not_true_eq_false, not_false_eq_true, and_true, true_and, and_self, and_false, false_and, or_true, true_or, or_self, or_false, false_or, xlt_t, xlt_f, xle_t, xle_f, xeq_t, xeq_f, xand_f, xor_t]
      · simp (disch := first | omega | assumption | (simp (disch := omega) only [vup_fn, vup_o, vup_k, vup_at]; first | done | omega | assumption)) only [k5, em, k8, Int.add_zero, ↓reduceIte, qw_id, zck_T, zck_t, zGor_v, zGor_n, zGor_e, zbs, vup_at, vup_vup, vup_self, vup_o, vup_k, vup_fn, ne_eq, not_true_eq_false, not_false_eq_true, and_true, true_and, and_self, and_false, false_and, or_true, true_or, or_self, or_false, false_or, xlt_t, xlt_f, xle_t, xle_f, xeq_t, xeq_f, xand_f, xor_t]
    rw [s0]
    by_cases h40 : 40 ≤ S 0 3
    · rw [if_pos h40]
      have e34 := sp34 (V := V) (J := J) (d := d) (M := M) (f := 10) (p := pl) hMb
      refine ⟨cFl V M 10 pl, J, ?_, ?_, cFs_fl hM _ _ _, fun _ _ => rfl⟩
      · rw [ze_79_35 _ _ hMb]
        simp (disch := first | omega | assumption | (simp (disch := omega) only [vup_fn, vup_o, vup_k, vup_at]; first | done | omega | assumption)) only [k8, e34, ze_79_51, ze_79_80, Int.add_zero, ↓reduceIte, qw_id, zck_T, zck_t, zGor_v, zGor_n, zGor_e, zbs, vup_at, vup_vup, vup_self, vup_o, vup_k, vup_fn, ne_eq, not_true_eq_false, not_false_eq_true, and_true, true_and, and_self, and_false, false_and, or_true, true_or, or_self, or_false, false_or, xlt_t, xlt_f, xle_t, xle_f, xeq_t, xeq_f, xand_f, xor_t]
      · rw [← hpl]
        exact cSg_fl hM h h7 (by decide)
    · rw [if_neg h40]
      obtain ⟨J', q1, q2, q3⟩ := sp35 (V := V) (J := J) (d := d) (M := M) hMb (fl := S 0 2) (mt := P 8 1) (nb := S 0 3) (by omega) hmt.2 (by omega) k8 em (by
        intro t t0 t1
        have := hby t t0 t1
        rw [k6 t t0 t1]
        omega)
      have e236 := sp236 (V := vup (vup V M 2 (S 0 3 + 1)) 12 4 0) (J := J') (d := d)
      have fr : cFs M V (cNs (vup (vup V M 2 (S 0 3 + 1)) 12 4 0) 50) := cFs_t (cFs_t (cFs_v hM (by omega)) (cFs_v hM (by omega))) (cFs_ns hM _ _)
      have rd : ∀ o : Nat, o ≠ 23 → cNs (vup (vup V M 2 (S 0 3 + 1)) 12 4 0) 50 o = vup (vup V M 2 (S 0 3 + 1)) 12 4 0 o := fun o ho => vst_o ho
      refine ⟨cNs (vup (vup V M 2 (S 0 3 + 1)) 12 4 0) 50, J', ?_, ⟨cFs_ts hM fr h.1, ?_, by rw [fr.2.2]; exact em, ?_, ?_⟩, fr, ?_⟩
      · rw [ze_79_35 _ _ hMb]
        simp (disch := first | omega | assumption | (simp (disch := omega) only [vup_fn, vup_o, vup_k, vup_at]; first | done | omega | assumption)) only [k8, k5, q1, ze_79_66, e236, ze_79_80, Int.add_zero, ↓reduceIte, qw_id, zck_T, zck_t, zGor_v, zGor_n, zGor_e, zbs, vup_at, vup_vup, vup_self, vup_o, vup_k, vup_fn, ne_eq, not_true_eq_false, not_false_eq_true, and_true, true_and, and_self, and_false, false_and, or_true, true_or, or_self, or_false, false_or, xlt_t, xlt_f, xle_t, xle_f, xeq_t, xeq_f, xand_f, xor_t]
      · rw [rd M (by omega)]
        simp (disch := omega) only [vup_o, vup_k, vst_o]
        exact h.2.1
      · simp (disch := omega) only [vst_o, vup_k]
        exact fun q => absurd h7 q
      · intro _
        unfold cSc
        rw [rd M (by omega), rd 12 (by omega), rd 24 (by omega), rd 25 (by omega)]
        simp (disch := omega) only [vst_o, vst_at, vup_o, vup_k, vup_at]
        refine ⟨k1, k2, k3, k4, trivial, fun t t0 t1 => by omega, ?_, trivial, k9, k10, ?_⟩
        · intro s s0 s1
          show cNs _ 50 23 s = 9
          unfold cNs
          rw [vst_at]
          exact if_pos (by omega)
        · intro b b0 b1 r r0 r1
          by_cases hb : b = S 0 3
          · subst hb
            have q := q3 r r0 r1
            rw [q.1, q.2, yAdd_in ⟨by omega, by omega⟩, show 16 * S 0 3 + r + 8 = 16 * S 0 3 + (r + 8) by omega, yAdd_in ⟨by omega, by omega⟩]
            unfold cBy
            constructor
            · by_cases hc : P 8 1 - S 0 2 ≤ r ∧ r < P 8 1
              · rw [if_pos hc, if_pos (show P 8 1 - S 0 2 ≤ r ∧ r < P 8 1 - S 0 2 + S 0 2 by omega)]
                exact k6 _ (by omega) (by omega)
              · rw [if_neg hc, if_neg (show ¬(P 8 1 - S 0 2 ≤ r ∧ r < P 8 1 - S 0 2 + S 0 2) by omega)]
            · by_cases hc : P 8 1 - S 0 2 ≤ r + 8 ∧ r + 8 < P 8 1
              · rw [if_pos hc, if_pos (show P 8 1 - S 0 2 ≤ r + 8 ∧ r + 8 < P 8 1 - S 0 2 + S 0 2 by omega)]
                exact k6 _ (by omega) (by omega)
              · rw [if_neg hc, if_neg (show ¬(P 8 1 - S 0 2 ≤ r + 8 ∧ r + 8 < P 8 1 - S 0 2 + S 0 2) by omega)]
          · have q := k11 b b0 (by omega) r r0 r1
            rw [q2 _ _ (by omega), q2 _ _ (by omega), q.1, q.2, yAdd_out (by omega) ⟨by omega, by omega⟩, show 16 * b + r + 8 = 16 * b + (r + 8) by omega, yAdd_out (by omega) ⟨by omega, by omega⟩]
            exact ⟨rfl, rfl⟩
      · intro o ho
        funext k
        exact q2 o k (fun w => ho w.1)
theorem sn71 {V : zVt} (hMb : zBk 5 M) (hM : 26 ≤ M) (hP : yTok P D O) (h : cSg V J M P S) (hi : yInv P D S) (hn : S 0 0 < P 8 0) :
    ∃ V' J', zGo false 71 0 [.ref 12, .ref M] [] (zm V J d) = zN1 V' J' d ∧ cSg V' J' M P (yStep P S) ∧ cFs M V V' ∧ ∀ o, o ≠ M + 1 → J' o = J o := by
  have h7 : S 0 7 = 0 := hi.2.2.2.2.2.2.2.2.2.2
  obtain ⟨k1, k2, k3, k4, k5, k6, k7, k8, k9, k10, k11⟩ := h.2.2.2.2 h7
  obtain ⟨t0, t1, t2, t3⟩ := h.1
  have ha := hi.1
  have hb := hP.2.2.2.2 (S 0 0) ha.1 hn
  have hT := t3 (S 0 0) (by omega) hn
  have hnn := hP.1
  have hd := hi.2.1
  have hd3 := hi.2.2.1
  have hpr := hi.2.2.2.1
  have e14 : V 14 (S 0 0) = P 0 (S 0 0) := hT.1
  unfold yStep
  by_cases c3 : P 0 (S 0 0) = 3
  · rw [if_pos c3]
    obtain ⟨W, q1, q2, q3⟩ := sn72 (d := d) hMb hM hP h hi hn c3
    refine ⟨vup W 12 7 (W 12 7 + 1), J, ?_, ?_, cFs_t q3 (cFs_v hM (by omega)), fun _ _ => rfl⟩
    · rw [ze_71_0 _ hMb]
      simp (disch := first | omega | assumption | (simp (disch := omega) only [vup_fn, vup_o, vup_k, vup_at]; first | done | omega | assumption)) only [k2, e14, c3, Nat.reduceAdd, q1, ze_71_57, ze_71_150, Int.add_zero, ↓reduceIte, qw_id, zck_T, zck_t, zGor_v, zGor_n, zGor_e, zbs, vup_at, vup_vup, vup_self, vup_o, vup_k, vup_fn, ne_eq, not_true_eq_false, not_false_eq_true, and_true, true_and, and_self, and_false, false_and, or_true, true_or, or_self, or_false, false_or, xlt_t, xlt_f, xle_t, xle_f, xeq_t, xeq_f, xand_f, xor_t]
    · have := cSg_at q2 hM
      rwa [yNote_00] at this
  · rw [if_neg c3]
    by_cases c4 : P 0 (S 0 0) = 4
    · rw [if_pos c4]
      obtain ⟨W, q1, q2, q3⟩ := sn78 (d := d) hMb hM hP h hi hn c4
      refine ⟨vup W 12 7 (W 12 7 + 1), J, ?_, ?_, cFs_t q3 (cFs_v hM (by omega)), fun _ _ => rfl⟩
      · rw [ze_71_0 _ hMb]
        simp (disch := first | omega | assumption | (simp (disch := omega) only [vup_fn, vup_o, vup_k, vup_at]; first | done | omega | assumption)) only [k2, e14, c4, Nat.reduceAdd, q1, ze_71_65, ze_71_150, Int.add_zero, ↓reduceIte, qw_id, zck_T, zck_t, zGor_v, zGor_n, zGor_e, zbs, vup_at, vup_vup, vup_self, vup_o, vup_k, vup_fn, ne_eq, not_true_eq_false, not_false_eq_true, and_true, true_and, and_self, and_false, false_and, or_true, true_or, or_self, or_false, false_or, xlt_t, xlt_f, xle_t, xle_f, xeq_t, xeq_f, xand_f, xor_t]
      · have := cSg_at q2 hM
        rwa [yRest_00] at this
    · rw [if_neg c4]
      by_cases c5 : P 0 (S 0 0) = 5
      · rw [if_pos c5]
        obtain ⟨W, J', q1, q2, q3, q4⟩ := sn79 (d := d) hMb hM hP h hi (t := S 0 0) (pl := V 15 (S 0 0)) (by unfold cPl; rw [if_neg (by omega), hT.2.1])
        refine ⟨vup W 12 7 (W 12 7 + 1), J', ?_, ?_, cFs_t q3 (cFs_v hM (by omega)), q4⟩
        · rw [ze_71_0 _ hMb]
          simp (disch := first | omega | assumption | (simp (disch := omega) only [vup_fn, vup_o, vup_k, vup_at]; first | done | omega | assumption)) only [k2, e14, c5, Nat.reduceAdd, q1, ze_71_85, ze_71_150, Int.add_zero, ↓reduceIte, qw_id, zck_T, zck_t, zGor_v, zGor_n, zGor_e, zbs, vup_at, vup_vup, vup_self, vup_o, vup_k, vup_fn, ne_eq, not_true_eq_false, not_false_eq_true, and_true, true_and, and_self, and_false, false_and, or_true, true_or, or_self, or_false, false_or, xlt_t, xlt_f, xle_t, xle_f, xeq_t, xeq_f, xand_f, xor_t]
        · have := cSg_at q2 hM
          rwa [yBar_00] at this
      · rw [if_neg c5]
        by_cases c6 : P 0 (S 0 0) = 6
        · rw [if_pos c6]
          have q6 := hb.2.2.2.2.2.1 c6
          refine ⟨vup (vup (vup V 12 6 (S 0 1 + 1)) 25 (S 0 1 + 1) 1) 12 7 (S 0 0 + 1), J, ?_, ?_, cFs_t (cFs_t (cFs_v hM (by omega)) (cFs_v hM (by omega))) (cFs_v hM (by omega)), fun _ _ => rfl⟩
          · rw [ze_71_0 _ hMb]
            simp (disch := first | omega | assumption | (simp (disch := omega) only [vup_fn, vup_o, vup_k, vup_at]; first | done | omega | assumption)) only [k2, e14, c6, Nat.reduceAdd, ze_80_0, k3, ze_80_28, ze_71_92, ze_71_150, Int.add_zero, ↓reduceIte, qw_id, zck_T, zck_t, zGor_v, zGor_n, zGor_e, zbs, vup_at, vup_vup, vup_self, vup_o, vup_k, vup_fn, ne_eq, not_true_eq_false, not_false_eq_true, and_true, true_and, and_self, and_false, false_and, or_true, true_or, or_self, or_false, false_or, xlt_t, xlt_f, xle_t, xle_f, xeq_t, xeq_f, xand_f, xor_t]
          · refine cSg_ctl h hM h7 ⟨fun k hk => by rw [vup_k (by omega), vup_k (by omega), vup_o (by decide)], by simp (disch := decide) only [vup_fn], by simp (disch := decide) only [vup_fn], by simp (disch := decide) only [vup_fn]⟩ ⟨fun o h1 h2 => by simp (disch := omega) only [vup_fn], fun k h1 h2 => by rw [vup_k h2, vup_o (by decide), vup_k h1]⟩ ?_ ?_ ?_
            · rw [vup_at, vup_at]
            · rw [vup_k (by decide), vup_o (by decide), vup_at, vup_k (by decide), vup_at]
            · rw [vup_k (by decide), vup_at]
              intro i i0 i1
              rw [vup_o (show (25 : Nat) ≠ 12 by decide), vup_o (show (1 : Nat) ≠ 0 by decide), vup_o (show (1 : Nat) ≠ 0 by decide)]
              by_cases hii : i = S 0 1
              · rw [hii, vup_at, vup_at]
              · rw [vup_k (by omega), vup_k hii, vup_o (by decide)]
                exact k4 i i0 (by omega)
        · rw [if_neg c6]
          by_cases c7 : P 0 (S 0 0) = 7
          · rw [if_pos c7]
            have q7 := hb.2.2.2.2.2.2.1 c7
            have hT7 := hT.2.2.1 (Or.inl c7)
            have hp := k4 (S 0 1 - 1) (by omega) (by omega)
            rw [show S 0 1 - 1 + 1 = S 0 1 by omega] at hp
            have hpr' := hpr (S 0 1 - 1) (by omega) (by omega)
            have hm := hb.2.2.1 (D (S 0 0) - 1) (by omega) (by omega)
            rw [← q7.2.2.2.2.1] at hm
            by_cases hlt : S 1 (S 0 1 - 1) < P 1 (S 0 0)
            · rw [if_pos hlt]
              refine ⟨vup (vup V 25 (S 0 1) (S 1 (S 0 1 - 1) + 1)) 12 7 (P 6 (S 0 0) + 1), J, ?_, ?_, cFs_t (cFs_v hM (by omega)) (cFs_v hM (by omega)), fun _ _ => rfl⟩
              · rw [ze_71_0 _ hMb]
                simp (disch := first | omega | assumption | (simp (disch := omega) only [vup_fn, vup_o, vup_k, vup_at]; first | done | omega | assumption)) only [k2, e14, c7, Nat.reduceAdd, ze_81_0, k3, hT7.1, hT7.2, hp, ze_81_82, ze_71_99, Int.add_zero, ↓reduceIte, qw_id, zck_T, zck_t, zGor_v, zGor_n, zGor_e, zbs, vup_at, vup_vup, vup_self, vup_o, vup_k, vup_fn, ne_eq, not_true_eq_false, not_false_eq_true, and_true, true_and, and_self, and_false, false_and, or_true, true_or, or_self, or_false, false_or, xlt_t, xlt_f, xle_t, xle_f, xeq_t, xeq_f, xand_f, xor_t]
              · refine cSg_ctl h hM h7 ⟨fun k hk => by rw [vup_k (by omega), vup_o (by decide)], by simp (disch := decide) only [vup_fn], by simp (disch := decide) only [vup_fn], by simp (disch := decide) only [vup_fn]⟩ ⟨fun o h1 h2 => by simp (disch := omega) only [vup_fn], fun k h1 h2 => by rw [vup_k h2, vup_o (by decide)]⟩ ?_ ?_ ?_
                · rw [vup_at, vup_at]
                · rw [vup_k (by decide), vup_o (by decide), vup_k (by decide), vup_o (by decide)]
                  exact k3
                · rw [vup_k (by decide), vup_o (by decide)]
                  intro i i0 i1
                  rw [vup_o (show (25 : Nat) ≠ 12 by decide), vup_o (show (1 : Nat) ≠ 0 by decide)]
                  by_cases hii : i = S 0 1 - 1
                  · rw [hii, vup_at, show S 0 1 - 1 + 1 = S 0 1 by omega, vup_at]
                  · rw [vup_k (by omega), vup_k hii]
                    exact k4 i i0 i1
            · rw [if_neg hlt]
              refine ⟨vup (vup V 12 6 (S 0 1 - 1)) 12 7 (S 0 0 + 1), J, ?_, ?_, cFs_t (cFs_v hM (by omega)) (cFs_v hM (by omega)), fun _ _ => rfl⟩
              · rw [ze_71_0 _ hMb]
                by_cases h1 : S 0 1 = 1
                · have e0 : S 0 1 - 1 = 0 := by omega
                  rw [e0] at hp hlt hpr' ⊢
                  simp (disch := first | omega | assumption | (simp (disch := omega) only [vup_fn, vup_o, vup_k, vup_at]; first | done | omega | assumption)) only [k2, e14, c7, Nat.reduceAdd, ze_81_0, k3, hT7.1, hp, ze_231_0, ze_231_10, ze_81_69, ze_81_82, ze_71_99, e0, Int.add_zero, ↓reduceIte, qw_id, zck_T, zck_t, zGor_v, zGor_n, zGor_e, zbs, vup_at, vup_vup, vup_self, vup_o, vup_k, vup_fn, ne_eq, not_true_eq_false, not_false_eq_true, and_true, true_and, and_self, and_false, false_and, or_true, true_or, or_self, or_false, false_or, xlt_t, xlt_f, xle_t, xle_f, xeq_t, xeq_f, xand_f, xor_t]
                · simp (disch := first | omega | assumption | (simp (disch := omega) only [vup_fn, vup_o, vup_k, vup_at]; first | done | omega | assumption)) only [k2, e14, c7, Nat.reduceAdd, ze_81_0, k3, hT7.1, hp, ze_231_0, ze_231_10, ze_81_69, ze_81_82, ze_71_99, Int.add_zero, ↓reduceIte, qw_id, zck_T, zck_t, zGor_v, zGor_n, zGor_e, zbs, vup_at, vup_vup, vup_self, vup_o, vup_k, vup_fn, ne_eq, not_true_eq_false, not_false_eq_true, and_true, true_and, and_self, and_false, false_and, or_true, true_or, or_self, or_false, false_or, xlt_t, xlt_f, xle_t, xle_f, xeq_t, xeq_f, xand_f, xor_t]
              · refine cSg_ctl h hM h7 ⟨fun k hk => by rw [vup_k (by omega), vup_k (by omega)], by simp (disch := decide) only [vup_fn], by simp (disch := decide) only [vup_fn], by simp (disch := decide) only [vup_fn]⟩ ⟨fun o h1 h2 => by simp (disch := omega) only [vup_fn], fun k h1 h2 => by rw [vup_k h2, vup_k h1]⟩ ?_ ?_ ?_
                · rw [vup_at, vup_at]
                · rw [vup_k (by decide), vup_at, vup_k (by decide), vup_at]
                · rw [vup_k (by decide), vup_at, vup_fn (by decide), vup_fn (by decide), vup_fn (by decide), vup_fn (by decide)]
                  intro i i0 i1
                  exact k4 i i0 (by omega)
          · rw [if_neg c7]
            by_cases c8 : P 0 (S 0 0) = 8
            · rw [if_pos c8]
              have q8 := hb.2.2.2.2.2.2.2.1 c8
              have hT8 := hT.2.2.1 (Or.inr c8)
              have hp := k4 (S 0 1 - 1) (by omega) (by omega)
              rw [show S 0 1 - 1 + 1 = S 0 1 by omega] at hp
              have hpr' := hpr (S 0 1 - 1) (by omega) (by omega)
              have fin : ∀ z, cSg (vup V 12 7 z) J M P (vup S 0 0 z) := by
                intro z
                refine cSg_ctl h hM h7 ⟨fun k hk => vup_k (by omega), vup_fn (by decide), vup_fn (by decide), vup_fn (by decide)⟩ ⟨fun o h1 h2 => vup_fn h1, fun k h1 h2 => vup_k h2⟩ ?_ ?_ ?_
                · rw [vup_at, vup_at]
                · rw [vup_k (by decide), vup_k (by decide)]
                  exact k3
                · rw [vup_k (by decide), vup_fn (by decide), vup_fn (by decide)]
                  exact k4
              by_cases heq : P 1 (S 0 0) = S 1 (S 0 1 - 1)
              · rw [if_pos heq]
                refine ⟨_, J, ?_, fin _, cFs_v hM (by omega), fun _ _ => rfl⟩
                rw [ze_71_0 _ hMb]
                simp (disch := first | omega | assumption | (simp (disch := omega) only [vup_fn, vup_o, vup_k, vup_at]; first | done | omega | assumption)) only [k2, e14, c8, Nat.reduceAdd, k3, hT8.1, hp, heq, ze_71_144, ze_71_150, Int.add_zero, ↓reduceIte, qw_id, zck_T, zck_t, zGor_v, zGor_n, zGor_e, zbs, vup_at, vup_vup, vup_self, vup_o, vup_k, vup_fn, ne_eq, not_true_eq_false, not_false_eq_true, and_true, true_and, and_self, and_false, false_and, or_true, true_or, or_self, or_false, false_or, xlt_t, xlt_f, xle_t, xle_f, xeq_t, xeq_f, xand_f, xor_t]
              · rw [if_neg heq]
                refine ⟨_, J, ?_, fin _, cFs_v hM (by omega), fun _ _ => rfl⟩
                rw [ze_71_0 _ hMb]
                simp (disch := first | omega | assumption | (simp (disch := omega) only [vup_fn, vup_o, vup_k, vup_at]; first | done | omega | assumption)) only [k2, e14, c8, Nat.reduceAdd, k3, hT8.1, hT8.2, hp, ze_71_144, ze_71_150, Int.add_zero, ↓reduceIte, qw_id, zck_T, zck_t, zGor_v, zGor_n, zGor_e, zbs, vup_at, vup_vup, vup_self, vup_o, vup_k, vup_fn, ne_eq, not_true_eq_false, not_false_eq_true, and_true, true_and, and_self, and_false, false_and, or_true, true_or, or_self, or_false, false_or, xlt_t, xlt_f, xle_t, xle_f, xeq_t, xeq_f, xand_f, xor_t]
            · rw [if_neg c8]
              refine ⟨vup V 12 7 (V 12 7 + 1), J, ?_, cSg_at h hM, cFs_v hM (by omega), fun _ _ => rfl⟩
              rw [ze_71_0 _ hMb]
              simp (disch := first | omega | assumption | (simp (disch := omega) only [vup_fn, vup_o, vup_k, vup_at]; first | done | omega | assumption)) only [k2, e14, Nat.reduceAdd, ze_71_150, Int.add_zero, ↓reduceIte, qw_id, zck_T, zck_t, zGor_v, zGor_n, zGor_e, zbs, vup_at, vup_vup, vup_self, vup_o, vup_k, vup_fn, ne_eq, not_true_eq_false, not_false_eq_true, and_true, true_and, and_self, and_false, false_and, or_true, true_or, or_self, or_false, false_or, xlt_t, xlt_f, xle_t, xle_f, xeq_t, xeq_f, xand_f, xor_t]
end
