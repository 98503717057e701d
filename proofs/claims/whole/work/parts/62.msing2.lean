/-! part 62: the reference's singing: bars, places, the loop -/
section
variable {J : zJt} {d : Nat → Nat → UInt64} {s : Int} {P S : zVt} {D : Int → Int} {O : Int → Int → Int}
/-- a bar that goes in -/
theorem sm176 {W : zVt} (hs : 0 ≤ s ∧ s < 5) (hP : yTok P D O) (h : mSg W J s P O S) (hi : yInv P D S) {t : Int} (hfl0 : 0 < S 0 2) (hn : S 0 3 < 40) :
    ∃ W' J', zGo false 176 0 [.ref 430, .int (zi s), .int (zi t), .null, .null, .null, .null, .null, .null, .null, .null, .null] [] (zm W J d) = zN1 W' J' d ∧ mSg (mNs W' 64) J' s P O (vst (vst (vup (vup S 0 3 (S 0 3 + 1)) 0 2 0) 3 (fun _ => 9)) 4 (yAdd (S 4) (S 2) (S 0 3) (S 0 2) (P 8 1))) ∧ mFt s W J W' J' ∧ W' 430 13 = 0 := by
  have h7 : S 0 7 = 0 := hi.2.2.2.2.2.2.2.2.2.2
  obtain ⟨k1, k2, k3, k4, k5, k6, k8, k9, k10⟩ := h.2.2.2 h7
  have hfl := hi.2.2.2.2.1
  have hby := hi.2.2.2.2.2.1
  have hnb := hi.2.2.2.2.2.2.2.1
  have hmt := hP.2.1
  obtain ⟨J', q1, l, u, q2, q3⟩ := sp176 (V := W) (J := J) (d := d) (s := s) (w := t) (mt := P 8 1) (fl := S 0 2) (nb := S 0 3) hs h.1.2.2.1 k3 k6 (by omega) hmt.2 (by omega) (B := fun r => if P 8 1 - S 0 2 ≤ r ∧ r < P 8 1 then S 2 (r - (P 8 1 - S 0 2)) else 0) (by
    intro r r0 r1
    refine ⟨?_, ?_, ?_⟩
    · show yByte (if _ then _ else _)
      split
      · exact hby _ (by omega) (by omega)
      · exact Or.inl rfl
    · intro w
      exact if_neg (by omega)
    · intro w
      exact if_neg (by omega)) (by
    intro r r0 r1
    have w := k4 (r - (P 8 1 - S 0 2)) (by omega) (by omega)
    show _ = yPi (if _ then _ else _) ∧ _ = yBg (if _ then _ else _)
    rw [if_pos ⟨r0, r1⟩]
    exact w)
  have fr : mFt s W J (vup (vup (vup W 453 (40 * s + S 0 3) (yHr (fun t => yBg ((fun r => if P 8 1 - S 0 2 ≤ r ∧ r < P 8 1 then S 2 (r - (P 8 1 - S 0 2)) else 0) t)) 16)) 430 25 (S 0 3 + 1)) 430 24 0) J' := by
    have f1 : mFt s W J (vup (vup (vup W 453 (40 * s + S 0 3) (yHr (fun t => yBg ((fun r => if P 8 1 - S 0 2 ≤ r ∧ r < P 8 1 then S 2 (r - (P 8 1 - S 0 2)) else 0) t)) 16)) 430 25 (S 0 3 + 1)) 430 24 0) J := mFt_t (mFt_t (mFt_v (by omega)) (mFt_v (by omega))) (mFt_v (by omega))
    refine ⟨f1.1, f1.2.1, f1.2.2.1, ?_, ?_⟩
    · intro o o1 o2
      rw [q2, jup_fn o2, jup_fn o1]
    · intro j hj
      rw [q2]
      refine ⟨?_, ?_⟩
      · rw [jup_o (by decide), jup_k (by omega)]
      · rw [jup_k (by omega), jup_o (by decide)]
  refine ⟨_, J', q1, ?_, fr, ?_⟩
  · refine ⟨mFt_ts (mFt_ns (s := s) (J := J') (p := 64)) (mFt_ts fr h.1), ?_, ?_, ?_⟩
    · unfold mNs
      simp (disch := decide) only [vst_o, vup_o, vup_k]
      exact h.2.1
    · simp (disch := decide) only [vst_o, vup_k]
      exact fun q => absurd h7 q
    · intro _
      have rd : ∀ o : Nat, o ≠ 447 → mNs (vup (vup (vup W 453 (40 * s + S 0 3) (yHr (fun t => yBg ((fun r => if P 8 1 - S 0 2 ≤ r ∧ r < P 8 1 then S 2 (r - (P 8 1 - S 0 2)) else 0) t)) 16)) 430 25 (S 0 3 + 1)) 430 24 0) 64 o = vup (vup (vup W 453 (40 * s + S 0 3) (yHr (fun t => yBg ((fun r => if P 8 1 - S 0 2 ≤ r ∧ r < P 8 1 then S 2 (r - (P 8 1 - S 0 2)) else 0) t)) 16)) 430 25 (S 0 3 + 1)) 430 24 0 o := fun o ho => vst_o ho
      unfold mSc mBar
      rw [rd 430 (by decide), rd 441 (by decide), rd 442 (by decide), rd 445 (by decide), rd 446 (by decide), rd 453 (by decide)]
      simp (disch := decide) only [vst_o, vst_at, vup_o, vup_k, vup_at]
      refine ⟨k1, k2, trivial, fun t t0 t1 => by omega, ?_, trivial, k8, k9, ?_⟩
      · intro j j0 j1
        unfold mNs
        rw [vst_at]
        exact if_pos (by omega)
      · intro b b0 b1
        by_cases hb : b = S 0 3
        · subst hb
          refine ⟨?_, ?_⟩
          · intro r r0 r1
            have w := q3 r r0 r1
            rw [q2, jup_o (by decide), jup_at, jup_at, w.1, w.2]
            show yMb (if _ then _ else _) = yMb (yAdd _ _ _ _ _ (16 * S 0 3 + r)) ∧ yMb (if _ then _ else _) = yMb (yAdd _ _ _ _ _ (16 * S 0 3 + (r + 8)))
            rw [yAdd_in ⟨by omega, by omega⟩, yAdd_in ⟨by omega, by omega⟩]
            exact ⟨rfl, rfl⟩
          · rw [vup_at]
            refine yHr_cong 16 (by decide) ?_
            intro r r0 r1
            show yBg (if _ then _ else _) = yBg (yAdd _ _ _ _ _ (16 * S 0 3 + r))
            rw [yAdd_in ⟨r0, r1⟩]
        · have w := k10 b b0 (by omega)
          refine ⟨?_, ?_⟩
          · intro r r0 r1
            have w1 := w.1 r r0 r1
            rw [q2, jup_o (by decide), jup_k (by omega), jup_k (by omega), jup_o (by decide), w1.1, w1.2]
            show yMb (S 4 (16 * b + r)) = yMb (yAdd _ _ _ _ _ (16 * b + r)) ∧ yMb (S 4 (16 * b + (r + 8))) = yMb (yAdd _ _ _ _ _ (16 * b + (r + 8)))
            rw [yAdd_out (by omega) ⟨by omega, by omega⟩, yAdd_out (by omega) ⟨by omega, by omega⟩]
            exact ⟨rfl, rfl⟩
          · rw [vup_k (by omega), w.2]
            refine yHr_cong 16 (by decide) ?_
            intro r r0 r1
            show yBg (S 4 (16 * b + r)) = yBg (yAdd _ _ _ _ _ (16 * b + r))
            rw [yAdd_out (by omega) ⟨r0, r1⟩]
  · rw [vup_k (by decide), vup_k (by decide), vup_o (by decide), h.2.1, h7]
/-- a bar ended: with what a bar forgets, or at the end of the text without -/
theorem sm176b {W : zVt} (hs : 0 ≤ s ∧ s < 5) (hP : yTok P D O) (h : mSg W J s P O S) (hi : yInv P D S) {t : Int} (hfl0 : 0 < S 0 2) (hc : ¬(S 0 2 = 0 ∨ S 0 2 < P 8 1 ∧ 0 < S 0 3)) :
    ∃ W' J', zGo false 176 0 [.ref 430, .int (zi s), .int (zi t), .null, .null, .null, .null, .null, .null, .null, .null, .null] [] (zm W J d) = zN1 W' J' d ∧ mSg (mNs W' 64) J' s P O (yBar P S t) ∧ mFt s W J W' J' ∧ W' 430 13 = yBar P S t 0 7 := by
  have h7 : S 0 7 = 0 := hi.2.2.2.2.2.2.2.2.2.2
  obtain ⟨k1, k2, k3, k4, k5, k6, k8, k9, k10⟩ := h.2.2.2 h7
  have hnb := hi.2.2.2.2.2.2.2.1
  unfold yBar
  rw [if_neg hc]
  by_cases h40 : 40 ≤ S 0 3
  · have e40 : W 430 25 = 40 := by rw [k6]; omega
    have e173 := sp173 (V := W) (J := J) (d := d) (f := 10) (t := t) (by rw [h.2.1, h7])
    rw [if_pos h40]
    refine ⟨vup (vup W 430 13 10) 430 14 t, J, ?_, ?_, mFt_t (mFt_v (by omega)) (mFt_v (by omega)), ?_⟩
    · rw [ze_176_0]
      simp (disch := first | omega | assumption | (simp (disch := omega) only [vup_fn, vup_o, vup_k, vup_at]; first | done | omega | assumption)) only [e40, e173, ze_176_26, Int.add_zero, ↓reduceIte, qw_id, zck_T, zck_t, zGor_v, zGor_n, zGor_e, zbs, vup_at, vup_vup, vup_self, vup_o, vup_k, vup_fn, ne_eq, not_true_eq_false, not_false_eq_true, and_true, true_and, and_self, and_false, false_and, or_true, true_or, or_self, or_false, false_or, xlt_t, xlt_f, xle_t, xle_f, xeq_t, xeq_f, xand_f, xor_t]
    · exact mSg_after (mSg_fl h (f := 10) (t := t) (by decide)) (by rw [yFl_7]; decide) mFt_ns (by unfold mNs; rw [vst_o (by decide)]) (by unfold mNs; rw [vst_o (by decide)])
    · rw [vup_k (by decide), vup_at, yFl_7]
  · rw [if_neg h40]
    obtain ⟨W', J', q1, q2, q3, q4⟩ := sm176 (d := d) (t := t) hs hP h hi hfl0 (by omega)
    refine ⟨W', J', q1, q2, q3, ?_⟩
    rw [q4]
    simp (disch := decide) only [vst_o, vup_k]
    exact h7.symm
theorem sm175 {W : zVt} (hs : 0 ≤ s ∧ s < 5) (hP : yTok P D O) (h : mSg W J s P O S) (hi : yInv P D S) {t : Int} :
    ∃ W' J', zGo false 175 0 [.ref 430, .int (zi s), .int (zi t)] [] (zm W J d) = zN1 W' J' d ∧ mSg W' J' s P O (yBar P S t) ∧ mFt s W J W' J' := by
  have h7 : S 0 7 = 0 := hi.2.2.2.2.2.2.2.2.2.2
  obtain ⟨k1, k2, k3, k4, k5, k6, k8, k9, k10⟩ := h.2.2.2 h7
  have hfl := hi.2.2.2.2.1
  have hnb := hi.2.2.2.2.2.2.2.1
  have hmt := hP.2.1
  have e23 := h.1.2.2.1
  by_cases hc : S 0 2 = 0 ∨ S 0 2 < P 8 1 ∧ 0 < S 0 3
  · have e173 := sp173 (V := W) (J := J) (d := d) (f := 8) (t := t) (by rw [h.2.1, h7])
    have e168 := sp168 (V := vup (vup W 430 13 8) 430 14 t) (J := J) (d := d)
    unfold yBar
    rw [if_pos hc]
    refine ⟨mNs (vup (vup W 430 13 8) 430 14 t) 64, J, ?_, ?_, mFt_t (mFt_t (mFt_v (by omega)) (mFt_v (by omega))) mFt_ns⟩
    · rw [ze_175_0]
      by_cases hn0 : S 0 3 = 0
      · simp (disch := first | omega | assumption | (simp (disch := omega) only [vup_fn, vup_o, vup_k, vup_at]; first | done | omega | assumption)) only [k3, e23, k6, hn0, ze_175_34, e173, ze_175_41, e168, ze_175_45, Int.add_zero, ↓reduceIte, qw_id, zck_T, zck_t, zGor_v, zGor_n, zGor_e, zbs, vup_at, vup_vup, vup_self, vup_o, vup_k, vup_fn, ne_eq, not_true_eq_false, not_false_eq_true, and_true, true_and, and_self, and_false, false_and, or_true, true_or, or_self, or_false, false_or, xlt_t, xlt_f, xle_t, xle_f, xeq_t, xeq_f, xand_f, xor_t]
      · simp (disch := first | omega | assumption | (simp (disch := omega) only [vup_fn, vup_o, vup_k, vup_at]; first | done | omega | assumption)) only [k3, e23, k6, ze_175_34, e173, ze_175_41, e168, ze_175_45, Int.add_zero, ↓reduceIte, qw_id, zck_T, zck_t, zGor_v, zGor_n, zGor_e, zbs, vup_at, vup_vup, vup_self, vup_o, vup_k, vup_fn, ne_eq, not_true_eq_false, not_false_eq_true, and_true, true_and, and_self, and_false, false_and, or_true, true_or, or_self, or_false, false_or, xlt_t, xlt_f, xle_t, xle_f, xeq_t, xeq_f, xand_f, xor_t]
    · exact mSg_after (mSg_fl h (f := 8) (t := t) (by decide)) (by rw [yFl_7]; decide) mFt_ns (by unfold mNs; rw [vst_o (by decide)]) (by unfold mNs; rw [vst_o (by decide)])
  · obtain ⟨W', J', q1, q2, q3, q4⟩ := sm176b (d := d) (t := t) hs hP h hi (by omega) hc
    have e168 := sp168 (V := W') (J := J') (d := d)
    refine ⟨mNs W' 64, J', ?_, q2, mFt_t q3 mFt_ns⟩
    rw [ze_175_0]
    by_cases hm : S 0 2 = P 8 1
    · simp (disch := first | omega | assumption | (simp (disch := omega) only [vup_fn, vup_o, vup_k, vup_at]; first | done | omega | assumption)) only [k3, e23, hm, ze_175_25, q1, ze_175_31, ze_175_41, e168, ze_175_45, Int.add_zero, ↓reduceIte, qw_id, zck_T, zck_t, zGor_v, zGor_n, zGor_e, zbs, vup_at, vup_vup, vup_self, vup_o, vup_k, vup_fn, ne_eq, not_true_eq_false, not_false_eq_true, and_true, true_and, and_self, and_false, false_and, or_true, true_or, or_self, or_false, false_or, xlt_t, xlt_f, xle_t, xle_f, xeq_t, xeq_f, xand_f, xor_t]
    · have hn0 : S 0 3 = 0 := by omega
      simp (disch := first | omega | assumption | (simp (disch := omega) only [vup_fn, vup_o, vup_k, vup_at]; first | done | omega | assumption)) only [k3, e23, k6, hn0, ze_175_25, q1, ze_175_31, ze_175_41, e168, ze_175_45, Int.add_zero, ↓reduceIte, qw_id, zck_T, zck_t, zGor_v, zGor_n, zGor_e, zbs, vup_at, vup_vup, vup_self, vup_o, vup_k, vup_fn, ne_eq, not_true_eq_false, not_false_eq_true, and_true, true_and, and_self, and_false, false_and, or_true, true_or, or_self, or_false, false_or, xlt_t, xlt_f, xle_t, xle_f, xeq_t, xeq_f, xand_f, xor_t]
/-- one place on, whatever happened -/
theorem mSg_on {W : zVt} (h : mSg W J s P O S) {z : Int} (hO : S 0 7 = 0 → ∀ i, 0 ≤ i → i < S 0 1 → O z i = O (S 0 0) i) : mSg W J s P O (vup S 0 0 z) := by
  refine ⟨h.1, ?_, ?_, ?_⟩
  · rw [vup_k (by decide)]
    exact h.2.1
  · rw [vup_k (by decide), vup_k (by decide)]
    exact h.2.2.1
  · rw [vup_k (by decide)]
    intro h7
    obtain ⟨k1, k2, k3, k4, k5, k6, k8, k9, k10⟩ := h.2.2.2 h7
    unfold mSc at *
    simp (disch := decide) only [vup_o, vup_k, vup_at]
    refine ⟨k1, ?_, k3, k4, k5, k6, k8, k9, k10⟩
    intro i i0 i1
    rw [hO h7 i i0 i1]
    exact k2 i i0 i1
/-- a change of depth and passes -/
theorem mSg_ctl {W W' T : zVt} (h : mSg W J s P O S) (h7 : S 0 7 = 0) (hT : (∀ k, 2 ≤ k → T 0 k = S 0 k) ∧ T 2 = S 2 ∧ T 3 = S 3 ∧ T 4 = S 4) (hW : (∀ o : Nat, o ≠ 430 → o ≠ 441 → o ≠ 442 → W' o = W o) ∧ ∀ k, k ≠ 19 → W' 430 k = W 430 k) (h19 : W' 430 19 = T 0 1) (hp : ∀ i, 0 ≤ i → i < T 0 1 → W' 442 i = T 1 i ∧ W' 441 i = O (T 0 0) i) : mSg W' J s P O T := by
  have fr : mFt s W J W' J := ⟨fun o ho => hW.1 o (by omega) (by omega) (by omega), fun k hk => hW.2 k (by omega), fun j _ => by rw [hW.1 453 (by decide) (by decide) (by decide)], fun _ _ _ => rfl, fun _ _ => ⟨rfl, rfl⟩⟩
  obtain ⟨k1, k2, k3, k4, k5, k6, k8, k9, k10⟩ := h.2.2.2 h7
  refine ⟨mFt_ts fr h.1, ?_, ?_, ?_⟩
  · rw [hW.2 13 (by decide), hT.1 7 (by decide)]
    exact h.2.1
  · rw [hT.1 7 (by decide)]
    exact fun q => absurd h7 q
  · intro _
    unfold mSc mBar at *
    rw [hW.2 24 (by decide), hW.2 25 (by decide), hW.2 26 (by decide), hW.2 27 (by decide), hW.2 28 (by decide), hW.1 445 (by decide) (by decide) (by decide), hW.1 446 (by decide) (by decide) (by decide), hW.1 447 (by decide) (by decide) (by decide), hW.1 453 (by decide) (by decide) (by decide), hT.1 2 (by decide), hT.1 3 (by decide), hT.1 4 (by decide), hT.1 5 (by decide), hT.1 6 (by decide), hT.2.1, hT.2.2.1, hT.2.2.2]
    exact ⟨h19, hp, k3, k4, k5, k6, k8, k9, k10⟩
theorem sm177p {W : zVt} {a : Int} (ha : 0 ≤ a ∧ a < 60) {w : Int} (e : W 433 a = w) (hw : 0 ≤ w ∧ w ≤ 9) (h6 : w ≠ 6) (h7 : w ≠ 7) (h8 : w ≠ 8) : zGo false 177 0 [.ref 430, .int (zi a), .null] [] (zm W J d) = zI1 (a + 1) W J d := by
  rw [ze_177_0]
  simp (disch := first | omega | assumption | (simp (disch := omega) only [vup_fn, vup_o, vup_k, vup_at]; first | done | omega | assumption)) only [e, ze_177_101, ze_177_155, Int.add_zero, ↓reduceIte, qw_id, zck_T, zck_t, zGor_v, zGor_n, zGor_e, zbs, vup_at, vup_vup, vup_self, vup_o, vup_k, vup_fn, ne_eq, not_true_eq_false, not_false_eq_true, and_true, true_and, and_self, and_false, false_and, or_true, true_or, or_self, or_false, false_or, xlt_t, xlt_f, xle_t, xle_f, xeq_t, xeq_f, xand_f, xor_t]
theorem sm167s {W : zVt} (hs : 0 ≤ s ∧ s < 5) (hP : yTok P D O) (h : mSg W J s P O S) (hi : yInv P D S) (hn : S 0 0 < P 8 0) :
    ∃ W' J', zGo false 167 83 [.ref 430, .int (zi s), .int (zi (S 0 0))] [] (zm W J d) = zGo false 167 83 [.ref 430, .int (zi s), .int (zi (yStep P S 0 0))] [] (zm W' J' d) ∧ mSg W' J' s P O (yStep P S) ∧ mFt s W J W' J' := by
  have h7 : S 0 7 = 0 := hi.2.2.2.2.2.2.2.2.2.2
  obtain ⟨k1, k2, k3, k4, k5, k6, k8, k9, k10⟩ := h.2.2.2 h7
  obtain ⟨t0, t1, t2, t3⟩ := h.1
  have ha := hi.1
  have hb := hP.2.2.2.2 (S 0 0) ha.1 hn
  have hT := t3 (S 0 0) (by omega) hn
  have hnn := hP.1
  have hd := hi.2.1
  have hd3 := hi.2.2.1
  have hpr := hi.2.2.2.1
  have e13 : W 430 13 = 0 := by rw [h.2.1, h7]
  have e33 : W 433 (S 0 0) = P 0 (S 0 0) := hT.1
  have hkr := hb.1
  unfold yStep
  by_cases c3 : P 0 (S 0 0) = 3
  · obtain ⟨W', q1, q2, q3⟩ := sm169 (d := d) hP h hi hn c3
    have e177 := sm177p (W := W') (J := J) (d := d) (a := S 0 0) (by omega) (w := 3) (by rw [q3.1 433 (by omega), e33, c3]) (by decide) (by decide) (by decide) (by decide)
    have hO := (hb.2.2.2.2.2.2.2.2 (by omega) (by omega)).2
    rw [if_pos c3]
    refine ⟨W', J, ?_, mSg_on q2 ?_, q3⟩
    · rw [vup_at, ze_167_83]
      simp (disch := first | omega | assumption | (simp (disch := omega) only [vup_fn, vup_o, vup_k, vup_at]; first | done | omega | assumption)) only [t0, e13, e33, c3, q1, ze_167_113, ze_167_184, e177, ze_167_189, Int.add_zero, ↓reduceIte, qw_id, zck_T, zck_t, zGor_v, zGor_n, zGor_e, zbs, vup_at, vup_vup, vup_self, vup_o, vup_k, vup_fn, ne_eq, not_true_eq_false, not_false_eq_true, and_true, true_and, and_self, and_false, false_and, or_true, true_or, or_self, or_false, false_or, xlt_t, xlt_f, xle_t, xle_f, xeq_t, xeq_f, xand_f, xor_t]
    · intro w i i0 i1
      have hq := hb.2.2.2.1 c3
      rw [(yNote_inv hi ⟨ha.1, hn⟩ hq.1 hq.2.2.1.1 w).2.1, hd] at i1
      rw [yNote_00]
      exact hO i i0 i1
  · rw [if_neg c3]
    by_cases c4 : P 0 (S 0 0) = 4
    · have hq := hb.2.2.2.2.1 c4
      have hO := (hb.2.2.2.2.2.2.2.2 (by omega) (by omega)).2
      rw [if_pos c4]
      have hrel : ∀ W' : zVt, mSg W' J s P O (yRest P S (S 0 0)) → mSg W' J s P O (vup (yRest P S (S 0 0)) 0 0 (S 0 0 + 1)) := by
        intro W' g
        refine mSg_on g ?_
        intro w i i0 i1
        rw [(yRest_inv hi hq.1 w).2.1, hd] at i1
        rw [yRest_00]
        exact hO i i0 i1
      by_cases ht : S 0 4 = -1
      · have hfl := hi.2.2.2.2.1
        have hmt := hP.2.1
        have e174 := sp174 (V := W) (J := J) (d := d) (a := S 0 0) (c := P 4 (S 0 0)) (fl := S 0 2) (mt := P 8 1) (p := -2) (z := 0) (by omega) k3 t2 (hT.2.2.2.2 (Or.inr c4)) e13 hfl hmt.2 hq (Or.inl rfl)
        by_cases hlong : P 8 1 < S 0 2 + P 4 (S 0 0)
        · have q1 := e174.1 hlong
          have fr1 : mFt s W J (vup (vup W 430 13 7) 430 14 (S 0 0)) J := mFt_t (mFt_v (by omega)) (mFt_v (by omega))
          have e177 := sm177p (W := vup (vup W 430 13 7) 430 14 (S 0 0)) (J := J) (d := d) (a := S 0 0) (by omega) (w := 4) (by rw [fr1.1 433 (by omega), e33, c4]) (by decide) (by decide) (by decide) (by decide)
          refine ⟨_, J, ?_, hrel _ ?_, fr1⟩
          · rw [vup_at, ze_167_83]
            simp (disch := first | omega | assumption | (simp (disch := omega) only [vup_fn, vup_o, vup_k, vup_at]; first | done | omega | assumption)) only [t0, e13, e33, c4, k8, ht, ze_167_147, q1, ze_167_165, ze_167_184, e177, ze_167_189, Int.add_zero, ↓reduceIte, qw_id, zck_T, zck_t, zGor_v, zGor_n, zGor_e, zbs, vup_at, vup_vup, vup_self, vup_o, vup_k, vup_fn, ne_eq, not_true_eq_false, not_false_eq_true, and_true, true_and, and_self, and_false, false_and, or_true, true_or, or_self, or_false, false_or, xlt_t, xlt_f, xle_t, xle_f, xeq_t, xeq_f, xand_f, xor_t]
          · unfold yRest
            rw [if_neg (show ¬ S 0 4 ≠ -1 from fun q => q ht), if_pos hlong]
            exact mSg_fl h (by decide)
        · obtain ⟨V1, q1, q2, q3, q4, q5⟩ := e174.2 (by omega)
          obtain ⟨g1, g2⟩ := mSg_fil (f := 0) (l := 0) (z := 0) h h7 (by omega) ⟨rfl, rfl, rfl, rfl⟩ q2 q3 q4 q5
          have e177 := sm177p (W := V1) (J := J) (d := d) (a := S 0 0) (by omega) (w := 4) (by rw [g2.1 433 (by omega), e33, c4]) (by decide) (by decide) (by decide) (by decide)
          refine ⟨V1, J, ?_, hrel _ ?_, g2⟩
          · rw [vup_at, ze_167_83]
            simp (disch := first | omega | assumption | (simp (disch := omega) only [vup_fn, vup_o, vup_k, vup_at]; first | done | omega | assumption)) only [t0, e13, e33, c4, k8, ht, ze_167_147, q1, ze_167_165, ze_167_184, e177, ze_167_189, Int.add_zero, ↓reduceIte, qw_id, zck_T, zck_t, zGor_v, zGor_n, zGor_e, zbs, vup_at, vup_vup, vup_self, vup_o, vup_k, vup_fn, ne_eq, not_true_eq_false, not_false_eq_true, and_true, true_and, and_self, and_false, false_and, or_true, true_or, or_self, or_false, false_or, xlt_t, xlt_f, xle_t, xle_f, xeq_t, xeq_f, xand_f, xor_t]
          · unfold yRest
            rw [if_neg (show ¬ S 0 4 ≠ -1 from fun q => q ht), if_neg hlong]
            exact g1
      · have htie := hi.2.2.2.2.2.2.2.2.1
        have htr : 3 ≤ S 0 4 := by omega
        have e173 := sp173 (V := W) (J := J) (d := d) (f := 9) (t := S 0 4) e13
        have fr1 : mFt s W J (vup (vup W 430 13 9) 430 14 (S 0 4)) J := mFt_t (mFt_v (by omega)) (mFt_v (by omega))
        have e177 := sm177p (W := vup (vup W 430 13 9) 430 14 (S 0 4)) (J := J) (d := d) (a := S 0 0) (by omega) (w := 4) (by rw [fr1.1 433 (by omega), e33, c4]) (by decide) (by decide) (by decide) (by decide)
        refine ⟨_, J, ?_, hrel _ ?_, fr1⟩
        · rw [vup_at, ze_167_83]
          simp (disch := first | omega | assumption | (simp (disch := omega) only [vup_fn, vup_o, vup_k, vup_at]; first | done | omega | assumption)) only [t0, e13, e33, c4, k8, e173, ze_167_144, ze_167_184, e177, ze_167_189, Int.add_zero, ↓reduceIte, qw_id, zck_T, zck_t, zGor_v, zGor_n, zGor_e, zbs, vup_at, vup_vup, vup_self, vup_o, vup_k, vup_fn, ne_eq, not_true_eq_false, not_false_eq_true, and_true, true_and, and_self, and_false, false_and, or_true, true_or, or_self, or_false, false_or, xlt_t, xlt_f, xle_t, xle_f, xeq_t, xeq_f, xand_f, xor_t]
        · unfold yRest
          rw [if_pos ht]
          exact mSg_fl h (by decide)
    · rw [if_neg c4]
      by_cases c5 : P 0 (S 0 0) = 5
      · have hO := (hb.2.2.2.2.2.2.2.2 (by omega) (by omega)).2
        obtain ⟨W', J', q1, q2, q3⟩ := sm175 (d := d) (t := S 0 0) hs hP h hi
        have e177 := sm177p (W := W') (J := J') (d := d) (a := S 0 0) (by omega) (w := 5) (by rw [q3.1 433 (by omega), e33, c5]) (by decide) (by decide) (by decide) (by decide)
        rw [if_pos c5]
        refine ⟨W', J', ?_, mSg_on q2 ?_, q3⟩
        · rw [vup_at, ze_167_83]
          simp (disch := first | omega | assumption | (simp (disch := omega) only [vup_fn, vup_o, vup_k, vup_at]; first | done | omega | assumption)) only [t0, e13, e33, c5, ze_167_147, q1, ze_167_184, e177, ze_167_189, Int.add_zero, ↓reduceIte, qw_id, zck_T, zck_t, zGor_v, zGor_n, zGor_e, zbs, vup_at, vup_vup, vup_self, vup_o, vup_k, vup_fn, ne_eq, not_true_eq_false, not_false_eq_true, and_true, true_and, and_self, and_false, false_and, or_true, true_or, or_self, or_false, false_or, xlt_t, xlt_f, xle_t, xle_f, xeq_t, xeq_f, xand_f, xor_t]
        · intro w i i0 i1
          rw [(yBar_inv hi hP.2.1.1 w).2.1, hd] at i1
          rw [yBar_00]
          exact hO i i0 i1
      · rw [if_neg c5]
        have s0 : zGo false 167 83 [.ref 430, .int (zi s), .int (zi (S 0 0))] [] (zm W J d) = (zGo false 177 0 [.ref 430, .int (zi (S 0 0)), .null] [] (zm W J d)).bind (zGor false 167 189 [.ref 430, .int (zi s), .int (zi (S 0 0))] []) := by
          rw [ze_167_83]
          simp (disch := first | omega | assumption | (simp (disch := omega) only [vup_fn, vup_o, vup_k, vup_at]; first | done | omega | assumption)) only [t0, e13, e33, ze_167_147, ze_167_184, Int.add_zero, ↓reduceIte, qw_id, zck_T, zck_t, zGor_v, zGor_n, zGor_e, zbs, vup_at, vup_vup, vup_self, vup_o, vup_k, vup_fn, ne_eq, not_true_eq_false, not_false_eq_true, and_true, true_and, and_self, and_false, false_and, or_true, true_or, or_self, or_false, false_or, xlt_t, xlt_f, xle_t, xle_f, xeq_t, xeq_f, xand_f, xor_t]
        rw [s0]
        by_cases c6 : P 0 (S 0 0) = 6
        · rw [if_pos c6]
          have q6 := hb.2.2.2.2.2.1 c6
          refine ⟨vup (vup (vup W 441 (S 0 1) (S 0 0)) 442 (S 0 1) 1) 430 19 (S 0 1 + 1), J, ?_, ?_, mFt_t (mFt_t (mFt_v (by omega)) (mFt_v (by omega))) (mFt_v (by omega))⟩
          · rw [vup_at, ze_177_0]
            simp (disch := first | omega | assumption | (simp (disch := omega) only [vup_fn, vup_o, vup_k, vup_at]; first | done | omega | assumption)) only [e33, c6, k1, ze_177_155, ze_167_189, Int.add_zero, ↓reduceIte, qw_id, zck_T, zck_t, zGor_v, zGor_n, zGor_e, zbs, vup_at, vup_vup, vup_self, vup_o, vup_k, vup_fn, ne_eq, not_true_eq_false, not_false_eq_true, and_true, true_and, and_self, and_false, false_and, or_true, true_or, or_self, or_false, false_or, xlt_t, xlt_f, xle_t, xle_f, xeq_t, xeq_f, xand_f, xor_t]
          · refine mSg_ctl h h7 ⟨fun k hk => by rw [vup_k (by omega), vup_k (by omega), vup_o (by decide)], by simp (disch := decide) only [vup_fn], by simp (disch := decide) only [vup_fn], by simp (disch := decide) only [vup_fn]⟩ ⟨fun o h1 h2 h3 => by simp (disch := omega) only [vup_fn], fun k h1 => by rw [vup_k h1, vup_o (by decide), vup_o (by decide)]⟩ ?_ ?_
            · rw [vup_at, vup_k (by decide), vup_at]
            · rw [vup_k (by decide), vup_at, vup_at]
              intro i i0 i1
              simp (disch := decide) only [vup_o]
              by_cases hii : i = S 0 1
              · rw [hii, vup_at, vup_at, vup_at]
                refine ⟨rfl, ?_⟩
                rw [hd]
                exact q6.2.2.1.symm
              · simp only [vup_k hii]
                rw [q6.2.2.2 i i0 (by omega)]
                exact k2 i i0 (by omega)
        · rw [if_neg c6]
          by_cases c7 : P 0 (S 0 0) = 7
          · rw [if_pos c7]
            have q7 := hb.2.2.2.2.2.2.1 c7
            have e35 : W 435 (S 0 0) = P 1 (S 0 0) := hT.2.1 (Or.inl c7)
            have hp := k2 (S 0 1 - 1) (by omega) (by omega)
            have hpr' := hpr (S 0 1 - 1) (by omega) (by omega)
            have hm := hb.2.2.1 (D (S 0 0) - 1) (by omega) (by omega)
            have e41 : W 441 (S 0 1 - 1) = P 6 (S 0 0) := by rw [hp.2, q7.2.2.2.2.1, hd]
            rw [← q7.2.2.2.2.1] at hm
            by_cases hlt : S 1 (S 0 1 - 1) < P 1 (S 0 0)
            · rw [if_pos hlt]
              refine ⟨vup W 442 (S 0 1 - 1) (S 1 (S 0 1 - 1) + 1), J, ?_, ?_, mFt_v (by omega)⟩
              · rw [vup_at, ze_177_0]
                simp (disch := first | omega | assumption | (simp (disch := omega) only [vup_fn, vup_o, vup_k, vup_at]; first | done | omega | assumption)) only [e33, c7, k1, e35, hp.1, e41, ze_167_189, Int.add_zero, ↓reduceIte, qw_id, zck_T, zck_t, zGor_v, zGor_n, zGor_e, zbs, vup_at, vup_vup, vup_self, vup_o, vup_k, vup_fn, ne_eq, not_true_eq_false, not_false_eq_true, and_true, true_and, and_self, and_false, false_and, or_true, true_or, or_self, or_false, false_or, xlt_t, xlt_f, xle_t, xle_f, xeq_t, xeq_f, xand_f, xor_t]
              · refine mSg_ctl h h7 ⟨fun k hk => by rw [vup_k (by omega), vup_o (by decide)], by simp (disch := decide) only [vup_fn], by simp (disch := decide) only [vup_fn], by simp (disch := decide) only [vup_fn]⟩ ⟨fun o h1 h2 h3 => by simp (disch := omega) only [vup_fn], fun k h1 => by rw [vup_o (by decide)]⟩ ?_ ?_
                · rw [vup_o (by decide), vup_k (by decide), vup_o (by decide)]
                  exact k1
                · rw [vup_k (by decide), vup_o (by decide), vup_at]
                  intro i i0 i1
                  simp (disch := decide) only [vup_o]
                  rw [q7.2.2.2.2.2.2 i i0 (by omega)]
                  by_cases hii : i = S 0 1 - 1
                  · rw [hii, vup_at, vup_at]
                    exact ⟨rfl, hp.2⟩
                  · rw [vup_k hii, vup_k hii]
                    exact k2 i i0 i1
            · rw [if_neg hlt]
              refine ⟨vup W 430 19 (S 0 1 - 1), J, ?_, ?_, mFt_v (by omega)⟩
              · rw [vup_at, ze_177_0]
                simp (disch := first | omega | assumption | (simp (disch := omega) only [vup_fn, vup_o, vup_k, vup_at]; first | done | omega | assumption)) only [e33, c7, k1, e35, hp.1, ze_177_101, ze_177_155, ze_167_189, Int.add_zero, ↓reduceIte, qw_id, zck_T, zck_t, zGor_v, zGor_n, zGor_e, zbs, vup_at, vup_vup, vup_self, vup_o, vup_k, vup_fn, ne_eq, not_true_eq_false, not_false_eq_true, and_true, true_and, and_self, and_false, false_and, or_true, true_or, or_self, or_false, false_or, xlt_t, xlt_f, xle_t, xle_f, xeq_t, xeq_f, xand_f, xor_t]
              · refine mSg_ctl h h7 ⟨fun k hk => by rw [vup_k (by omega), vup_k (by omega)], by simp (disch := decide) only [vup_fn], by simp (disch := decide) only [vup_fn], by simp (disch := decide) only [vup_fn]⟩ ⟨fun o h1 h2 h3 => by simp (disch := omega) only [vup_fn], fun k h1 => by rw [vup_k h1]⟩ ?_ ?_
                · rw [vup_at, vup_k (by decide), vup_at]
                · rw [vup_k (by decide), vup_at, vup_at]
                  intro i i0 i1
                  simp (disch := decide) only [vup_o]
                  rw [q7.2.2.2.1 i i0 (by omega)]
                  exact k2 i i0 (by omega)
          · rw [if_neg c7]
            by_cases c8 : P 0 (S 0 0) = 8
            · rw [if_pos c8]
              have q8 := hb.2.2.2.2.2.2.2.1 c8
              have e35 : W 435 (S 0 0) = P 1 (S 0 0) := hT.2.1 (Or.inr c8)
              have e40 : W 440 (S 0 0) = P 6 (S 0 0) := hT.2.2.1 c8
              have hp := k2 (S 0 1 - 1) (by omega) (by omega)
              have hpr' := hpr (S 0 1 - 1) (by omega) (by omega)
              by_cases heq : P 1 (S 0 0) = S 1 (S 0 1 - 1)
              · rw [if_pos heq]
                refine ⟨W, J, ?_, mSg_on h ?_, mFt_r s W J⟩
                · rw [vup_at, ze_177_0]
                  simp (disch := first | omega | assumption | (simp (disch := omega) only [vup_fn, vup_o, vup_k, vup_at]; first | done | omega | assumption)) only [e33, c8, k1, e35, hp.1, heq, ze_177_101, ze_177_155, ze_167_189, Int.add_zero, ↓reduceIte, qw_id, zck_T, zck_t, zGor_v, zGor_n, zGor_e, zbs, vup_at, vup_vup, vup_self, vup_o, vup_k, vup_fn, ne_eq, not_true_eq_false, not_false_eq_true, and_true, true_and, and_self, and_false, false_and, or_true, true_or, or_self, or_false, false_or, xlt_t, xlt_f, xle_t, xle_f, xeq_t, xeq_f, xand_f, xor_t]
                · intro _ i i0 i1
                  exact q8.2.2.2.2.2 i i0 (by omega)
              · rw [if_neg heq]
                refine ⟨W, J, ?_, mSg_on h ?_, mFt_r s W J⟩
                · rw [vup_at, ze_177_0]
                  simp (disch := first | omega | assumption | (simp (disch := omega) only [vup_fn, vup_o, vup_k, vup_at]; first | done | omega | assumption)) only [e33, c8, k1, e35, e40, hp.1, ze_177_101, ze_167_189, Int.add_zero, ↓reduceIte, qw_id, zck_T, zck_t, zGor_v, zGor_n, zGor_e, zbs, vup_at, vup_vup, vup_self, vup_o, vup_k, vup_fn, ne_eq, not_true_eq_false, not_false_eq_true, and_true, true_and, and_self, and_false, false_and, or_true, true_or, or_self, or_false, false_or, xlt_t, xlt_f, xle_t, xle_f, xeq_t, xeq_f, xand_f, xor_t]
                · intro _ i i0 i1
                  exact q8.2.2.2.1.2 i i0 (by omega)
            · rw [if_neg c8]
              have hO := (hb.2.2.2.2.2.2.2.2 c6 c7).2
              have e177 := sm177p (W := W) (J := J) (d := d) (a := S 0 0) (by omega) (w := P 0 (S 0 0)) e33 hkr c6 c7 c8
              refine ⟨W, J, ?_, mSg_on h ?_, mFt_r s W J⟩
              · rw [vup_at]
                simp (disch := first | omega | assumption | (simp (disch := omega) only [vup_fn, vup_o, vup_k, vup_at]; first | done | omega | assumption)) only [e177, ze_167_189, Int.add_zero, ↓reduceIte, qw_id, zck_T, zck_t, zGor_v, zGor_n, zGor_e, zbs, vup_at, vup_vup, vup_self, vup_o, vup_k, vup_fn, ne_eq, not_true_eq_false, not_false_eq_true, and_true, true_and, and_self, and_false, false_and, or_true, true_or, or_self, or_false, false_or, xlt_t, xlt_f, xle_t, xle_f, xeq_t, xeq_f, xand_f, xor_t]
              · intro _ i i0 i1
                exact hO i i0 (by omega)
end
