/-! part 96: concert -/
section
variable {V V' : zVt} {J : zJt}
theorem zInv_cc {N : Int} (h : zInv N V J) (hN : N < 600) (hf : ∀ o : Nat, o ≠ 0 → o ≠ 430 → V' o = V o) (h0 : V' 0 2 = V 0 2) (h430 : V' 430 37 = V 430 37 ∧ V' 430 42 = V 430 42 ∧ V' 430 46 = V 430 46 ∧ V' 430 52 = V 430 52) (hc : V' 0 11 = V 0 11 + 1 ∧ V' 430 59 = V 430 59 + 1) : zInv (N + 1) V' J := by
  have h9 := h.2.2.2.2.2.2.2.2.1
  obtain ⟨a1, a2, a3, a4, a5, a6, a7, a8, a9, a10⟩ := zInv_up h hN
  have fp : ∀ o : Nat, 1 ≤ o → o ≤ 429 → V' o = V o := fun o _ _ => hf o (by omega) (by omega)
  have fm : ∀ o : Nat, 431 ≤ o → V' o = V o := fun o _ => hf o (by omega) (by omega)
  have f431 := fm 431 (by omega)
  have f432 := fm 432 (by omega)
  have h4 : V' 4 = V 4 ∧ V' 5 = V 5 ∧ V' 6 = V 6 := ⟨fp 4 (by omega) (by omega), fp 5 (by omega) (by omega), fp 6 (by omega) (by omega)⟩
  have h3 := fp 3 (by omega) (by omega)
  refine ⟨?_, ?_, ?_, ?_, ?_, ?_, ?_, ?_, ?_, a10⟩
  · unfold iTxt at *
    rw [f431, f432]
    refine ⟨a1.1, fun w w1 => ?_⟩
    rw [fp (50 + 15 * w) (by omega) (by omega), fp (51 + 15 * w) (by omega) (by omega)]
    exact a1.2 w w1
  · unfold iCor at *
    rw [h430.2.1, h3, h4.1, h4.2.1, h4.2.2, fm 457 (by omega), fm 458 (by omega), fm 459 (by omega)]
    exact a2
  · intro w w1
    obtain ⟨b1, b2, b3, b4, b5, b6, b7⟩ := a3 w w1
    unfold iPart
    rw [fp (50 + 15 * w) (by omega) (by omega), fp (62 + 15 * w) (by omega) (by omega), h430.1, fm 454 (by omega)]
    exact ⟨b1, b2, b3, iMk_fr (fp _ (by omega) (by omega)) (fp _ (by omega) (by omega)) (fm 456 (by omega)) h430.2.1 b4, b5, fun q => iRd_fr (fun o h1 h2 => fp o (by omega) (by omega)) rfl f431 f432 h3 h4 (b6 q), b7⟩
  · rw [h430.1, h0]
    exact a4
  · intro j j1
    obtain ⟨b1, b2, b3⟩ := a5 j j1
    unfold iCopy
    rw [fm 454 (by omega), fm 455 (by omega), h430.1, fp (230 + 5 * j) (by omega) (by omega), fp (232 + 5 * j) (by omega) (by omega)]
    refine ⟨iMk_fr (fp _ (by omega) (by omega)) (fp _ (by omega) (by omega)) (fm 456 (by omega)) h430.2.1 b1, fun q => ?_, b3⟩
    obtain ⟨c1, c2, c3, c4, c5⟩ := b2 q
    exact ⟨c1, c2, c3, c4, iMs_fr (fp _ (by omega) (by omega)) rfl f431 f432 h3 h4 c5⟩
  · unfold iOne at *
    rw [h430.1, fm 454 (by omega), fm 455 (by omega)]
    exact a6
  · unfold iReh at *
    rw [fp 43 (by omega) (by omega), fp 44 (by omega) (by omega), fp 45 (by omega) (by omega), fp 37 (by omega) (by omega), fp 38 (by omega) (by omega), fp 39 (by omega) (by omega), fp 40 (by omega) (by omega), fp 41 (by omega) (by omega), fp 42 (by omega) (by omega), fm 460 (by omega), fm 461 (by omega), fm 462 (by omega), fm 463 (by omega), fm 464 (by omega), fm 465 (by omega), fm 466 (by omega), fm 467 (by omega), h430.2.2.1, h430.2.2.2]
    exact a7
  · intro i i0 i1
    obtain ⟨b1, b2, b3⟩ := a8 i i0 i1
    rw [fp 47 (by omega) (by omega), fm 472 (by omega)]
    refine ⟨b1, b2, fun q => ?_⟩
    obtain ⟨c1, c2, c3⟩ := b3 q
    rw [yTt_fr f431 f432]
    unfold iLb at *
    rw [fm 471 (by omega), fm 470 (by omega), fp (50 + 15 * (i / 40 % 12).toNat) (by omega) (by omega)]
    exact ⟨c1, c2, c3⟩
  · omega
end
section
variable {J I : zJt} {U V : zVt} {N p : Int}
/-- isLentOf of the class, the state being known by another -/
theorem sp1v (h : zInv N U I) (hV : pC U V I J) {k : Nat} (hk : (k : Int) < U 430 37) (hp : -2147483648 ≤ p ∧ p < 2147483648) {d : Nat → Nat → UInt64} : zGo false 1 0 [.ref (230 + 5 * k), .int (zi p)] [] (zm V J d) = zI1 (if U 455 k ≠ -1 ∧ U 454 k / 4 = p then 1 else 0) V J d := by
  have h37 := h.2.2.2.1
  obtain ⟨_, _, c3, c4, c2, c5, _, hB, k40⟩ := iCp_mk h hk
  have e0 : V (230 + 5 * k) = U (230 + 5 * k) := hV.1 _ (by omega)
  have d3 : V (230 + 5 * k) 0 = U 454 k := by rw [e0]; exact c3
  have d4 : V (230 + 5 * k) 1 = U 455 k := by rw [e0]; exact c4
  have hdv := qdiv_p (a := U 454 k) (b := 4) (by omega) (by omega)
  by_cases h1 : U 455 k = -1
  · rw [if_neg (fun w => w.1 h1)]
    simp (disch := first | omega | assumption | (simp (disch := omega) only [vup_fn, vup_o, vup_k, vup_at]; first | done | omega | assumption)) only [ze_1_0, ze_1_22, ze_1_23, d4, Int.add_zero, ↓reduceIte, qw_id, zck_T, zck_t, zGor_v, zGor_n, zGor_e, zbs, vup_at, vup_vup, vup_self, vup_o, vup_k, vup_fn, ne_eq, not_true_eq_false, not_false_eq_true, and_true, true_and, and_self, and_false, false_and, or_true, true_or, or_self, or_false, false_or, xlt_t, xlt_f, xle_t, xle_f, xeq_t, xeq_f, xand_f, xor_t]
  · by_cases h2 : U 454 k / 4 = p
    · rw [if_pos ⟨h1, h2⟩]
      simp (disch := first | omega | assumption | (simp (disch := omega) only [vup_fn, vup_o, vup_k, vup_at]; first | done | omega | assumption)) only [ze_1_0, ze_1_22, ze_1_23, d3, d4, hdv, Int.add_zero, ↓reduceIte, qw_id, zck_T, zck_t, zGor_v, zGor_n, zGor_e, zbs, vup_at, vup_vup, vup_self, vup_o, vup_k, vup_fn, ne_eq, not_true_eq_false, not_false_eq_true, and_true, true_and, and_self, and_false, false_and, or_true, true_or, or_self, or_false, false_or, xlt_t, xlt_f, xle_t, xle_f, xeq_t, xeq_f, xand_f, xor_t]
    · rw [if_neg (fun w => h2 w.2)]
      simp (disch := first | omega | assumption | (simp (disch := omega) only [vup_fn, vup_o, vup_k, vup_at]; first | done | omega | assumption)) only [ze_1_0, ze_1_22, ze_1_23, d3, d4, hdv, Int.add_zero, ↓reduceIte, qw_id, zck_T, zck_t, zGor_v, zGor_n, zGor_e, zbs, vup_at, vup_vup, vup_self, vup_o, vup_k, vup_fn, ne_eq, not_true_eq_false, not_false_eq_true, and_true, true_and, and_self, and_false, false_and, or_true, true_or, or_self, or_false, false_or, xlt_t, xlt_f, xle_t, xle_f, xeq_t, xeq_f, xand_f, xor_t]
theorem tw_con (hp : -2147483648 ≤ p ∧ p < 2147483648) (d : Nat → Nat → UInt64) (n : Nat) : ∀ (k : Nat) (x : Int) (U V : zVt) (I J : zJt), zInv N U I → U 430 37 = k + n → pC U V I J → (V 431 = U 431 ∧ V 432 = U 432) → ∃ (x' : Int) (V' : zVt) (J' : zJt) (U' : zVt) (I' : zJt), zGo false 142 28 [.ref 0, .int (zi p), .int (zi x), .int (zi k)] [] (zm V J d) = zI1 x' (vup V' 0 11 (V' 0 11 + 1)) J' d ∧ pC U' V' I' J' ∧ (∀ o : Nat, 430 ≤ o → V' o = V o ∧ J' o = J o) ∧ zInv N U' I' ∧ (U' 430 = U 430 ∧ U' 0 = U 0) ∧ ∀ (W : zVt) (K : zJt) (d1 : Nat → Nat → UInt64) (y2 : Int), pM U W I K → ∃ W', zGo false 229 39 [.ref 430, .int (zi p), .int (zi y2), .int (zi x), .int (zi k)] [] (zm W K d1) = zI1 x' (vup W' 430 59 (W' 430 59 + 1)) K d1 ∧ pM U' W' I' K ∧ (∀ o : Nat, o ≠ 455 → o ≠ 456 → W' o = W o) := by
  induction n with
  | zero =>
    intro k x U V I J hi hk hc hV
    have h37 := hi.2.2.2.1
    have a0 : V 0 2 = U 430 37 := by rw [hc.1 0 (by omega)]; exact h37.2
    refine ⟨x, V, J, U, I, ?_, hc, fun o ho => ⟨rfl, rfl⟩, hi, ⟨rfl, rfl⟩, fun W K d1 y2 hm => ⟨W, ?_, hm, fun o _ _ => rfl⟩⟩
    · rw [ze_142_28]
      simp (disch := first | omega | assumption | (simp (disch := omega) only [vup_fn, vup_o, vup_k, vup_at]; first | done | omega | assumption)) only [a0, Int.add_zero, ↓reduceIte, qw_id, zck_T, zck_t, zGor_v, zGor_n, zGor_e, zbs, vup_at, vup_vup, vup_self, vup_o, vup_k, vup_fn, ne_eq, not_true_eq_false, not_false_eq_true, and_true, true_and, and_self, and_false, false_and, or_true, true_or, or_self, or_false, false_or, xlt_t, xlt_f, xle_t, xle_f, xeq_t, xeq_f, xand_f, xor_t]
    · have a37 : W 430 37 = U 430 37 := hm.2.1.1
      rw [ze_229_39]
      simp (disch := first | omega | assumption | (simp (disch := omega) only [vup_fn, vup_o, vup_k, vup_at]; first | done | omega | assumption)) only [Int.add_zero, ↓reduceIte, qw_id, zck_T, zck_t, zGor_v, zGor_n, zGor_e, zbs, vup_at, vup_vup, vup_self, vup_o, vup_k, vup_fn, ne_eq, not_true_eq_false, not_false_eq_true, and_true, true_and, and_self, and_false, false_and, or_true, true_or, or_self, or_false, false_or, xlt_t, xlt_f, xle_t, xle_f, xeq_t, xeq_f, xand_f, xor_t]
  | succ n ih =>
    intro k x U V I J hi hk hc hV
    have h37 := hi.2.2.2.1
    have hk1 : ((k : Nat) : Int) + 1 = ((k + 1 : Nat) : Int) := by omega
    have hkn : ((k : Nat) : Int).toNat = k := by omega
    have a0 : V 0 2 = U 430 37 := by rw [hc.1 0 (by omega)]; exact h37.2
    have e1 := sp1v (d := d) hi hc (k := k) (by omega) hp
    obtain ⟨_, _, _, _, c2, c5, _, _, k40⟩ := iCp_mk hi (k := k) (by omega)
    by_cases hl : U 455 k ≠ -1 ∧ U 454 k / 4 = p
    · rw [if_pos hl] at e1
      obtain ⟨y, V1, J1, U1, I1, q1, q2, q3, q4, q5, q6⟩ := tw_back hi (k := k) (by omega) hc hV d
      obtain ⟨x', V', J', U', I', r1, r2, r3, r4, r5, r6⟩ := ih (k + 1) (x + 1) U1 V1 I1 J1 q4 (by rw [q5.2.2.1]; omega) q2 ⟨by rw [(q3 431 (by omega)).1, q5.1]; exact hV.1, by rw [(q3 432 (by omega)).1, q5.2.1]; exact hV.2⟩
      refine ⟨x', V', J', U', I', ?_, r2, fun o ho => ⟨(r3 o ho).1.trans (q3 o ho).1, (r3 o ho).2.trans (q3 o ho).2⟩, r4, ⟨r5.1.trans q5.2.2.1, r5.2.trans q5.2.2.2.2.1⟩, fun W K d1 y2 hm => ?_⟩
      · rw [ze_142_28]
        simp (disch := first | omega | assumption | (simp (disch := omega) only [vup_fn, vup_o, vup_k, vup_at]; first | done | omega | assumption)) only [a0, hkn, e1, ze_142_46, q1, ze_142_59, ze_142_63, hk1, r1, Int.add_zero, ↓reduceIte, qw_id, zck_T, zck_t, zGor_v, zGor_n, zGor_e, zbs, vup_at, vup_vup, vup_self, vup_o, vup_k, vup_fn, ne_eq, not_true_eq_false, not_false_eq_true, and_true, true_and, and_self, and_false, false_and, or_true, true_or, or_self, or_false, false_or, xlt_t, xlt_f, xle_t, xle_f, xeq_t, xeq_f, xand_f, xor_t]
      · obtain ⟨W1, t1, t2, t3⟩ := q6 W K d1 hm
        obtain ⟨W', s1, s2, s3⟩ := r6 W1 K d1 y2 t2
        refine ⟨W', ?_, s2, fun o o1 o2 => (s3 o o1 o2).trans (t3 o o1 o2)⟩
        have a37 : W 430 37 = U 430 37 := hm.2.1.1
        have a455 : W 455 k = U 455 k := by rw [hm.1 455 (by omega)]
        have a454 : W 454 = U 454 := hm.1 454 (by omega)
        have e190 := m190 (V := W) (J := K) (d := d1) (c := k) (by omega) (by rw [a454]; exact c2)
        rw [a454] at e190
        have l1 := hl.1
        have l2 := hl.2
        rw [ze_229_39]
        simp (disch := first | omega | assumption | (simp (disch := omega) only [vup_fn, vup_o, vup_k, vup_at]; first | done | omega | assumption)) only [e190, ze_229_54, a455, t1, ze_229_75, ze_229_79, hk1, s1, Int.add_zero, ↓reduceIte, qw_id, zck_T, zck_t, zGor_v, zGor_n, zGor_e, zbs, vup_at, vup_vup, vup_self, vup_o, vup_k, vup_fn, ne_eq, not_true_eq_false, not_false_eq_true, and_true, true_and, and_self, and_false, false_and, or_true, true_or, or_self, or_false, false_or, xlt_t, xlt_f, xle_t, xle_f, xeq_t, xeq_f, xand_f, xor_t]
    · rw [if_neg hl] at e1
      obtain ⟨x', V', J', U', I', r1, r2, r3, r4, r5, r6⟩ := ih (k + 1) x U V I J hi (by omega) hc hV
      refine ⟨x', V', J', U', I', ?_, r2, r3, r4, r5, fun W K d1 y2 hm => ?_⟩
      · rw [ze_142_28]
        simp (disch := first | omega | assumption | (simp (disch := omega) only [vup_fn, vup_o, vup_k, vup_at]; first | done | omega | assumption)) only [a0, hkn, e1, ze_142_46, ze_142_63, hk1, r1, Int.add_zero, ↓reduceIte, qw_id, zck_T, zck_t, zGor_v, zGor_n, zGor_e, zbs, vup_at, vup_vup, vup_self, vup_o, vup_k, vup_fn, ne_eq, not_true_eq_false, not_false_eq_true, and_true, true_and, and_self, and_false, false_and, or_true, true_or, or_self, or_false, false_or, xlt_t, xlt_f, xle_t, xle_f, xeq_t, xeq_f, xand_f, xor_t]
      · obtain ⟨W', s1, s2, s3⟩ := r6 W K d1 y2 hm
        refine ⟨W', ?_, s2, s3⟩
        have a37 : W 430 37 = U 430 37 := hm.2.1.1
        have a455 : W 455 k = U 455 k := by rw [hm.1 455 (by omega)]
        have a454 : W 454 = U 454 := hm.1 454 (by omega)
        have e190 := m190 (V := W) (J := K) (d := d1) (c := k) (by omega) (by rw [a454]; exact c2)
        rw [a454] at e190
        rw [ze_229_39]
        by_cases l2 : U 454 k / 4 = p
        · have l1 : U 455 k = -1 := Decidable.byContradiction (fun w => hl ⟨w, l2⟩)
          simp (disch := first | omega | assumption | (simp (disch := omega) only [vup_fn, vup_o, vup_k, vup_at]; first | done | omega | assumption)) only [e190, ze_229_54, a455, ze_229_79, hk1, s1, Int.add_zero, ↓reduceIte, qw_id, zck_T, zck_t, zGor_v, zGor_n, zGor_e, zbs, vup_at, vup_vup, vup_self, vup_o, vup_k, vup_fn, ne_eq, not_true_eq_false, not_false_eq_true, and_true, true_and, and_self, and_false, false_and, or_true, true_or, or_self, or_false, false_or, xlt_t, xlt_f, xle_t, xle_f, xeq_t, xeq_f, xand_f, xor_t]
        · simp (disch := first | omega | assumption | (simp (disch := omega) only [vup_fn, vup_o, vup_k, vup_at]; first | done | omega | assumption)) only [e190, ze_229_54, ze_229_79, hk1, s1, Int.add_zero, ↓reduceIte, qw_id, zck_T, zck_t, zGor_v, zGor_n, zGor_e, zbs, vup_at, vup_vup, vup_self, vup_o, vup_k, vup_fn, ne_eq, not_true_eq_false, not_false_eq_true, and_true, true_and, and_self, and_false, false_and, or_true, true_or, or_self, or_false, false_or, xlt_t, xlt_f, xle_t, xle_f, xeq_t, xeq_f, xand_f, xor_t]
theorem x142 (h : zInv N V J) (hN : N < 600) (hp : -2147483648 ≤ p ∧ p < 2147483648) : zTw N V J 142 [.ref 0, .int (zi p), .null, .null] 229 [.ref 430, .int (zi p), .null, .null, .null] [0, 2] := by
  intro d
  have h37 := h.2.2.2.1
  have e124 := sp124 (V := V) (J := J) (d := d) hp
  by_cases h1 : 0 ≤ p ∧ p < 3
  · rw [if_pos h1] at e124
    obtain ⟨x, x1, x2⟩ := sp136 (d := d) h hp
    have xr := oVd_rng x1
    by_cases hx : x = 0
    · left
      subst hx
      obtain ⟨s, V', J', U', I', r1, r2, r3, r4, r5, r6⟩ := tw_con (N := N) hp d (V 430 37).toNat 0 0 V V J J h (by omega) pC_r ⟨rfl, rfl⟩
      rw [show ((0 : Nat) : Int) = 0 from rfl] at r1
      refine ⟨s, vup V' 0 11 (V' 0 11 + 1), J', ?_, ?_⟩
      · simp (disch := first | omega | assumption | (simp (disch := omega) only [vup_fn, vup_o, vup_k, vup_at]; first | done | omega | assumption)) only [ze_142_0, ze_142_5, ze_142_10, e124, x2, r1, Int.add_zero, ↓reduceIte, qw_id, zck_T, zck_t, zGor_v, zGor_n, zGor_e, zbs, vup_at, vup_vup, vup_self, vup_o, vup_k, vup_fn, ne_eq, not_true_eq_false, not_false_eq_true, and_true, true_and, and_self, and_false, false_and, or_true, true_or, or_self, or_false, false_or, xlt_t, xlt_f, xle_t, xle_f, xeq_t, xeq_f, xand_f, xor_t]
      intro J2 d2 hj
      have e1 := sp147 (V := vup V' 0 11 (V' 0 11 + 1)) (J := J2) (d := d2) (a := p) (b := 3) hp (by omega)
      rw [if_pos h1] at e1
      have g : ∀ o : Nat, 430 ≤ o → vup V' 0 11 (V' 0 11 + 1) o = V o := fun o ho => by rw [vup_fn (by omega)]; exact (r3 o ho).1
      have gj : ∀ o : Nat, 430 ≤ o → o ≠ 474 → J2 o = J o := fun o ho h4 => (hj o h4).trans (r3 o ho).2
      have hs : oSt V J (vup V' 0 11 (V' 0 11 + 1)) J2 (vup V' 0 11 (V' 0 11 + 1)) J2 (V 430 60) (J2 474) := ⟨⟨fun o ho => g o (by omega), ⟨by rw [g 430 (by omega)], by rw [g 430 (by omega)], by rw [g 430 (by omega)], by rw [g 430 (by omega)], by rw [g 430 (by omega)]⟩, gj 468 (by omega) (by omega), gj 469 (by omega) (by omega)⟩, fun o ho => ⟨rfl, rfl⟩, by rw [g 430 (by omega)], rfl⟩
      obtain ⟨y, W, K, y1, y2, y3⟩ := m225 (d := d2) h h1 hs
      have hxy := oVd_un x1 y1
      subst hxy
      have e2 := sm150 (V := W) (J := K) (d := d2) (p := 1) (q := 1) (r := 1) (by omega) (by omega) (by omega)
      rw [if_pos (show gC 1 1 1 = 0 from rfl)] at e2
      obtain ⟨W', s1, s2, s3⟩ := r6 (vup W 430 60 (gC 1 1 1)) K d2 1 (pM_t y2.1 pM_60)
      rw [show ((0 : Nat) : Int) = 0 from rfl] at s1
      refine ⟨s, vup W' 430 59 (W' 430 59 + 1), K, ?_, ?_, ?_, y2.2.2.2, fun _ => rfl⟩
      · simp (disch := first | omega | assumption | (simp (disch := omega) only [vup_fn, vup_o, vup_k, vup_at]; first | done | omega | assumption)) only [ze_229_0, ze_229_5, ze_229_17, ze_229_24, ze_229_25, ze_229_29, e1, y3, e2, s1, Int.add_zero, ↓reduceIte, qw_id, zck_T, zck_t, zGor_v, zGor_n, zGor_e, zbs, vup_at, vup_vup, vup_self, vup_o, vup_k, vup_fn, ne_eq, not_true_eq_false, not_false_eq_true, and_true, true_and, and_self, and_false, false_and, or_true, true_or, or_self, or_false, false_or, xlt_t, xlt_f, xle_t, xle_f, xeq_t, xeq_f, xand_f, xor_t]
      · rw [vup_k (by omega), s3 430 (by omega) (by omega), vup_at]
        rfl
      · have wc : ∀ o : Nat, o < 430 → W' o = vup V' 0 11 (V' 0 11 + 1) o := fun o ho => by
          rw [s3 o (by omega) (by omega), vup_fn (by omega)]
          exact (y2.2.1 o ho).1
        have hZ : zInv N (fun o => if o = 0 then U' 0 else W' o) K := by
          refine zInv_fr ⟨fun o ho => ?_, ?_, ?_, ?_⟩ ⟨fun o ho => ?_, fun o ho => ?_⟩ r4
          · show (if o = 0 then U' 0 else W' o) = U' o
            rw [if_neg (by omega)]
            exact s2.1 o ho
          · exact s2.2.1
          · exact s2.2.2.1
          · exact s2.2.2.2
          · show (if o = 0 then U' 0 else W' o) = U' o
            by_cases q : o = 0
            · rw [if_pos q, q]
            · rw [if_neg q, wc o (by omega), vup_fn q]
              exact r2.1 o ho
          · rw [(y2.2.1 o (by omega)).2, hj o (by omega)]
            exact r2.2 o ho
        have h0 : V' 0 = U' 0 := r2.1 0 (by omega)
        refine zInv_cc hZ hN (fun o o1 o2 => ?_) ?_ ⟨?_, ?_, ?_, ?_⟩ ⟨?_, ?_⟩
        · rw [vup_fn o2]
          show W' o = if o = 0 then U' 0 else W' o
          rw [if_neg o1]
        · rw [vup_o (by omega), wc 0 (by omega), vup_k (by omega), h0]
          rfl
        · rw [vup_k (by omega)]
          rfl
        · rw [vup_k (by omega)]
          rfl
        · rw [vup_k (by omega)]
          rfl
        · rw [vup_k (by omega)]
          rfl
        · rw [vup_o (by omega), wc 0 (by omega), vup_at, h0]
          rfl
        · rw [vup_at]
          rfl
    · right
      refine ⟨1, 2, V, J, rfl, ?_, zRn_of h hN ?_⟩
      · simp (disch := first | omega | assumption | (simp (disch := omega) only [vup_fn, vup_o, vup_k, vup_at]; first | done | omega | assumption)) only [ze_142_0, ze_142_5, ze_142_10, e124, x2, Int.add_zero, ↓reduceIte, qw_id, zck_T, zck_t, zGor_v, zGor_n, zGor_e, zbs, vup_at, vup_vup, vup_self, vup_o, vup_k, vup_fn, ne_eq, not_true_eq_false, not_false_eq_true, and_true, true_and, and_self, and_false, false_and, or_true, true_or, or_self, or_false, false_or, xlt_t, xlt_f, xle_t, xle_f, xeq_t, xeq_f, xand_f, xor_t]
      intro J2 d2 hj hi
      have e1 := sp147 (V := V) (J := J2) (d := d2) (a := p) (b := 3) hp (by omega)
      rw [if_pos h1] at e1
      have hs : oSt V J V J2 V J2 (V 430 60) (J2 474) := ⟨pM_j hj, fun o ho => ⟨rfl, rfl⟩, rfl, rfl⟩
      obtain ⟨y, W, K, y1, y2, y3⟩ := m225 (d := d2) h h1 hs
      have hxy := oVd_un x1 y1
      subst hxy
      have e2 := sm150 (V := W) (J := K) (d := d2) (p := 1) (q := 0) (r := 1) (by omega) (by omega) (by omega)
      rw [if_neg (show ¬ gC 1 0 1 = 0 by decide)] at e2
      obtain ⟨a1, a2, a3, a4⟩ := y2.1
      have hpm : pM V W J2 K := ⟨a1, a2, a3.trans (hj 468 (by omega)).symm, a4.trans (hj 469 (by omega)).symm⟩
      refine ⟨0, vup W 430 60 (gC 1 0 1), K, ?_, vup_at _ _ _ _, pM_t hpm pM_60, ⟨fun o ho => by rw [vup_fn (by omega)]; exact (y2.2.1 o (by omega)).1, fun o ho => (y2.2.1 o (by omega)).2⟩, y2.2.2.2, fun w => by omega⟩
      simp (disch := first | omega | assumption | (simp (disch := omega) only [vup_fn, vup_o, vup_k, vup_at]; first | done | omega | assumption)) only [ze_229_0, ze_229_5, ze_229_17, ze_229_24, ze_229_25, ze_229_29, e1, y3, e2, Int.add_zero, ↓reduceIte, qw_id, zck_T, zck_t, zGor_v, zGor_n, zGor_e, zbs, vup_at, vup_vup, vup_self, vup_o, vup_k, vup_fn, ne_eq, not_true_eq_false, not_false_eq_true, and_true, true_and, and_self, and_false, false_and, or_true, true_or, or_self, or_false, false_or, xlt_t, xlt_f, xle_t, xle_f, xeq_t, xeq_f, xand_f, xor_t]
  · right
    rw [if_neg h1] at e124
    refine ⟨0, 0, V, J, rfl, ?_, zRn_of h hN ?_⟩
    · simp (disch := first | omega | assumption | (simp (disch := omega) only [vup_fn, vup_o, vup_k, vup_at]; first | done | omega | assumption)) only [ze_142_0, ze_142_5, ze_142_10, e124, Int.add_zero, ↓reduceIte, qw_id, zck_T, zck_t, zGor_v, zGor_n, zGor_e, zbs, vup_at, vup_vup, vup_self, vup_o, vup_k, vup_fn, ne_eq, not_true_eq_false, not_false_eq_true, and_true, true_and, and_self, and_false, false_and, or_true, true_or, or_self, or_false, false_or, xlt_t, xlt_f, xle_t, xle_f, xeq_t, xeq_f, xand_f, xor_t]
    intro J2 d2 hj hi
    have e1 := sp147 (V := V) (J := J2) (d := d2) (a := p) (b := 3) hp (by omega)
    rw [if_neg h1] at e1
    have e2 := sm150 (V := V) (J := J2) (d := d2) (p := 0) (q := 0) (r := 1) (by omega) (by omega) (by omega)
    rw [if_neg (show ¬ gC 0 0 1 = 0 by decide)] at e2
    refine ⟨0, vup V 430 60 (gC 0 0 1), J2, ?_, vup_at _ _ _ _, pM_60, pC_60, rfl, fun w => by omega⟩
    simp (disch := first | omega | assumption | (simp (disch := omega) only [vup_fn, vup_o, vup_k, vup_at]; first | done | omega | assumption)) only [ze_229_0, ze_229_5, ze_229_17, ze_229_24, ze_229_25, ze_229_29, e1, e2, Int.add_zero, ↓reduceIte, qw_id, zck_T, zck_t, zGor_v, zGor_n, zGor_e, zbs, vup_at, vup_vup, vup_self, vup_o, vup_k, vup_fn, ne_eq, not_true_eq_false, not_false_eq_true, and_true, true_and, and_self, and_false, false_and, or_true, true_or, or_self, or_false, false_or, xlt_t, xlt_f, xle_t, xle_f, xeq_t, xeq_f, xand_f, xor_t]
end
