/-! part 99d: a request on both sides -/
/-- what the reference is after request r got slot t and room q -/
def oDs (U : zVt) (I : zJt) (r : Int) (S : Int → Int) (t q : Int) (W : zVt) (K : zJt) : Prop := pMp U W ∧ (∀ x, W 462 x = if (12 * t ≤ x ∧ x < 12 * t + 12) ∧ S (x - 12 * t) ≠ -1 then 1 else U 462 x) ∧ oLD U I r 12 W K ∧ (∀ x, W 461 x = if x = 4 * t + q then 1 else U 461 x) ∧ ∀ x, W 467 x = if x = r then 100 * U 430 46 + 10 * t + q else U 467 x
section
variable {U U' : zVt} {I I' : zJt} {N r : Int}
theorem oDs_un (h : zInv N U I) {S : Int → Int} {t q : Int} {W W2 : zVt} {K K2 : zJt} (h1 : oDs U I r S t q W K) (h2 : oDs U I r S t q W2 K2) : pM W W2 K K2 := by
  obtain ⟨a1, a2, a3, a4, a5⟩ := h1
  obtain ⟨b1, b2, b3, b4, b5⟩ := h2
  have hl : ∀ i, W2 472 i = W 472 i ∧ W2 471 i = W 471 i ∧ W2 470 i = W 470 i ∧ K2 468 i = K 468 i ∧ K2 469 i = K 469 i := fun i => by
    obtain ⟨l1, l2⟩ := a3 i
    obtain ⟨m1, m2⟩ := b3 i
    by_cases q : ∃ j, oCn U r j i
    · obtain ⟨j, jc⟩ := q
      have rj := (iCp_rg h j jc.1.1.1.1 jc.1.1.1.2).2.2
      obtain ⟨c1, c2, c3, c4⟩ := l1 j rj jc
      obtain ⟨d1, d2, d3, d4⟩ := m1 j rj jc
      refine ⟨d1.trans c1.symm, d2.trans c2.symm, d3.trans c3.symm, zby_ext (fun q q0 q1 => ?_), zby_ext (fun q q0 q1 => ?_)⟩
      · rw [(c4 q q0 q1).1, (d4 q q0 q1).1]
      · rw [(c4 q q0 q1).2, (d4 q q0 q1).2]
    · obtain ⟨c1, c2, c3, c4, c5⟩ := l2 (fun j _ jc => q ⟨j, jc⟩)
      obtain ⟨d1, d2, d3, d4, d5⟩ := m2 (fun j _ jc => q ⟨j, jc⟩)
      exact ⟨d1.trans c1.symm, d2.trans c2.symm, d3.trans c3.symm, d4.trans c4.symm, d5.trans c5.symm⟩
  refine ⟨fun o ho => ?_, ⟨?_, ?_, ?_, ?_, ?_⟩, funext (fun i => (hl i).2.2.2.1), funext (fun i => (hl i).2.2.2.2)⟩
  · by_cases c : o = 431 ∨ o = 432 ∨ (454 ≤ o ∧ o ≤ 460) ∨ (463 ≤ o ∧ o ≤ 466) ∨ o = 468 ∨ o = 469
    · rw [b1.1 o c, a1.1 o c]
    · rcases (show o = 461 ∨ o = 462 ∨ o = 467 ∨ o = 470 ∨ o = 471 ∨ o = 472 by omega) with e | e | e | e | e | e
      · subst e
        funext x
        rw [b4, a4]
      · subst e
        funext x
        rw [b2, a2]
      · subst e
        funext x
        rw [b5, a5]
      · subst e
        exact funext (fun i => (hl i).2.2.1)
      · subst e
        exact funext (fun i => (hl i).2.1)
      · subst e
        exact funext (fun i => (hl i).1)
  · rw [b1.2.1, a1.2.1]
  · rw [b1.2.2.1, a1.2.2.1]
  · rw [b1.2.2.2.1, a1.2.2.2.1]
  · rw [b1.2.2.2.2.1, a1.2.2.2.2.1]
  · rw [b1.2.2.2.2.2, a1.2.2.2.2.2]
theorem zInv_pl (h : zInv N U I) (hf : ∀ o : Nat, o ≠ 42 → o ≠ 44 → o ≠ 45 → o ≠ 47 → ¬(7 ≤ o ∧ o ≤ 36) → o ≠ 430 → ¬(433 ≤ o ∧ o ≤ 453) → o ≠ 461 → o ≠ 462 → o ≠ 467 → ¬(470 ≤ o) → U' o = U o) (hj : ∀ o : Nat, 37 ≤ o → o ≠ 48 → o ≠ 49 → o < 430 → I' o = I o) (h430 : U' 430 37 = U 430 37 ∧ U' 430 42 = U 430 42 ∧ U' 430 59 = U 430 59) (hr : iReh N U') (hl : iLrn N U' I') : zInv N U' I' := by
  obtain ⟨a1, a2, a3, a4, a5, a6, a7, a8, a9, a10⟩ := h
  have fs : ∀ o : Nat, o ≤ 6 → U' o = U o := fun o _ => hf o (by omega) (by omega) (by omega) (by omega) (by omega) (by omega) (by omega) (by omega) (by omega) (by omega) (by omega)
  have fp : ∀ o : Nat, 50 ≤ o → o ≤ 429 → U' o = U o := fun o _ _ => hf o (by omega) (by omega) (by omega) (by omega) (by omega) (by omega) (by omega) (by omega) (by omega) (by omega) (by omega)
  have fm : ∀ o : Nat, 454 ≤ o → o ≤ 460 → U' o = U o := fun o _ _ => hf o (by omega) (by omega) (by omega) (by omega) (by omega) (by omega) (by omega) (by omega) (by omega) (by omega) (by omega)
  have f431 : U' 431 = U 431 := hf _ (by omega) (by omega) (by omega) (by omega) (by omega) (by omega) (by omega) (by omega) (by omega) (by omega) (by omega)
  have f432 : U' 432 = U 432 := hf _ (by omega) (by omega) (by omega) (by omega) (by omega) (by omega) (by omega) (by omega) (by omega) (by omega) (by omega)
  have h4 : U' 4 = U 4 ∧ U' 5 = U 5 ∧ U' 6 = U 6 := ⟨fs 4 (by omega), fs 5 (by omega), fs 6 (by omega)⟩
  have h3 := fs 3 (by omega)
  refine ⟨?_, ?_, ?_, ?_, ?_, ?_, hr, hl, ?_, a10⟩
  · unfold iTxt at *
    rw [f431, f432]
    refine ⟨a1.1, fun w w1 => ?_⟩
    rw [fp (50 + 15 * w) (by omega) (by omega), fp (51 + 15 * w) (by omega) (by omega)]
    exact a1.2 w w1
  · unfold iCor at *
    rw [h430.2.1, h3, h4.1, h4.2.1, h4.2.2, fm 457 (by omega) (by omega), fm 458 (by omega) (by omega), fm 459 (by omega) (by omega)]
    exact a2
  · intro w w1
    obtain ⟨b1, b2, b3, b4, b5, b6, b7⟩ := a3 w w1
    unfold iPart
    rw [fp (50 + 15 * w) (by omega) (by omega), fp (62 + 15 * w) (by omega) (by omega), h430.1, fm 454 (by omega) (by omega)]
    exact ⟨b1, b2, b3, iMk_fr (fp _ (by omega) (by omega)) (fp _ (by omega) (by omega)) (fm 456 (by omega) (by omega)) h430.2.1 b4, b5, fun q => iRd_fr (fun o h1 h2 => fp o (by omega) (by omega)) (hj _ (by omega) (by omega) (by omega) (by omega)) f431 f432 h3 h4 (b6 q), b7⟩
  · rw [h430.1, fs 0 (by omega)]
    exact a4
  · intro j j1
    obtain ⟨b1, b2, b3⟩ := a5 j j1
    unfold iCopy
    rw [fm 454 (by omega) (by omega), fm 455 (by omega) (by omega), h430.1, fp (230 + 5 * j) (by omega) (by omega), fp (232 + 5 * j) (by omega) (by omega)]
    refine ⟨iMk_fr (fp _ (by omega) (by omega)) (fp _ (by omega) (by omega)) (fm 456 (by omega) (by omega)) h430.2.1 b1, fun q => ?_, b3⟩
    obtain ⟨c1, c2, c3, c4, c5⟩ := b2 q
    exact ⟨c1, c2, c3, c4, iMs_fr (fp _ (by omega) (by omega)) (hj _ (by omega) (by omega) (by omega) (by omega)) f431 f432 h3 h4 c5⟩
  · unfold iOne at *
    rw [h430.1, fm 454 (by omega) (by omega), fm 455 (by omega) (by omega)]
    exact a6
  · rw [fs 0 (by omega), h430.2.2]
    exact a9
end
section
variable {U W : zVt} {I K : zJt} {N r x1 : Int} {d : Nat → Nat → UInt64}
/-- the reference finds no room -/
theorem ml215n (h : zInv N U I) (hr : 0 ≤ r ∧ r < U 430 52) {S g : Int → Int} (hg : yB01 g) (hgS : ∀ s, 0 ≤ s → s < 12 → (g s = 1 ↔ S s ≠ -1)) (hm : pM U W I K) (h473 : ∀ u, 0 ≤ u → u < 12 → W 473 u = S u) (hSr : ∀ u, 0 ≤ u → u < 12 → -1 ≤ S u ∧ S u < 40) (h467 : U 467 r = -1) (n : Nat) : ∀ k : Int, 0 ≤ k → 16 = k + n → (∀ t q, 0 ≤ t → t < 4 → 0 ≤ q → q < 4 → k ≤ 4 * t + q → ¬ oFr U g t q) → zGo false 215 40 [.ref 430, .int (zi x1), .int (zi r), .int (zi (oCt g)), .int (zi k)] [] (zm W K d) = zGo false 215 9 [.ref 430, .int (zi x1), .int (zi (r + 1)), .int (zi (oCt g)), .int (zi (if oCt g ≤ 0 then k else 16))] [] (zm W K d) := by
  obtain ⟨b1, b2, b3, b4, b5', b6, b7, b8⟩ := h.2.2.2.2.2.2.1
  have hcr := oCt_rng hg
  have a467 : W 467 r = -1 := by rw [hm.1 467 (by omega)]; exact h467
  induction n with
  | zero =>
    intro k k0 hk hn
    obtain rfl : k = 16 := by omega
    rw [show (if oCt g ≤ 0 then (16 : Int) else 16) = 16 by split <;> rfl]
    clear hn hgS
    generalize oCt g = c at *
    rw [ze_215_40]
    simp (disch := first | omega | assumption | (simp (disch := omega) only [vup_fn, vup_o, vup_k, vup_at]; first | done | omega | assumption)) only [ze_215_99, Int.add_zero, ↓reduceIte, qw_id, zck_T, zck_t, zGor_v, zGor_n, zGor_e, zbs, vup_at, vup_vup, vup_self, vup_o, vup_k, vup_fn, ne_eq, not_true_eq_false, not_false_eq_true, and_true, true_and, and_self, and_false, false_and, or_true, true_or, or_self, or_false, false_or, xlt_t, xlt_f, xle_t, xle_f, xeq_t, xeq_f, xand_f, xor_t]
  | succ n ih =>
    intro k k0 hk hn
    by_cases hc : oCt g ≤ 0
    · rw [if_pos hc]
      clear hn hgS ih
      generalize oCt g = c at *
      rw [ze_215_40]
      simp (disch := first | omega | assumption | (simp (disch := omega) only [vup_fn, vup_o, vup_k, vup_at]; first | done | omega | assumption)) only [ze_215_99, Int.add_zero, ↓reduceIte, qw_id, zck_T, zck_t, zGor_v, zGor_n, zGor_e, zbs, vup_at, vup_vup, vup_self, vup_o, vup_k, vup_fn, ne_eq, not_true_eq_false, not_false_eq_true, and_true, true_and, and_self, and_false, false_and, or_true, true_or, or_self, or_false, false_or, xlt_t, xlt_f, xle_t, xle_f, xeq_t, xeq_f, xand_f, xor_t]
    · obtain ⟨y, y1, y2, y3⟩ := m217 (d := d) h hg hgS hm h473 hSr (t := k / 4) (q := k % 4) (by omega) (by omega)
      have hy : y = 0 := by
        rcases y1 with q | q
        · exact q
        · exact absurd (y2.1 q) (hn (k / 4) (k % 4) (by omega) (by omega) (by omega) (by omega) (by omega))
      have i := ih (k + 1) (by omega) (by omega) (fun t q t0 t1 q0 q1 hq => hn t q t0 t1 q0 q1 (by omega))
      rw [if_neg hc] at i ⊢
      have hd := qdiv_p (a := k) (b := 4) (by omega) (by omega)
      have hm2 := qrem_p (a := k) (b := 4) (by omega) (by omega)
      rw [hy] at y3
      clear hn hgS ih y2
      generalize oCt g = c at *
      rw [ze_215_40]
      simp (disch := first | omega | assumption | (simp (disch := omega) only [vup_fn, vup_o, vup_k, vup_at]; first | done | omega | assumption)) only [a467, hd, hm2, y3, ze_215_74, ze_215_93, i, Int.add_zero, ↓reduceIte, qw_id, zck_T, zck_t, zGor_v, zGor_n, zGor_e, zbs, vup_at, vup_vup, vup_self, vup_o, vup_k, vup_fn, ne_eq, not_true_eq_false, not_false_eq_true, and_true, true_and, and_self, and_false, false_and, or_true, true_or, or_self, or_false, false_or, xlt_t, xlt_f, xle_t, xle_f, xeq_t, xeq_f, xand_f, xor_t]
/-- the reference finds slot t and room q -/
theorem ml215y (h : zInv N U I) (hr : 0 ≤ r ∧ r < U 430 52) {S g : Int → Int} (hS : oSi U r S) (hg : yB01 g) (hgS : ∀ s, 0 ≤ s → s < 12 → (g s = 1 ↔ S s ≠ -1)) (hm : pM U W I K) (h473 : ∀ u, 0 ≤ u → u < 12 → W 473 u = S u) (hSr : ∀ u, 0 ≤ u → u < 12 → -1 ≤ S u ∧ S u < 40) (h467 : U 467 r = -1) (hc : 0 < oCt g) {t q : Int} (ht : 0 ≤ t ∧ t < 4) (hq : 0 ≤ q ∧ q < 4) (hf : oFr U g t q) (n : Nat) : ∀ k : Int, 0 ≤ k → 4 * t + q = k + n → (∀ u p, 0 ≤ u → 0 ≤ p → p < 4 → 4 * u + p < 4 * t + q → ¬ oFr U g u p) → ∃ W' K' k', zGo false 215 40 [.ref 430, .int (zi x1), .int (zi r), .int (zi (oCt g)), .int (zi k)] [] (zm W K d) = zGo false 215 9 [.ref 430, .int (zi (x1 + 1)), .int (zi (r + 1)), .int (zi (oCt g)), .int (zi k')] [] (zm W' K' d) ∧ oDs U I r S t q W' K' ∧ (∀ o : Nat, o < 430 → W' o = W o ∧ K' o = K o) ∧ W' 430 60 = W 430 60 ∧ K' 474 = K 474 := by
  obtain ⟨b1, b2, b3, b4, b5', b6, b7, b8⟩ := h.2.2.2.2.2.2.1
  have hcr := oCt_rng hg
  have a467 : W 467 r = -1 := by rw [hm.1 467 (by omega)]; exact h467
  induction n with
  | zero =>
    intro k k0 hk hn
    obtain rfl : 4 * t + q = k := by omega
    obtain ⟨y, y1, y2, y3⟩ := m217 (d := d) h hg hgS hm h473 hSr ht hq
    have hy := y2.2 hf
    obtain ⟨W', K', g1, g2, g3, g4, g5, g6, g7, g8, g9⟩ := m218 (d := d) h hr hS ht hq hm h473
    have hd := qdiv_p (a := 4 * t + q) (b := 4) (by omega) (by omega)
    have hm2 := qrem_p (a := 4 * t + q) (b := 4) (by omega) (by omega)
    rw [show (4 * t + q) / 4 = t by omega] at hd
    rw [show (4 * t + q) % 4 = q by omega] at hm2
    have w467 : W' 467 r = 100 * U 430 46 + 10 * t + q := by rw [g6, if_pos rfl]
    have hday := b5'
    refine ⟨W', K', 4 * t + q + 1, ?_, ⟨g2, g3, g4, g5, g6⟩, g7, g8, g9⟩
    have h2 := h.2.2.2.2.2.2.2.2.2
    have hfin : zGo false 215 40 [.ref 430, .int (zi (x1 + 1)), .int (zi r), .int (zi (oCt g)), .int (zi (4 * t + q + 1))] [] (zm W' K' d) = zGo false 215 9 [.ref 430, .int (zi (x1 + 1)), .int (zi (r + 1)), .int (zi (oCt g)), .int (zi (4 * t + q + 1))] [] (zm W' K' d) := by
      clear hn hgS g3 g4 g5 g6 g7 y2 hS hf
      generalize oCt g = c at *
      rw [ze_215_40]
      by_cases e : 4 * t + q + 1 = 16
      · simp (disch := first | omega | assumption | (simp (disch := omega) only [vup_fn, vup_o, vup_k, vup_at]; first | done | omega | assumption)) only [ze_215_99, Int.add_zero, ↓reduceIte, qw_id, zck_T, zck_t, zGor_v, zGor_n, zGor_e, zbs, vup_at, vup_vup, vup_self, vup_o, vup_k, vup_fn, ne_eq, not_true_eq_false, not_false_eq_true, and_true, true_and, and_self, and_false, false_and, or_true, true_or, or_self, or_false, false_or, xlt_t, xlt_f, xle_t, xle_f, xeq_t, xeq_f, xand_f, xor_t]
      · simp (disch := first | omega | assumption | (simp (disch := omega) only [vup_fn, vup_o, vup_k, vup_at]; first | done | omega | assumption)) only [w467, ze_215_99, Int.add_zero, ↓reduceIte, qw_id, zck_T, zck_t, zGor_v, zGor_n, zGor_e, zbs, vup_at, vup_vup, vup_self, vup_o, vup_k, vup_fn, ne_eq, not_true_eq_false, not_false_eq_true, and_true, true_and, and_self, and_false, false_and, or_true, true_or, or_self, or_false, false_or, xlt_t, xlt_f, xle_t, xle_f, xeq_t, xeq_f, xand_f, xor_t]
    rw [hy] at y3
    clear hn hgS g3 g4 g5 g6 g7 y2 hS hf
    generalize oCt g = c at *
    rw [ze_215_40]
    simp (disch := first | omega | assumption | (simp (disch := omega) only [vup_fn, vup_o, vup_k, vup_at]; first | done | omega | assumption)) only [a467, hd, hm2, y3, ze_215_74, g1, ze_215_90, ze_215_93, hfin, Int.add_zero, ↓reduceIte, qw_id, zck_T, zck_t, zGor_v, zGor_n, zGor_e, zbs, vup_at, vup_vup, vup_self, vup_o, vup_k, vup_fn, ne_eq, not_true_eq_false, not_false_eq_true, and_true, true_and, and_self, and_false, false_and, or_true, true_or, or_self, or_false, false_or, xlt_t, xlt_f, xle_t, xle_f, xeq_t, xeq_f, xand_f, xor_t]
  | succ n ih =>
    intro k k0 hk hn
    obtain ⟨y, y1, y2, y3⟩ := m217 (d := d) h hg hgS hm h473 hSr (t := k / 4) (q := k % 4) (by omega) (by omega)
    have hy : y = 0 := by
      rcases y1 with e | e
      · exact e
      · exact absurd (y2.1 e) (hn (k / 4) (k % 4) (by omega) (by omega) (by omega) (by omega))
    obtain ⟨W', K', k', i1, i2⟩ := ih (k + 1) (by omega) (by omega) hn
    refine ⟨W', K', k', ?_, i2⟩
    have hd := qdiv_p (a := k) (b := 4) (by omega) (by omega)
    have hm2 := qrem_p (a := k) (b := 4) (by omega) (by omega)
    rw [hy] at y3
    clear hn hgS ih y2 i2 hS hf
    generalize oCt g = c at *
    rw [ze_215_40]
    simp (disch := first | omega | assumption | (simp (disch := omega) only [vup_fn, vup_o, vup_k, vup_at]; first | done | omega | assumption)) only [a467, hd, hm2, y3, ze_215_74, ze_215_93, i1, Int.add_zero, ↓reduceIte, qw_id, zck_T, zck_t, zGor_v, zGor_n, zGor_e, zbs, vup_at, vup_vup, vup_self, vup_o, vup_k, vup_fn, ne_eq, not_true_eq_false, not_false_eq_true, and_true, true_and, and_self, and_false, false_and, or_true, true_or, or_self, or_false, false_or, xlt_t, xlt_f, xle_t, xle_f, xeq_t, xeq_f, xand_f, xor_t]
theorem oCt_0 {g : Int → Int} (hg : yB01 g) : oCt g ≤ 0 ↔ ∀ s, 0 ≤ s → s < 12 → g s = 0 := by
  have b : ∀ s, 0 ≤ s → s < 12 → 0 ≤ g s ∧ g s ≤ 1 := fun s s0 s1 => by
    have := hg s s0 (by omega)
    omega
  constructor
  · intro h s s0 s1
    have h0 := b 0 (by decide) (by decide)
    have h1 := b 1 (by decide) (by decide)
    have h2 := b 2 (by decide) (by decide)
    have h3 := b 3 (by decide) (by decide)
    have h4 := b 4 (by decide) (by decide)
    have h5 := b 5 (by decide) (by decide)
    have h6 := b 6 (by decide) (by decide)
    have h7 := b 7 (by decide) (by decide)
    have h8 := b 8 (by decide) (by decide)
    have h9 := b 9 (by decide) (by decide)
    have h10 := b 10 (by decide) (by decide)
    have h11 := b 11 (by decide) (by decide)
    unfold oCt at h
    clear b hg
    rcases (show s = 0 ∨ s = 1 ∨ s = 2 ∨ s = 3 ∨ s = 4 ∨ s = 5 ∨ s = 6 ∨ s = 7 ∨ s = 8 ∨ s = 9 ∨ s = 10 ∨ s = 11 by omega) with e | e | e | e | e | e | e | e | e | e | e | e <;> rw [e] <;> omega
  · intro h
    unfold oCt
    rw [h 0 (by decide) (by decide), h 1 (by decide) (by decide), h 2 (by decide) (by decide), h 3 (by decide) (by decide), h 4 (by decide) (by decide), h 5 (by decide) (by decide), h 6 (by decide) (by decide), h 7 (by decide) (by decide), h 8 (by decide) (by decide), h 9 (by decide) (by decide), h 10 (by decide) (by decide), h 11 (by decide) (by decide)]
    decide
/-- the reference's turn at request r -/
theorem m215r (h : zInv N U I) (hr : 0 ≤ r ∧ r < U 430 52) {S g : Int → Int} (hS : oSi U r S) (hg : oGs U r (U 430 37) g) (h467 : U 467 r = -1) (hm : pM U W I K) (x3 x4 : Value) : (((∀ s, 0 ≤ s → s < 12 → g s = 0) ∨ (∀ t q, 0 ≤ t → t < 4 → 0 ≤ q → q < 4 → ¬ oFr U g t q)) → ∃ W' K' y3 y4, zGo false 215 9 [.ref 430, .int (zi x1), .int (zi r), x3, x4] [] (zm W K d) = zGo false 215 9 [.ref 430, .int (zi x1), .int (zi (r + 1)), y3, y4] [] (zm W' K' d) ∧ pM U W' I K' ∧ (∀ o : Nat, o < 430 → W' o = W o ∧ K' o = K o) ∧ W' 430 60 = W 430 60 ∧ K' 474 = K 474) ∧ (¬(∀ s, 0 ≤ s → s < 12 → g s = 0) → ∀ t q, 0 ≤ t → t < 4 → 0 ≤ q → q < 4 → oFr U g t q → (∀ u p, 0 ≤ u → 0 ≤ p → p < 4 → 4 * u + p < 4 * t + q → ¬ oFr U g u p) → ∃ W' K' y3 y4, zGo false 215 9 [.ref 430, .int (zi x1), .int (zi r), x3, x4] [] (zm W K d) = zGo false 215 9 [.ref 430, .int (zi (x1 + 1)), .int (zi (r + 1)), y3, y4] [] (zm W' K' d) ∧ oDs U I r S t q W' K' ∧ (∀ o : Nat, o < 430 → W' o = W o ∧ K' o = K o) ∧ W' 430 60 = W 430 60 ∧ K' 474 = K 474) := by
  obtain ⟨b1, b2, b3, b4, b5', b6, b7, b8⟩ := h.2.2.2.2.2.2.1
  have a52 : W 430 52 = U 430 52 := hm.2.1.2.2.2.1
  have a467 : W 467 r = -1 := by rw [hm.1 467 (by omega)]; exact h467
  have hst : oSt U I W K W K (W 430 60) (K 474) := ⟨hm, fun o _ => ⟨rfl, rfl⟩, rfl, rfl⟩
  obtain ⟨W1, K1, f1, f2, f3⟩ := m216 (d := d) h hr hS hg hst
  have hgS : ∀ s, 0 ≤ s → s < 12 → (g s = 1 ↔ S s ≠ -1) := fun s s0 s1 => oSi_g hS hg ⟨s0, s1⟩
  have hSr : ∀ u, 0 ≤ u → u < 12 → -1 ≤ S u ∧ S u < 40 := fun u u0 u1 => by
    have h37 := h.2.2.2.1
    rcases hS u u0 u1 with ⟨e, _⟩ | ⟨e, _⟩
    · omega
    · have := e.1.1
      omega
  have hstart : zGo false 215 9 [.ref 430, .int (zi x1), .int (zi r), x3, x4] [] (zm W K d) = zGo false 215 40 [.ref 430, .int (zi x1), .int (zi r), .int (zi (oCt g)), .int (zi 0)] [] (zm W1 K1 d) := by
    clear hgS hst f2 f3 hS hg
    rw [ze_215_9]
    simp (disch := first | omega | assumption | (simp (disch := omega) only [vup_fn, vup_o, vup_k, vup_at]; first | done | omega | assumption)) only [a467, f1, ze_215_32, ze_215_36, Int.add_zero, ↓reduceIte, qw_id, zck_T, zck_t, zGor_v, zGor_n, zGor_e, zbs, vup_at, vup_vup, vup_self, vup_o, vup_k, vup_fn, ne_eq, not_true_eq_false, not_false_eq_true, and_true, true_and, and_self, and_false, false_and, or_true, true_or, or_self, or_false, false_or, xlt_t, xlt_f, xle_t, xle_f, xeq_t, xeq_f, xand_f, xor_t]
  rw [hstart]
  constructor
  · intro hno
    by_cases hc : oCt g ≤ 0
    · refine ⟨W1, K1, .int (zi (oCt g)), .int (zi 0), ?_, f2.1, f2.2.1, f2.2.2.1, f2.2.2.2⟩
      have hcr := oCt_rng hg.1
      clear hgS hst f3 hS hg hno hstart f1
      generalize oCt g = c at *
      rw [ze_215_40]
      simp (disch := first | omega | assumption | (simp (disch := omega) only [vup_fn, vup_o, vup_k, vup_at]; first | done | omega | assumption)) only [ze_215_99, Int.add_zero, ↓reduceIte, qw_id, zck_T, zck_t, zGor_v, zGor_n, zGor_e, zbs, vup_at, vup_vup, vup_self, vup_o, vup_k, vup_fn, ne_eq, not_true_eq_false, not_false_eq_true, and_true, true_and, and_self, and_false, false_and, or_true, true_or, or_self, or_false, false_or, xlt_t, xlt_f, xle_t, xle_f, xeq_t, xeq_f, xand_f, xor_t]
    · have hno2 : ∀ t q, 0 ≤ t → t < 4 → 0 ≤ q → q < 4 → ¬ oFr U g t q := by
        rcases hno with e | e
        · exact absurd ((oCt_0 hg.1).2 e) hc
        · exact e
      have e := ml215n (d := d) (x1 := x1) h hr hg.1 hgS f2.1 f3 hSr h467 16 0 (by omega) (by omega) (fun t q t0 t1 q0 q1 _ => hno2 t q t0 t1 q0 q1)
      exact ⟨W1, K1, _, _, e, f2.1, f2.2.1, f2.2.2.1, f2.2.2.2⟩
  · intro hnz t q t0 t1 q0 q1 hf hfirst
    have hc : 0 < oCt g := by
      by_cases c : oCt g ≤ 0
      · exact absurd ((oCt_0 hg.1).1 c) hnz
      · omega
    obtain ⟨W', K', k', i1, i2, i3, i4, i5⟩ := ml215y (d := d) (x1 := x1) h hr hS hg.1 hgS f2.1 f3 hSr h467 hc ⟨t0, t1⟩ ⟨q0, q1⟩ hf (4 * t + q).toNat 0 (by omega) (by omega) hfirst
    exact ⟨W', K', _, _, i1, i2, fun o ho => ⟨(i3 o ho).1.trans (f2.2.1 o ho).1, (i3 o ho).2.trans (f2.2.1 o ho).2⟩, i4.trans f2.2.2.1, i5.trans f2.2.2.2⟩
end
