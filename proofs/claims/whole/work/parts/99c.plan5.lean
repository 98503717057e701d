/-! part 99c: learns, rehearses of the reference -/
/-- what the reference has learned, by the singers below s -/
def oLD (U : zVt) (I : zJt) (r s : Int) (W : zVt) (K : zJt) : Prop := ∀ i, (∀ j, U 455 j < s → oCn U r j i → W 472 i = oNv U I j i ∧ W 471 i = U (233 + 5 * j.toNat) 3 ∧ W 470 i = yHr (fun t => yBg (cSd I (233 + 5 * j.toNat) (i % 40) t)) 16 ∧ ∀ q, 0 ≤ q → q < 8 → zby (K 468 i) q = yMb (cSd I (233 + 5 * j.toNat) (i % 40) q) ∧ zby (K 469 i) q = yMb (cSd I (233 + 5 * j.toNat) (i % 40) (q + 8))) ∧ ((∀ j, U 455 j < s → ¬ oCn U r j i) → W 472 i = U 472 i ∧ W 471 i = U 471 i ∧ W 470 i = U 470 i ∧ K 468 i = I 468 i ∧ K 469 i = I 469 i)
section
variable {U W : zVt} {I K : zJt} {N r : Int} {d : Nat → Nat → UInt64}
theorem rMus_lr {M : Nat} {i x y z : Int} {L1 L2 : Int64} {s : Int} (h : rMus U I M W K s) : rMus U I M (vup (vup (vup W 472 i x) 471 i y) 470 i z) (jup (jup K 468 i L1) 469 i L2) s := by
  unfold rMus mBar at h ⊢
  rw [vup_fn (by decide), vup_fn (by decide), vup_fn (by decide), vup_fn (by decide), vup_fn (by decide), vup_fn (by decide), vup_fn (by decide), vup_fn (by decide), vup_fn (by decide), vup_fn (by decide), vup_fn (by decide), vup_fn (by decide), jup_fn (by decide), jup_fn (by decide), jup_fn (by decide), jup_fn (by decide)]
  exact h
theorem ml219 (h : zInv N U I) {k : Nat} (hk : (k : Int) < U 430 37) (z0 : U (233 + 5 * k) 0 = 0) {s : Int} {w : Nat} (hs : 0 ≤ s ∧ s < 12) (hw : U 454 k = w) {to x3 : Int} (ht : 0 ≤ to ∧ to < U (233 + 5 * k) 2) (n : Nat) : ∀ (W : zVt) (K : zJt) (b : Int) (x6 : Value), 0 ≤ b → to + 1 = b + n → W 454 k = w → rMus U I (233 + 5 * k) W K 0 → (∀ i, (s * 12 + w) * 40 + b ≤ i → i ≤ (s * 12 + w) * 40 + to → W 472 i = U 472 i ∧ W 471 i = U 471 i ∧ W 470 i = U 470 i ∧ K 468 i = I 468 i ∧ K 469 i = I 469 i) → ∃ W' K', zGo false 219 10 [.ref 430, .int (zi s), .int (zi k), .int (zi x3), .int (zi to), .int (zi b), x6] [] (zm W K d) = zN1 W' K' d ∧ (∀ i, (((s * 12 + w) * 40 + b ≤ i ∧ i ≤ (s * 12 + w) * 40 + to) → W' 472 i = (if oKi U I i (233 + 5 * k) (i - (s * 12 + w) * 40) = 1 then U 47 i + 1 else 1) ∧ W' 471 i = U (233 + 5 * k) 3 ∧ W' 470 i = yHr (fun t => yBg (cSd I (233 + 5 * k) (i - (s * 12 + w) * 40) t)) 16 ∧ ∀ q, 0 ≤ q → q < 8 → zby (K' 468 i) q = yMb (cSd I (233 + 5 * k) (i - (s * 12 + w) * 40) q) ∧ zby (K' 469 i) q = yMb (cSd I (233 + 5 * k) (i - (s * 12 + w) * 40) (q + 8))) ∧ (¬((s * 12 + w) * 40 + b ≤ i ∧ i ≤ (s * 12 + w) * 40 + to) → W' 472 i = W 472 i ∧ W' 471 i = W 471 i ∧ W' 470 i = W 470 i ∧ K' 468 i = K 468 i ∧ K' 469 i = K 469 i)) ∧ (∀ o : Nat, o ≠ 470 → o ≠ 471 → o ≠ 472 → W' o = W o) ∧ ∀ o : Nat, o ≠ 468 → o ≠ 469 → K' o = K o := by
  have h37 := h.2.2.2.1
  obtain ⟨b5, mk, c3, c4, c2, c5, c1, hB, k40⟩ := iCp_mk h hk
  have r2 := mk.2.2.1
  have hmt := iMs_mt c1 z0
  rw [show (U 454 k).toNat = w by omega] at hmt
  have hN := h.2.2.2.2.2.2.2.2.2
  induction n with
  | zero =>
    intro W K b x6 b0 hb h0 hM hold
    refine ⟨W, K, ?_, fun i => ⟨fun q => by omega, fun _ => ⟨rfl, rfl, rfl, rfl, rfl⟩⟩, fun _ _ _ _ => rfl, fun _ _ _ => rfl⟩
    rw [ze_219_10]
    simp (disch := first | omega | assumption | (simp (disch := omega) only [vup_fn, vup_o, vup_k, vup_at]; first | done | omega | assumption)) only [Int.add_zero, ↓reduceIte, qw_id, zck_T, zck_t, zGor_v, zGor_n, zGor_e, zbs, vup_at, vup_vup, vup_self, vup_o, vup_k, vup_fn, ne_eq, not_true_eq_false, not_false_eq_true, and_true, true_and, and_self, and_false, false_and, or_true, true_or, or_self, or_false, false_or, xlt_t, xlt_f, xle_t, xle_f, xeq_t, xeq_f, xand_f, xor_t]
  | succ n ih =>
    intro W K b x6 b0 hb h0 hM hold
    have hbM : 0 ≤ b ∧ b < U (233 + 5 * k) 2 := by omega
    have e220 := m220p (d := d) h hs (w := w) (by omega) b0 (hold _ (by omega) (by omega)) (sl := 0) (by omega) hM hbM.2 r2.2 z0 hmt mk.2.2.2.2.1
    have hkr := (iLrn_f h hs (w := w) (by omega) (b := b) (by omega)).2.1
    have hk72 := (iLrn_f h hs (w := w) (by omega) (b := b) (by omega)).1
    have hix : 40 * (12 * s + (w : Int)) + b = (s * 12 + w) * 40 + b := by omega
    have hir : 0 ≤ (s * 12 + (w : Int)) * 40 + b ∧ (s * 12 + (w : Int)) * 40 + b < 5760 := by omega
    obtain ⟨bs, hbs⟩ : ∃ bs, (s * 12 + (w : Int)) * 40 = bs := ⟨_, rfl⟩
    rw [hbs] at e220 ih hold hix hir hkr hk72 ⊢
    have ho := (hold (bs + b) (by omega) (by omega)).1
    have g450 : W 450 0 = U (233 + 5 * k) 3 := hM.2.2.1 z0
    have g453 := rMus_bg hM hbM
    rw [show 40 * 0 + b = b by omega] at g453
    have gby := fun t ht => rMus_by hM hbM (t := t) ht
    rw [show 40 * 0 + b = b by omega] at gby
    obtain ⟨x, hx⟩ : ∃ x, (if oKi U I (bs + b) (233 + 5 * k) b = 1 then U 47 (bs + b) + 1 else 1) = x := ⟨_, rfl⟩
    obtain ⟨W', K', i1, i2, i3, i4⟩ := ih (vup (vup (vup W 472 (bs + b) x) 471 (bs + b) (U (233 + 5 * k) 3)) 470 (bs + b) (W 453 b)) (jup (jup K 468 (bs + b) (K 451 b)) 469 (bs + b) (K 452 b)) (b + 1) (.int (zi (bs + b))) (by omega) (by omega) (by rw [vup_o (by omega), vup_o (by omega), vup_o (by omega)]; exact h0) (rMus_lr hM) (fun i i0 i1 => by
      rw [vup_o (by omega), vup_o (by omega), vup_k (by omega), vup_o (by omega), vup_k (by omega), vup_o (by omega), vup_k (by omega), vup_o (by omega), vup_o (by omega), jup_o (by omega), jup_k (by omega), jup_k (by omega), jup_o (by omega)]
      exact hold i (by omega) i1)
    refine ⟨W', K', ?_, ?_, ?_, ?_⟩
    · have w472 : W 472 (bs + b) = U 47 (bs + b) := by rw [ho]; exact hk72.symm
      have hj : jup K 468 (bs + b) (K 451 b) 452 b = K 452 b := jup_o (by decide)
      rcases oKi_01 U I (bs + b) (233 + 5 * k) b with q | q
      · rw [if_neg (by omega)] at hx
        subst hx
        rw [q] at e220
        clear ih hold hM i2 gby g453
        rw [ze_219_10]
        simp (disch := first | omega | assumption | (simp (disch := omega) only [vup_fn, vup_o, vup_k, vup_at]; first | done | omega | assumption)) only [h0, hix, e220, ze_219_56, ze_219_72, g450, hj, i1, Int.add_zero, ↓reduceIte, qw_id, zck_T, zck_t, zGor_v, zGor_n, zGor_e, zbs, vup_at, vup_vup, vup_self, vup_o, vup_k, vup_fn, ne_eq, not_true_eq_false, not_false_eq_true, and_true, true_and, and_self, and_false, false_and, or_true, true_or, or_self, or_false, false_or, xlt_t, xlt_f, xle_t, xle_f, xeq_t, xeq_f, xand_f, xor_t]
      · rw [if_pos q] at hx
        subst hx
        rw [q] at e220
        clear ih hold hM i2 gby g453
        rw [ze_219_10]
        simp (disch := first | omega | assumption | (simp (disch := omega) only [vup_fn, vup_o, vup_k, vup_at]; first | done | omega | assumption)) only [h0, hix, e220, ze_219_56, w472, ze_219_72, g450, hj, i1, Int.add_zero, ↓reduceIte, qw_id, zck_T, zck_t, zGor_v, zGor_n, zGor_e, zbs, vup_at, vup_vup, vup_self, vup_o, vup_k, vup_fn, ne_eq, not_true_eq_false, not_false_eq_true, and_true, true_and, and_self, and_false, false_and, or_true, true_or, or_self, or_false, false_or, xlt_t, xlt_f, xle_t, xle_f, xeq_t, xeq_f, xand_f, xor_t]
    · intro i
      obtain ⟨g1, g2⟩ := i2 i
      by_cases e : i = bs + b
      · obtain ⟨k1, k2, k3, k4, k5⟩ := g2 (by omega)
        subst e
        refine ⟨fun _ => ⟨?_, ?_, ?_, fun q q0 q1 => ?_⟩, fun q => by omega⟩
        · rw [k1, vup_o (by omega), vup_o (by omega), vup_at, ← hx, show bs + b - bs = b by omega]
        · rw [k2, vup_o (by omega), vup_at]
        · rw [k3, vup_at, g453, show bs + b - bs = b by omega]
        · rw [k4, k5, jup_o (by omega), jup_at, jup_at, show bs + b - bs = b by omega]
          refine ⟨(gby q (by omega)).1 q1, ?_⟩
          have g := (gby (q + 8) (by omega)).2 (by omega)
          rw [show q + 8 - 8 = q by omega] at g
          exact g
      · constructor
        · intro q
          exact g1 (by omega)
        · intro q
          obtain ⟨k1, k2, k3, k4, k5⟩ := g2 (by omega)
          rw [k1, k2, k3, k4, k5, vup_o (by omega), vup_o (by omega), vup_k e, vup_o (by omega), vup_k e, vup_o (by omega), vup_k e, vup_o (by omega), vup_o (by omega), jup_o (by omega), jup_k e, jup_k e, jup_o (by omega)]
          exact ⟨rfl, rfl, rfl, rfl, rfl⟩
    · intro o o1 o2 o3
      rw [i3 o o1 o2 o3, vup_fn o1, vup_fn o2, vup_fn o3]
    · intro o o1 o2
      rw [i4 o o1 o2, jup_fn o2, jup_fn o1]
theorem ml218 (h : zInv N U I) (hr : 0 ≤ r ∧ r < U 430 52) {S : Int → Int} (hS : oSi U r S) {t q : Int} (ht : 0 ≤ t ∧ t < 4) (n : Nat) : ∀ (s : Int) (W : zVt) (K : zJt), 0 ≤ s → 12 = s + n → pMp U W → (∀ u, 0 ≤ u → u < 12 → W 473 u = S u) → (∀ x, W 462 x = if (12 * t ≤ x ∧ x < 12 * t + s) ∧ S (x - 12 * t) ≠ -1 then 1 else U 462 x) → oLD U I r s W K → ∃ W' K', zGo false 218 34 [.ref 430, .int (zi r), .int (zi t), .int (zi q), .int (zi s)] [] (zm W K d) = zN1 W' K' d ∧ pMp U W' ∧ (∀ x, W' 462 x = if (12 * t ≤ x ∧ x < 12 * t + 12) ∧ S (x - 12 * t) ≠ -1 then 1 else U 462 x) ∧ oLD U I r 12 W' K' ∧ (∀ o : Nat, o < 430 ∨ o = 461 ∨ o = 467 → W' o = W o) ∧ (∀ o : Nat, o < 430 → K' o = K o) ∧ W' 430 60 = W 430 60 ∧ K' 474 = K 474 := by
  have h37 := h.2.2.2.1
  obtain ⟨b1, b2, b3, b4, b5', b6, b7, b8⟩ := h.2.2.2.2.2.2.1
  obtain ⟨q1, q2, q3, q4, q5, q6, q7, q8, q9⟩ := b8 r hr.1 hr.2
  induction n with
  | zero =>
    intro s W K s0 hs hm h473 h462 hL
    obtain rfl : s = 12 := by omega
    refine ⟨W, K, ?_, hm, h462, hL, fun _ _ => rfl, fun _ _ => rfl, rfl, rfl⟩
    clear hL h462
    rw [ze_218_34]
    simp (disch := first | omega | assumption | (simp (disch := omega) only [vup_fn, vup_o, vup_k, vup_at]; first | done | omega | assumption)) only [Int.add_zero, ↓reduceIte, qw_id, zck_T, zck_t, zGor_v, zGor_n, zGor_e, zbs, vup_at, vup_vup, vup_self, vup_o, vup_k, vup_fn, ne_eq, not_true_eq_false, not_false_eq_true, and_true, true_and, and_self, and_false, false_and, or_true, true_or, or_self, or_false, false_or, xlt_t, xlt_f, xle_t, xle_f, xeq_t, xeq_f, xand_f, xor_t]
  | succ n ih =>
    intro s W K s0 hs hm h473 h462 hL
    have hs12 : 0 ≤ s ∧ s < 12 := by omega
    have a473 := h473 s s0 hs12.2
    rcases hS s s0 hs12.2 with ⟨c1, c2⟩ | ⟨c1, c2⟩
    · have hL1 : oLD U I r (s + 1) W K := fun i => by
        obtain ⟨l1, l2⟩ := hL i
        have hne : ∀ j, oCn U r j i → U 455 j ≠ s := fun j j1 e => c2 ⟨j, j1.1, e⟩
        exact ⟨fun j j1 j2 => l1 j (by have := hne j j2; omega) j2, fun w => l2 (fun j j1 => w j (by omega))⟩
      have h462' : ∀ x, W 462 x = if (12 * t ≤ x ∧ x < 12 * t + (s + 1)) ∧ S (x - 12 * t) ≠ -1 then 1 else U 462 x := fun x => by
        rw [h462 x]
        by_cases e : x = 12 * t + s
        · rw [if_neg (fun w => by omega), if_neg (fun w => w.2 (by rw [e, show 12 * t + s - 12 * t = s by omega]; exact c1))]
        · by_cases e2 : (12 * t ≤ x ∧ x < 12 * t + s) ∧ S (x - 12 * t) ≠ -1
          · rw [if_pos e2, if_pos ⟨by omega, e2.2⟩]
          · rw [if_neg e2, if_neg (fun w => e2 ⟨by omega, w.2⟩)]
      obtain ⟨W', K', i1, i2⟩ := ih (s + 1) W K (by omega) (by omega) hm h473 h462' hL1
      refine ⟨W', K', ?_, i2⟩
      clear hL hL1 h462 h462' ih i2 c2 hS
      rw [ze_218_34]
      simp (disch := first | omega | assumption | (simp (disch := omega) only [vup_fn, vup_o, vup_k, vup_at]; first | done | omega | assumption)) only [a473, c1, ze_218_90, i1, Int.add_zero, ↓reduceIte, qw_id, zck_T, zck_t, zGor_v, zGor_n, zGor_e, zbs, vup_at, vup_vup, vup_self, vup_o, vup_k, vup_fn, ne_eq, not_true_eq_false, not_false_eq_true, and_true, true_and, and_self, and_false, false_and, or_true, true_or, or_self, or_false, false_or, xlt_t, xlt_f, xle_t, xle_f, xeq_t, xeq_f, xand_f, xor_t]
    · obtain ⟨k, hk⟩ : ∃ k : Nat, S s = k := ⟨(S s).toNat, by have := c1.1.1.1; omega⟩
      rw [hk] at c1 c2 a473
      have hkl : (k : Int) < U 430 37 := c1.1.1.2
      have hkn : ((k : Nat) : Int).toNat = k := by omega
      obtain ⟨b5, mk, c3, c4, d2, d5, d1, hB, k40⟩ := iCp_mk h hkl
      obtain ⟨w, hw⟩ : ∃ w : Nat, U 454 k = w := ⟨(U 454 k).toNat, by omega⟩
      have z0 : U (233 + 5 * k) 0 = 0 := by have := c1.2.2.1; rw [hkn] at this; exact this
      have hto : U 466 r < U (233 + 5 * k) 2 := by have := c1.2.2.2; rw [hkn] at this; exact this
      have hcn : ∀ i, oCn U r k i ↔ ((s * 12 + w) * 40 + U 465 r ≤ i ∧ i ≤ (s * 12 + w) * 40 + U 466 r) := fun i => by
        unfold oCn
        rw [hw, c2]
        constructor
        · rintro ⟨_, a1, a2, a3⟩
          omega
        · intro a
          exact ⟨c1, by omega, by omega, by omega⟩
      have hm1 : pMp U (vup W 462 (12 * t + s) 1) := ⟨fun o ho => by rw [vup_fn (by omega)]; exact hm.1 o ho, by rw [vup_fn (by omega)]; exact hm.2⟩
      have w465 : vup W 462 (12 * t + s) 1 465 r = U 465 r := by rw [vup_o (by omega), hm.1 465 (by omega)]
      have w466 : vup W 462 (12 * t + s) 1 466 r = U 466 r := by rw [vup_o (by omega), hm.1 466 (by omega)]
      have w473 : vup W 462 (12 * t + s) 1 473 s = k := by rw [vup_o (by omega)]; exact a473
      obtain ⟨W1, K1, m1, m2, m3, m4, m5, m6⟩ := m198p (d := d) h hm1 hkl (s := 0) (by omega)
      rw [z0] at m1
      have f1 : ∀ o : Nat, ¬(o = 430 ∨ (433 ≤ o ∧ o ≤ 450) ∨ o = 453) → o ≠ 462 → W1 o = W o := fun o o1 o2 => by rw [m2.1 o o1, vup_fn o2]
      have j1 : ∀ o : Nat, o ≠ 451 → o ≠ 452 → K1 o = K o := fun o o1 o2 => m2.2.2.2.2.1 o o1 o2
      have hno : ∀ i, ((s * 12 + w) * 40 + U 465 r ≤ i ∧ i ≤ (s * 12 + w) * 40 + U 466 r) → ∀ j, U 455 j < s → ¬ oCn U r j i := fun i hi j jl jc => by
        have a2 := jc.2.1
        have rj := iCp_rg h j jc.1.1.1.1 jc.1.1.1.2
        omega
      obtain ⟨W2, K2, p1, p2, p3, p4⟩ := ml219 (d := d) h hkl z0 hs12 hw (to := U 466 r) (x3 := U 465 r) ⟨by omega, hto⟩ (U 466 r + 1 - U 465 r).toNat W1 K1 (U 465 r) .null (by omega) (by omega) (by rw [f1 454 (by omega) (by omega), hm.1 454 (by omega)]; exact hw) m6 (fun i i0 i1 => by
        rw [f1 472 (by omega) (by omega), f1 471 (by omega) (by omega), f1 470 (by omega) (by omega), j1 468 (by omega) (by omega), j1 469 (by omega) (by omega)]
        exact (hL i).2 (hno i ⟨i0, i1⟩))
      have hm2 : pMp U W2 := by
        refine ⟨fun o ho => by rw [p3 o (by omega) (by omega) (by omega), f1 o (by omega) (by omega)]; exact hm.1 o ho, ?_⟩
        rw [p3 430 (by omega) (by omega) (by omega), m2.2.1 37 (by omega), m2.2.1 42 (by omega), m2.2.1 46 (by omega), m2.2.1 52 (by omega), m2.2.1 59 (by omega)]
        exact hm1.2
      have g462 : ∀ x, W2 462 x = if (12 * t ≤ x ∧ x < 12 * t + (s + 1)) ∧ S (x - 12 * t) ≠ -1 then 1 else U 462 x := fun x => by
        rw [p3 462 (by omega) (by omega) (by omega), m2.1 462 (by omega)]
        by_cases e : x = 12 * t + s
        · rw [e, vup_at, if_pos ⟨by omega, by rw [show 12 * t + s - 12 * t = s by omega, hk]; omega⟩]
        · rw [vup_k e, h462 x]
          by_cases e2 : (12 * t ≤ x ∧ x < 12 * t + s) ∧ S (x - 12 * t) ≠ -1
          · rw [if_pos e2, if_pos ⟨by omega, e2.2⟩]
          · rw [if_neg e2, if_neg (fun w => e2 ⟨by omega, w.2⟩)]
      have hL2 : oLD U I r (s + 1) W2 K2 := fun i => by
        obtain ⟨l1, l2⟩ := hL i
        obtain ⟨v1, v2⟩ := p2 i
        by_cases hc : oCn U r k i
        · have hin := (hcn i).1 hc
          obtain ⟨n1, n2, n3, n4⟩ := v1 hin
          have hb : i - (s * 12 + (w : Int)) * 40 = i % 40 := by
            have a2 := hc.2.1
            rw [hw, c2] at a2
            omega
          rw [hb] at n1 n3 n4
          refine ⟨fun j jl jc => ?_, fun q => absurd hc (q k (by omega))⟩
          have e := oCn_un h jc hc
          subst e
          unfold oNv
          rw [hkn]
          exact ⟨n1, n2, n3, n4⟩
        · obtain ⟨n1, n2, n3, n4, n5⟩ := v2 (fun q => hc ((hcn i).2 q))
          rw [n1, n2, n3, n4, n5, f1 472 (by omega) (by omega), f1 471 (by omega) (by omega), f1 470 (by omega) (by omega), j1 468 (by omega) (by omega), j1 469 (by omega) (by omega)]
          refine ⟨fun j jl jc => ?_, fun q => l2 (fun j jl => q j (by omega))⟩
          by_cases e : U 455 j = s
          · have hjk : j = k := h.2.2.2.2.2.1 j k jc.1.1.1.1 jc.1.1.1.2 c1.1.1.1 c1.1.1.2 jc.1.1.2.1 (by rw [e, c2]) (by rw [jc.1.1.2.2, c1.1.2.2])
            rw [hjk] at jc
            exact absurd jc hc
          · exact l1 j (by omega) jc
      obtain ⟨W', K', i1, i2, i3, i4, i5, i6, i7, i8⟩ := ih (s + 1) W2 K2 (by omega) (by omega) hm2 (fun u u0 u1 => by rw [p3 473 (by omega) (by omega) (by omega), f1 473 (by omega) (by omega)]; exact h473 u u0 u1) g462 hL2
      refine ⟨W', K', ?_, i2, i3, i4, fun o ho => ?_, fun o ho => ?_, ?_, ?_⟩
      · have rr := q8
        clear hL hL2 h462 g462 ih i2 i3 i4 hS hcn hno p2 c1
        rw [ze_218_34]
        simp (disch := first | omega | assumption | (simp (disch := omega) only [vup_fn, vup_o, vup_k, vup_at]; first | done | omega | assumption)) only [a473, w473, w465, w466, ze_219_0, m1, ze_219_6, p1, ze_218_90, i1, Int.add_zero, ↓reduceIte, qw_id, zck_T, zck_t, zGor_v, zGor_n, zGor_e, zbs, vup_at, vup_vup, vup_self, vup_o, vup_k, vup_fn, ne_eq, not_true_eq_false, not_false_eq_true, and_true, true_and, and_self, and_false, false_and, or_true, true_or, or_self, or_false, false_or, xlt_t, xlt_f, xle_t, xle_f, xeq_t, xeq_f, xand_f, xor_t]
      · rw [i5 o ho, p3 o (by omega) (by omega) (by omega), f1 o (by omega) (by omega)]
      · rw [i6 o ho, p4 o (by omega) (by omega), j1 o (by omega) (by omega)]
      · rw [i7, p3 430 (by omega) (by omega) (by omega), m5, vup_o (by omega)]
      · rw [i8, p4 474 (by omega) (by omega), j1 474 (by omega) (by omega)]
theorem m218 (h : zInv N U I) (hr : 0 ≤ r ∧ r < U 430 52) {S : Int → Int} (hS : oSi U r S) {t q : Int} (ht : 0 ≤ t ∧ t < 4) (hq : 0 ≤ q ∧ q < 4) (hm : pM U W I K) (h473 : ∀ u, 0 ≤ u → u < 12 → W 473 u = S u) : ∃ W' K', zGo false 218 0 [.ref 430, .int (zi r), .int (zi t), .int (zi q), .null] [] (zm W K d) = zN1 W' K' d ∧ pMp U W' ∧ (∀ x, W' 462 x = if (12 * t ≤ x ∧ x < 12 * t + 12) ∧ S (x - 12 * t) ≠ -1 then 1 else U 462 x) ∧ oLD U I r 12 W' K' ∧ (∀ x, W' 461 x = if x = 4 * t + q then 1 else U 461 x) ∧ (∀ x, W' 467 x = if x = r then 100 * U 430 46 + 10 * t + q else U 467 x) ∧ (∀ o : Nat, o < 430 → W' o = W o ∧ K' o = K o) ∧ W' 430 60 = W 430 60 ∧ K' 474 = K 474 := by
  obtain ⟨b1, b2, b3, b4, b5', b6, b7, b8⟩ := h.2.2.2.2.2.2.1
  have f : ∀ o : Nat, o ≠ 461 → o ≠ 467 → vup (vup W 461 (4 * t + q) 1) 467 r (100 * U 430 46 + 10 * t + q) o = W o := fun o o1 o2 => by rw [vup_fn o2, vup_fn o1]
  have a461 : W 461 = U 461 := hm.1 461 (by omega)
  have a462 : W 462 = U 462 := hm.1 462 (by omega)
  have a467 : W 467 = U 467 := hm.1 467 (by omega)
  have a46 : vup W 461 (4 * t + q) 1 430 46 = U 430 46 := by rw [vup_o (by omega)]; exact hm.2.1.2.2.1
  have f461 : ∀ x, vup (vup W 461 (4 * t + q) 1) 467 r (100 * U 430 46 + 10 * t + q) 461 x = if x = 4 * t + q then 1 else U 461 x := fun x => by
    rw [vup_o (by omega)]
    by_cases e : x = 4 * t + q
    · rw [if_pos e, e, vup_at]
    · rw [if_neg e, vup_k e, a461]
  have f467 : ∀ x, vup (vup W 461 (4 * t + q) 1) 467 r (100 * U 430 46 + 10 * t + q) 467 x = if x = r then 100 * U 430 46 + 10 * t + q else U 467 x := fun x => by
    by_cases e : x = r
    · rw [if_pos e, e, vup_at]
    · rw [if_neg e, vup_k e, vup_o (by omega), a467]
  have hL : oLD U I r 0 (vup (vup W 461 (4 * t + q) 1) 467 r (100 * U 430 46 + 10 * t + q)) K := fun i => by
    refine ⟨fun j jl jc => ?_, fun _ => ?_⟩
    · have rj := iCp_rg h j jc.1.1.1.1 jc.1.1.1.2
      have := jc.1.1.2.1
      omega
    · rw [f 472 (by omega) (by omega), f 471 (by omega) (by omega), f 470 (by omega) (by omega), hm.1 472 (by omega), hm.1 471 (by omega), hm.1 470 (by omega), hm.2.2.1, hm.2.2.2]
      exact ⟨rfl, rfl, rfl, rfl, rfl⟩
  obtain ⟨W', K', i1, i2, i3, i4, i5, i6, i7, i8⟩ := ml218 (d := d) h hr hS ht (q := q) 12 0 (vup (vup W 461 (4 * t + q) 1) 467 r (100 * U 430 46 + 10 * t + q)) K (by omega) (by omega) ⟨fun o ho => by rw [f o (by omega) (by omega)]; exact hm.1 o (by omega), by rw [f 430 (by omega) (by omega)]; exact hm.2.1⟩ (fun u u0 u1 => by rw [f 473 (by omega) (by omega)]; exact h473 u u0 u1) (fun x => by rw [f 462 (by omega) (by omega), a462, if_neg (fun w => by omega)]) hL
  refine ⟨W', K', ?_, i2, i3, i4, fun x => by rw [i5 461 (by omega), f461], fun x => by rw [i5 467 (by omega), f467], fun o ho => ⟨by rw [i5 o (by omega), f o (by omega) (by omega)], i6 o ho⟩, by rw [i7, f 430 (by omega) (by omega)], i8⟩
  clear hL i4 hS
  rw [ze_218_0]
  simp (disch := first | omega | assumption | (simp (disch := omega) only [vup_fn, vup_o, vup_k, vup_at]; first | done | omega | assumption)) only [a46, i1, Int.add_zero, ↓reduceIte, qw_id, zck_T, zck_t, zGor_v, zGor_n, zGor_e, zbs, vup_at, vup_vup, vup_self, vup_o, vup_k, vup_fn, ne_eq, not_true_eq_false, not_false_eq_true, and_true, true_and, and_self, and_false, false_and, or_true, true_or, or_self, or_false, false_or, xlt_t, xlt_f, xle_t, xle_f, xeq_t, xeq_f, xand_f, xor_t]
end
