/-! part 64: the reference's music -/
/-- a fault of singing is at a token, or at the end -/
def y8 (P S : zVt) : Prop := S 0 7 ≠ 0 → 7 ≤ S 0 7 ∧ (S 0 8 = -1 ∨ 0 ≤ S 0 8 ∧ S 0 8 < P 8 0)
theorem y8_fl {P S : zVt} {f t : Int} (hf : 7 ≤ f) (ht : t = -1 ∨ 0 ≤ t ∧ t < P 8 0) : y8 P (yFl S f t) := by
  intro _
  rw [yFl_7]
  refine ⟨hf, ?_⟩
  unfold yFl
  rw [vup_at]
  exact ht
theorem y8_0 {P S : zVt} (h : S 0 7 = 0) : y8 P S := fun q => absurd h q
theorem y8_at {P S : zVt} {z : Int} (h : y8 P S) : y8 P (vup S 0 0 z) := by
  unfold y8
  rw [vup_k (by decide), vup_k (by decide)]
  exact h
theorem yBar_8 {P S : zVt} {a : Int} (h7 : S 0 7 = 0) (ha : a = -1 ∨ 0 ≤ a ∧ a < P 8 0) : y8 P (yBar P S a) := by
  unfold yBar
  split
  · exact y8_fl (by decide) ha
  · split
    · exact y8_fl (by decide) ha
    · exact y8_0 (by simp (disch := decide) only [vst_o, vup_k]; exact h7)
theorem yStep_8 {P S : zVt} {D : Int → Int} (h : yInv P D S) (hn : S 0 0 < P 8 0) : y8 P (yStep P S) := by
  have h7 : S 0 7 = 0 := h.2.2.2.2.2.2.2.2.2.2
  have ha := h.1
  have ht := h.2.2.2.2.2.2.2.2.1
  unfold yStep
  split
  · refine y8_at ?_
    unfold yNote
    split
    · rename_i hb
      exact y8_fl (by decide) (by have := hb.1; omega)
    · split
      · exact y8_fl (by decide) (by omega)
      · refine y8_0 ?_
        rw [vup_k (by decide), vup_k (by decide), vup_k (by decide)]
        split
        · rw [vup_o (by decide), yFil_0 (by decide), h7]
        · rw [yFil_0 (by decide), h7]
  · split
    · refine y8_at ?_
      unfold yRest
      split
      · exact y8_fl (by decide) (by omega)
      · split
        · exact y8_fl (by decide) (by omega)
        · exact y8_0 (by rw [yFil_0 (by decide), h7])
    · split
      · exact y8_at (yBar_8 h7 (by omega))
      · split
        · exact y8_0 (by rw [vup_k (by decide), vup_k (by decide), vup_o (by decide), h7])
        · split
          · split
            · exact y8_0 (by rw [vup_k (by decide), vup_o (by decide), h7])
            · exact y8_0 (by rw [vup_k (by decide), vup_k (by decide), h7])
          · split
            · exact y8_0 (by rw [vup_k (by decide), h7])
            · exact y8_0 (by rw [vup_k (by decide), h7])
theorem yRun_8 {P : zVt} {D : Int → Int} {O : Int → Int → Int} (hP : yTok P D O) : ∀ (j : Nat) (S : zVt), (yInv P D S ∨ S 0 7 ≠ 0) → y8 P S → y8 P (yRun P j S)
  | 0, S, _, h8 => h8
  | j + 1, S, h, h8 => by
    unfold yRun
    split
    · rename_i hc
      have hi : yInv P D S := by
        rcases h with q | q
        · exact q
        · exact absurd hc.2 q
      refine yRun_8 hP j _ ?_ (yStep_8 hi hc.1)
      by_cases w : yStep P S 0 7 = 0
      · exact Or.inl (yStep_inv hP hi hc.1 w).1
      · exact Or.inr w
    · exact h8
theorem yAll_8 {P : zVt} {D : Int → Int} {O : Int → Int → Int} (hP : yTok P D O) : y8 P (yAll P) := by
  have h8 : y8 P (ySong P) := yRun_8 hP 3904 yBeg (Or.inl (yBeg_inv hP)) (y8_0 rfl)
  unfold yAll
  by_cases hs : ySong P 0 7 = 0
  · rw [if_pos hs]
    have hi : yInv P D (ySong P) := by
      rcases yRun_inv hP 3904 yBeg (Or.inl (yBeg_inv hP)) with w | w
      · exact w
      · exact absurd hs w
    have ht := hi.2.2.2.2.2.2.2.2.1
    unfold yFin
    split
    · exact y8_fl (by decide) (by omega)
    · split
      · exact yBar_8 hs (Or.inl rfl)
      · exact h8
  · rw [if_neg hs]
    exact h8
/-- what music leaves: s the place of music -/
def mFm (s : Int) (W : zVt) (J : zJt) (W' : zVt) (J' : zJt) : Prop := (∀ o : Nat, ¬(o = 430 ∨ (433 ≤ o ∧ o ≤ 450) ∨ o = 453) → W' o = W o) ∧ (∀ k : Int, ¬(10 ≤ k ∧ k ≤ 28) → W' 430 k = W 430 k) ∧ (∀ j, ¬(40 * s ≤ j ∧ j < 40 * s + 40) → W' 453 j = W 453 j) ∧ (∀ j, j ≠ s → W' 448 j = W 448 j ∧ W' 449 j = W 449 j ∧ W' 450 j = W 450 j) ∧ (∀ o, o ≠ 451 → o ≠ 452 → J' o = J o) ∧ ∀ j, ¬(40 * s ≤ j ∧ j < 40 * s + 40) → J' 451 j = J 451 j ∧ J' 452 j = J 452 j
/-- where errorAt finds the fault: fault f at pos -/
def mEat (W : zVt) (f pos len : Int) : Prop := (f = 0 → pos = -1) ∧ (f = 1 → W 430 11 = pos) ∧ (f ≠ 0 → f ≠ 1 → W 430 14 = -1 ∧ pos = len ∨ (0 ≤ W 430 14 ∧ W 430 14 < 60) ∧ W 434 (W 430 14) = pos)
section
variable {d : Nat → Nat → UInt64}
theorem sm153 {V : zVt} {J : zJt} (h : zTx (V 432) (V 431)) {w s e cnt n b F A fa : Int} (hw : 0 ≤ w ∧ w < 12) (hs : 0 ≤ s ∧ s < 5) {H : Int → Int} (he : (e = -1 ∧ ∀ c, H c = 0) ∨ ((0 ≤ e ∧ e < 52) ∧ ∀ c, 0 ≤ c → c < 200 → V 456 (200 * e + c) = H c)) (hcn : V 430 42 = cnt) (hx : yTx (zt (V 432) (V 431) w) (V 432 w) n b F A fa) (hg : F = 0 → aGood (zt (V 432) (V 431) w) H (V 457) (V 458) (V 459) cnt n) :
    ∃ V' J', zGo false 153 0 [.ref 430, .int (zi s), .int (zi w), .int (zi e)] [] (zm V J d) = zI1 (sF (aP (zt (V 432) (V 431) w) (V 432 w) n H (V 457) (V 458) (V 459) cnt) F) V' J' d ∧ mFm s V J V' J' ∧ V' 448 s = sF (aP (zt (V 432) (V 431) w) (V 432 w) n H (V 457) (V 458) (V 459) cnt) F ∧ V' 449 s = sN (aP (zt (V 432) (V 431) w) (V 432 w) n H (V 457) (V 458) (V 459) cnt) F ∧ (F = 0 → V' 450 s = tN (zt (V 432) (V 431) w) 2) ∧ (∀ b, 0 ≤ b → b < sN (aP (zt (V 432) (V 431) w) (V 432 w) n H (V 457) (V 458) (V 459) cnt) F → mBar V' J' (40 * s + b) (fun t => yAll (aP (zt (V 432) (V 431) w) (V 432 w) n H (V 457) (V 458) (V 459) cnt) 4 (16 * b + t))) ∧ V' 430 13 = sF (aP (zt (V 432) (V 431) w) (V 432 w) n H (V 457) (V 458) (V 459) cnt) F ∧ mEat V' (sF (aP (zt (V 432) (V 431) w) (V 432 w) n H (V 457) (V 458) (V 459) cnt) F) (sA (aP (zt (V 432) (V 431) w) (V 432 w) n H (V 457) (V 458) (V 459) cnt) F fa) (V 432 w) := by
  have ht := zt_ok h hw
  obtain ⟨V1, c', b', F', A', fa', q1, q2, q3⟩ := sq153 (J := J) (d := d) h hw (s := s) (e := e)
  obtain ⟨z1, z2, z3, z4, z5⟩ := yTx_un hx q2.1
  rw [z1, z2, z3, z4, z5] at q2
  obtain ⟨_, r10, r11, r13, r14, rtok, rpar⟩ := q2
  obtain ⟨u1, u2, u3, u4, u5, u6, u7⟩ := yTx_rng hx ht
  rw [q1]
  clear q1 z1 z2 z3 z4 z5
  generalize hTd : zt (V 432) (V 431) w = T at *
  generalize hLd : V 432 w = len at *
  by_cases hF : F = 0
  · have hg' := hg hF
    obtain ⟨f1, f2, f3, f4, f5⟩ := u7 hF
    have hP := aP_ok ht hx hF hg'
    have h8 := yAll_8 hP
    generalize hPd : aP T len n H (V 457) (V 458) (V 459) cnt = P at *
    have p80 : P 8 0 = n := by rw [← hPd]; rfl
    have p81 : P 8 1 = tN T 2 := by rw [← hPd]; rfl
    have p82 : P 8 2 = tN T 1 := by rw [← hPd]; rfl
    have p83 : P 8 3 = len := by rw [← hPd]; rfl
    have p7 : ∀ k, P 7 k = yP T k := fun k => by rw [← hPd]; rfl
    have hU := fun k (k0 : 0 ≤ k) (k1 : k < n) => yU_rng (yP_rng hx.1 ht k0 k1).1 (fun q hq => ht.2.1 q (by have := (yP_rng hx.1 ht k0 k1).1; omega)) (hx.1.2.1 k k0 k1).2
    have hk0 : ∀ k, 0 ≤ k → k < 3 → tK T k = k := by
      intro k k0 k1
      have := f4 k k0 (by omega)
      unfold gX at this
      rw [if_pos k1] at this
      split at this
      · assumption
      · omega
    have hno : ∀ k, tK T k ≠ 0 → tK T k ≠ 3 → aN T H (V 457) (V 458) (V 459) cnt k = tN T k := by
      intro k w0 w3
      exact aGood_no hg' (by
        intro c c0 c1 c2 c3 c4
        have := hg'.2.2 c c0 c1 c2
        rw [c3] at this
        omega)
    have hNr : ∀ k, 0 ≤ k → k < n → -100 ≤ aN T H (V 457) (V 458) (V 459) cnt k ∧ aN T H (V 457) (V 458) (V 459) cnt k ≤ 100 := by
      intro k k0 k1
      show -100 ≤ foi _ _ _ _ k 0 1 (tN T k) cnt ∧ foi _ _ _ _ k 0 1 (tN T k) cnt ≤ 100
      rcases foi_cs (H := H) (q := V 457) (m := V 458) (v := V 459) (k := k) (lo := 0) (hi := 1) (b := tN T k) (n := cnt) hg'.1.1 with e' | ⟨c, c1, c2, c3, c4, c5, c6⟩
      · rw [e']; exact (hU k k0 k1).2.2.2.2.2.2.2
      · have := hg'.2.2 c c1.1 c1.2 c2
        rw [c6]
        omega
    have hrest : ∀ k, foi H (V 457) (V 458) (V 459) k 4 4 0 cnt = 1 → tK T k = 3 := by
      intro k hk
      rcases foi_cs (H := H) (q := V 457) (m := V 458) (v := V 459) (k := k) (lo := 4) (hi := 4) (b := 0) (n := cnt) hg'.1.1 with e' | ⟨c, c1, c2, c3, c4, c5, c6⟩
      · omega
      · have := hg'.2.2 c c1.1 c1.2 c2
        rw [c3] at this
        omega
    have e0 : ∀ k, P 0 k = if foi H (V 457) (V 458) (V 459) k 4 4 0 cnt = 1 then 4 else tK T k := fun k => by rw [← hPd]; rfl
    -- corrected
    have hcor : ∃ W2, zGo false 166 0 [.ref 430, .int (zi e), .null, .null, .null, .null, .null, .null, .null] [] (zm V1 J d) = zN1 W2 J d ∧ mFc V1 W2 ∧ ∀ k, 0 ≤ k → k < n → W2 433 k = P 0 k ∧ W2 435 k = aN T H (V 457) (V 458) (V 459) cnt k ∧ W2 436 k = P 3 k ∧ W2 437 k = P 4 k ∧ (P 0 k = 3 → W2 438 k = P 5 k) := by
      have e3 : ∀ k, P 3 k = foi H (V 457) (V 458) (V 459) k 2 2 (yG T (yP T k)) cnt := fun k => by rw [← hPd]; rfl
      have e4 : ∀ k, P 4 k = foi H (V 457) (V 458) (V 459) k 3 3 (yC T (yP T k)) cnt := fun k => by rw [← hPd]; rfl
      have e5 : ∀ k, P 5 k = yI T (yP T k) := fun k => by rw [← hPd]; rfl
      rcases he with ⟨e1, e2⟩ | ⟨e1, e2⟩
      · rw [e1]
        refine ⟨V1, sp166n u1 r10, fun _ _ => rfl, ?_⟩
        have hz : ∀ k lo hi b, foi H (V 457) (V 458) (V 459) k lo hi b cnt = b := by
          intro k lo hi b
          exact foi_more (Int.le_refl 0) hg'.1.1 (fun c _ _ => e2 c)
        intro k k0 k1
        have r := rtok k k0 k1
        refine ⟨?_, ?_, ?_, ?_, ?_⟩
        · rw [r.1, e0, hz, if_neg (by decide)]
        · rw [r.2.2.1]
          exact (hz _ _ _ _).symm
        · rw [r.2.2.2.1, e3, hz]
        · rw [r.2.2.2.2.1, e4, hz]
        · intro _
          rw [r.2.2.2.2.2, e5]
      · have hc := aGood_c (K := tK T) hg' (fun k _ _ => rfl)
        obtain ⟨W2, s1, s2, s3⟩ := sp166 (V := V1) (J := J) (d := d) (set := e) (cnt := cnt) (H := H) (n := n) e1 u1 r10 (by rw [q3.2 42 (by omega), hcn]) (by rw [q3.1 456 (by omega)]; exact e2) (K := tK T) (by rw [q3.1 457 (by omega), q3.1 458 (by omega), q3.1 459 (by omega)]; exact hc) (by
          intro k k0 k1
          have r := rtok k k0 k1
          rw [r.1, r.2.2.2.2.2]
          exact ⟨yI_rng _ _, yK_rng _ _⟩)
        refine ⟨W2, s1, s3, ?_⟩
        intro k k0 k1
        have r := rtok k k0 k1
        have a := (s2 k k0).1 k1
        rw [q3.1 457 (by omega), q3.1 458 (by omega), q3.1 459 (by omega), r.1, r.2.2.1, r.2.2.2.1, r.2.2.2.2.1, r.2.2.2.2.2] at a
        refine ⟨?_, a.2.1, ?_, ?_, ?_⟩
        · rw [a.1, e0]
        · rw [a.2.2.1, e3]
        · rw [a.2.2.2.1, e4]
        · intro hk
          rw [a.2.2.2.2, e5]
          rw [e0] at hk
          by_cases w : foi H (V 457) (V 458) (V 459) k 4 4 0 cnt = 1
          · rw [if_pos w] at hk
            omega
          · rw [if_neg w]
    obtain ⟨W2, c1, c2, c3⟩ := hcor
    have hP0 : P 0 0 = 0 := by
      have := hk0 0 (by omega) (by omega)
      rw [e0, if_neg (fun w => by have := hrest 0 w; omega)]
      exact this
    have hPr : ∀ k, 0 ≤ k → k < n → 0 ≤ P 0 k ∧ P 0 k ≤ 9 := by
      intro k k0 k1
      have := yK_rng T (yP T k)
      rw [e0]
      split
      · omega
      · exact this
    obtain ⟨W3, d1, d2, d3⟩ := sl167c (d := d) (s := s) (W0 := W2) (J := J) (K := P 0) (N := aN T H (V 457) (V 458) (V 459) cnt) (n := n) u1 (by rw [c2 430 (by omega), r10]) hP0 (fun k k0 k1 => ⟨(c3 k k0 k1).1, hPr k k0 k1⟩) 100 W2 0 (by omega) (by omega) (fun _ _ => rfl) (by intro k k0 k1; omega)
    have e352 : W3 435 2 = P 8 1 := by
      have hk2 := hk0 2 (by omega) (by omega)
      rw [d2 435 (by decide), (c3 2 (by omega) (by omega)).2.1, hno 2 (by omega) (by omega), p81]
    have e351 : W3 435 1 = P 8 2 := by
      have hk2 := hk0 1 (by omega) (by omega)
      rw [d2 435 (by decide), (c3 1 (by omega) (by omega)).2.1, hno 1 (by omega) (by omega), p82]
    have e168 := sp168 (V := vup (vup (vup (vup (vup W3 430 23 (W3 435 2)) 430 24 0) 430 25 0) 430 19 0) 430 26 (-1)) (J := J) (d := d)
    generalize hW4 : mNs (vup (vup (vup (vup (vup W3 430 23 (W3 435 2)) 430 24 0) 430 25 0) 430 19 0) 430 26 (-1)) 64 = W4 at *
    have rd4 : ∀ o : Nat, o ≠ 430 → o ≠ 447 → W4 o = W3 o := by
      intro o o1 o2
      rw [← hW4]
      unfold mNs
      rw [vst_o o2]
      simp (disch := omega) only [vup_fn]
    have rd4' : ∀ k : Int, W4 430 k = vup (vup (vup (vup (vup W3 430 23 (W3 435 2)) 430 24 0) 430 25 0) 430 19 0) 430 26 (-1) 430 k := by
      intro k
      rw [← hW4]
      unfold mNs
      rw [vst_o (by decide)]
    have start : ∃ z', zGo false 153 9 [.ref 430, .int (zi s), .int (zi w), .int (zi e)] [] (zm V1 J d) = (zGo false 167 0 [.ref 430, .int (zi s), .null] [] (zm W2 J d)).bind (zGor false 153 26 [.ref 430, .int (zi s), .int (zi w), .int (zi e)] []) ∧ z' = (0 : Int) := by
      refine ⟨0, ?_, rfl⟩
      rw [ze_153_9]
      simp (disch := first | omega | assumption | (simp (disch := omega) only [vup_fn, vup_o, vup_k, vup_at]; first | done | omega | assumption)) only [r13, hF, c1, ze_153_21, Int.add_zero, ↓reduceIte, qw_id, zck_T, zck_t, zGor_v, zGor_n, zGor_e, zbs, vup_at, vup_vup, vup_self, vup_o, vup_k, vup_fn, ne_eq, not_true_eq_false, not_false_eq_true, and_true, true_and, and_self, and_false, false_and, or_true, true_or, or_self, or_false, false_or, xlt_t, xlt_f, xle_t, xle_f, xeq_t, xeq_f, xand_f, xor_t]
    obtain ⟨_, start, _⟩ := start
    rw [start]
    have s167 : zGo false 167 0 [.ref 430, .int (zi s), .null] [] (zm W2 J d) = zGo false 167 83 [.ref 430, .int (zi s), .int (zi 3)] [] (zm W4 J d) := by
      have e10 : W3 430 10 = n := by rw [d2 430 (by decide), c2 430 (by omega), r10]
      rw [ze_167_0, d1, ze_167_2]
      simp (disch := first | omega | assumption | (simp (disch := omega) only [vup_fn, vup_o, vup_k, vup_at]; first | done | omega | assumption)) only [e10, e168, ze_167_81, Int.add_zero, ↓reduceIte, qw_id, zck_T, zck_t, zGor_v, zGor_n, zGor_e, zbs, vup_at, vup_vup, vup_self, vup_o, vup_k, vup_fn, ne_eq, not_true_eq_false, not_false_eq_true, and_true, true_and, and_self, and_false, false_and, or_true, true_or, or_self, or_false, false_or, xlt_t, xlt_f, xle_t, xle_f, xeq_t, xeq_f, xand_f, xor_t]
    rw [s167]
    have hts : mTs W4 P := by
      refine ⟨?_, ?_, ?_, ?_⟩
      · rw [rd4']
        simp (disch := decide) only [vup_k]
        rw [d2 430 (by decide), c2 430 (by omega), r10, p80]
      · rw [rd4 435 (by decide) (by decide), e351]
      · rw [rd4']
        simp (disch := decide) only [vup_k, vup_at]
        exact e352
      · rw [p80]
        intro k k0 k1
        have a := c3 k k0 k1
        have w9 := d3 k k0 k1
        rw [rd4 433 (by decide) (by decide), rd4 435 (by decide) (by decide), rd4 436 (by decide) (by decide), rd4 437 (by decide) (by decide), rd4 438 (by decide) (by decide), rd4 439 (by decide) (by decide), rd4 440 (by decide) (by decide), d2 433 (by decide), d2 435 (by decide), d2 436 (by decide), d2 437 (by decide), d2 438 (by decide), d2 440 (by decide), c2 440 (by omega)]
        have hPK : (foi H (V 457) (V 458) (V 459) k 4 4 0 cnt = 1 ∧ P 0 k = 4 ∧ tK T k = 3) ∨ P 0 k = tK T k := by
          by_cases w' : foi H (V 457) (V 458) (V 459) k 4 4 0 cnt = 1
          · exact Or.inl ⟨w', by rw [e0, if_pos w'], hrest k w'⟩
          · exact Or.inr (by rw [e0, if_neg w'])
        refine ⟨a.1, ?_, ?_, ?_, fun _ => a.2.2.2.1⟩
        · intro hk
          rw [a.2.1, hno k (by omega) (by omega), ← hPd]; rfl
        · intro hk
          have hk8 : tK T k = 8 := by omega
          have k3 : 3 ≤ k := by
            by_cases w3 : k < 3
            · have := hk0 k k0 w3
              omega
            · omega
          have e6 : P 6 k = if tK T k = 8 then gMt (tK T) n k else hO (tK T) k (hD (tK T) k - 1) := by rw [← hPd]; rfl
          rw [e6, if_pos hk8]
          have g := gMt_ok f4 f5 k3 k1 hk8
          have := rpar hF (gMt (tK T) n k) (by omega) g.1.2 g.2.1
          rw [g.2.2.1] at this
          exact this
        · intro hk
          have hN9 := hNr (W3 439 k) w9.1.1 (by omega)
          have a9 := c3 (W3 439 k) w9.1.1 (by omega)
          refine ⟨by omega, by rw [a9.2.1]; exact hN9, by rw [a.2.1]; exact hNr k k0 k1, ?_, a.2.2.1, a.2.2.2.2 hk⟩
          have e2 : P 2 k = hL (aK T H (V 457) (V 458) (V 459) cnt) (aN T H (V 457) (V 458) (V 459) cnt) (k + 1) + aN T H (V 457) (V 458) (V 459) cnt k := by rw [← hPd]; rfl
          have e0' : P 0 = aK T H (V 457) (V 458) (V 459) cnt := by rw [← hPd]; rfl
          rw [e2, ← e0', a9.2.1, w9.2, a.2.1]
          omega
    have hbeg : mSg W4 J s P (hO (tK T)) yBeg := by
      refine ⟨hts, ?_, fun w' => absurd rfl w', fun _ => ?_⟩
      · rw [rd4']
        simp (disch := decide) only [vup_k]
        rw [d2 430 (by decide), c2 430 (by omega), r13, hF]
        rfl
      · unfold mSc
        rw [rd4', rd4', rd4', rd4']
        simp (disch := decide) only [vup_k, vup_at]
        refine ⟨rfl, ?_, rfl, ?_, ?_, rfl, rfl, fun w' => absurd rfl w', ?_⟩
        · intro i i0 i1
          have : (yBeg 0 1 : Int) = 0 := rfl
          omega
        · intro i i0 i1
          have : (yBeg 0 2 : Int) = 0 := rfl
          omega
        · intro i i0 i1
          rw [← hW4]
          unfold mNs
          rw [vst_at]
          exact if_pos (by omega)
        · intro i i0 i1
          have : (yBeg 0 3 : Int) = 0 := rfl
          omega
    obtain ⟨W5, J5, z, v1, v2, v3⟩ := sl167 (d := d) hs hP 3904 W4 J yBeg hbeg (Or.inl (yBeg_inv hP)) (by
      show 3 ≤ (3 : Int) ∧ (3 : Int) ≤ P 8 0
      omega) (by show 0 ≤ (0 : Int) ∧ (0 : Int) ≤ 10; decide) (ySong_end hP)
    have v1' : zGo false 167 83 [.ref 430, .int (zi s), .int (zi 3)] [] (zm W4 J d) = zGo false 167 193 [.ref 430, .int (zi s), .int (zi z)] [] (zm W5 J5 d) := v1
    have v2' : mSg W5 J5 s P (hO (tK T)) (ySong P) := v2
    have hsr := ySong_7 P
    have hend : ∃ W6 J6, zGo false 167 193 [.ref 430, .int (zi s), .int (zi z)] [] (zm W5 J5 d) = zN1 W6 J6 d ∧ mEnd W6 J6 s P (yAll P) ∧ mFt s W5 J5 W6 J6 := by
      by_cases hss : ySong P 0 7 = 0
      · have hinv : yInv P (hD (tK T)) (ySong P) := by
          rcases yRun_inv hP 3904 yBeg (Or.inl (yBeg_inv hP)) with w' | w'
          · exact w'
          · exact absurd hss w'
        obtain ⟨W6, J6, x1, x2, x3⟩ := sm178 (d := d) hs hP v2' hinv
        have e13 : W5 430 13 = 0 := by rw [v2'.2.1, hss]
        refine ⟨W6, J6, ?_, by rw [show yAll P = yFin P (ySong P) from if_pos hss]; exact x2, x3⟩
        rw [ze_167_193]
        simp (disch := first | omega | assumption | (simp (disch := omega) only [vup_fn, vup_o, vup_k, vup_at]; first | done | omega | assumption)) only [e13, x1, ze_167_205, Int.add_zero, ↓reduceIte, qw_id, zck_T, zck_t, zGor_v, zGor_n, zGor_e, zbs, vup_at, vup_vup, vup_self, vup_o, vup_k, vup_fn, ne_eq, not_true_eq_false, not_false_eq_true, and_true, true_and, and_self, and_false, false_and, or_true, true_or, or_self, or_false, false_or, xlt_t, xlt_f, xle_t, xle_f, xeq_t, xeq_f, xand_f, xor_t]
      · have e13 : W5 430 13 = ySong P 0 7 := v2'.2.1
        refine ⟨W5, J5, ?_, by rw [show yAll P = ySong P from if_neg hss]; exact mEnd_of v2', mFt_r s W5 J5⟩
        rw [ze_167_193]
        simp (disch := first | omega | assumption | (simp (disch := omega) only [vup_fn, vup_o, vup_k, vup_at]; first | done | omega | assumption)) only [e13, ze_167_205, Int.add_zero, ↓reduceIte, qw_id, zck_T, zck_t, zGor_v, zGor_n, zGor_e, zbs, vup_at, vup_vup, vup_self, vup_o, vup_k, vup_fn, ne_eq, not_true_eq_false, not_false_eq_true, and_true, true_and, and_self, and_false, false_and, or_true, true_or, or_self, or_false, false_or, xlt_t, xlt_f, xle_t, xle_f, xeq_t, xeq_f, xand_f, xor_t]
    obtain ⟨W6, J6, x1, x2, x3⟩ := hend
    rw [v1', x1]
    have fr6 := mFt_t v3 x3
    have hall := yAll_7 P
    have e13 : W6 430 13 = yAll P 0 7 := x2.2.1
    have e23 : W6 430 23 = P 8 1 := x2.1.2.2.1
    have hsF : sF P F = yAll P 0 7 := if_neg (fun w' => w' hF)
    have hsA : sA P F fa = if yAll P 0 7 = 0 then -1 else cPl P (yAll P 0 8) := if_neg (fun w' => w' hF)
    have hsN : sN P F = if yAll P 0 7 ≠ 0 then 0 else yAll P 0 3 := by
      unfold sN
      by_cases w' : yAll P 0 7 = 0
      · rw [if_neg (by omega), if_neg (by omega)]
      · rw [if_pos (Or.inr w'), if_pos w']
    -- the frame
    have fr : ∀ o : Nat, ¬(o = 430 ∨ (433 ≤ o ∧ o ≤ 450) ∨ o = 453) → W6 o = V o := by
      intro o ho
      rw [fr6.1 o (by omega), rd4 o (by omega) (by omega), d2 o (by omega), c2 o (by omega), q3.1 o (by omega)]
    have fr430 : ∀ k : Int, ¬(10 ≤ k ∧ k ≤ 28) → W6 430 k = V 430 k := by
      intro k hk
      rw [fr6.2.1 k (by omega), rd4']
      simp (disch := omega) only [vup_k]
      rw [d2 430 (by decide), c2 430 (by omega), q3.2 k (by omega)]
    have fr448 : ∀ o : Nat, 448 ≤ o → o ≤ 450 → W6 o = V o := by
      intro o o1 o2
      rw [fr6.1 o (by omega), rd4 o (by omega) (by omega), d2 o (by omega), c2 o (by omega), q3.1 o (by omega)]
    have fr453 : W4 453 = V 453 := by
      rw [rd4 453 (by decide) (by decide), d2 453 (by decide), c2 453 (by omega), q3.1 453 (by omega)]
    have e11 : W6 430 11 = b := by
      rw [fr6.2.1 11 (by omega), rd4']
      simp (disch := decide) only [vup_k]
      rw [d2 430 (by decide), c2 430 (by omega), r11]
    have e34 : ∀ k, 0 ≤ k → k < n → W6 434 k = yP T k := by
      intro k k0 k1
      rw [fr6.1 434 (by omega), rd4 434 (by decide) (by decide), d2 434 (by decide), c2 434 (by omega), (rtok k k0 k1).2.1]
    have fin : zGor false 153 26 [.ref 430, .int (zi s), .int (zi w), .int (zi e)] [] (.inl none, zm W6 J6 d) = zI1 (yAll P 0 7) (vup (vup (vup W6 448 s (yAll P 0 7)) 449 s (if yAll P 0 7 ≠ 0 then 0 else W6 430 25)) 450 s (P 8 1)) J6 d := by
      rw [zGor_n, ze_153_26]
      by_cases w' : yAll P 0 7 = 0
      · simp (disch := first | omega | assumption | (simp (disch := omega) only [vup_fn, vup_o, vup_k, vup_at]; first | done | omega | assumption)) only [e13, w', ze_153_56, e23, Int.add_zero, ↓reduceIte, qw_id, zck_T, zck_t, zGor_v, zGor_n, zGor_e, zbs, vup_at, vup_vup, vup_self, vup_o, vup_k, vup_fn, ne_eq, not_true_eq_false, not_false_eq_true, and_true, true_and, and_self, and_false, false_and, or_true, true_or, or_self, or_false, false_or, xlt_t, xlt_f, xle_t, xle_f, xeq_t, xeq_f, xand_f, xor_t]
      · simp (disch := first | omega | assumption | (simp (disch := omega) only [vup_fn, vup_o, vup_k, vup_at]; first | done | omega | assumption)) only [e13, ze_153_56, e23, Int.add_zero, ↓reduceIte, qw_id, zck_T, zck_t, zGor_v, zGor_n, zGor_e, zbs, vup_at, vup_vup, vup_self, vup_o, vup_k, vup_fn, ne_eq, not_true_eq_false, not_false_eq_true, and_true, true_and, and_self, and_false, false_and, or_true, true_or, or_self, or_false, false_or, xlt_t, xlt_f, xle_t, xle_f, xeq_t, xeq_f, xand_f, xor_t]
    refine ⟨vup (vup (vup W6 448 s (yAll P 0 7)) 449 s (if yAll P 0 7 ≠ 0 then 0 else W6 430 25)) 450 s (P 8 1), J6, ?_, ⟨?_, ?_, ?_, ?_, ?_, ?_⟩, ?_, ?_, ?_, ?_, ?_, ?_⟩
    · rw [hsF]
      exact fin
    · intro o ho
      simp (disch := omega) only [vup_fn]
      exact fr o ho
    · intro k hk
      simp (disch := decide) only [vup_o]
      exact fr430 k hk
    · intro j hj
      simp (disch := decide) only [vup_o]
      rw [fr6.2.2.1 j hj, fr453]
    · intro j hj
      simp (disch := first | decide | omega) only [vup_o, vup_k]
      rw [fr448 448 (by decide) (by decide), fr448 449 (by decide) (by decide), fr448 450 (by decide) (by decide)]
      refine ⟨?_, ?_, ?_⟩ <;> first | trivial | rfl
    · exact fr6.2.2.2.1
    · exact fr6.2.2.2.2
    · rw [hsF]
      simp (disch := decide) only [vup_o, vup_at]
    · rw [hsN]
      simp (disch := decide) only [vup_o, vup_at]
      by_cases w' : yAll P 0 7 = 0
      · rw [if_neg (by omega), if_neg (by omega)]
        exact (x2.2.2.2 w').1
      · rw [if_pos w', if_pos w']
    · intro _
      rw [vup_at, p81]
    · rw [hsN]
      intro b' b0 b1
      by_cases w' : yAll P 0 7 = 0
      · rw [if_neg (by omega)] at b1
        have := (x2.2.2.2 w').2 b' b0 b1
        unfold mBar at *
        simp (disch := decide) only [vup_o]
        exact this
      · rw [if_pos w'] at b1
        omega
    · rw [hsF]
      simp (disch := decide) only [vup_o]
      exact e13
    · rw [hsF, hsA]
      refine ⟨fun w' => by rw [if_pos w'], fun w' => ?_, fun w0 w1 => ?_⟩
      · have := (h8 (by omega)).1
        omega
      · have w8 := (h8 w0).2
        have w14 := x2.2.2.1 w0
        simp (disch := decide) only [vup_o]
        rw [if_neg w0, w14]
        unfold cPl
        by_cases w2 : yAll P 0 8 = -1
        · rw [if_pos w2]
          exact Or.inl ⟨w2, p83⟩
        · rw [if_neg w2, p7]
          have w3 : 0 ≤ yAll P 0 8 ∧ yAll P 0 8 < n := by omega
          exact Or.inr ⟨by omega, e34 _ w3.1 w3.2⟩
  · have hsF : ∀ P, sF P F = F := fun P => if_pos hF
    have hsA : ∀ P, sA P F fa = fa := fun P => if_pos hF
    have hsN : ∀ P, sN P F = 0 := fun P => if_pos (Or.inl hF)
    have fin : zGo false 153 9 [.ref 430, .int (zi s), .int (zi w), .int (zi e)] [] (zm V1 J d) = zI1 F (vup (vup (vup V1 448 s F) 449 s 0) 450 s (V1 430 23)) J d := by
      rw [ze_153_9]
      simp (disch := first | omega | assumption | (simp (disch := omega) only [vup_fn, vup_o, vup_k, vup_at]; first | done | omega | assumption)) only [r13, ze_153_26, ze_153_56, Int.add_zero, ↓reduceIte, qw_id, zck_T, zck_t, zGor_v, zGor_n, zGor_e, zbs, vup_at, vup_vup, vup_self, vup_o, vup_k, vup_fn, ne_eq, not_true_eq_false, not_false_eq_true, and_true, true_and, and_self, and_false, false_and, or_true, true_or, or_self, or_false, false_or, xlt_t, xlt_f, xle_t, xle_f, xeq_t, xeq_f, xand_f, xor_t]
    rw [hsF, hsA, hsN]
    refine ⟨vup (vup (vup V1 448 s F) 449 s 0) 450 s (V1 430 23), J, fin, ⟨?_, ?_, ?_, ?_, fun _ _ _ => rfl, fun _ _ => ⟨rfl, rfl⟩⟩, ?_, ?_, fun w' => absurd w' hF, fun b' b0 b1 => by omega, ?_, ?_⟩
    · intro o ho
      simp (disch := omega) only [vup_fn]
      exact q3.1 o (by omega)
    · intro k hk
      simp (disch := decide) only [vup_o]
      exact q3.2 k (by omega)
    · intro j hj
      simp (disch := decide) only [vup_o]
      rw [q3.1 453 (by omega)]
    · intro j hj
      simp (disch := first | decide | omega) only [vup_o, vup_k]
      rw [q3.1 448 (by omega), q3.1 449 (by omega), q3.1 450 (by omega)]
      refine ⟨?_, ?_, ?_⟩ <;> first | trivial | rfl
    · simp (disch := decide) only [vup_o, vup_at]
    · simp (disch := decide) only [vup_o, vup_at]
    · simp (disch := decide) only [vup_o]
      exact r13
    · refine ⟨fun w' => absurd w' hF, fun w' => ?_, fun w0 w1 => ?_⟩
      · simp (disch := decide) only [vup_o]
        rw [r11]
        by_cases hb : b = -1
        · exfalso
          obtain ⟨p1, p2⟩ := hx.2.2 hb
          rcases p1 with ⟨k, k1, k2, k3, k4, k5⟩ | ⟨k2, k3, k4⟩
          · rw [w'] at k4
            unfold gX gXf at k4
            repeat' split at k4
            all_goals omega
          · rw [w'] at k4
            repeat' split at k4
            all_goals omega
        · exact (hx.2.1 hb).2.2.symm
      · have hb : b = -1 := by
          by_cases hb : b = -1
          · exact hb
          · exact absurd (hx.2.1 hb).1 w1
        obtain ⟨p1, p2⟩ := hx.2.2 hb
        rw [if_neg hF] at p2
        simp (disch := decide) only [vup_o]
        rw [r14, p2]
        by_cases hA : A = -1
        · rw [if_pos hA]
          exact Or.inl ⟨hA, rfl⟩
        · rw [if_neg hA]
          have hAr : 0 ≤ A ∧ A < n := by omega
          exact Or.inr ⟨by omega, (rtok A hAr.1 hAr.2).2.1⟩
end
