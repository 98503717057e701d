/-! part 61: the reference's singing: tokens -/
/-- the reference's tokens, as P tells them -/
def mTs (W P : zVt) : Prop := W 430 10 = P 8 0 ∧ W 435 1 = P 8 2 ∧ W 430 23 = P 8 1 ∧ ∀ k, 0 ≤ k → k < P 8 0 → W 433 k = P 0 k ∧ (P 0 k = 7 ∨ P 0 k = 8 → W 435 k = P 1 k) ∧ (P 0 k = 8 → W 440 k = P 6 k) ∧ (P 0 k = 3 → (0 ≤ W 439 k ∧ W 439 k < P 8 0) ∧ (-100 ≤ W 435 (W 439 k) ∧ W 435 (W 439 k) ≤ 100) ∧ (-100 ≤ W 435 k ∧ W 435 k ≤ 100) ∧ W 435 k + yBs (W 435 (W 439 k)) = P 2 k ∧ W 436 k = P 3 k ∧ W 438 k = P 5 k) ∧ (P 0 k = 3 ∨ P 0 k = 4 → W 437 k = P 4 k)
/-- a bar of the reference -/
def mBar (W : zVt) (J : zJt) (i : Int) (B : Int → Int) : Prop := (∀ r, 0 ≤ r → r < 8 → zby (J 451 i) r = yMb (B r) ∧ zby (J 452 i) r = yMb (B (r + 8))) ∧ W 453 i = yHr (fun t => yBg (B t)) 16
def mSc (W : zVt) (J : zJt) (s : Int) (O : Int → Int → Int) (S : zVt) : Prop :=
  W 430 19 = S 0 1 ∧ (∀ i, 0 ≤ i → i < S 0 1 → W 442 i = S 1 i ∧ W 441 i = O (S 0 0) i) ∧ W 430 24 = S 0 2 ∧ (∀ t, 0 ≤ t → t < S 0 2 → W 445 t = yPi (S 2 t) ∧ W 446 t = yBg (S 2 t)) ∧ (∀ j, 0 ≤ j → j < 50 → W 447 j = S 3 j) ∧ W 430 25 = S 0 3 ∧ W 430 26 = S 0 4 ∧ (S 0 4 ≠ -1 → W 430 27 = S 0 5 ∧ W 430 28 = S 0 6) ∧ ∀ b, 0 ≤ b → b < S 0 3 → mBar W J (40 * s + b) (fun t => S 4 (16 * b + t))
def mSg (W : zVt) (J : zJt) (s : Int) (P : zVt) (O : Int → Int → Int) (S : zVt) : Prop := mTs W P ∧ W 430 13 = S 0 7 ∧ (S 0 7 ≠ 0 → W 430 14 = S 0 8) ∧ (S 0 7 = 0 → mSc W J s O S)
/-- what singing leaves -/
def mFt (s : Int) (W : zVt) (J : zJt) (W' : zVt) (J' : zJt) : Prop := (∀ o : Nat, ¬(o = 430 ∨ o = 441 ∨ o = 442 ∨ o = 445 ∨ o = 446 ∨ o = 447 ∨ o = 453) → W' o = W o) ∧ (∀ k : Int, ¬(k = 13 ∨ k = 14 ∨ k = 19 ∨ (24 ≤ k ∧ k ≤ 28)) → W' 430 k = W 430 k) ∧ (∀ j, ¬(40 * s ≤ j ∧ j < 40 * s + 40) → W' 453 j = W 453 j) ∧ (∀ o, o ≠ 451 → o ≠ 452 → J' o = J o) ∧ ∀ j, ¬(40 * s ≤ j ∧ j < 40 * s + 40) → J' 451 j = J 451 j ∧ J' 452 j = J 452 j
theorem mFt_r (s : Int) (W : zVt) (J : zJt) : mFt s W J W J := ⟨fun _ _ => rfl, fun _ _ => rfl, fun _ _ => rfl, fun _ _ _ => rfl, fun _ _ => ⟨rfl, rfl⟩⟩
theorem mFt_t {s : Int} {W W1 W2 : zVt} {J J1 J2 : zJt} (h : mFt s W J W1 J1) (h2 : mFt s W1 J1 W2 J2) : mFt s W J W2 J2 := ⟨fun o ho => (h2.1 o ho).trans (h.1 o ho), fun k hk => (h2.2.1 k hk).trans (h.2.1 k hk), fun j hj => (h2.2.2.1 j hj).trans (h.2.2.1 j hj), fun o h3 h4 => (h2.2.2.2.1 o h3 h4).trans (h.2.2.2.1 o h3 h4), fun j hj => ⟨(h2.2.2.2.2 j hj).1.trans (h.2.2.2.2 j hj).1, (h2.2.2.2.2 j hj).2.trans (h.2.2.2.2 j hj).2⟩⟩
theorem mFt_v {s : Int} {W : zVt} {J : zJt} {o : Nat} {k x : Int} (h : o = 430 ∧ (k = 13 ∨ k = 14 ∨ k = 19 ∨ (24 ≤ k ∧ k ≤ 28)) ∨ o = 441 ∨ o = 442 ∨ o = 445 ∨ o = 446 ∨ o = 447 ∨ o = 453 ∧ (40 * s ≤ k ∧ k < 40 * s + 40)) : mFt s W J (vup W o k x) J := ⟨fun o2 ho => vup_fn (by omega), fun k2 hk => vup_ne (by omega), fun j hj => vup_ne (by omega), fun _ _ _ => rfl, fun _ _ => ⟨rfl, rfl⟩⟩
theorem mFt_ns {s : Int} {W : zVt} {J : zJt} {p : Int} : mFt s W J (mNs W p) J := ⟨fun o2 ho => vst_o (by omega), fun k2 hk => by unfold mNs; rw [vst_o (by decide)], fun j hj => by unfold mNs; rw [vst_o (by decide)], fun _ _ _ => rfl, fun _ _ => ⟨rfl, rfl⟩⟩
theorem mFt_ts {s : Int} {W W' P : zVt} {J J' : zJt} (h : mFt s W J W' J') (ht : mTs W P) : mTs W' P := by
  unfold mTs at *
  rw [h.2.1 10 (by omega), h.2.1 23 (by omega), h.1 433 (by omega), h.1 435 (by omega), h.1 436 (by omega), h.1 437 (by omega), h.1 438 (by omega), h.1 439 (by omega), h.1 440 (by omega)]
  exact ht
section
variable {J : zJt} {d : Nat → Nat → UInt64} {s : Int} {P S : zVt} {D : Int → Int} {O : Int → Int → Int}
theorem mSg_fl {W : zVt} (h : mSg W J s P O S) {f t : Int} (hf : f ≠ 0) : mSg (vup (vup W 430 13 f) 430 14 t) J s P O (yFl S f t) := by
  refine ⟨mFt_ts (s := s) (J := J) (J' := J) (mFt_t (mFt_v (by omega)) (mFt_v (by omega))) h.1, ?_, ?_, ?_⟩
  · rw [yFl_7, vup_k (by decide), vup_at]
  · intro _
    unfold yFl
    rw [vup_at, vup_at]
  · intro q
    rw [yFl_7] at q
    exact absurd q hf
/-- behind a fault nothing matters -/
theorem mSg_after {W W' : zVt} {J' : zJt} (h : mSg W J s P O S) (h7 : S 0 7 ≠ 0) (hf : mFt s W J W' J') (h13 : W' 430 13 = W 430 13) (h14 : W' 430 14 = W 430 14) : mSg W' J' s P O S := ⟨mFt_ts hf h.1, by rw [h13]; exact h.2.1, fun q => by rw [h14]; exact h.2.2.1 q, fun q => absurd q h7⟩
/-- sounds put in -/
theorem mSg_fil {W W' : zVt} (h : mSg W J s P O S) (h7 : S 0 7 = 0) {c f l p z : Int} (hc : 0 ≤ c) (hfl : yPi f = p ∧ yBg f = z ∧ yPi l = p ∧ yBg l = 0) (q2 : W' 430 24 = S 0 2 + c) (q3 : ∀ o : Nat, o ≠ 430 → o ≠ 445 → o ≠ 446 → W' o = W o) (q4 : ∀ j, j ≠ 24 → W' 430 j = W 430 j) (q5 : ∀ t, (S 0 2 ≤ t → t < S 0 2 + c → W' 445 t = p ∧ W' 446 t = if t = S 0 2 then z else 0) ∧ (t < S 0 2 → W' 445 t = W 445 t ∧ W' 446 t = W 446 t)) : mSg W' J s P O (yFil S c f l) ∧ mFt s W J W' J := by
  have fr : mFt s W J W' J := ⟨fun o ho => q3 o (by omega) (by omega) (by omega), fun k hk => q4 k (by omega), fun j _ => by rw [q3 453 (by decide) (by decide) (by decide)], fun _ _ _ => rfl, fun _ _ => ⟨rfl, rfl⟩⟩
  obtain ⟨k1, k2, k3, k4, k5, k6, k8, k9, k10⟩ := h.2.2.2 h7
  refine ⟨⟨mFt_ts fr h.1, ?_, ?_, ?_⟩, fr⟩
  · rw [q4 13 (by decide), yFil_0 (by decide)]
    exact h.2.1
  · rw [yFil_0 (by decide)]
    exact fun q => absurd h7 q
  · intro _
    refine ⟨?_, ?_, ?_, ?_, ?_, ?_, ?_, ?_, ?_⟩
    · rw [q4 19 (by decide), yFil_0 (by decide)]
      exact k1
    · rw [q3 442 (by decide) (by decide) (by decide), q3 441 (by decide) (by decide) (by decide), yFil_0 (by decide), yFil_0 (by decide), yFil_o (by decide)]
      exact k2
    · rw [q2, yFil_02]
    · rw [yFil_02]
      intro t t0 t1
      have hq := q5 t
      unfold yFil
      rw [vst_at]
      show W' 445 t = yPi (if S 0 2 ≤ t ∧ t < S 0 2 + c then (if t = S 0 2 then f else l) else S 2 t) ∧ W' 446 t = yBg (if S 0 2 ≤ t ∧ t < S 0 2 + c then (if t = S 0 2 then f else l) else S 2 t)
      by_cases hin : S 0 2 ≤ t
      · have w := hq.1 hin t1
        rw [if_pos ⟨hin, t1⟩, w.1, w.2]
        by_cases ht : t = S 0 2
        · rw [if_pos ht, if_pos ht, hfl.1, hfl.2.1]
          exact ⟨rfl, rfl⟩
        · rw [if_neg ht, if_neg ht, hfl.2.2.1, hfl.2.2.2]
          exact ⟨rfl, rfl⟩
      · have w := hq.2 (by omega)
        rw [if_neg (by omega), w.1, w.2]
        exact k4 t t0 (by omega)
    · rw [q3 447 (by decide) (by decide) (by decide), yFil_o (by decide)]
      exact k5
    · rw [q4 25 (by decide), yFil_0 (by decide)]
      exact k6
    · rw [q4 26 (by decide), yFil_0 (by decide)]
      exact k8
    · rw [q4 27 (by decide), q4 28 (by decide), yFil_0 (by decide), yFil_0 (by decide), yFil_0 (by decide)]
      exact k9
    · rw [yFil_0 (by decide), yFil_o (by decide)]
      unfold mBar
      rw [q3 453 (by decide) (by decide) (by decide)]
      exact k10
theorem mSg_sign {W : zVt} (h : mSg W J s P O S) {j x : Int} : mSg (vup W 447 j x) J s P O (vup S 3 j x) := by
  refine ⟨mFt_ts (s := s) (J := J) (J' := J) (mFt_v (by omega)) h.1, ?_, ?_, ?_⟩
  · rw [vup_o (by decide), vup_o (by decide)]
    exact h.2.1
  · simp (disch := decide) only [vup_o]
    exact h.2.2.1
  · rw [vup_o (by decide)]
    intro h7
    obtain ⟨k1, k2, k3, k4, k5, k6, k8, k9, k10⟩ := h.2.2.2 h7
    unfold mSc mBar at *
    simp (disch := decide) only [vup_o]
    refine ⟨k1, k2, k3, k4, ?_, k6, k8, k9, k10⟩
    intro i i0 i1
    by_cases hi : i = j
    · rw [hi, vup_at, vup_at]
    · rw [vup_k hi, vup_k hi]
      exact k5 i i0 i1
theorem mSg_tie {W : zVt} (h : mSg W J s P O S) {t p c : Int} : mSg (vup (vup (vup W 430 26 t) 430 27 p) 430 28 c) J s P O (vup (vup (vup S 0 4 t) 0 5 p) 0 6 c) := by
  refine ⟨mFt_ts (s := s) (J := J) (J' := J) (mFt_t (mFt_t (mFt_v (by omega)) (mFt_v (by omega))) (mFt_v (by omega))) h.1, ?_, ?_, ?_⟩
  · simp (disch := decide) only [vup_k]
    exact h.2.1
  · simp (disch := decide) only [vup_k]
    exact h.2.2.1
  · simp (disch := decide) only [vup_k]
    intro h7
    obtain ⟨k1, k2, k3, k4, k5, k6, k8, k9, k10⟩ := h.2.2.2 h7
    unfold mSc mBar at *
    simp (disch := decide) only [vup_o, vup_k, vup_at]
    exact ⟨k1, k2, k3, k4, k5, k6, trivial, fun _ => ⟨trivial, trivial⟩, k10⟩
theorem yPi_note {p : Int} (h : 15 ≤ p ∧ p ≤ 85) : yPi (p + 128) = p ∧ yBg (p + 128) = 1 ∧ yPi p = p ∧ yBg p = 0 := by
  unfold yPi yBg
  refine ⟨?_, ?_, ?_, ?_⟩
  · rw [if_neg (by omega), if_pos (by omega)]; omega
  · rw [if_pos (by omega)]
  · rw [if_neg (by omega), if_neg (by omega)]
  · rw [if_neg (by omega)]
theorem sm169 {W : zVt} (hP : yTok P D O) (h : mSg W J s P O S) (hi : yInv P D S) (hn : S 0 0 < P 8 0) (hk : P 0 (S 0 0) = 3) :
    ∃ W', zGo false 169 0 [.ref 430, .int (zi (S 0 0)), .null, .null, .null, .null, .null, .null] [] (zm W J d) = zN1 W' J d ∧ mSg W' J s P O (yNote P S (S 0 0)) ∧ mFt s W J W' J := by
  have h7 : S 0 7 = 0 := hi.2.2.2.2.2.2.2.2.2.2
  obtain ⟨k1, k2, k3, k4, k5, k6, k8, k9, k10⟩ := h.2.2.2 h7
  obtain ⟨t0, t1, t2, t3⟩ := h.1
  have ha := hi.1
  have hb := hP.2.2.2.2 (S 0 0) ha.1 hn
  have hq := hb.2.2.2.1 hk
  have hT := t3 (S 0 0) (by omega) hn
  have hT3 := hT.2.2.2.1 hk
  have hT4 := hT.2.2.2.2 (Or.inl hk)
  have hpt := yPt_rng hi hq.1
  have hcg := yCg_rng hi hq.1
  have hfl := hi.2.2.2.2.1
  have htie := hi.2.2.2.2.2.2.2.2.1
  have hsg := hi.2.2.2.2.2.2.1 (P 2 (S 0 0)) (by omega) (by omega)
  have hmt := hP.2.1
  have hnn := hP.1
  have hch := yCh_rng (P 3 (S 0 0))
  have e13 : W 430 13 = 0 := by rw [h.2.1, h7]
  have e36 : W 436 (S 0 0) = P 3 (S 0 0) := hT3.2.2.2.2.1
  have e47 := k5 (P 2 (S 0 0)) (by omega) (by omega)
  have ebs := hT3.2.2.2.1
  -- the step and the own change
  have s0 : ∃ x2, zGo false 169 0 [.ref 430, .int (zi (S 0 0)), .null, .null, .null, .null, .null, .null] [] (zm W J d) = zGo false 169 50 [.ref 430, .int (zi (S 0 0)), .int (zi x2), .int (zi (P 2 (S 0 0))), .null, .null, .null, .null] [.int (zi (yCh (P 3 (S 0 0))))] (zm W J d) := by
    have e170 := sp170 (V := W) (J := J) (d := d) (g := P 3 (S 0 0)) (by omega)
    refine ⟨W 435 (W 439 (S 0 0)), ?_⟩
    unfold yBs at ebs
    by_cases h0 : W 435 (W 439 (S 0 0)) = 0
    · rw [if_pos h0] at ebs
      rw [← ebs, ze_169_0]
      simp (disch := first | omega | assumption | (simp (disch := omega) only [vup_fn, vup_o, vup_k, vup_at]; first | done | omega | assumption)) only [h0, ze_169_39, e36, e170, Int.add_zero, ↓reduceIte, qw_id, zck_T, zck_t, zGor_v, zGor_n, zGor_e, zbs, vup_at, vup_vup, vup_self, vup_o, vup_k, vup_fn, ne_eq, not_true_eq_false, not_false_eq_true, and_true, true_and, and_self, and_false, false_and, or_true, true_or, or_self, or_false, false_or, xlt_t, xlt_f, xle_t, xle_f, xeq_t, xeq_f, xand_f, xor_t]
    · rw [if_neg h0] at ebs
      by_cases h1 : W 435 (W 439 (S 0 0)) = 1
      · rw [if_pos h1] at ebs
        rw [← ebs, ze_169_0]
        simp (disch := first | omega | assumption | (simp (disch := omega) only [vup_fn, vup_o, vup_k, vup_at]; first | done | omega | assumption)) only [h1, ze_169_39, e36, e170, Int.add_zero, ↓reduceIte, qw_id, zck_T, zck_t, zGor_v, zGor_n, zGor_e, zbs, vup_at, vup_vup, vup_self, vup_o, vup_k, vup_fn, ne_eq, not_true_eq_false, not_false_eq_true, and_true, true_and, and_self, and_false, false_and, or_true, true_or, or_self, or_false, false_or, xlt_t, xlt_f, xle_t, xle_f, xeq_t, xeq_f, xand_f, xor_t]
      · rw [if_neg h1] at ebs
        rw [← ebs, ze_169_0]
        simp (disch := first | omega | assumption | (simp (disch := omega) only [vup_fn, vup_o, vup_k, vup_at]; first | done | omega | assumption)) only [ze_169_39, e36, e170, Int.add_zero, ↓reduceIte, qw_id, zck_T, zck_t, zGor_v, zGor_n, zGor_e, zbs, vup_at, vup_vup, vup_self, vup_o, vup_k, vup_fn, ne_eq, not_true_eq_false, not_false_eq_true, and_true, true_and, and_self, and_false, false_and, or_true, true_or, or_self, or_false, false_or, xlt_t, xlt_f, xle_t, xle_f, xeq_t, xeq_f, xand_f, xor_t]
  obtain ⟨x2, s0⟩ := s0
  rw [s0]
  have e172 := sp172 (V := W) (J := J) (d := d) (s := P 2 (S 0 0)) (c := yCg P S (S 0 0)) (by omega)
  rw [show 12 * (P 2 (S 0 0) / 7) + yLp (P 2 (S 0 0) % 7) + yCg P S (S 0 0) = yPt P S (S 0 0) from rfl] at e172
  -- the change and the pitch
  have s1 : zGo false 169 50 [.ref 430, .int (zi (S 0 0)), .int (zi x2), .int (zi (P 2 (S 0 0))), .null, .null, .null, .null] [.int (zi (yCh (P 3 (S 0 0))))] (zm W J d) = zGo false 169 129 [.ref 430, .int (zi (S 0 0)), .int (zi x2), .int (zi (P 2 (S 0 0))), .int (zi (yCh (P 3 (S 0 0)))), .int (zi (if S 0 4 = -1 then 0 else 1)), .int (zi (yCg P S (S 0 0))), .null] [.int (zi (yPt P S (S 0 0)))] (zm W J d) := by
    by_cases ht : S 0 4 = -1
    · have ec : yCg P S (S 0 0) = if P 3 (S 0 0) ≠ 0 then yCh (P 3 (S 0 0)) else if S 3 (P 2 (S 0 0)) ≠ 9 then S 3 (P 2 (S 0 0)) else yKey (P 2 (S 0 0) % 7) (P 8 2) := by
        unfold yCg
        rw [if_neg (show ¬ S 0 4 ≠ -1 from fun q => q ht)]
      by_cases hg : P 3 (S 0 0) = 0
      · rw [if_neg (by omega)] at ec
        by_cases h9 : S 3 (P 2 (S 0 0)) = 9
        · rw [if_neg (by omega)] at ec
          have e171 := sp171 (V := W) (J := J) (d := d) (l := P 2 (S 0 0) % 7) (key := P 8 2) (by omega) t1 hP.2.2.1
          have er := qrem_p (a := P 2 (S 0 0)) (b := 7) (by omega) (by omega)
          rw [← ec] at e171
          rw [ze_169_50]
          simp (disch := first | omega | assumption | (simp (disch := omega) only [vup_fn, vup_o, vup_k, vup_at]; first | done | omega | assumption)) only [k8, ht, ze_169_65, e36, hg, e47, h9, er, e171, ze_169_121, e172, Int.add_zero, ↓reduceIte, qw_id, zck_T, zck_t, zGor_v, zGor_n, zGor_e, zbs, vup_at, vup_vup, vup_self, vup_o, vup_k, vup_fn, ne_eq, not_true_eq_false, not_false_eq_true, and_true, true_and, and_self, and_false, false_and, or_true, true_or, or_self, or_false, false_or, xlt_t, xlt_f, xle_t, xle_f, xeq_t, xeq_f, xand_f, xor_t]
        · rw [if_pos h9] at ec
          rw [ec] at e172 ⊢
          rw [ze_169_50]
          simp (disch := first | omega | assumption | (simp (disch := omega) only [vup_fn, vup_o, vup_k, vup_at]; first | done | omega | assumption)) only [k8, ht, ze_169_65, e36, hg, e47, ze_169_121, e172, Int.add_zero, ↓reduceIte, qw_id, zck_T, zck_t, zGor_v, zGor_n, zGor_e, zbs, vup_at, vup_vup, vup_self, vup_o, vup_k, vup_fn, ne_eq, not_true_eq_false, not_false_eq_true, and_true, true_and, and_self, and_false, false_and, or_true, true_or, or_self, or_false, false_or, xlt_t, xlt_f, xle_t, xle_f, xeq_t, xeq_f, xand_f, xor_t]
      · rw [if_pos hg] at ec
        rw [ec] at e172 ⊢
        rw [ze_169_50]
        simp (disch := first | omega | assumption | (simp (disch := omega) only [vup_fn, vup_o, vup_k, vup_at]; first | done | omega | assumption)) only [k8, ht, ze_169_65, e36, ze_169_121, e172, Int.add_zero, ↓reduceIte, qw_id, zck_T, zck_t, zGor_v, zGor_n, zGor_e, zbs, vup_at, vup_vup, vup_self, vup_o, vup_k, vup_fn, ne_eq, not_true_eq_false, not_false_eq_true, and_true, true_and, and_self, and_false, false_and, or_true, true_or, or_self, or_false, false_or, xlt_t, xlt_f, xle_t, xle_f, xeq_t, xeq_f, xand_f, xor_t]
    · have ec : yCg P S (S 0 0) = S 0 6 := by
        unfold yCg
        rw [if_pos ht]
      have w := k9 ht
      rw [ec] at e172 ⊢
      have htr : 3 ≤ S 0 4 := by omega
      rw [ze_169_50]
      simp (disch := first | omega | assumption | (simp (disch := omega) only [vup_fn, vup_o, vup_k, vup_at]; first | done | omega | assumption)) only [k8, ze_169_65, w.2, ze_169_121, e172, Int.add_zero, ↓reduceIte, qw_id, zck_T, zck_t, zGor_v, zGor_n, zGor_e, zbs, vup_at, vup_vup, vup_self, vup_o, vup_k, vup_fn, ne_eq, not_true_eq_false, not_false_eq_true, and_true, true_and, and_self, and_false, false_and, or_true, true_or, or_self, or_false, false_or, xlt_t, xlt_f, xle_t, xle_f, xeq_t, xeq_f, xand_f, xor_t]
  rw [s1]
  by_cases hbt : yBadTie P S (S 0 0)
  · have ht := hbt.1
    have w := k9 ht
    have ec : yCg P S (S 0 0) = S 0 6 := by
      unfold yCg
      rw [if_pos ht]
    have e173 := sp173 (V := W) (J := J) (d := d) (f := 9) (t := S 0 4) e13
    refine ⟨vup (vup W 430 13 9) 430 14 (S 0 4), ?_, ?_, mFt_t (mFt_v (by omega)) (mFt_v (by omega))⟩
    · rw [ze_169_129, if_neg ht]
      rcases hbt.2 with hb1 | hb1
      · simp (disch := first | omega | assumption | (simp (disch := omega) only [vup_fn, vup_o, vup_k, vup_at]; first | done | omega | assumption)) only [w.1, ze_169_161, k8, e173, ze_169_171, Int.add_zero, ↓reduceIte, qw_id, zck_T, zck_t, zGor_v, zGor_n, zGor_e, zbs, vup_at, vup_vup, vup_self, vup_o, vup_k, vup_fn, ne_eq, not_true_eq_false, not_false_eq_true, and_true, true_and, and_self, and_false, false_and, or_true, true_or, or_self, or_false, false_or, xlt_t, xlt_f, xle_t, xle_f, xeq_t, xeq_f, xand_f, xor_t]
      · by_cases hpe : yPt P S (S 0 0) = S 0 5
        · rw [← ec] at hb1
          simp (disch := first | omega | assumption | (simp (disch := omega) only [vup_fn, vup_o, vup_k, vup_at]; first | done | omega | assumption)) only [w.1, hpe, e36, ze_169_161, k8, e173, ze_169_171, Int.add_zero, ↓reduceIte, qw_id, zck_T, zck_t, zGor_v, zGor_n, zGor_e, zbs, vup_at, vup_vup, vup_self, vup_o, vup_k, vup_fn, ne_eq, not_true_eq_false, not_false_eq_true, and_true, true_and, and_self, and_false, false_and, or_true, true_or, or_self, or_false, false_or, xlt_t, xlt_f, xle_t, xle_f, xeq_t, xeq_f, xand_f, xor_t]
        · simp (disch := first | omega | assumption | (simp (disch := omega) only [vup_fn, vup_o, vup_k, vup_at]; first | done | omega | assumption)) only [w.1, ze_169_161, k8, e173, ze_169_171, Int.add_zero, ↓reduceIte, qw_id, zck_T, zck_t, zGor_v, zGor_n, zGor_e, zbs, vup_at, vup_vup, vup_self, vup_o, vup_k, vup_fn, ne_eq, not_true_eq_false, not_false_eq_true, and_true, true_and, and_self, and_false, false_and, or_true, true_or, or_self, or_false, false_or, xlt_t, xlt_f, xle_t, xle_f, xeq_t, xeq_f, xand_f, xor_t]
    · unfold yNote
      rw [if_pos hbt]
      exact mSg_fl h (by decide)
  · have s2 : zGo false 169 129 [.ref 430, .int (zi (S 0 0)), .int (zi x2), .int (zi (P 2 (S 0 0))), .int (zi (yCh (P 3 (S 0 0)))), .int (zi (if S 0 4 = -1 then 0 else 1)), .int (zi (yCg P S (S 0 0))), .null] [.int (zi (yPt P S (S 0 0)))] (zm W J d) = (zGo false 174 0 [.ref 430, .int (zi (S 0 0)), .int (zi (yPt P S (S 0 0))), .int (zi (if S 0 4 = -1 then 1 else 0)), .null] [] (zm W J d)).bind (zGor false 169 189 [.ref 430, .int (zi (S 0 0)), .int (zi x2), .int (zi (P 2 (S 0 0))), .int (zi (yCh (P 3 (S 0 0)))), .int (zi (if S 0 4 = -1 then 0 else 1)), .int (zi (yCg P S (S 0 0))), .int (zi (yPt P S (S 0 0)))] []) := by
      by_cases ht : S 0 4 = -1
      · rw [if_pos ht, if_pos ht, ze_169_129]
        simp (disch := first | omega | assumption | (simp (disch := omega) only [vup_fn, vup_o, vup_k, vup_at]; first | done | omega | assumption)) only [ze_169_172, ze_169_186, Int.add_zero, ↓reduceIte, qw_id, zck_T, zck_t, zGor_v, zGor_n, zGor_e, zbs, vup_at, vup_vup, vup_self, vup_o, vup_k, vup_fn, ne_eq, not_true_eq_false, not_false_eq_true, and_true, true_and, and_self, and_false, false_and, or_true, true_or, or_self, or_false, false_or, xlt_t, xlt_f, xle_t, xle_f, xeq_t, xeq_f, xand_f, xor_t]
      · have w := k9 ht
        have hpe : yPt P S (S 0 0) = S 0 5 := by
          by_cases hpe : yPt P S (S 0 0) = S 0 5
          · exact hpe
          · exact absurd ⟨ht, Or.inl hpe⟩ hbt
        have ec : yCg P S (S 0 0) = S 0 6 := by
          unfold yCg
          rw [if_pos ht]
        rw [if_neg ht, if_neg ht, ze_169_129]
        by_cases hg : P 3 (S 0 0) = 0
        · simp (disch := first | omega | assumption | (simp (disch := omega) only [vup_fn, vup_o, vup_k, vup_at]; first | done | omega | assumption)) only [w.1, hpe, e36, hg, ze_169_172, ze_169_186, Int.add_zero, ↓reduceIte, qw_id, zck_T, zck_t, zGor_v, zGor_n, zGor_e, zbs, vup_at, vup_vup, vup_self, vup_o, vup_k, vup_fn, ne_eq, not_true_eq_false, not_false_eq_true, and_true, true_and, and_self, and_false, false_and, or_true, true_or, or_self, or_false, false_or, xlt_t, xlt_f, xle_t, xle_f, xeq_t, xeq_f, xand_f, xor_t]
        · have hce : yCh (P 3 (S 0 0)) = S 0 6 := by
            by_cases hce : yCh (P 3 (S 0 0)) = S 0 6
            · exact hce
            · exact absurd ⟨ht, Or.inr ⟨hg, hce⟩⟩ hbt
          simp (disch := first | omega | assumption | (simp (disch := omega) only [vup_fn, vup_o, vup_k, vup_at]; first | done | omega | assumption)) only [w.1, hpe, e36, ec, hce, ze_169_172, ze_169_186, Int.add_zero, ↓reduceIte, qw_id, zck_T, zck_t, zGor_v, zGor_n, zGor_e, zbs, vup_at, vup_vup, vup_self, vup_o, vup_k, vup_fn, ne_eq, not_true_eq_false, not_false_eq_true, and_true, true_and, and_self, and_false, false_and, or_true, true_or, or_self, or_false, false_or, xlt_t, xlt_f, xle_t, xle_f, xeq_t, xeq_f, xand_f, xor_t]
    rw [s2]
    generalize hx5 : (if S 0 4 = -1 then (0 : Int) else 1) = x5 at *
    generalize hz : (if S 0 4 = -1 then (1 : Int) else 0) = z at *
    have hz01 : z = 0 ∨ z = 1 := by
      rw [← hz]
      split <;> omega
    -- behind the fill
    have tail : ∀ V1 : zVt, V1 436 (S 0 0) = P 3 (S 0 0) → V1 438 (S 0 0) = P 5 (S 0 0) → (V1 447 (P 2 (S 0 0)) = S 3 (P 2 (S 0 0))) → zGo false 169 189 [.ref 430, .int (zi (S 0 0)), .int (zi x2), .int (zi (P 2 (S 0 0))), .int (zi (yCh (P 3 (S 0 0)))), .int (zi x5), .int (zi (yCg P S (S 0 0))), .int (zi (yPt P S (S 0 0)))] [] (zm V1 J d) = zN1 (vup (vup (vup (if P 3 (S 0 0) ≠ 0 then vup V1 447 (P 2 (S 0 0)) (yCh (P 3 (S 0 0))) else V1) 430 26 (if P 5 (S 0 0) = 0 then -1 else S 0 0)) 430 27 (yPt P S (S 0 0))) 430 28 (yCg P S (S 0 0))) J d := by
      intro V1 v36 v38 v47
      rw [ze_169_189]
      by_cases hg : P 3 (S 0 0) = 0
      · rw [if_neg (show ¬ P 3 (S 0 0) ≠ 0 by omega)]
        by_cases h5 : P 5 (S 0 0) = 0
        · simp (disch := first | omega | assumption | (simp (disch := omega) only [vup_fn, vup_o, vup_k, vup_at]; first | done | omega | assumption)) only [v36, hg, ze_169_214, v38, h5, ze_169_230, Int.add_zero, ↓reduceIte, qw_id, zck_T, zck_t, zGor_v, zGor_n, zGor_e, zbs, vup_at, vup_vup, vup_self, vup_o, vup_k, vup_fn, ne_eq, not_true_eq_false, not_false_eq_true, and_true, true_and, and_self, and_false, false_and, or_true, true_or, or_self, or_false, false_or, xlt_t, xlt_f, xle_t, xle_f, xeq_t, xeq_f, xand_f, xor_t]
        · simp (disch := first | omega | assumption | (simp (disch := omega) only [vup_fn, vup_o, vup_k, vup_at]; first | done | omega | assumption)) only [v36, hg, ze_169_214, v38, h5, ze_169_230, Int.add_zero, ↓reduceIte, qw_id, zck_T, zck_t, zGor_v, zGor_n, zGor_e, zbs, vup_at, vup_vup, vup_self, vup_o, vup_k, vup_fn, ne_eq, not_true_eq_false, not_false_eq_true, and_true, true_and, and_self, and_false, false_and, or_true, true_or, or_self, or_false, false_or, xlt_t, xlt_f, xle_t, xle_f, xeq_t, xeq_f, xand_f, xor_t]
      · rw [if_pos (show P 3 (S 0 0) ≠ 0 from hg)]
        by_cases h5 : P 5 (S 0 0) = 0
        · simp (disch := first | omega | assumption | (simp (disch := omega) only [vup_fn, vup_o, vup_k, vup_at]; first | done | omega | assumption)) only [v36, ze_169_214, v38, h5, ze_169_230, Int.add_zero, ↓reduceIte, qw_id, zck_T, zck_t, zGor_v, zGor_n, zGor_e, zbs, vup_at, vup_vup, vup_self, vup_o, vup_k, vup_fn, ne_eq, not_true_eq_false, not_false_eq_true, and_true, true_and, and_self, and_false, false_and, or_true, true_or, or_self, or_false, false_or, xlt_t, xlt_f, xle_t, xle_f, xeq_t, xeq_f, xand_f, xor_t]
        · simp (disch := first | omega | assumption | (simp (disch := omega) only [vup_fn, vup_o, vup_k, vup_at]; first | done | omega | assumption)) only [v36, ze_169_214, v38, h5, ze_169_230, Int.add_zero, ↓reduceIte, qw_id, zck_T, zck_t, zGor_v, zGor_n, zGor_e, zbs, vup_at, vup_vup, vup_self, vup_o, vup_k, vup_fn, ne_eq, not_true_eq_false, not_false_eq_true, and_true, true_and, and_self, and_false, false_and, or_true, true_or, or_self, or_false, false_or, xlt_t, xlt_f, xle_t, xle_f, xeq_t, xeq_f, xand_f, xor_t]
    have e174 := sp174 (V := W) (J := J) (d := d) (a := S 0 0) (c := P 4 (S 0 0)) (fl := S 0 2) (mt := P 8 1) (p := yPt P S (S 0 0)) (z := z) (by omega) k3 t2 hT4 e13 hfl hmt.2 hq.2.2.1 hz01
    have frt : ∀ V1 : zVt, mFt s V1 J (vup (vup (vup (if P 3 (S 0 0) ≠ 0 then vup V1 447 (P 2 (S 0 0)) (yCh (P 3 (S 0 0))) else V1) 430 26 (if P 5 (S 0 0) = 0 then -1 else S 0 0)) 430 27 (yPt P S (S 0 0))) 430 28 (yCg P S (S 0 0))) J := by
      intro V1
      refine mFt_t (mFt_t (mFt_t ?_ (mFt_v (by omega))) (mFt_v (by omega))) (mFt_v (by omega))
      split
      · exact mFt_v (by omega)
      · exact mFt_r s V1 J
    unfold yNote
    rw [if_neg hbt]
    by_cases hlong : P 8 1 < S 0 2 + P 4 (S 0 0)
    · rw [if_pos hlong]
      have q1 := e174.1 hlong
      have fr1 : mFt s W J (vup (vup W 430 13 7) 430 14 (S 0 0)) J := mFt_t (mFt_v (by omega)) (mFt_v (by omega))
      refine ⟨_, ?_, ?_, mFt_t fr1 (frt _)⟩
      · rw [q1]
        exact tail _ (by rw [fr1.1 436 (by omega)]; exact e36) (by rw [fr1.1 438 (by omega)]; exact hT3.2.2.2.2.2) (by simp (disch := decide) only [vup_o]; exact e47)
      · refine mSg_after (mSg_fl h (f := 7) (t := S 0 0) (by decide)) (by rw [yFl_7]; decide) (frt _) ?_ ?_
        · rw [vup_k (by decide), vup_k (by decide), vup_k (by decide)]
          split
          · rw [vup_o (by decide)]
          · rfl
        · rw [vup_k (by decide), vup_k (by decide), vup_k (by decide)]
          split
          · rw [vup_o (by decide)]
          · rfl
    · rw [if_neg hlong]
      obtain ⟨V1, q1, q2, q3, q4, q5⟩ := e174.2 (by omega)
      have hnp := yPi_note hpt
      have hff : yPi (if S 0 4 = -1 then yPt P S (S 0 0) + 128 else yPt P S (S 0 0)) = yPt P S (S 0 0) ∧ yBg (if S 0 4 = -1 then yPt P S (S 0 0) + 128 else yPt P S (S 0 0)) = z ∧ yPi (yPt P S (S 0 0)) = yPt P S (S 0 0) ∧ yBg (yPt P S (S 0 0)) = 0 := by
        rw [← hz]
        by_cases ht : S 0 4 = -1
        · rw [if_pos ht, if_pos ht]
          exact hnp
        · rw [if_neg ht, if_neg ht]
          exact ⟨hnp.2.2.1, hnp.2.2.2, hnp.2.2.1, hnp.2.2.2⟩
      obtain ⟨g1, g2⟩ := mSg_fil h h7 (by omega) hff q2 q3 q4 q5
      refine ⟨_, ?_, ?_, mFt_t g2 (frt _)⟩
      · rw [q1]
        exact tail V1 (by rw [q3 436 (by decide) (by decide) (by decide)]; exact e36) (by rw [q3 438 (by decide) (by decide) (by decide)]; exact hT3.2.2.2.2.2) (by rw [q3 447 (by decide) (by decide) (by decide)]; exact e47)
      · by_cases hg : P 3 (S 0 0) = 0
        · rw [if_neg (show ¬ P 3 (S 0 0) ≠ 0 by omega), if_neg (show ¬ P 3 (S 0 0) ≠ 0 by omega)]
          exact mSg_tie g1
        · rw [if_pos (show P 3 (S 0 0) ≠ 0 from hg), if_pos (show P 3 (S 0 0) ≠ 0 from hg)]
          exact mSg_tie (mSg_sign g1)
end
