/-! part 61: the reference's singing: tokens -/
/-- the reference's tokens, as P tells them -/
def mTs (W P : zVt) : Prop := W 480 10 = P 8 0 ∧ W 435 1 = P 8 2 ∧ W 480 23 = P 8 1 ∧ ∀ k, 0 ≤ k → k < P 8 0 → W 433 k = P 0 k ∧ (P 0 k = 7 ∨ P 0 k = 8 → W 435 k = P 1 k) ∧ (P 0 k = 8 → W 440 k = P 6 k) ∧ (P 0 k = 3 → (0 ≤ W 439 k ∧ W 439 k < P 8 0) ∧ (-100 ≤ W 435 (W 439 k) ∧ W 435 (W 439 k) ≤ 100) ∧ (-100 ≤ W 435 k ∧ W 435 k ≤ 100) ∧ W 435 k + yBs (W 435 (W 439 k)) = P 2 k ∧ W 436 k = P 3 k ∧ W 438 k = P 5 k) ∧ (P 0 k = 3 ∨ P 0 k = 4 → W 437 k = P 4 k)
/-- a bar of the reference -/
def mBar (W : zVt) (J : zJt) (i : Int) (B : Int → Int) : Prop := (∀ r, 0 ≤ r → r < 8 → zby (J 451 i) r = yMb (B r) ∧ zby (J 452 i) r = yMb (B (r + 8))) ∧ W 453 i = yHr (fun t => yBg (B t)) 16
def mSc (W : zVt) (J : zJt) (s : Int) (O : Int → Int → Int) (S : zVt) : Prop :=
  W 480 19 = S 0 1 ∧ (∀ i, 0 ≤ i → i < S 0 1 → W 442 i = S 1 i ∧ W 441 i = O (S 0 0) i) ∧ W 480 24 = S 0 2 ∧ (∀ t, 0 ≤ t → t < S 0 2 → W 445 t = yPi (S 2 t) ∧ W 446 t = yBg (S 2 t)) ∧ (∀ j, 0 ≤ j → j < 50 → W 447 j = S 3 j) ∧ W 480 25 = S 0 3 ∧ W 480 26 = S 0 4 ∧ (S 0 4 ≠ -1 → W 480 27 = S 0 5 ∧ W 480 28 = S 0 6) ∧ ∀ b, 0 ≤ b → b < S 0 3 → mBar W J (40 * s + b) (fun t => S 4 (16 * b + t))
def mSg (W : zVt) (J : zJt) (s : Int) (P : zVt) (O : Int → Int → Int) (S : zVt) : Prop := mTs W P ∧ W 480 13 = S 0 7 ∧ (S 0 7 ≠ 0 → W 480 14 = S 0 8) ∧ (S 0 7 = 0 → mSc W J s O S)
/-- what singing leaves -/
def mFt (s : Int) (W : zVt) (J : zJt) (W' : zVt) (J' : zJt) : Prop := (∀ o : Nat, ¬(o = 480 ∨ o = 441 ∨ o = 442 ∨ o = 445 ∨ o = 446 ∨ o = 447 ∨ o = 453) → W' o = W o) ∧ (∀ k : Int, ¬(k = 13 ∨ k = 14 ∨ k = 19 ∨ (24 ≤ k ∧ k ≤ 28)) → W' 480 k = W 480 k) ∧ (∀ j, ¬(40 * s ≤ j ∧ j < 40 * s + 40) → W' 453 j = W 453 j) ∧ (∀ o, o ≠ 451 → o ≠ 452 → J' o = J o) ∧ ∀ j, ¬(40 * s ≤ j ∧ j < 40 * s + 40) → J' 451 j = J 451 j ∧ J' 452 j = J 452 j
theorem mFt_r (s : Int) (W : zVt) (J : zJt) : mFt s W J W J := ⟨fun _ _ => rfl, fun _ _ => rfl, fun _ _ => rfl, fun _ _ _ => rfl, fun _ _ => ⟨rfl, rfl⟩⟩
theorem mFt_t {s : Int} {W W1 W2 : zVt} {J J1 J2 : zJt} (h : mFt s W J W1 J1) (h2 : mFt s W1 J1 W2 J2) : mFt s W J W2 J2 := ⟨fun o ho => (h2.1 o ho).trans (h.1 o ho), fun k hk => (h2.2.1 k hk).trans (h.2.1 k hk), fun j hj => (h2.2.2.1 j hj).trans (h.2.2.1 j hj), fun o h3 h4 => (h2.2.2.2.1 o h3 h4).trans (h.2.2.2.1 o h3 h4), fun j hj => ⟨(h2.2.2.2.2 j hj).1.trans (h.2.2.2.2 j hj).1, (h2.2.2.2.2 j hj).2.trans (h.2.2.2.2 j hj).2⟩⟩
theorem mFt_v {s : Int} {W : zVt} {J : zJt} {o : Nat} {k x : Int} (h : o = 480 ∧ (k = 13 ∨ k = 14 ∨ k = 19 ∨ (24 ≤ k ∧ k ≤ 28)) ∨ o = 441 ∨ o = 442 ∨ o = 445 ∨ o = 446 ∨ o = 447 ∨ o = 453 ∧ (40 * s ≤ k ∧ k < 40 * s + 40)) : mFt s W J (vup W o k x) J := ⟨fun o2 ho => vup_fn (by omega), fun k2 hk => vup_ne (by omega), fun j hj => vup_ne (by omega), fun _ _ _ => rfl, fun _ _ => ⟨rfl, rfl⟩⟩
theorem mFt_ns {s : Int} {W : zVt} {J : zJt} {p : Int} : mFt s W J (mNs W p) J := ⟨fun o2 ho => vst_o (by omega), fun k2 hk => by unfold mNs; rw [vst_o (by decide)], fun j hj => by unfold mNs; rw [vst_o (by decide)], fun _ _ _ => rfl, fun _ _ => ⟨rfl, rfl⟩⟩
theorem mFt_ts {s : Int} {W W' P : zVt} {J J' : zJt} (h : mFt s W J W' J') (ht : mTs W P) : mTs W' P := by
  unfold mTs at *
  rw [h.2.1 10 (by omega), h.2.1 23 (by omega), h.1 433 (by omega), h.1 435 (by omega), h.1 436 (by omega), h.1 437 (by omega), h.1 438 (by omega), h.1 439 (by omega), h.1 440 (by omega)]
  exact ht
section
variable {J : zJt} {d : Nat → Nat → UInt64} {s : Int} {P S : zVt} {D : Int → Int} {O : Int → Int → Int}
theorem mSg_fl {W : zVt} (h : mSg W J s P O S) {f t : Int} (hf : f ≠ 0) : mSg (vup (vup W 480 13 f) 480 14 t) J s P O (yFl S f t) := by
  refine ⟨mFt_ts (s := s) (J := J) (J' := J) (mFt_t (mFt_v (by omega)) (mFt_v (by omega))) h.1, ?_, ?_, ?_⟩
  · rw [yFl_7, vup_k (by decide), vup_at]
  · intro _
    unfold yFl
    rw [vup_at, vup_at]
  · intro q
    rw [yFl_7] at q
    exact absurd q hf
/-- behind a fault nothing matters -/
theorem mSg_after {W W' : zVt} {J' : zJt} (h : mSg W J s P O S) (h7 : S 0 7 ≠ 0) (hf : mFt s W J W' J') (h13 : W' 480 13 = W 480 13) (h14 : W' 480 14 = W 480 14) : mSg W' J' s P O S := ⟨mFt_ts hf h.1, by rw [h13]; exact h.2.1, fun q => by rw [h14]; exact h.2.2.1 q, fun q => absurd q h7⟩
/-- sounds put in -/
theorem mSg_fil {W W' : zVt} (h : mSg W J s P O S) (h7 : S 0 7 = 0) {c f l p z : Int} (hc : 0 ≤ c) (hfl : yPi f = p ∧ yBg f = z ∧ yPi l = p ∧ yBg l = 0) (q2 : W' 480 24 = S 0 2 + c) (q3 : ∀ o : Nat, o ≠ 480 → o ≠ 445 → o ≠ 446 → W' o = W o) (q4 : ∀ j, j ≠ 24 → W' 480 j = W 480 j) (q5 : ∀ t, (S 0 2 ≤ t → t < S 0 2 + c → W' 445 t = p ∧ W' 446 t = if t = S 0 2 then z else 0) ∧ (t < S 0 2 → W' 445 t = W 445 t ∧ W' 446 t = W 446 t)) : mSg W' J s P O (yFil S c f l) ∧ mFt s W J W' J := by
  have fr : mFt s W J W' J := ⟨fun o ho => q3 o (by omega) (by omega) (by omega), fun k hk => q4 k (by omega), fun j _ => by rw [q3 453 (by decide) (by decide) (by decide)], fun _ _ _ => rfl, fun _ _ => ⟨rfl, rfl⟩⟩
  obtain ⟨k1, k2, k3, k4, k5, k6, k8, k9, k10⟩ := h.2.2.2 h7
  refine ⟨⟨mFt_ts fr h.1, ?_, ?_, ?_⟩, fr⟩
  · rw [q4 13 (by decide), yFil_0 (by decide)]
    exact h.2.1
  · rw [yFil_0 (by decide)]
    exact fun q => absurd h7 q
  · intro _
    refine ⟨?_, ?_, ?_, ?_, ?_, ?_, ?_, ?_, ?_⟩
    · rw [q4 19 (by decide), yFil_0 (by decide)]
      exact k1
    · rw [q3 442 (by decide) (by decide) (by decide), q3 441 (by decide) (by decide) (by decide), yFil_0 (by decide), yFil_0 (by decide), yFil_o (by decide)]
      exact k2
    · rw [q2, yFil_02]
    · rw [yFil_02]
      intro t t0 t1
      have hq := q5 t
      unfold yFil
      rw [vst_at]
      show W' 445 t = yPi (if S 0 2 ≤ t ∧ t < S 0 2 + c then (if t = S 0 2 then f else l) else S 2 t) ∧ W' 446 t = yBg (if S 0 2 ≤ t ∧ t < S 0 2 + c then (if t = S 0 2 then f else l) else S 2 t)
      by_cases hin : S 0 2 ≤ t
      · have w := hq.1 hin t1
        rw [if_pos ⟨hin, t1⟩, w.1, w.2]
        by_cases ht : t = S 0 2
        · rw [if_pos ht, if_pos ht, hfl.1, hfl.2.1]
          exact ⟨rfl, rfl⟩
        · rw [if_neg ht, if_neg ht, hfl.2.2.1, hfl.2.2.2]
          exact ⟨rfl, rfl⟩
      · have w := hq.2 (by omega)
        rw [if_neg (by omega), w.1, w.2]
        exact k4 t t0 (by omega)
    · rw [q3 447 (by decide) (by decide) (by decide), yFil_o (by decide)]
      exact k5
    · rw [q4 25 (by decide), yFil_0 (by decide)]
      exact k6
    · rw [q4 26 (by decide), yFil_0 (by decide)]
      exact k8
    · rw [q4 27 (by decide), q4 28 (by decide), yFil_0 (by decide), yFil_0 (by decide), yFil_0 (by decide)]
      exact k9
    · rw [yFil_0 (by decide), yFil_o (by decide)]
      unfold mBar
      rw [q3 453 (by decide) (by decide) (by decide)]
      exact k10
theorem mSg_sign {W : zVt} (h : mSg W J s P O S) {j x : Int} : mSg (vup W 447 j x) J s P O (vup S 3 j x) := by
  refine ⟨mFt_ts (s := s) (J := J) (J' := J) (mFt_v (by omega)) h.1, ?_, ?_, ?_⟩
  · rw [vup_o (by decide), vup_o (by decide)]
    exact h.2.1
  · simp (disch := decide) only [vup_o]
    exact h.2.2.1
  · rw [vup_o (by decide)]
    intro h7
    obtain ⟨k1, k2, k3, k4, k5, k6, k8, k9, k10⟩ := h.2.2.2 h7
    unfold mSc mBar at *
    simp (disch := decide) only [vup_o]
    refine ⟨k1, k2, k3, k4, ?_, k6, k8, k9, k10⟩
    intro i i0 i1
    by_cases hi : i = j
    · rw [hi, vup_at, vup_at]
    · rw [vup_k hi, vup_k hi]
      exact k5 i i0 i1
theorem mSg_tie {W : zVt} (h : mSg W J s P O S) {t p c : Int} : mSg (vup (vup (vup W 480 26 t) 480 27 p) 480 28 c) J s P O (vup (vup (vup S 0 4 t) 0 5 p) 0 6 c) := by
  refine ⟨mFt_ts (s := s) (J := J) (J' := J) (mFt_t (mFt_t (mFt_v (by omega)) (mFt_v (by omega))) (mFt_v (by omega))) h.1, ?_, ?_, ?_⟩
  · simp (disch := decide) only [vup_k]
    exact h.2.1
  · simp (disch := decide) only [vup_k]
    exact h.2.2.1
  · simp (disch := decide) only [vup_k]
    intro h7
    obtain ⟨k1, k2, k3, k4, k5, k6, k8, k9, k10⟩ := h.2.2.2 h7
    unfold mSc mBar at *
    simp (disch := decide) only [vup_o, vup_k, vup_at]
    exact ⟨k1, k2, k3, k4, k5, k6, trivial, fun _ => ⟨trivial, trivial⟩, k10⟩
theorem yPi_note {p : Int} (h : 15 ≤ p ∧ p ≤ 85) : yPi (p + 128) = p ∧ yBg (p + 128) = 1 ∧ yPi p = p ∧ yBg p = 0 := by
  unfold yPi yBg
  refine ⟨?_, ?_, ?_, ?_⟩
  · rw [if_neg (by omega), if_pos (by omega)]; omega
  · rw [if_pos (by omega)]
  · rw [if_neg (by omega), if_neg (by omega)]
  · rw [if_neg (by omega)]
end
