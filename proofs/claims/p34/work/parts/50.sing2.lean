/-! part 50: singing keeps its order, and ends -/
theorem vup_i {V : zVt} {o o2 : Nat} {k x : Int} (h : o2 ≠ o) : vup V o k x o2 = V o2 := vup_fn h
theorem yFil_02 (S : zVt) (c f l : Int) : yFil S c f l 0 2 = S 0 2 + c := by
  unfold yFil
  rw [vst_o (by decide), vup_at]
theorem yFil_0 {S : zVt} {c f l k : Int} (h : k ≠ 2) : yFil S c f l 0 k = S 0 k := by
  unfold yFil
  rw [vst_o (by decide), vup_k h]
theorem yFil_o {S : zVt} {c f l : Int} {o : Nat} (h : o ≠ 0 ∧ o ≠ 2) : yFil S c f l o = S o := by
  unfold yFil
  rw [vst_o h.2, vup_fn h.1]
theorem yFl_7 (S : zVt) (f t : Int) : yFl S f t 0 7 = f := by
  unfold yFl
  rw [vup_k (by decide), vup_at]
def yCtl (P : zVt) (D : Int → Int) (S : zVt) : Prop := (3 ≤ S 0 0 ∧ S 0 0 ≤ P 8 0) ∧ S 0 1 = D (S 0 0) ∧ (0 ≤ D (S 0 0) ∧ D (S 0 0) ≤ 3) ∧ ∀ i, 0 ≤ i → i < S 0 1 → 1 ≤ S 1 i ∧ S 1 i ≤ 4
def yCnt (P S : zVt) : Prop := (0 ≤ S 0 2 ∧ S 0 2 ≤ P 8 1) ∧ (∀ t, 0 ≤ t → t < S 0 2 → yByte (S 2 t)) ∧ (∀ s, 0 ≤ s → s < 50 → S 3 s = 9 ∨ (-1 ≤ S 3 s ∧ S 3 s ≤ 1)) ∧ (0 ≤ S 0 3 ∧ S 0 3 ≤ 40) ∧ (S 0 4 = -1 ∨ (3 ≤ S 0 4 ∧ S 0 4 < P 8 0) ∧ (15 ≤ S 0 5 ∧ S 0 5 ≤ 85) ∧ (-1 ≤ S 0 6 ∧ S 0 6 ≤ 1)) ∧ (∀ j, 0 ≤ j → j < 16 * S 0 3 → yByte (S 4 j)) ∧ S 0 7 = 0
theorem yInv_iff {P S : zVt} {D : Int → Int} : yInv P D S ↔ yCtl P D S ∧ yCnt P S := by
  unfold yInv yCtl yCnt
  constructor
  · rintro ⟨a, b, c, d, e, f, g, h, i, j, k⟩
    exact ⟨⟨a, b, c, d⟩, e, f, g, h, i, j, k⟩
  · rintro ⟨⟨a, b, c, d⟩, e, f, g, h, i, j, k⟩
    exact ⟨a, b, c, d, e, f, g, h, i, j, k⟩
/-- the same content -/
theorem yCnt_v {P S S2 : zVt} (h : yCnt P S) (h0 : ∀ k, 2 ≤ k → S2 0 k = S 0 k) (h2 : S2 2 = S 2) (h3 : S2 3 = S 3) (h4 : S2 4 = S 4) : yCnt P S2 := by
  unfold yCnt at *
  rw [h0 2 (by decide), h0 3 (by decide), h0 4 (by decide), h0 5 (by decide), h0 6 (by decide), h0 7 (by decide), h2, h3, h4]
  exact h
theorem yNote_inv {P S : zVt} {D : Int → Int} {a : Int} (h : yInv P D S) (ha : 3 ≤ a ∧ a < P 8 0) (h2 : 9 ≤ P 2 a ∧ P 2 a ≤ 49) (h4 : 1 ≤ P 4 a) (h0 : yNote P S a 0 7 = 0) : yCnt P (yNote P S a) ∧ yNote P S a 0 1 = S 0 1 ∧ yNote P S a 1 = S 1 := by
  have hp := yPt_rng h h2
  have hc := yCg_rng h h2
  have hg := yCh_rng (P 3 a)
  obtain ⟨e, f, g, hh, i, j, k⟩ := (yInv_iff.mp h).2
  unfold yNote at h0 ⊢
  split at h0
  · rw [yFl_7] at h0
    omega
  · split at h0
    · rw [yFl_7] at h0
      omega
    · rename_i hb hl
      rw [if_neg hb, if_neg hl]
      generalize yPt P S a = pt at *
      generalize yCg P S a = cg at *
      generalize hf : (if S 0 4 = -1 then pt + 128 else pt) = fi at *
      have hfi : yByte fi := by
        rw [← hf]
        split <;> omega
      have hW : ∀ W : zVt, (∀ k, W 0 k = yFil S (P 4 a) fi pt 0 k) → W 2 = yFil S (P 4 a) fi pt 2 → W 4 = S 4 → W 1 = S 1 → (∀ s, 0 ≤ s → s < 50 → W 3 s = 9 ∨ (-1 ≤ W 3 s ∧ W 3 s ≤ 1)) → yCnt P (vup (vup (vup W 0 4 (if P 5 a = 0 then -1 else a)) 0 5 pt) 0 6 cg) ∧ vup (vup (vup W 0 4 (if P 5 a = 0 then -1 else a)) 0 5 pt) 0 6 cg 0 1 = S 0 1 ∧ vup (vup (vup W 0 4 (if P 5 a = 0 then -1 else a)) 0 5 pt) 0 6 cg 1 = S 1 := by
        intro W w0 w2 w4 w1 w3
        refine ⟨⟨?_, ?_, ?_, ?_, ?_, ?_, ?_⟩, ?_, ?_⟩
        · simp (disch := decide) only [vup_k]
          rw [w0, yFil_02]
          omega
        · simp (disch := decide) only [vup_k, vup_fn]
          rw [w0, yFil_02, w2]
          intro t t0 t1
          exact yByte_fil f hfi (by omega) t0 t1
        · simp (disch := decide) only [vup_fn]
          exact w3
        · simp (disch := decide) only [vup_k]
          rw [w0, yFil_0 (by decide)]
          exact hh
        · simp (disch := decide) only [vup_k, vup_at]
          split
          · exact Or.inl rfl
          · exact Or.inr ⟨ha, hp, hc⟩
        · simp (disch := decide) only [vup_k, vup_fn]
          rw [w0, yFil_0 (by decide), w4]
          exact j
        · simp (disch := decide) only [vup_k]
          rw [w0, yFil_0 (by decide)]
          exact k
        · simp (disch := decide) only [vup_k]
          rw [w0, yFil_0 (by decide)]
        · simp (disch := decide) only [vup_fn]
          exact w1
      by_cases h3 : P 3 a ≠ 0
      · rw [if_pos h3]
        refine hW _ ?_ ?_ ?_ ?_ ?_
        · intro k
          rw [vup_o (by decide)]
        · rw [vup_fn (by decide)]
        · rw [vup_fn (by decide), yFil_o (by decide)]
        · rw [vup_fn (by decide), yFil_o (by decide)]
        · intro s s0 s1
          by_cases hs : s = P 2 a
          · rw [hs, vup_at]
            exact Or.inr hg
          · rw [vup_k hs, yFil_o (by decide)]
            exact g s s0 s1
      · rw [if_neg h3]
        refine hW _ (fun _ => rfl) rfl (yFil_o (by decide)) (yFil_o (by decide)) ?_
        rw [yFil_o (by decide)]
        exact g
theorem yRest_inv {P S : zVt} {D : Int → Int} {a : Int} (h : yInv P D S) (h4 : 1 ≤ P 4 a) (h0 : yRest P S a 0 7 = 0) : yCnt P (yRest P S a) ∧ yRest P S a 0 1 = S 0 1 ∧ yRest P S a 1 = S 1 := by
  obtain ⟨e, f, g, hh, i, j, k⟩ := (yInv_iff.mp h).2
  unfold yRest at h0 ⊢
  split at h0
  · rw [yFl_7] at h0
    omega
  · split at h0
    · rw [yFl_7] at h0
      omega
    · rename_i hb hl
      rw [if_neg hb, if_neg hl]
      refine ⟨⟨?_, ?_, ?_, ?_, ?_, ?_, ?_⟩, yFil_0 (by decide), yFil_o (by decide)⟩
      · rw [yFil_02]
        omega
      · rw [yFil_02]
        intro t t0 t1
        exact yByte_fil f (Or.inl rfl) (Or.inl rfl) t0 t1
      · rw [yFil_o (by decide)]
        exact g
      · rw [yFil_0 (by decide)]
        exact hh
      · rw [yFil_0 (by decide), yFil_0 (by decide), yFil_0 (by decide)]
        exact i
      · rw [yFil_0 (by decide), yFil_o (by decide)]
        exact j
      · rw [yFil_0 (by decide)]
        exact k
theorem yBar_inv {P S : zVt} {D : Int → Int} {a : Int} (h : yInv P D S) (hm : 2 ≤ P 8 1) (h0 : yBar P S a 0 7 = 0) : yCnt P (yBar P S a) ∧ yBar P S a 0 1 = S 0 1 ∧ yBar P S a 1 = S 1 := by
  obtain ⟨e, f, g, hh, i, j, k⟩ := (yInv_iff.mp h).2
  unfold yBar at h0 ⊢
  split at h0
  · rw [yFl_7] at h0
    omega
  · split at h0
    · rw [yFl_7] at h0
      omega
    · rename_i hb hl
      rw [if_neg hb, if_neg hl]
      refine ⟨⟨?_, ?_, ?_, ?_, ?_, ?_, ?_⟩, ?_, ?_⟩
      · simp (disch := decide) only [vst_o, vup_at]
        omega
      · simp (disch := decide) only [vst_o, vup_at]
        intro t t0 t1
        omega
      · simp (disch := decide) only [vst_o, vst_at]
        intro _ _ _
        exact Or.inl trivial
      · simp (disch := decide) only [vst_o, vup_at, vup_k]
        omega
      · simp (disch := decide) only [vst_o, vup_k]
        exact i
      · simp (disch := decide) only [vst_o, vst_at, vup_k, vup_at]
        intro j' j0 j1
        exact yByte_add f j j0 j1
      · simp (disch := decide) only [vst_o, vup_k]
        exact k
      · simp (disch := decide) only [vst_o, vup_k]
      · simp (disch := decide) only [vst_o, vup_fn]
/-- a time stamp -/
def yTm (d a p0 p1 p2 o0 o1 o2 : Int) : Int :=
  if d ≤ 0 then a * 41000000
  else if d = 1 then o0 * 41000000 + 1 + p0 * 8000000 + a * 130000
  else if d = 2 then o0 * 41000000 + 1 + p0 * 8000000 + o1 * 130000 + 1 + p1 * 25000 + a * 400
  else o0 * 41000000 + 1 + p0 * 8000000 + o1 * 130000 + 1 + p1 * 25000 + o2 * 400 + 1 + p2 * 61 + a
def yTs (D : Int → Int) (O : Int → Int → Int) (S : zVt) : Int := yTm (D (S 0 0)) (S 0 0) (S 1 0) (S 1 1) (S 1 2) (O (S 0 0) 0) (O (S 0 0) 1) (O (S 0 0) 2)
theorem yTm_cs (d a p0 p1 p2 o0 o1 o2 : Int) : (d ≤ 0 ∧ yTm d a p0 p1 p2 o0 o1 o2 = a * 41000000) ∨ (d = 1 ∧ yTm d a p0 p1 p2 o0 o1 o2 = o0 * 41000000 + 1 + p0 * 8000000 + a * 130000) ∨ (d = 2 ∧ yTm d a p0 p1 p2 o0 o1 o2 = o0 * 41000000 + 1 + p0 * 8000000 + o1 * 130000 + 1 + p1 * 25000 + a * 400) ∨ ((0 < d ∧ d ≠ 1 ∧ d ≠ 2) ∧ yTm d a p0 p1 p2 o0 o1 o2 = o0 * 41000000 + 1 + p0 * 8000000 + o1 * 130000 + 1 + p1 * 25000 + o2 * 400 + 1 + p2 * 61 + a) := by
  unfold yTm
  repeat' split
  all_goals omega
/-- a step onward with the same stack -/
theorem yTs_on {D : Int → Int} {O : Int → Int → Int} {S S2 : zVt} (h1 : S 0 0 < S2 0 0) (hD : D (S2 0 0) = D (S 0 0)) (hD2 : 0 ≤ D (S 0 0) ∧ D (S 0 0) ≤ 3) (hO : ∀ i, 0 ≤ i → i < D (S 0 0) → O (S2 0 0) i = O (S 0 0) i) (hp : S2 1 = S 1) : yTs D O S < yTs D O S2 := by
  unfold yTs
  rw [hD, hp]
  rcases (show D (S 0 0) = 0 ∨ D (S 0 0) = 1 ∨ D (S 0 0) = 2 ∨ D (S 0 0) = 3 by omega) with e | e | e | e
  · rw [e]
    unfold yTm
    simp only [Int.reduceLE, ↓reduceIte]
    omega
  · rw [e, hO 0 (by omega) (by omega)]
    unfold yTm
    simp only [Int.reduceLE, ↓reduceIte]
    omega
  · rw [e, hO 0 (by omega) (by omega), hO 1 (by omega) (by omega)]
    unfold yTm
    simp only [Int.reduceLE, Int.reduceEq, ↓reduceIte]
    omega
  · rw [e, hO 0 (by omega) (by omega), hO 1 (by omega) (by omega), hO 2 (by omega) (by omega)]
    unfold yTm
    simp only [Int.reduceLE, Int.reduceEq, ↓reduceIte]
    omega
theorem yStep_inv {P S : zVt} {D : Int → Int} {O : Int → Int → Int} (hP : yTok P D O) (h : yInv P D S) (hn : S 0 0 < P 8 0) (h0 : yStep P S 0 7 = 0) : yInv P D (yStep P S) ∧ yTs D O S < yTs D O (yStep P S) := by
  obtain ⟨p1, p2, p3, p4, p5⟩ := hP
  obtain ⟨⟨c1, c2, c3, c4⟩, hc⟩ := yInv_iff.mp h
  obtain ⟨t1, t2, t3, t4, t5, t6, t7, t8, t9⟩ := p5 (S 0 0) c1.1 hn
  -- a token that fills
  have hfill : ∀ W : zVt, yCnt P W → W 0 1 = S 0 1 → W 1 = S 1 → P 0 (S 0 0) ≠ 6 → P 0 (S 0 0) ≠ 7 → yInv P D (vup W 0 0 (S 0 0 + 1)) ∧ yTs D O S < yTs D O (vup W 0 0 (S 0 0 + 1)) := by
    intro W w1 w2 w3 k6 k7
    have q := t9 k6 k7
    constructor
    · refine yInv_iff.mpr ⟨⟨?_, ?_, ?_, ?_⟩, yCnt_v w1 (fun k hk => vup_k (by omega)) (vup_fn (by decide)) (vup_fn (by decide)) (vup_fn (by decide))⟩
      · rw [vup_at]
        omega
      · rw [vup_at, vup_k (by decide), w2, q.1]
        exact c2
      · rw [vup_at, q.1]
        exact c3
      · rw [vup_k (by decide), vup_fn (by decide), w2, w3]
        exact c4
    · exact yTs_on (by rw [vup_at]; omega) (by rw [vup_at]; exact q.1) c3 (by rw [vup_at]; exact q.2) (by rw [vup_fn (by decide)]; exact w3)
  unfold yStep at h0 ⊢
  by_cases k3 : P 0 (S 0 0) = 3
  · rw [if_pos k3] at h0 ⊢
    rw [vup_k (by decide)] at h0
    have q := t4 k3
    have r := yNote_inv h ⟨c1.1, hn⟩ q.1 q.2.2.1.1 h0
    exact hfill _ r.1 r.2.1 r.2.2 (by omega) (by omega)
  · rw [if_neg k3] at h0 ⊢
    by_cases k4 : P 0 (S 0 0) = 4
    · rw [if_pos k4] at h0 ⊢
      rw [vup_k (by decide)] at h0
      have r := yRest_inv h (t5 k4).1 h0
      exact hfill _ r.1 r.2.1 r.2.2 (by omega) (by omega)
    · rw [if_neg k4] at h0 ⊢
      by_cases k5 : P 0 (S 0 0) = 5
      · rw [if_pos k5] at h0 ⊢
        rw [vup_k (by decide)] at h0
        have r := yBar_inv h p2.1 h0
        exact hfill _ r.1 r.2.1 r.2.2 (by omega) (by omega)
      · rw [if_neg k5] at h0 ⊢
        by_cases k6 : P 0 (S 0 0) = 6
        · rw [if_pos k6] at h0 ⊢
          have q := t6 k6
          constructor
          · refine yInv_iff.mpr ⟨⟨?_, ?_, ?_, ?_⟩, yCnt_v hc (fun k hk => by rw [vup_k (by omega), vup_k (by omega), vup_o (by decide)]) ?_ ?_ ?_⟩
            · rw [vup_at]
              omega
            · rw [vup_at, vup_k (by decide), vup_at, q.2.1, c2]
            · rw [vup_at, q.2.1]
              omega
            · rw [vup_k (by decide), vup_at, vup_fn (by decide), vup_fn (by decide)]
              intro i i0 i1
              by_cases hi : i = S 0 1
              · rw [hi, vup_at]
                omega
              · rw [vup_k hi]
                exact c4 i i0 (by omega)
            · simp (disch := decide) only [vup_fn]
            · simp (disch := decide) only [vup_fn]
            · simp (disch := decide) only [vup_fn]
          · unfold yTs
            simp (disch := decide) only [vup_at, vup_o]
            rw [q.2.1]
            have q3 := q.2.2.1
            have q4 := q.2.2.2
            rcases (show D (S 0 0) = 0 ∨ D (S 0 0) = 1 ∨ D (S 0 0) = 2 by omega) with e | e | e
            · rw [e] at q3 ⊢
              rw [q3, c2, e, vup_at]
              unfold yTm
              simp only [Int.reduceLE, Int.reduceEq, Int.reduceAdd, ↓reduceIte]
              omega
            · rw [e] at q3 q4 ⊢
              rw [q3, q4 0 (by omega) (by omega), c2, e, vup_at, vup_k (by decide)]
              have := c4 0 (by omega) (by omega)
              unfold yTm
              simp only [Int.reduceLE, Int.reduceEq, Int.reduceAdd, ↓reduceIte]
              omega
            · rw [e] at q3 q4 ⊢
              rw [q3, q4 0 (by omega) (by omega), q4 1 (by omega) (by omega), c2, e, vup_at, vup_k (by decide), vup_k (by decide)]
              unfold yTm
              simp only [Int.reduceLE, Int.reduceEq, Int.reduceAdd, ↓reduceIte]
              omega
        · rw [if_neg k6] at h0 ⊢
          by_cases k7 : P 0 (S 0 0) = 7
          · rw [if_pos k7] at h0 ⊢
            have q := t7 k7
            have qo := t3 (D (S 0 0) - 1) (by omega) (by omega)
            rw [← q.2.2.2.2.1] at qo
            have qp := c4 (S 0 1 - 1) (by omega) (by omega)
            by_cases hb : S 1 (S 0 1 - 1) < P 1 (S 0 0)
            · rw [if_pos hb] at h0 ⊢
              constructor
              · refine yInv_iff.mpr ⟨⟨?_, ?_, ?_, ?_⟩, yCnt_v hc (fun k hk => by rw [vup_k (by omega), vup_o (by decide)]) ?_ ?_ ?_⟩
                · rw [vup_at]
                  omega
                · rw [vup_at, vup_k (by decide), vup_o (by decide), q.2.2.2.2.2.1, c2]
                · rw [vup_at, q.2.2.2.2.2.1]
                  omega
                · rw [vup_k (by decide), vup_o (by decide), vup_fn (by decide)]
                  intro i i0 i1
                  by_cases hi : i = S 0 1 - 1
                  · rw [hi, vup_at]
                    omega
                  · rw [vup_k hi]
                    exact c4 i i0 i1
                · simp (disch := decide) only [vup_fn]
                · simp (disch := decide) only [vup_fn]
                · simp (disch := decide) only [vup_fn]
              · unfold yTs
                simp (disch := decide) only [vup_at, vup_o]
                rw [q.2.2.2.2.2.1]
                have q4 := q.2.2.2.2.2.2
                rcases (show D (S 0 0) = 1 ∨ D (S 0 0) = 2 ∨ D (S 0 0) = 3 by omega) with e | e | e
                · rw [e] at q4 ⊢
                  rw [q4 0 (by omega) (by omega), c2, e, show (1 : Int) - 1 = 0 from rfl, vup_at]
                  unfold yTm
                  simp only [Int.reduceLE, Int.reduceEq, ↓reduceIte]
                  omega
                · rw [e] at q4 ⊢
                  rw [q4 0 (by omega) (by omega), q4 1 (by omega) (by omega), c2, e, show (2 : Int) - 1 = 1 from rfl, vup_at, vup_k (by decide)]
                  unfold yTm
                  simp only [Int.reduceLE, Int.reduceEq, ↓reduceIte]
                  omega
                · rw [e] at q4 ⊢
                  rw [q4 0 (by omega) (by omega), q4 1 (by omega) (by omega), q4 2 (by omega) (by omega), c2, e, show (3 : Int) - 1 = 2 from rfl, vup_at, vup_k (by decide), vup_k (by decide)]
                  unfold yTm
                  simp only [Int.reduceLE, Int.reduceEq, ↓reduceIte]
                  omega
            · rw [if_neg hb] at h0 ⊢
              constructor
              · refine yInv_iff.mpr ⟨⟨?_, ?_, ?_, ?_⟩, yCnt_v hc (fun k hk => by rw [vup_k (by omega), vup_k (by omega)]) ?_ ?_ ?_⟩
                · rw [vup_at]
                  omega
                · rw [vup_at, vup_k (by decide), vup_at, q.2.2.1, c2]
                · rw [vup_at, q.2.2.1]
                  omega
                · rw [vup_k (by decide), vup_at, vup_fn (by decide), vup_fn (by decide)]
                  intro i i0 i1
                  exact c4 i i0 (by omega)
                · simp (disch := decide) only [vup_fn]
                · simp (disch := decide) only [vup_fn]
                · simp (disch := decide) only [vup_fn]
              · unfold yTs
                simp (disch := decide) only [vup_at, vup_o]
                rw [q.2.2.1]
                have q4 := q.2.2.2.1
                have qc := c4
                rcases (show D (S 0 0) = 1 ∨ D (S 0 0) = 2 ∨ D (S 0 0) = 3 by omega) with e | e | e
                · rw [e] at q4 ⊢
                  have o0 := t3 0 (by omega) (by omega)
                  have s0 := c4 0 (by omega) (by omega)
                  unfold yTm
                  simp only [Int.reduceLE, Int.reduceEq, Int.reduceSub, ↓reduceIte]
                  omega
                · rw [e] at q4 ⊢
                  have o1 := t3 1 (by omega) (by omega)
                  have s1 := c4 1 (by omega) (by omega)
                  rw [q4 0 (by omega) (by omega)]
                  unfold yTm
                  simp only [Int.reduceLE, Int.reduceEq, Int.reduceSub, ↓reduceIte]
                  omega
                · rw [e] at q4 ⊢
                  have o1 := t3 2 (by omega) (by omega)
                  have s1 := c4 2 (by omega) (by omega)
                  rw [q4 0 (by omega) (by omega), q4 1 (by omega) (by omega)]
                  unfold yTm
                  simp only [Int.reduceLE, Int.reduceEq, Int.reduceSub, ↓reduceIte]
                  omega
          · rw [if_neg k7] at h0 ⊢
            by_cases k8 : P 0 (S 0 0) = 8
            · rw [if_pos k8] at h0 ⊢
              have q := t8 k8
              by_cases hb : P 1 (S 0 0) = S 1 (S 0 1 - 1)
              · rw [if_pos hb]
                exact hfill S hc rfl rfl k6 k7
              · rw [if_neg hb]
                constructor
                · refine yInv_iff.mpr ⟨⟨?_, ?_, ?_, ?_⟩, yCnt_v hc (fun k hk => vup_k (by omega)) (vup_fn (by decide)) (vup_fn (by decide)) (vup_fn (by decide))⟩
                  · rw [vup_at]
                    omega
                  · rw [vup_at, vup_k (by decide), q.2.2.2.1.1]
                    exact c2
                  · rw [vup_at, q.2.2.2.1.1]
                    exact c3
                  · rw [vup_k (by decide), vup_fn (by decide)]
                    exact c4
                · exact yTs_on (by rw [vup_at]; omega) (by rw [vup_at]; exact q.2.2.2.1.1) c3 (by rw [vup_at]; exact q.2.2.2.1.2) (vup_fn (by decide))
            · rw [if_neg k8]
              exact hfill S hc rfl rfl k6 k7
