/-! part 99v: the law's first loop: eight parts are written and printed -/
theorem zInv_430 {N : Int} {V : zVt} {J : zJt} (h : zInv N V J) (i x : Int) : zInv N (vup V 430 i x) J := zInv_fr ⟨fun o ho => vup_fn (by omega), ⟨by rw [vup_fn (by omega)], by rw [vup_fn (by omega)], by rw [vup_fn (by omega)], by rw [vup_fn (by omega)], by rw [vup_fn (by omega)]⟩, rfl, rfl⟩ ⟨fun o ho => vup_fn (by omega), fun o ho => rfl⟩ h
theorem zInv_431 {N : Int} {V : zVt} {J : zJt} (h : zInv N V J) (i x : Int) : zInv N (vup V 431 i x) J := zInv_fr ⟨fun o ho => vup_fn (by omega), ⟨by rw [vup_fn (by omega)], by rw [vup_fn (by omega)], by rw [vup_fn (by omega)], by rw [vup_fn (by omega)], by rw [vup_fn (by omega)]⟩, rfl, rfl⟩ ⟨fun o ho => vup_fn (by omega), fun o ho => rfl⟩ h
def lP (V : zVt) (J : zJt) (k : Nat) : Prop := zInv 0 V J ∧ (V 480 37 = k ∧ V 480 42 = 0 ∧ V 480 46 = 0 ∧ V 480 52 = 0 ∧ V 480 59 = 0) ∧ (∀ j : Int, 0 ≤ j → j < k → V 454 j = j ∧ V 455 j = -1 ∧ V 430 j = -1) ∧ (∀ w : Nat, k ≤ w → w < 12 → V 432 w = 0) ∧ ∀ i, V 47 i = 0
abbrev wL1 (k : Int) : List Value := [.ref 1048578, .ref 0, .ref 430, .ref 431, .int (zi 1), .int (zi k), .null, .null, .null, .null, .null, .null, .null, .null, .null, .null, .null, .null, .null, .null, .null, .null, .null, .null]
section
variable {cf : Int32 → Int32} {V : zVt} {J : zJt} {d : Nat → Nat → UInt64} {k kk : Nat}
theorem lP_song {w : Nat} {e s k c : Int} {its : List (Int × List (List lTk))} (hc : c = 49 ∨ c = 50) (hi : ∀ i ∈ its, lIk (4 * (c - 48)) i) (hw : ∀ t ∈ lTs e s k c its, lWf t) (h60 : (lIs its).length ≤ 57) (h5 : lBn its = 5) (hT : yTt V w = lGet (lFl (lTs e s k c its))) (hL : V 432 w = ((lFl (lTs e s k c its)).length : Nat)) (h3 : V 3 0 = 0) (h : iRd V J w) : V (50 + 15 * w) 4 = 0 ∧ V (50 + 15 * w) 5 = -1 ∧ V (63 + 15 * w) 0 = 0 ∧ 5 ≤ V (63 + 15 * w) 2 := by
  obtain ⟨⟨n, b, F, A, fa, r1, r2, r3⟩, n', b', F', A', fa', x1, _, x2, _, x3, _, _⟩ := h
  have rc := lCu_rng its hi
  have hx := r1.1
  rw [hT, hL] at hx x1
  rw [h3, hT, hL] at r2 r3 x2 x3
  obtain ⟨f1, f2, f3⟩ := lSong hc hi hw h60 (by omega) rfl hx
  obtain ⟨g1, g2, g3⟩ := lSong hc hi hw h60 (by omega) rfl x1
  subst f1
  subst g1
  have q1 := f3 (fun _ => 0) (V 4) (V 5) (V 6)
  have q2 := g3 (V (62 + 15 * w)) (V 4) (V 5) (V 6)
  refine ⟨?_, ?_, ?_, ?_⟩
  · rw [r2]
    exact (if_neg (fun w => w rfl)).trans q1.1
  · rw [r3]
    unfold sA
    rw [if_neg (fun w => w rfl), if_pos q1.1]
  · rw [x2]
    exact (if_neg (fun w => w rfl)).trans q2.1
  · rw [x3]
    unfold sN
    rw [if_neg (fun w => w.elim (fun z => z rfl) (fun z => z q2.1)), q2.2]
    omega
theorem lP_turn (hcf : ∀ k, 0 ≤ (cf k).toInt) (h : lP V J k) (hk : k < 8) : ∃ V' J' j, j ≤ 64 ∧ lP V' J' (k + 1) ∧ wGo cf 237 24 (wL1 k) [] (zm V J d) kk = wGo cf 237 24 (wL1 ((k + 1 : Nat) : Int)) [] (zm V' J' d) (kk + j) := by
  obtain ⟨hz, ⟨p37, p42, p46, p52, p59⟩, hc, hf, h47⟩ := h
  obtain ⟨n, hn⟩ : ∃ n : Int, (cf (zi (if (k : Int) % 3 = 2 then 0 else (k : Int)))).toInt = n := ⟨_, rfl⟩
  have hnr : 0 ≤ n ∧ n < 2147483648 := by
    have a := hcf (zi (if (k : Int) % 3 = 2 then 0 else (k : Int)))
    have b := Int32.toInt_lt (cf (zi (if (k : Int) % 3 = 2 then 0 else (k : Int))))
    rw [hn] at a b
    exact ⟨a, by omega⟩
  have h432 := hf k (Nat.le_refl k) (by omega)
  have hun : V (50 + 15 * k) 3 = 0 := by
    obtain ⟨_, a2, a3, _⟩ := hz.2.2.1 k (by omega)
    rcases a2 with q | q
    · exact q
    · obtain ⟨j, j1, j2⟩ := a3.1 q
      have := (hc j j1.1 (by omega)).1
      omega
  have hlw : lW V J 0 k [] := by
    refine ⟨hz, h432, ?_, hun⟩
    funext p
    show zt (V 432) (V 481) k p = lGet [] p
    unfold zt lGet
    rw [h432, if_neg (by omega)]
    split <;> rfl
  have hp : (0 ≤ (k : Int) / 4 ∧ (k : Int) / 4 < 3) ∧ (0 ≤ (k : Int) % 4 ∧ (k : Int) % 4 < 4) := by omega
  have hw : 4 * ((k : Int) / 4) + (k : Int) % 4 = k := by omega
  obtain ⟨V1, e, s, ky, c, its, j1, a1, a2, a3, a4, a5, a6, a7, ⟨b1, b2, b3, b4⟩, b5, b6⟩ := c_sings (cf := cf) (d := d) (kk := kk) hlw hp hw hnr
  obtain ⟨V2, J2, c1, c2, c3, c4, c5⟩ := c_read (d := d) b1 hp hw
  have t2 : yTt V2 k = lGet (lFl (lTs e s ky c its)) := by rw [yTt_fr (c3.1 481 (by omega)) (c3.1 432 (by omega))]; exact b3
  have l2 : V2 432 k = ((lFl (lTs e s ky c its)).length : Nat) := by rw [c3.1 432 (by omega)]; exact b2
  have e480 : V2 480 = V 480 := (c3.1 480 (by omega)).trans (b5 480 (by omega) (by omega) (by omega) (by omega))
  have cr3 : V2 3 0 = 0 := by rw [c2.2.1.2.1, e480]; exact p42
  have hrd := (c2.2.2.1 k (by omega)).2.2.2.2.2.1 c4
  obtain ⟨s4, s5, s0, s2⟩ := lP_song a1 a2 a3 a4 a5 t2 l2 cr3 hrd
  have m2 : V2 (63 + 15 * k) 2 ≤ 40 := (iMs_ok (zt_ok c2.1.1 (w := (k : Int)) (by omega)) hrd.2).2.2.1.2
  have d1 := c_errorAt (d := d) c2 hp hw c4
  have d2 := c_bars (d := d) c2 hp hw c4
  rw [s4] at c1
  rw [s5] at d1
  rw [if_pos s0] at d2
  obtain ⟨V3, J3, f1, f2, f3, f4, f5, f6, f7⟩ := c_print (d := d) c2 hp hw c4 s4 (by rw [e480]; omega)
  rw [e480, p37] at f1 f3 f4 f5
  have hv : ∀ o : Nat, 430 ≤ o → o ≠ 454 → o ≠ 455 → o ≠ 480 → o ≠ 481 → o ≠ 432 → V3 o = V o := fun o o1 o2 o3 o4 o5 o6 => by rw [f6 o (by omega) (by omega) (by omega) (by omega) o2 o3 o4, c3.1 o o1, b5 o (by omega) (by omega) o5 o6]
  refine ⟨vup V3 430 k (-1), J3, j1 + 4, by omega, ⟨zInv_430 f2 _ _, ?_, ?_, ?_, ?_⟩, ?_⟩
  · rw [vup_fn (by omega)]
    obtain ⟨g1, g2, g3, g4, g5⟩ := f5
    rw [g1, g2, g3, g4, g5]
    exact ⟨by omega, p42, p46, p52, p59⟩
  · intro j j0 j1
    rw [vup_fn (by omega), vup_fn (by omega), f3, f4]
    by_cases q : j = k
    · rw [if_pos q, if_pos q, q, vup_at]
      exact ⟨rfl, rfl, rfl⟩
    · rw [if_neg q, if_neg q, vup_k q, hv 430 (by omega) (by omega) (by omega) (by omega) (by omega) (by omega), c3.1 454 (by omega), c3.1 455 (by omega), b5 454 (by omega) (by omega) (by omega) (by omega), b5 455 (by omega) (by omega) (by omega) (by omega)]
      exact hc j j0 (by omega)
  · intro w w0 w1
    rw [vup_fn (by omega), f6 432 (by omega) (by omega) (by omega) (by omega) (by omega) (by omega) (by omega), c3.1 432 (by omega), (b6 w w1 (by omega)).1]
    exact hf w (by omega) w1
  · intro i
    rw [vup_fn (by omega), f6 47 (by omega) (by omega) (by omega) (by omega) (by omega) (by omega) (by omega), c5.1 47 (by omega) (by omega), b5 47 (by omega) (by omega) (by omega) (by omega)]
    exact h47 i
  · have hk1 : ((k : Nat) : Int) + 1 = ((k + 1 : Nat) : Int) := by omega
    have e8 : kk + j1 + 1 + 1 + 1 + 1 = kk + (j1 + 4) := rfl
    by_cases q : (k : Int) % 3 = 2
    · rw [if_pos q] at hn
      rw [lw_237_24]
      simp (disch := first | omega | assumption) only [lw_237_60, lw_237_63, lw_237_66, lw_237_81, lw_237_96, lw_237_112, lw_237_128, lw_237_138, q, hn, a7, c1, d1, d2, f1, hk1, wck_t, wck_T, wbS, wbV, wbR, qdiv_p, qrem_p, Int.add_zero, ↓reduceIte, qw_id, ne_eq, not_true_eq_false, not_false_eq_true, and_true, true_and, and_self, and_false, false_and, or_true, true_or, or_self, or_false, false_or, xlt_t, xlt_f, xle_t, xle_f, xeq_t, xeq_f, xand_f, xor_t]
      rfl
    · rw [if_neg q] at hn
      rw [lw_237_24]
      simp (disch := first | omega | assumption) only [lw_237_60, lw_237_63, lw_237_66, lw_237_81, lw_237_96, lw_237_112, lw_237_128, lw_237_138, q, hn, a7, c1, d1, d2, f1, hk1, wck_t, wck_T, wbS, wbV, wbR, qdiv_p, qrem_p, Int.add_zero, ↓reduceIte, qw_id, ne_eq, not_true_eq_false, not_false_eq_true, and_true, true_and, and_self, and_false, false_and, or_true, true_or, or_self, or_false, false_or, xlt_t, xlt_f, xle_t, xle_f, xeq_t, xeq_f, xand_f, xor_t]
      rfl
theorem lP_loop (hcf : ∀ k, 0 ≤ (cf k).toInt) (r : Nat) : ∀ (k kk : Nat) (V : zVt) (J : zJt), k + r = 8 → lP V J k → ∃ V' J' j, j ≤ 64 * r ∧ lP V' J' 8 ∧ wGo cf 237 24 (wL1 k) [] (zm V J d) kk = wGo cf 237 151 (wL1 8) [] (zm V' J' d) (kk + j) := by
  induction r with
  | zero =>
    intro k kk V J hk h
    have e : k = 8 := by omega
    subst e
    refine ⟨V, J, 0, by omega, h, ?_⟩
    have e8 : (((8 : Nat)) : Int) = 8 := rfl
    rw [e8, lw_237_24]
    simp (disch := first | omega | assumption) only [lw_237_24, wck_t, wck_T, wbS, wbV, wbR, qdiv_p, qrem_p, Int.add_zero, ↓reduceIte, qw_id, ne_eq, not_true_eq_false, not_false_eq_true, and_true, true_and, and_self, and_false, false_and, or_true, true_or, or_self, or_false, false_or, xlt_t, xlt_f, xle_t, xle_f, xeq_t, xeq_f, xand_f, xor_t]
    rfl
  | succ r ih =>
    intro k kk V J hk h
    obtain ⟨V1, J1, j1, q1, q2, q3⟩ := lP_turn (d := d) (kk := kk) hcf h (by omega)
    obtain ⟨V2, J2, j2, p1, p2, p3⟩ := ih (k + 1) (kk + j1) V1 J1 (by omega) q2
    exact ⟨V2, J2, j1 + j2, by omega, p2, by rw [q3, p3, Nat.add_assoc]⟩
theorem lP_0 : lP V0 J0 0 := by
  have f0 : ∀ o : Nat, o ≠ 43 → o ≠ 460 → ¬(230 ≤ o ∧ o < 430 ∧ (o - 230) % 5 = 0) → V0 o = fun _ => 0 := fun o h1 h2 h3 => v0f h1 h2 h3
  refine ⟨zInv_0, ?_, fun j j0 j1 => by omega, fun w _ _ => ?_, fun i => ?_⟩
  · rw [f0 480 (by omega) (by omega) (by omega)]
    exact ⟨rfl, rfl, rfl, rfl, rfl⟩
  · rw [f0 432 (by omega) (by omega) (by omega)]
  · rw [f0 47 (by omega) (by omega) (by omega)]
theorem lP_all (hcf : ∀ k, 0 ≤ (cf k).toInt) : ∃ V' J' j, j ≤ 512 ∧ lP V' J' 8 ∧ wGo cf 237 18 wL0 [] (zm V0 J0 d) 0 = wGo cf 237 151 (wL1 8) [] (zm V' J' d) j := by
  obtain ⟨V', J', j, q1, q2, q3⟩ := lP_loop (d := d) hcf 8 0 0 V0 J0 rfl lP_0
  refine ⟨V', J', j, q1, q2, ?_⟩
  rw [lw_237_18]
  rw [Nat.zero_add] at q3
  exact q3
end
