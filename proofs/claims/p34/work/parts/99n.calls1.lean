/-! part 99n: what the class answers to the law: questions -/
abbrev f7 (x : Int) : Prop := x = 0 ∨ (7 ≤ x ∧ x ≤ 10)
theorem yFin_rngs {P S : zVt} (h : S 0 7 = 0) : f7 (yFin P S 0 7) := by
  unfold yFin
  split
  · rw [yFl_7]; decide
  · split
    · unfold yBar
      split
      · rw [yFl_7]; decide
      · split
        · rw [yFl_7]; decide
        · simp (disch := decide) only [vst_o, vup_k]
          rw [h]; decide
    · rw [h]; decide
theorem yStep_7s {P S : zVt} (h : S 0 7 = 0) : f7 (yStep P S 0 7) := by
  have w : ∀ a, f7 (yNote P S a 0 7) ∧ f7 (yRest P S a 0 7) ∧ f7 (yBar P S a 0 7) := by
    intro a
    refine ⟨?_, ?_, ?_⟩
    · unfold yNote
      split
      · rw [yFl_7]; decide
      · split
        · rw [yFl_7]; decide
        · rw [vup_k (by decide), vup_k (by decide), vup_k (by decide)]
          split
          · rw [vup_o (by decide), yFil_0 (by decide), h]; decide
          · rw [yFil_0 (by decide), h]; decide
    · unfold yRest
      split
      · rw [yFl_7]; decide
      · split
        · rw [yFl_7]; decide
        · rw [yFil_0 (by decide), h]; decide
    · unfold yBar
      split
      · rw [yFl_7]; decide
      · split
        · rw [yFl_7]; decide
        · simp (disch := decide) only [vst_o, vup_k]
          rw [h]; decide
  unfold yStep
  split
  · rw [vup_k (by decide)]; exact (w _).1
  · split
    · rw [vup_k (by decide)]; exact (w _).2.1
    · split
      · rw [vup_k (by decide)]; exact (w _).2.2
      · split
        · rw [vup_k (by decide), vup_k (by decide), vup_o (by decide), h]; decide
        · split
          · split
            · rw [vup_k (by decide), vup_o (by decide), h]; decide
            · rw [vup_k (by decide), vup_k (by decide), h]; decide
          · split
            · rw [vup_k (by decide), h]; decide
            · rw [vup_k (by decide), h]; decide
theorem yRun_7s (P : zVt) : ∀ (j : Nat) (S : zVt), f7 (S 0 7) → f7 (yRun P j S 0 7)
  | 0, S, h => h
  | j + 1, S, h => by
    unfold yRun
    split
    · rename_i hc
      exact yRun_7s P j _ (yStep_7s hc.2)
    · exact h
theorem ySong_7s (P : zVt) : f7 (ySong P 0 7) := yRun_7s P 3904 yBeg (by show f7 0; decide)
theorem yAll_7s (P : zVt) : f7 (yAll P 0 7) := by
  unfold yAll
  split
  · rename_i h
    exact yFin_rngs h
  · exact ySong_7s P
theorem wz101 : wcode 0 = zi (-101) ∧ wcode 1 = zi (-102) ∧ wcode 2 = zi (-103) := by decide
section
variable {V V' : zVt} {J J' : zJt} {d : Nat → Nat → UInt64}
theorem ws_i {s C : Nat} {xs : List Int32} {L : List Value} {x : Int} (hC : wC s = C) (hL : zent (wC s) (.ref 0 :: wvals (warg s xs)) = L) (hs : s ≠ 7 ∧ s ≠ 16) (h : zGo false C 0 L [] (zm V J d) = zI1 x V' J' d) : wstub s xs (zm V J d) = some (zi x, zm V' J' d) := by
  unfold wstub
  rw [hL, hC, h]
  show (if (zm V' J' d).2.2.1 = (zm V J d).2.2.1 then (wans s (.int (zi x))).map _ else none) = _
  rw [if_pos (show (zm V' J' d).2.2.1 = (zm V J d).2.2.1 from rfl)]
  have e : wans s (.int (zi x)) = some (zi x) := by
    show (if s = 16 then (if zi x = 0 then some 0 else some 1) else if s = 7 then none else some (zi x)) = _
    rw [if_neg hs.2, if_neg hs.1]
  rw [e]
  rfl
theorem ws_b {xs : List Int32} {L : List Value} {x : Int} (hL : zent (wC 16) (.ref 0 :: wvals (warg 16 xs)) = L) (hx : x = 0 ∨ x = 1) (h : zGo false 121 0 L [] (zm V J d) = zI1 x V' J' d) : wstub 16 xs (zm V J d) = some (zi x, zm V' J' d) := by
  unfold wstub
  rw [hL, show wC 16 = 121 from rfl, h]
  show (if (zm V' J' d).2.2.1 = (zm V J d).2.2.1 then (wans 16 (.int (zi x))).map _ else none) = _
  rw [if_pos (show (zm V' J' d).2.2.1 = (zm V J d).2.2.1 from rfl)]
  rcases hx with rfl | rfl <;> rfl
theorem ws_e {s C e : Nat} {xs : List Int32} {L : List Value} (hC : wC s = C) (hL : zent (wC s) (.ref 0 :: wvals (warg s xs)) = L) (he : e ∈ wX s) (h : zGo false C 0 L [] (zm V J d) = zE1 e V' J' d) : wstub s xs (zm V J d) = some (wcode e, zm V' J' d) := by
  unfold wstub
  rw [hL, hC, h]
  show (if e ∈ wX s ∧ (zm V' J' d).2.2.1 = (zm V J d).2.2.1 then some (wcode e, _) else none) = _
  rw [if_pos ⟨he, show (zm V' J' d).2.2.1 = (zm V J d).2.2.1 from rfl⟩]
theorem ws_v {z : Nat} {L : List Value} {x : Int} (hL : zent z [.ref 0] = L) (h : zGo false z 0 L [] (zm V J d) = zI1 x V' J' d) : wvirt z (zm V J d) = some (zi x, zm V' J' d) := by
  unfold wvirt
  rw [hL, h]
  show (if (zm V' J' d).2.2.1 = (zm V J d).2.2.1 then some (zi x, _) else none) = _
  rw [if_pos (show (zm V' J' d).2.2.1 = (zm V J d).2.2.1 from rfl)]
end
section
variable {V : zVt} {J : zJt} {N a b c t : Int} {d : Nat → Nat → UInt64} {w : Nat}
/-- a part that is read is given as it is -/
theorem cp100r (hp : (0 ≤ a ∧ a < 3) ∧ (0 ≤ b ∧ b < 4)) (hw : 4 * a + b = w) (hr : V (50 + 15 * w) 2 = 1) : zGo false 100 0 [.ref 0, .int (zi a), .int (zi b), .null] [] (zm V J d) = zR1 (50 + 15 * w) V J d := by
  have e97 := cp97 (V := V) (J := J) (d := d) (a := a) (b := b) (by omega) (by omega)
  rw [if_pos hp, show (4 * a + b).toNat = w by omega] at e97
  have hB := zBk_part (i := w) (by omega)
  rw [ze_100_0]
  simp (disch := first | omega | assumption | (simp (disch := omega) only [vup_fn, vup_o, vup_k, vup_at]; first | done | omega | assumption)) only [e97, ze_100_6, hr, ze_100_73, Int.add_zero, ↓reduceIte, qw_id, zck_T, zck_t, zGor_v, zGor_n, zGor_e, zbs, vup_at, vup_vup, vup_self, vup_o, vup_k, vup_fn, ne_eq, not_true_eq_false, not_false_eq_true, and_true, true_and, and_self, and_false, false_and, or_true, true_or, or_self, or_false, false_or, xlt_t, xlt_f, xle_t, xle_f, xeq_t, xeq_f, xand_f, xor_t]
theorem c_error (h : zInv N V J) (hp : (0 ≤ a ∧ a < 3) ∧ (0 ≤ b ∧ b < 4)) (hw : 4 * a + b = w) (hr : V (50 + 15 * w) 2 = 1) : wstub 1 [zi a, zi b] (zm V J d) = some (zi (V (50 + 15 * w) 4), zm V J d) := by
  have e := cp100r (J := J) (d := d) hp hw hr
  have hB := zBk_part (i := w) (by omega)
  refine ws_i (C := 99) (L := [.ref 0, .int (zi a), .int (zi b)]) rfl rfl (by decide) ?_
  simp (disch := first | omega | assumption | (simp (disch := omega) only [vup_fn, vup_o, vup_k, vup_at]; first | done | omega | assumption)) only [ze_99_0, ze_99_6, e, Int.add_zero, ↓reduceIte, qw_id, zck_T, zck_t, zGor_v, zGor_n, zGor_e, zbs, vup_at, vup_vup, vup_self, vup_o, vup_k, vup_fn, ne_eq, not_true_eq_false, not_false_eq_true, and_true, true_and, and_self, and_false, false_and, or_true, true_or, or_self, or_false, false_or, xlt_t, xlt_f, xle_t, xle_f, xeq_t, xeq_f, xand_f, xor_t]
theorem c_errorAt (h : zInv N V J) (hp : (0 ≤ a ∧ a < 3) ∧ (0 ≤ b ∧ b < 4)) (hw : 4 * a + b = w) (hr : V (50 + 15 * w) 2 = 1) : wstub 2 [zi a, zi b] (zm V J d) = some (zi (V (50 + 15 * w) 5), zm V J d) := by
  have e := cp100r (J := J) (d := d) hp hw hr
  have hB := zBk_part (i := w) (by omega)
  refine ws_i (C := 102) (L := [.ref 0, .int (zi a), .int (zi b)]) rfl rfl (by decide) ?_
  simp (disch := first | omega | assumption | (simp (disch := omega) only [vup_fn, vup_o, vup_k, vup_at]; first | done | omega | assumption)) only [ze_102_0, ze_102_6, e, Int.add_zero, ↓reduceIte, qw_id, zck_T, zck_t, zGor_v, zGor_n, zGor_e, zbs, vup_at, vup_vup, vup_self, vup_o, vup_k, vup_fn, ne_eq, not_true_eq_false, not_false_eq_true, and_true, true_and, and_self, and_false, false_and, or_true, true_or, or_self, or_false, false_or, xlt_t, xlt_f, xle_t, xle_f, xeq_t, xeq_f, xand_f, xor_t]
theorem c_tokens (h : zInv N V J) (hp : (0 ≤ a ∧ a < 3) ∧ (0 ≤ b ∧ b < 4)) (hw : 4 * a + b = w) (hr : V (50 + 15 * w) 2 = 1) : wstub 3 [zi a, zi b] (zm V J d) = some (zi (V (52 + 15 * w) 0), zm V J d) := by
  have e := cp100r (J := J) (d := d) hp hw hr
  have hB := zBk_part (i := w) (by omega)
  have hB10 := zBk_6row hB
  refine ws_i (C := 103) (L := [.ref 0, .int (zi a), .int (zi b)]) rfl rfl (by decide) ?_
  rw [show 52 + 15 * w = 50 + 15 * w + 2 by omega]
  simp (disch := first | omega | assumption | (simp (disch := omega) only [vup_fn, vup_o, vup_k, vup_at]; first | done | omega | assumption)) only [ze_103_0, ze_103_6, e, Int.add_zero, ↓reduceIte, qw_id, zck_T, zck_t, zGor_v, zGor_n, zGor_e, zbs, vup_at, vup_vup, vup_self, vup_o, vup_k, vup_fn, ne_eq, not_true_eq_false, not_false_eq_true, and_true, true_and, and_self, and_false, false_and, or_true, true_or, or_self, or_false, false_or, xlt_t, xlt_f, xle_t, xle_f, xeq_t, xeq_f, xand_f, xor_t]
theorem c_token (h : zInv N V J) (hp : (0 ≤ a ∧ a < 3) ∧ (0 ≤ b ∧ b < 4)) (hw : 4 * a + b = w) (hr : V (50 + 15 * w) 2 = 1) (hc : 0 ≤ c ∧ c < V (52 + 15 * w) 0) (hn : V (52 + 15 * w) 0 ≤ 60) : wstub 4 [zi a, zi b, zi c] (zm V J d) = some (zi (V (53 + 15 * w) c), zm V J d) := by
  have e := cp100r (J := J) (d := d) hp hw hr
  have hB := zBk_part (i := w) (by omega)
  have hB10 := zBk_6row hB
  have e52 : 52 + 15 * w = 50 + 15 * w + 2 := by omega
  rw [e52] at hc hn
  have e86 := sp86 (V := V) (J := J) (d := d) (x := 50 + 15 * w + 2) (k := c) hB10 (by omega) (by omega)
  rw [if_pos hc] at e86
  refine ws_i (C := 104) (L := [.ref 0, .int (zi a), .int (zi b), .int (zi c), .null]) rfl rfl (by decide) ?_
  rw [show 53 + 15 * w = 50 + 15 * w + 2 + 1 by omega]
  simp (disch := first | omega | assumption | (simp (disch := omega) only [vup_fn, vup_o, vup_k, vup_at]; first | done | omega | assumption)) only [ze_104_0, ze_104_6, ze_104_17, e, e86, Int.add_zero, ↓reduceIte, qw_id, zck_T, zck_t, zGor_v, zGor_n, zGor_e, zbs, vup_at, vup_vup, vup_self, vup_o, vup_k, vup_fn, ne_eq, not_true_eq_false, not_false_eq_true, and_true, true_and, and_self, and_false, false_and, or_true, true_or, or_self, or_false, false_or, xlt_t, xlt_f, xle_t, xle_f, xeq_t, xeq_f, xand_f, xor_t]
theorem c_bars (h : zInv N V J) (hp : (0 ≤ a ∧ a < 3) ∧ (0 ≤ b ∧ b < 4)) (hw : 4 * a + b = w) (hr : V (50 + 15 * w) 2 = 1) : wstub 5 [zi a, zi b] (zm V J d) = some (zi (if V (63 + 15 * w) 0 = 0 then V (63 + 15 * w) 2 else -1), zm V J d) := by
  have e := cp100r (J := J) (d := d) hp hw hr
  have hB := zBk_part (i := w) (by omega)
  have hB5 := zBk_6music hB
  have hM := cMu_ok h (w := w) (by omega) hr
  unfold cMok at hM
  rw [show 63 + 15 * w = 50 + 15 * w + 13 by omega] at hM ⊢
  refine ws_i (C := 105) (L := [.ref 0, .int (zi a), .int (zi b), .null]) rfl rfl (by decide) ?_
  by_cases f0 : V (50 + 15 * w + 13) 0 = 0
  · rw [if_pos f0]
    simp (disch := first | omega | assumption | (simp (disch := omega) only [vup_fn, vup_o, vup_k, vup_at]; first | done | omega | assumption)) only [ze_105_0, ze_105_6, ze_105_25, e, Int.add_zero, ↓reduceIte, qw_id, zck_T, zck_t, zGor_v, zGor_n, zGor_e, zbs, vup_at, vup_vup, vup_self, vup_o, vup_k, vup_fn, ne_eq, not_true_eq_false, not_false_eq_true, and_true, true_and, and_self, and_false, false_and, or_true, true_or, or_self, or_false, false_or, xlt_t, xlt_f, xle_t, xle_f, xeq_t, xeq_f, xand_f, xor_t]
  · rw [if_neg f0]
    simp (disch := first | omega | assumption | (simp (disch := omega) only [vup_fn, vup_o, vup_k, vup_at]; first | done | omega | assumption)) only [ze_105_0, ze_105_6, ze_105_25, e, Int.add_zero, ↓reduceIte, qw_id, zck_T, zck_t, zGor_v, zGor_n, zGor_e, zbs, vup_at, vup_vup, vup_self, vup_o, vup_k, vup_fn, ne_eq, not_true_eq_false, not_false_eq_true, and_true, true_and, and_self, and_false, false_and, or_true, true_or, or_self, or_false, false_or, xlt_t, xlt_f, xle_t, xle_f, xeq_t, xeq_f, xand_f, xor_t]
theorem c_pitch (h : zInv N V J) (hp : (0 ≤ a ∧ a < 3) ∧ (0 ≤ b ∧ b < 4)) (hw : 4 * a + b = w) (hr : V (50 + 15 * w) 2 = 1) (hc : 0 ≤ c ∧ c < 1000) : wstub 6 [zi a, zi b, zi c, zi 0] (zm V J d) = some (zi (if c < V (63 + 15 * w) 2 ∧ 0 < V (63 + 15 * w) 3 then yPi (cSd J (63 + 15 * w) c 0) else -101), zm V J d) := by
  have e := cp100r (J := J) (d := d) hp hw hr
  have hB := zBk_part (i := w) (by omega)
  have hB5 := zBk_6music hB
  have hM := cMu_ok h (w := w) (by omega) hr
  unfold cMok at hM
  have e13 : 50 + 15 * w + 13 = 63 + 15 * w := by omega
  rw [e13] at hB5
  have e107 := sp107 (V := V) (J := J) (d := d) (M := 63 + 15 * w) (b := c) (t := 0) hB5 (by omega) (by omega) (by omega) (by omega)
  by_cases hin : c < V (63 + 15 * w) 2 ∧ 0 < V (63 + 15 * w) 3
  · rw [if_pos hin]
    rw [if_pos (by omega)] at e107
    have e36 := sp36 (V := V) (J := J) (d := d) (M := 63 + 15 * w) (b := c) (t := 0) hB5 (by omega) (by omega) (by omega)
    rw [if_pos hin.1] at e36
    refine ws_i (C := 106) (L := [.ref 0, .int (zi a), .int (zi b), .int (zi c), .int (zi 0), .null]) rfl rfl (by decide) ?_
    simp (disch := first | omega | assumption | (simp (disch := omega) only [vup_fn, vup_o, vup_k, vup_at]; first | done | omega | assumption)) only [ze_106_0, ze_106_6, ze_106_20, ze_106_28, e, e13, e107, e36, Int.add_zero, ↓reduceIte, qw_id, zck_T, zck_t, zGor_v, zGor_n, zGor_e, zbs, vup_at, vup_vup, vup_self, vup_o, vup_k, vup_fn, ne_eq, not_true_eq_false, not_false_eq_true, and_true, true_and, and_self, and_false, false_and, or_true, true_or, or_self, or_false, false_or, xlt_t, xlt_f, xle_t, xle_f, xeq_t, xeq_f, xand_f, xor_t]
  · rw [if_neg hin]
    rw [if_neg (by omega)] at e107
    refine (ws_e (s := 6) (e := 0) (C := 106) (L := [.ref 0, .int (zi a), .int (zi b), .int (zi c), .int (zi 0), .null]) rfl rfl (by decide) ?_).trans (by rw [wz101.1])
    simp (disch := first | omega | assumption | (simp (disch := omega) only [vup_fn, vup_o, vup_k, vup_at]; first | done | omega | assumption)) only [ze_106_0, ze_106_6, ze_106_20, ze_106_28, e, e13, e107, Int.add_zero, ↓reduceIte, qw_id, zck_T, zck_t, zGor_v, zGor_n, zGor_e, zbs, vup_at, vup_vup, vup_self, vup_o, vup_k, vup_fn, ne_eq, not_true_eq_false, not_false_eq_true, and_true, true_and, and_self, and_false, false_and, or_true, true_or, or_self, or_false, false_or, xlt_t, xlt_f, xle_t, xle_f, xeq_t, xeq_f, xand_f, xor_t]
theorem c_holder (h : zInv N V J) (hc : 0 ≤ c ∧ c < V 480 37) : wstub 12 [zi c] (zm V J d) = some (zi (V 455 c), zm V J d) := by
  have h37 := h.2.2.2.1
  have e112 := cp112 (d := d) h (c := c) (by omega)
  rw [if_pos hc] at e112
  have hB := zBk_copy (i := c.toNat) (by omega)
  obtain ⟨k1, k2, k3, k4, k5⟩ := iCp_ms h hc
  refine ws_i (C := 117) (L := [.ref 0, .int (zi c)]) rfl rfl (by decide) ?_
  rw [← k4]
  simp (disch := first | omega | assumption | (simp (disch := omega) only [vup_fn, vup_o, vup_k, vup_at]; first | done | omega | assumption)) only [ze_117_0, ze_117_5, e112, Int.add_zero, ↓reduceIte, qw_id, zck_T, zck_t, zGor_v, zGor_n, zGor_e, zbs, vup_at, vup_vup, vup_self, vup_o, vup_k, vup_fn, ne_eq, not_true_eq_false, not_false_eq_true, and_true, true_and, and_self, and_false, false_and, or_true, true_or, or_self, or_false, false_or, xlt_t, xlt_f, xle_t, xle_f, xeq_t, xeq_f, xand_f, xor_t]
theorem c_copyError (h : zInv N V J) (hc : 0 ≤ c ∧ c < V 480 37) : wstub 13 [zi c] (zm V J d) = some (zi (V (233 + 5 * c.toNat) 0), zm V J d) := by
  have h37 := h.2.2.2.1
  have e112 := cp112 (d := d) h (c := c) (by omega)
  rw [if_pos hc] at e112
  have hB := zBk_copy (i := c.toNat) (by omega)
  refine ws_i (C := 118) (L := [.ref 0, .int (zi c)]) rfl rfl (by decide) ?_
  rw [show 233 + 5 * c.toNat = 230 + 5 * c.toNat + 3 by omega]
  simp (disch := first | omega | assumption | (simp (disch := omega) only [vup_fn, vup_o, vup_k, vup_at]; first | done | omega | assumption)) only [ze_118_0, ze_118_5, e112, Int.add_zero, ↓reduceIte, qw_id, zck_T, zck_t, zGor_v, zGor_n, zGor_e, zbs, vup_at, vup_vup, vup_self, vup_o, vup_k, vup_fn, ne_eq, not_true_eq_false, not_false_eq_true, and_true, true_and, and_self, and_false, false_and, or_true, true_or, or_self, or_false, false_or, xlt_t, xlt_f, xle_t, xle_f, xeq_t, xeq_f, xand_f, xor_t]
/-- a place of music M -/
abbrev mIn (V : zVt) (M : Nat) (b t : Int) : Prop := b < V M 2 ∧ t < V M 3
theorem c_copyPitch (h : zInv N V J) (hc : 0 ≤ c ∧ c < V 480 37) (hb : 0 ≤ b ∧ b < 1000) (ht : 0 ≤ t ∧ t < 1000) : wstub 14 [zi c, zi b, zi t] (zm V J d) = some (zi (if mIn V (233 + 5 * c.toNat) b t then yPi (cSd J (233 + 5 * c.toNat) b t) else -101), zm V J d) := by
  have h37 := h.2.2.2.1
  have e112 := cp112 (d := d) h (c := c) (by omega)
  rw [if_pos hc] at e112
  have hB := zBk_copy (i := c.toNat) (by omega)
  have hB5 := zBk_0music hB
  have e13 : 230 + 5 * c.toNat + 3 = 233 + 5 * c.toNat := by omega
  obtain ⟨k1, k2, k3, k4, k5⟩ := iCp_ms h hc
  have hk := iMs_mok h (by omega) k1
  unfold cMok at hk
  rw [e13] at hB5
  have e107 := sp107 (V := V) (J := J) (d := d) (M := 233 + 5 * c.toNat) (b := b) (t := t) hB5 (by omega) (by omega) (by omega) (by omega)
  by_cases hin : mIn V (233 + 5 * c.toNat) b t
  · rw [if_pos hin]
    rw [if_pos (by omega)] at e107
    have e36 := sp36 (V := V) (J := J) (d := d) (M := 233 + 5 * c.toNat) (b := b) (t := t) hB5 (by omega) (by omega) (by omega)
    rw [if_pos hin.1] at e36
    refine ws_i (C := 119) (L := [.ref 0, .int (zi c), .int (zi b), .int (zi t), .null]) rfl rfl (by decide) ?_
    simp (disch := first | omega | assumption | (simp (disch := omega) only [vup_fn, vup_o, vup_k, vup_at]; first | done | omega | assumption)) only [ze_119_0, ze_119_5, ze_119_18, ze_119_25, e112, e13, e107, e36, Int.add_zero, ↓reduceIte, qw_id, zck_T, zck_t, zGor_v, zGor_n, zGor_e, zbs, vup_at, vup_vup, vup_self, vup_o, vup_k, vup_fn, ne_eq, not_true_eq_false, not_false_eq_true, and_true, true_and, and_self, and_false, false_and, or_true, true_or, or_self, or_false, false_or, xlt_t, xlt_f, xle_t, xle_f, xeq_t, xeq_f, xand_f, xor_t]
  · rw [if_neg hin]
    rw [if_neg (by omega)] at e107
    refine (ws_e (s := 14) (e := 0) (C := 119) (L := [.ref 0, .int (zi c), .int (zi b), .int (zi t), .null]) rfl rfl (by decide) ?_).trans (by rw [wz101.1])
    simp (disch := first | omega | assumption | (simp (disch := omega) only [vup_fn, vup_o, vup_k, vup_at]; first | done | omega | assumption)) only [ze_119_0, ze_119_5, ze_119_18, ze_119_25, e112, e13, e107, Int.add_zero, ↓reduceIte, qw_id, zck_T, zck_t, zGor_v, zGor_n, zGor_e, zbs, vup_at, vup_vup, vup_self, vup_o, vup_k, vup_fn, ne_eq, not_true_eq_false, not_false_eq_true, and_true, true_and, and_self, and_false, false_and, or_true, true_or, or_self, or_false, false_or, xlt_t, xlt_f, xle_t, xle_f, xeq_t, xeq_f, xand_f, xor_t]
theorem c_begins (h : zInv N V J) (hc : 0 ≤ c ∧ c < V 480 37) (hb : 0 ≤ b ∧ b < 1000) (ht : 0 ≤ t ∧ t < 1000) : wstub 16 [zi c, zi b, zi t] (zm V J d) = some (zi (if mIn V (233 + 5 * c.toNat) b t then yBg (cSd J (233 + 5 * c.toNat) b t) else -101), zm V J d) := by
  have h37 := h.2.2.2.1
  have e112 := cp112 (d := d) h (c := c) (by omega)
  rw [if_pos hc] at e112
  have hB := zBk_copy (i := c.toNat) (by omega)
  have hB5 := zBk_0music hB
  have e13 : 230 + 5 * c.toNat + 3 = 233 + 5 * c.toNat := by omega
  obtain ⟨k1, k2, k3, k4, k5⟩ := iCp_ms h hc
  have hk := iMs_mok h (by omega) k1
  unfold cMok at hk
  rw [e13] at hB5
  have e107 := sp107 (V := V) (J := J) (d := d) (M := 233 + 5 * c.toNat) (b := b) (t := t) hB5 (by omega) (by omega) (by omega) (by omega)
  by_cases hin : mIn V (233 + 5 * c.toNat) b t
  · rw [if_pos hin]
    rw [if_pos (by omega)] at e107
    have e38 := sp38 (V := V) (J := J) (d := d) (M := 233 + 5 * c.toNat) (b := b) (t := t) hB5 (by omega) (by omega) (by omega)
    rw [if_pos hin.1] at e38
    have h01 : yBg (cSd J (233 + 5 * c.toNat) b t) = 0 ∨ yBg (cSd J (233 + 5 * c.toNat) b t) = 1 := yBg_b01 (fun x => cSd J (233 + 5 * c.toNat) b t) 0 (by omega) (by omega)
    refine ws_b (L := [.ref 0, .int (zi c), .int (zi b), .int (zi t), .null]) rfl h01 ?_
    simp (disch := first | omega | assumption | (simp (disch := omega) only [vup_fn, vup_o, vup_k, vup_at]; first | done | omega | assumption)) only [ze_121_0, ze_121_5, ze_121_18, ze_121_25, e112, e13, e107, e38, Int.add_zero, ↓reduceIte, qw_id, zck_T, zck_t, zGor_v, zGor_n, zGor_e, zbs, vup_at, vup_vup, vup_self, vup_o, vup_k, vup_fn, ne_eq, not_true_eq_false, not_false_eq_true, and_true, true_and, and_self, and_false, false_and, or_true, true_or, or_self, or_false, false_or, xlt_t, xlt_f, xle_t, xle_f, xeq_t, xeq_f, xand_f, xor_t]
  · rw [if_neg hin]
    rw [if_neg (by omega)] at e107
    refine (ws_e (s := 16) (e := 0) (C := 121) (L := [.ref 0, .int (zi c), .int (zi b), .int (zi t), .null]) rfl rfl (by decide) ?_).trans (by rw [wz101.1])
    simp (disch := first | omega | assumption | (simp (disch := omega) only [vup_fn, vup_o, vup_k, vup_at]; first | done | omega | assumption)) only [ze_121_0, ze_121_5, ze_121_18, ze_121_25, e112, e13, e107, Int.add_zero, ↓reduceIte, qw_id, zck_T, zck_t, zGor_v, zGor_n, zGor_e, zbs, vup_at, vup_vup, vup_self, vup_o, vup_k, vup_fn, ne_eq, not_true_eq_false, not_false_eq_true, and_true, true_and, and_self, and_false, false_and, or_true, true_or, or_self, or_false, false_or, xlt_t, xlt_f, xle_t, xle_f, xeq_t, xeq_f, xand_f, xor_t]
/-- the same music twice -/
theorem iMs_un {M M2 w2 : Nat} {H : Int → Int} (h : iMs V J M w2 H) (h2 : iMs V J M2 w2 H) : V M2 0 = V M 0 ∧ V M2 2 = V M 2 ∧ V M2 3 = V M 3 ∧ ∀ b t, 0 ≤ b → b < V M 2 → 0 ≤ t → t < 16 → cSd J M2 b t = cSd J M b t := by
  obtain ⟨n, b0, F, A, fa, hx, hg, m1, m2, m3, m4, m5⟩ := h
  obtain ⟨n', b0', F', A', fa', hx', hg', m1', m2', m3', m4', m5'⟩ := h2
  obtain ⟨e1, e2, e3, e4, e5⟩ := yTx_un hx hx'
  subst e1; subst e2; subst e3; subst e4; subst e5
  refine ⟨m1'.trans m1.symm, m3'.trans m3.symm, m4'.trans m4.symm, fun b t b0 b1 t0 t1 => ?_⟩
  rw [m3] at b1
  have q := m5 b b0 b1
  have q' := m5' b b0 b1
  unfold cSd
  by_cases h8 : t < 8
  · rw [if_pos h8, if_pos h8, (q t t0 h8).1, (q' t t0 h8).1]
  · rw [if_neg h8, if_neg h8, (q (t - 8) (by omega) (by omega)).2, (q' (t - 8) (by omega) (by omega)).2]
theorem iMs_f7 (ht : tOk (yTt V w) (V 432 w)) {M : Nat} {H : Int → Int} (h : iMs V J M w H) {n b A fa : Int} (hx : yTx (yTt V w) (V 432 w) n b 0 A fa) : f7 (V M 0) := by
  obtain ⟨n', b0', F', A', fa', hx', hg', m1', m2', m3', m4', m5'⟩ := h
  obtain ⟨e1, e2, e3, e4, e5⟩ := yTx_un hx hx'
  subst e3
  rw [m1', show ∀ P, sF P 0 = yAll P 0 7 from fun P => if_neg (fun w' => w' rfl)]
  exact yAll_7s _
theorem c_copyAnew (h : zInv N V J) (hc : 0 ≤ c ∧ c < V 480 37) (hb : 0 ≤ b ∧ b < 1000) (ht : 0 ≤ t ∧ t < 1000) : ∃ V' J', wstub 15 [zi c, zi b, zi t] (zm V J d) = some (zi (if mIn V (233 + 5 * c.toNat) b t then yPi (cSd J (233 + 5 * c.toNat) b t) else -101), zm V' J' d) ∧ zInv N V' J' ∧ (∀ o : Nat, ¬(7 ≤ o ∧ o ≤ 36) → V' o = V o) ∧ ∀ o : Nat, o ≠ 36 → J' o = J o := by
  have h37 := h.2.2.2.1
  have e112 := cp112 (d := d) h (c := c) (by omega)
  rw [if_pos hc] at e112
  have hB := zBk_copy (i := c.toNat) (by omega)
  have hB5 := zBk_35
  obtain ⟨k1, k2, k3, k4, k5⟩ := iCp_ms h hc
  obtain ⟨V1, V2, J2, p1, p2, p3, p4, p5, p6⟩ := cAnew (d := d) h hc
  rw [show 231 + 5 * c.toNat = 230 + 5 * c.toNat + 1 by omega] at p2
  rw [← k3] at p1
  have hk := iMs_mok p3 (by rw [p4 454 (by omega)]; omega) p6
  unfold cMok at hk
  have k9 := (iCp_ms p3 (c := c) (by rw [p4 480 (by omega)]; exact hc)).1
  obtain ⟨u1, u2, u3, u4⟩ := iMs_un k9 p6
  have f2 : V2 (233 + 5 * c.toNat) = V (233 + 5 * c.toNat) := p4 _ (by omega)
  rw [f2] at u2 u3 u4
  have e107 := sp107 (V := V2) (J := J2) (d := d) (M := 35) (b := b) (t := t) hB5 (by omega) (by omega) (by omega) (by omega)
  refine ⟨V2, J2, ?_, p3, p4, p5⟩
  by_cases hin : mIn V (233 + 5 * c.toNat) b t
  · rw [if_pos hin]
    rw [if_pos (by omega)] at e107
    have e36 := sp36 (V := V2) (J := J2) (d := d) (M := 35) (b := b) (t := t) hB5 (by omega) (by omega) (by omega)
    have e9 : cSd J2 35 b t = cSd J (233 + 5 * c.toNat) b t := by
      rw [u4 b t hb.1 hin.1 ht.1 (by omega)]
      unfold cSd
      rw [p5 _ (by omega)]
    rw [if_pos (by omega), e9] at e36
    refine ws_i (C := 120) (L := [.ref 0, .int (zi c), .int (zi b), .int (zi t), .null]) rfl rfl (by decide) ?_
    simp (disch := first | omega | assumption | (simp (disch := omega) only [vup_fn, vup_o, vup_k, vup_at]; first | done | omega | assumption)) only [ze_120_0, ze_120_5, ze_120_25, ze_120_49, ze_120_59, ze_120_68, e112, p1, p2, e107, e36, Int.add_zero, ↓reduceIte, qw_id, zck_T, zck_t, zGor_v, zGor_n, zGor_e, zbs, vup_at, vup_vup, vup_self, vup_o, vup_k, vup_fn, ne_eq, not_true_eq_false, not_false_eq_true, and_true, true_and, and_self, and_false, false_and, or_true, true_or, or_self, or_false, false_or, xlt_t, xlt_f, xle_t, xle_f, xeq_t, xeq_f, xand_f, xor_t]
  · rw [if_neg hin]
    rw [if_neg (by omega)] at e107
    refine (ws_e (s := 15) (e := 0) (C := 120) (L := [.ref 0, .int (zi c), .int (zi b), .int (zi t), .null]) rfl rfl (by decide) ?_).trans (by rw [wz101.1])
    simp (disch := first | omega | assumption | (simp (disch := omega) only [vup_fn, vup_o, vup_k, vup_at]; first | done | omega | assumption)) only [ze_120_0, ze_120_5, ze_120_25, ze_120_49, ze_120_59, ze_120_68, e112, p1, p2, e107, Int.add_zero, ↓reduceIte, qw_id, zck_T, zck_t, zGor_v, zGor_n, zGor_e, zbs, vup_at, vup_vup, vup_self, vup_o, vup_k, vup_fn, ne_eq, not_true_eq_false, not_false_eq_true, and_true, true_and, and_self, and_false, false_and, or_true, true_or, or_self, or_false, false_or, xlt_t, xlt_f, xle_t, xle_f, xeq_t, xeq_f, xand_f, xor_t]
end
