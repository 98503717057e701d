/-! part 99q: write, reading, print, day, room, ask, concert: what the class answers and does; the ghosts go along (printed by program: wip/p34/gen/mk_calls4.py) -/
theorem wch_all : (List.range 128).all (fun k => decide (wch (zi (k : Nat)) = zi (k : Nat))) = true := by decide +kernel
theorem wch_id {c : Int} (h : 0 ≤ c ∧ c < 128) : wch (zi c) = zi c := by
  have k := of_decide_eq_true (List.all_eq_true.mp wch_all c.toNat (List.mem_range.mpr (by omega)))
  rw [show ((c.toNat : Nat) : Int) = c by omega] at k
  exact k
section
variable {V : zVt} {J : zJt} {N a b c e p : Int} {d : Nat → Nat → UInt64} {w : Nat}
theorem c_write (h : zInv N V J) (hp : (0 ≤ a ∧ a < 3) ∧ (0 ≤ b ∧ b < 4)) (hw : 4 * a + b = w) (hq : 32 ≤ c ∧ c ≤ 126) (h3 : V (50 + 15 * w) 3 = 0) (hl : V 432 w < 160) : ∃ V', wstub 0 [zi a, zi b, zi c] (zm V J d) = some (zi (V 432 w + 1), zm V' J d) ∧ zInv N V' J ∧ V' 432 w = V 432 w + 1 ∧ (∀ p, yTt V' w p = if p = V 432 w then c else yTt V w p) ∧ (V' (50 + 15 * w) 2 = 0 ∧ V' (50 + 15 * w) 3 = 0) ∧ (∀ o : Nat, o ≠ 50 + 15 * w → o ≠ 51 + 15 * w → o ≠ 481 → o ≠ 432 → V' o = V o) ∧ ∀ w2 : Nat, w2 < 12 → w2 ≠ w → V' 432 w2 = V 432 w2 ∧ yTt V' w2 = yTt V w2 := by
  have e97 := cp97 (V := V) (J := J) (d := d) (a := a) (b := b) (by omega) (by omega)
  rw [if_pos hp] at e97
  have hw12 : w < 12 := by omega
  have hwi : ((w : Nat) : Int) = 4 * a + b := hw.symm
  rw [show (4 * a + b).toNat = w by omega] at e97
  have hB := zBk_part hw12
  obtain ⟨a1, a2, a3, _⟩ := h.2.2.1 w hw12
  have htx := h.1.2 w hw12
  have hln := (h.1.1 w (by omega) (by omega)).1
  obtain ⟨n, hn⟩ : ∃ n, V 432 w = n := ⟨_, rfl⟩
  rw [hn] at hl htx hln
  have h1 : V (50 + 15 * w) 1 = n := htx.1
  have hgo : zGo false 96 0 [.ref 0, .int (zi a), .int (zi b), .int (zi c), .null] [] (zm V J d) = zI1 (n + 1) (vup (vup (vup V (50 + 15 * w + 1) n c) (50 + 15 * w) 1 (n + 1)) (50 + 15 * w) 2 0) J d := by
    simp (disch := first | omega | assumption | (simp (disch := omega) only [vup_fn, vup_o, vup_k, vup_at]; first | done | omega | assumption)) only [ze_96_0, ze_96_6, ze_96_20, ze_96_49, e97, h3, h1, Int.add_zero, ↓reduceIte, qw_id, zck_T, zck_t, zGor_v, zGor_n, zGor_e, zbs, vup_at, vup_vup, vup_self, vup_o, vup_k, vup_fn, ne_eq, not_true_eq_false, not_false_eq_true, and_true, true_and, and_self, and_false, false_and, or_true, true_or, or_self, or_false, false_or, xlt_t, xlt_f, xle_t, xle_f, xeq_t, xeq_f, xand_f, xor_t]
  have fo : ∀ o : Nat, o ≠ 50 + 15 * w → o ≠ 51 + 15 * w → vup (vup (vup V (50 + 15 * w + 1) n c) (50 + 15 * w) 1 (n + 1)) (50 + 15 * w) 2 0 o = V o := fun o h1 h2 => by rw [vup_fn (by omega), vup_fn (by omega), vup_fn (by omega)]
  have f1 : vup (vup (vup V (50 + 15 * w + 1) n c) (50 + 15 * w) 1 (n + 1)) (50 + 15 * w) 2 0 (50 + 15 * w) 1 = n + 1 := by rw [vup_k (by omega), vup_at]
  have f2 : vup (vup (vup V (50 + 15 * w + 1) n c) (50 + 15 * w) 1 (n + 1)) (50 + 15 * w) 2 0 (50 + 15 * w) 2 = 0 := vup_at _ _ _ _
  have f3 : vup (vup (vup V (50 + 15 * w + 1) n c) (50 + 15 * w) 1 (n + 1)) (50 + 15 * w) 2 0 (50 + 15 * w) 3 = 0 := by rw [vup_k (by omega), vup_k (by omega), vup_o (by omega), h3]
  have f4 : ∀ k, vup (vup (vup V (50 + 15 * w + 1) n c) (50 + 15 * w) 1 (n + 1)) (50 + 15 * w) 2 0 (51 + 15 * w) k = if k = n then c else V (51 + 15 * w) k := fun k => by
    rw [vup_o (by omega), vup_o (by omega), show 50 + 15 * w + 1 = 51 + 15 * w by omega]
    by_cases e : k = n
    · rw [if_pos e, e, vup_at]
    · rw [if_neg e, vup_k e]
  generalize vup (vup (vup V (50 + 15 * w + 1) n c) (50 + 15 * w) 1 (n + 1)) (50 + 15 * w) 2 0 = V1 at *
  obtain ⟨U, u0, u481, u432⟩ : ∃ U : zVt, (∀ o : Nat, o ≠ 481 → o ≠ 432 → U o = V1 o) ∧ (∀ k, U 481 k = if k = 160 * (w : Int) + n then c else V 481 k) ∧ ∀ k, U 432 k = if k = (w : Int) then n + 1 else V 432 k := by
    refine ⟨fun o => if o = 481 then (fun k => if k = 160 * (w : Int) + n then c else V 481 k) else if o = 432 then (fun k => if k = (w : Int) then n + 1 else V 432 k) else V1 o, fun o h1 h2 => ?_, fun k => rfl, fun k => rfl⟩
    show (if o = 481 then _ else if o = 432 then _ else V1 o) = V1 o
    rw [if_neg h1, if_neg h2]
  have uV : ∀ o : Nat, o ≠ 50 + 15 * w → o ≠ 51 + 15 * w → o ≠ 481 → o ≠ 432 → U o = V o := fun o h1 h2 h3 h4 => by rw [u0 o h3 h4, fo o h1 h2]
  have hoth : ∀ w2 : Nat, w2 < 12 → w2 ≠ w → U 432 w2 = V 432 w2 ∧ ∀ p, 0 ≤ p → p < 160 → U 481 (160 * w2 + p) = V 481 (160 * w2 + p) := fun w2 g1 g2 => by
    refine ⟨by rw [u432, if_neg (by omega)], fun p p0 p1 => by rw [u481, if_neg (by omega)]⟩
  refine ⟨U, ?_, ?_, by rw [u432, if_pos rfl, hn], fun p => ?_, ⟨by rw [u0 _ (by omega) (by omega), f2], by rw [u0 _ (by omega) (by omega), f3]⟩, uV, fun w2 g1 g2 => ⟨(hoth w2 g1 g2).1, yTt_of (hoth w2 g1 g2).1 (hoth w2 g1 g2).2 (h.1.1 w2 (by omega) (by omega)).1.2⟩⟩
  · rw [zm_cg (d := d) (V := U) (V2 := V1) (J := J) (J2 := J) (fun o ho => (u0 o (by omega) (by omega)).symm) (fun _ _ => rfl), hn]
    refine ws_i (C := 96) (L := [.ref 0, .int (zi a), .int (zi b), .int (zi c), .null]) rfl ?_ (by decide) hgo
    show zent 96 [.ref 0, .int (zi a), .int (zi b), .int (wch (zi c))] = _
    rw [wch_id (by omega)]
    rfl
  · refine zInv_tx hw12 h h3 (fun o h1 h2 h3 h4 h5 => uV o h1 h2 h4 h5) ?_ ?_ ?_ ?_ ?_ ?_ hoth
    · rw [uV 480 (by omega) (by omega) (by omega) (by omega)]
      exact ⟨rfl, rfl, rfl, rfl, rfl⟩
    · rw [u0 _ (by omega) (by omega), f3]
    · rw [u0 _ (by omega) (by omega), f2]
    · rw [u432, if_pos rfl, u0 _ (by omega) (by omega), f1]
    · intro w2 w0 w1
      have q := h.1.1 w2 w0 w1
      rw [u432]
      by_cases e : w2 = w
      · rw [if_pos e]
        refine ⟨by omega, fun p p0 p1 => ?_⟩
        rw [u481]
        by_cases e2 : 160 * w2 + p = 160 * (w : Int) + n
        · rw [if_pos e2]
          exact hq
        · rw [if_neg e2]
          rw [e] at q ⊢
          exact q.2 p p0 (by omega)
      · rw [if_neg e]
        refine ⟨q.1, fun p p0 p1 => ?_⟩
        rw [u481, if_neg (by omega)]
        exact q.2 p p0 p1
    · intro p p0 p1
      rw [u432, if_pos rfl] at p1
      rw [u0 _ (by omega) (by omega), f4, u481]
      by_cases e : p = n
      · rw [if_pos e, if_pos (by omega)]
      · rw [if_neg e, if_neg (by omega)]
        exact htx.2 p p0 (by omega)
  · unfold yTt zt
    rw [u432, if_pos rfl, u481, hn]
    by_cases e : p = n
    · rw [if_pos e, if_pos (by omega), if_pos (by omega)]
    · rw [if_neg e]
      by_cases e2 : 0 ≤ p ∧ p < n
      · rw [if_pos (by omega), if_pos e2, if_neg (by omega)]
      · rw [if_neg (by omega), if_neg e2]
/-- a part that is asked for is read -/
theorem c_read (h : zInv N V J) (hp : (0 ≤ a ∧ a < 3) ∧ (0 ≤ b ∧ b < 4)) (hw : 4 * a + b = w) : ∃ V' J', wstub 1 [zi a, zi b] (zm V J d) = some (zi (V' (50 + 15 * w) 4), zm V' J' d) ∧ zInv N V' J' ∧ pK V V' J J' ∧ V' (50 + 15 * w) 2 = 1 ∧ pCw w V V' J J' := by
  obtain ⟨V1, J1, q1, q2, q3, q4, q5⟩ := cp100 (d := d) h hp
  rw [show (4 * a + b).toNat = w by omega] at q1 q4 q5
  have hB := zBk_part (i := w) (by omega)
  refine ⟨V1, J1, ?_, q2, q3, q4, q5⟩
  refine ws_i (C := 99) (L := [.ref 0, .int (zi a), .int (zi b)]) rfl rfl (by decide) ?_
  simp (disch := first | omega | assumption | (simp (disch := omega) only [vup_fn, vup_o, vup_k, vup_at]; first | done | omega | assumption)) only [ze_99_0, ze_99_6, q1, Int.add_zero, ↓reduceIte, qw_id, zck_T, zck_t, zGor_v, zGor_n, zGor_e, zbs, vup_at, vup_vup, vup_self, vup_o, vup_k, vup_fn, ne_eq, not_true_eq_false, not_false_eq_true, and_true, true_and, and_self, and_false, false_and, or_true, true_or, or_self, or_false, false_or, xlt_t, xlt_f, xle_t, xle_f, xeq_t, xeq_f, xand_f, xor_t]
theorem c_print (h : zInv N V J) (hp : (0 ≤ a ∧ a < 3) ∧ (0 ≤ b ∧ b < 4)) (hw : 4 * a + b = w) (hr : V (50 + 15 * w) 2 = 1) (h4 : V (50 + 15 * w) 4 = 0) (h37 : V 480 37 < 40) : ∃ V' J', wstub 8 [zi a, zi b] (zm V J d) = some (zi (V 480 37), zm V' J' d) ∧ zInv N V' J' ∧ (∀ j, V' 454 j = if j = V 480 37 then (w : Int) else V 454 j) ∧ (∀ j, V' 455 j = if j = V 480 37 then -1 else V 455 j) ∧ (V' 480 37 = V 480 37 + 1 ∧ V' 480 42 = V 480 42 ∧ V' 480 46 = V 480 46 ∧ V' 480 52 = V 480 52 ∧ V' 480 59 = V 480 59) ∧ (∀ o : Nat, o ≠ 0 → ¬(7 ≤ o ∧ o ≤ 36) → ¬(230 ≤ o ∧ o ≤ 429) → o ≠ 50 + 15 * w → o ≠ 454 → o ≠ 455 → o ≠ 480 → V' o = V o) ∧ ∀ x, x ≠ 3 → V' (50 + 15 * w) x = V (50 + 15 * w) x := by
  have q1 := cp100r (J := J) (d := d) hp hw hr
  have hw12 : w < 12 := by omega
  have hwt : (a * 4 + b).toNat = w := by omega
  have hB := zBk_part hw12
  have hB10 := zBk_6row hB
  obtain ⟨k, hk⟩ : ∃ k : Nat, V 480 37 = k := ⟨(V 480 37).toNat, by have := h.2.2.2.1; omega⟩
  have hk2 : V 0 2 = k := by have := h.2.2.2.1; omega
  have hk4 : k < 40 := by omega
  have hkn : ((k : Nat) : Int).toNat = k := by omega
  have hBc := zBk_copy hk4
  have hBm := zBk_0marks hBc
  have hBu := zBk_0music hBc
  obtain ⟨⟨n, b', F, A, fa, hx, h44, h55⟩, _⟩ := (h.2.2.1 w hw12).2.2.2.2.2.1 hr
  have hF : F = 0 := by
    rw [h4] at h44
    by_cases hF : F = 0
    · exact hF
    · exact absurd (h44.trans (if_pos hF)).symm hF
  subst hF
  have hz := (h.2.2.2.2.1 k hk4).2.2 (by omega)
  have hco := h.2.1
  have ht := zt_ok h.1.1 (w := (w : Int)) (by omega)
  have fo : ∀ o : Nat, o ≠ 50 + 15 * w → o ≠ 230 + 5 * k → o ≠ 0 → vup (vup (vup V (50 + 15 * w) 3 1) (230 + 5 * k) 0 (a * 4 + b)) 0 2 (k + 1) o = V o := fun o h1 h2 h3 => by rw [vup_fn h3, vup_fn h2, vup_fn h1]
  have fP3 : vup (vup (vup V (50 + 15 * w) 3 1) (230 + 5 * k) 0 (a * 4 + b)) 0 2 (k + 1) (50 + 15 * w) 3 = 1 := by rw [vup_o (by omega), vup_o (by omega), vup_at]
  have fPx : ∀ x, x ≠ 3 → vup (vup (vup V (50 + 15 * w) 3 1) (230 + 5 * k) 0 (a * 4 + b)) 0 2 (k + 1) (50 + 15 * w) x = V (50 + 15 * w) x := fun x hx => by rw [vup_o (by omega), vup_o (by omega), vup_k hx]
  have fC0 : vup (vup (vup V (50 + 15 * w) 3 1) (230 + 5 * k) 0 (a * 4 + b)) 0 2 (k + 1) (230 + 5 * k) 0 = a * 4 + b := by rw [vup_o (by omega), vup_at]
  have fC1 : vup (vup (vup V (50 + 15 * w) 3 1) (230 + 5 * k) 0 (a * 4 + b)) 0 2 (k + 1) (230 + 5 * k) 1 = V (230 + 5 * k) 1 := by rw [vup_o (by omega), vup_k (by omega), vup_o (by omega)]
  have f02 : vup (vup (vup V (50 + 15 * w) 3 1) (230 + 5 * k) 0 (a * 4 + b)) 0 2 (k + 1) 0 2 = k + 1 := vup_at _ _ _ _
  have f0x : vup (vup (vup V (50 + 15 * w) 3 1) (230 + 5 * k) 0 (a * 4 + b)) 0 2 (k + 1) 0 11 = V 0 11 := by rw [vup_k (by omega), vup_o (by omega), vup_o (by omega)]
  have e1 : zGo false 109 0 [.ref 0, .int (zi a), .int (zi b), .null, .null] [] (zm V J d) = (zGo false 110 0 [.ref 0, .ref (230 + 5 * k)] [] (zm (vup (vup (vup V (50 + 15 * w) 3 1) (230 + 5 * k) 0 (a * 4 + b)) 0 2 (k + 1)) J d)).bind (zGor false 109 75 [.ref 0, .int (zi a), .int (zi b), .ref (50 + 15 * w), .ref (230 + 5 * k)] []) := by
    rw [ze_109_0]
    simp (disch := first | omega | assumption | (simp (disch := omega) only [vup_fn, vup_o, vup_k, vup_at]; first | done | omega | assumption)) only [q1, ze_109_6, hk2, hkn, Int.add_zero, ↓reduceIte, qw_id, zck_T, zck_t, zGor_v, zGor_n, zGor_e, zbs, vup_at, vup_vup, vup_self, vup_o, vup_k, vup_fn, ne_eq, not_true_eq_false, not_false_eq_true, and_true, true_and, and_self, and_false, false_and, or_true, true_or, or_self, or_false, false_or, xlt_t, xlt_f, xle_t, xle_f, xeq_t, xeq_f, xand_f, xor_t]
  generalize vup (vup (vup V (50 + 15 * w) 3 1) (230 + 5 * k) 0 (a * 4 + b)) 0 2 (k + 1) = Va at *
  have e52 : 50 + 15 * w + 2 = 52 + 15 * w := by omega
  have hrow : cRow Va (52 + 15 * w) (yTt V w) (V 432 w) n b' 0 A fa := by
    unfold cRow cTok7 at *
    rw [fo (52 + 15 * w) (by omega) (by omega) (by omega), fo (52 + 15 * w + 1) (by omega) (by omega) (by omega), fo (52 + 15 * w + 2) (by omega) (by omega) (by omega), fo (52 + 15 * w + 3) (by omega) (by omega) (by omega), fo (52 + 15 * w + 4) (by omega) (by omega) (by omega), fo (52 + 15 * w + 5) (by omega) (by omega) (by omega), fo (52 + 15 * w + 6) (by omega) (by omega) (by omega), fo (52 + 15 * w + 7) (by omega) (by omega) (by omega), fo (52 + 15 * w + 8) (by omega) (by omega) (by omega)]
    exact hx
  have f232 : Va (230 + 5 * k + 1 + 1) = V (232 + 5 * k) := by rw [show 230 + 5 * k + 1 + 1 = 232 + 5 * k by omega]; exact fo _ (by omega) (by omega) (by omega)
  have hg0 : aGood (yTt V w) (V (232 + 5 * k)) (V 4) (V 5) (V 6) (V 3 0) n := aGood_0 (by rw [hco.2.1]; exact hco.1) hz.2
  have hg : aGood (yTt V w) (Va (230 + 5 * k + 1 + 1)) (Va 4) (Va 5) (Va 6) (V 3 0) n := by
    rw [f232, fo 4 (by omega) (by omega) (by omega), fo 5 (by omega) (by omega) (by omega), fo 6 (by omega) (by omega) (by omega)]
    exact hg0
  rw [e52] at hB10
  obtain ⟨V2, J2, s1, s2, s3, s4⟩ := sn68 (d := d) (V := Va) (J := J) (T := yTt V w) (x := 52 + 15 * w) (Mk := 230 + 5 * k + 1) (M := 230 + 5 * k + 3) (cnt := V 3 0) hB10 (by omega) hBm (by omega) hBu (by omega) hrow ht (by rw [fo 3 (by omega) (by omega) (by omega)]) hg
  rw [f232, fo 4 (by omega) (by omega) (by omega), fo 5 (by omega) (by omega) (by omega), fo 6 (by omega) (by omega) (by omega)] at s4
  have e110 : zGo false 110 0 [.ref 0, .ref (230 + 5 * k)] [] (zm Va J d) = zN1 V2 J2 d := by
    rw [← e52] at s1
    simp (disch := first | omega | assumption | (simp (disch := omega) only [vup_fn, vup_o, vup_k, vup_at]; first | done | omega | assumption)) only [ze_110_0, ze_110_31, fC0, hwt, s1, Int.add_zero, ↓reduceIte, qw_id, zck_T, zck_t, zGor_v, zGor_n, zGor_e, zbs, vup_at, vup_vup, vup_self, vup_o, vup_k, vup_fn, ne_eq, not_true_eq_false, not_false_eq_true, and_true, true_and, and_self, and_false, false_and, or_true, true_or, or_self, or_false, false_or, xlt_t, xlt_f, xle_t, xle_f, xeq_t, xeq_f, xand_f, xor_t]
  have g02 : V2 0 2 = k + 1 := by rw [s2 0 (by omega), f02]
  have hgo : zGo false 109 0 [.ref 0, .int (zi a), .int (zi b), .null, .null] [] (zm V J d) = zI1 k V2 J2 d := by
    rw [e1, e110, show ((k : Nat) : Int) = V2 0 2 - 1 by omega]
    simp (disch := first | omega | assumption | (simp (disch := omega) only [vup_fn, vup_o, vup_k, vup_at]; first | done | omega | assumption)) only [ze_109_75, Int.add_zero, ↓reduceIte, qw_id, zck_T, zck_t, zGor_v, zGor_n, zGor_e, zbs, vup_at, vup_vup, vup_self, vup_o, vup_k, vup_fn, ne_eq, not_true_eq_false, not_false_eq_true, and_true, true_and, and_self, and_false, false_and, or_true, true_or, or_self, or_false, false_or, xlt_t, xlt_f, xle_t, xle_f, xeq_t, xeq_f, xand_f, xor_t]
  have fr : ∀ o : Nat, 37 ≤ o → o ≠ 50 + 15 * w → o ≠ 230 + 5 * k → o ≠ 233 + 5 * k → V2 o = V o := fun o h1 h2 h3 h4 => (s2 o (by omega)).trans (fo o h2 h3 (by omega))
  have g3 : ∀ o : Nat, 3 ≤ o → o ≤ 6 → V2 o = V o := fun o h1 h2 => (s2 o (by omega)).trans (fo o (by omega) (by omega) (by omega))
  have hm2 : iMs V2 J2 (233 + 5 * k) w (V (232 + 5 * k)) := by
    unfold iMs yTt
    rw [fr 481 (by omega) (by omega) (by omega) (by omega), fr 432 (by omega) (by omega) (by omega) (by omega), g3 3 (by omega) (by omega), g3 4 (by omega) (by omega), g3 5 (by omega) (by omega), g3 6 (by omega) (by omega)]
    exact ⟨n, b', 0, A, fa, hx.1, fun _ => hg0, by rw [show 233 + 5 * k = 230 + 5 * k + 3 by omega]; exact s4⟩
  obtain ⟨U, u0, u454, u455, u480, u480'⟩ : ∃ U : zVt, (∀ o : Nat, o ≠ 454 → o ≠ 455 → o ≠ 480 → U o = V2 o) ∧ (∀ j, U 454 j = if j = (k : Int) then (w : Int) else V 454 j) ∧ (∀ j, U 455 j = if j = (k : Int) then -1 else V 455 j) ∧ U 480 37 = k + 1 ∧ ∀ x, x ≠ 37 → U 480 x = V 480 x := by
    refine ⟨fun o => if o = 454 then (fun j => if j = (k : Int) then (w : Int) else V 454 j) else if o = 455 then (fun j => if j = (k : Int) then -1 else V 455 j) else if o = 480 then (fun x => if x = 37 then k + 1 else V 480 x) else V2 o, fun o h1 h2 h3 => ?_, fun j => rfl, fun j => rfl, rfl, fun x hx => if_neg hx⟩
    show (if o = 454 then _ else if o = 455 then _ else if o = 480 then _ else V2 o) = V2 o
    rw [if_neg h1, if_neg h2, if_neg h3]
  refine ⟨U, J2, ?_, ?_, by rw [hk]; exact u454, by rw [hk]; exact u455, ⟨by rw [u480, hk], u480' 42 (by omega), u480' 46 (by omega), u480' 52 (by omega), u480' 59 (by omega)⟩, fun o h1 h2 h3 h4 h5 h6 h7 => ?_, fun x hx => ?_⟩
  · rw [zm_cg (d := d) (V := U) (V2 := V2) (J := J2) (J2 := J2) (fun o ho => (u0 o (by omega) (by omega) (by omega)).symm) (fun _ _ => rfl), hk]
    exact ws_i (C := 109) rfl rfl (by decide) hgo
  · refine zInv_pr (k := k) hw12 h hk hk4 hr h4 ?_ ?_ ?_ ?_ ?_ ?_ u454 u455 ⟨u480, u480' 42 (by omega), u480' 46 (by omega), u480' 52 (by omega), u480' 59 (by omega)⟩ ?_
    · intro o h1 h2 h3 h4 h5 h6 h7 h8 h9 h10
      rw [u0 o h9 h10 h6, s2 o (by omega)]
      exact fo o h1 h3 h2
    · intro o h1 h2 h3 h4
      exact s3 o (by omega)
    · rw [u0 0 (by omega) (by omega) (by omega)]
      exact ⟨g02, by rw [s2 0 (by omega), f0x]⟩
    · rw [u0 _ (by omega) (by omega) (by omega), s2 _ (by omega), fP3]
    · intro x hx
      rw [u0 _ (by omega) (by omega) (by omega), s2 _ (by omega), fPx x hx]
    · rw [u0 _ (by omega) (by omega) (by omega), s2 _ (by omega), fC0, fC1]
      exact ⟨by omega, rfl⟩
    · exact iMs_fr (u0 _ (by omega) (by omega) (by omega)) rfl (u0 _ (by omega) (by omega) (by omega)) (u0 _ (by omega) (by omega) (by omega)) (u0 _ (by omega) (by omega) (by omega)) ⟨u0 _ (by omega) (by omega) (by omega), u0 _ (by omega) (by omega) (by omega), u0 _ (by omega) (by omega) (by omega)⟩ hm2
  · rw [u0 o h5 h6 h7, s2 o (by omega)]
    exact fo o h4 (by omega) h1
  · rw [u0 _ (by omega) (by omega) (by omega), s2 _ (by omega), fPx x hx]
/-- what day, room and ask leave as it was -/
def lFd (V V' : zVt) : Prop := (∀ o : Nat, ¬(37 ≤ o ∧ o ≤ 45) → o ≠ 480 → ¬(460 ≤ o ∧ o ≤ 467) → V' o = V o) ∧ V' 480 37 = V 480 37 ∧ V' 480 42 = V 480 42 ∧ V' 480 59 = V 480 59
theorem c_day (h : zInv N V J) (hN : N < 600) : ∃ V', wvirt 90 (zm V J d) = some (zi (V 480 46 + 1), zm V' J d) ∧ zInv (N + 1) V' J ∧ lFd V V' ∧ (V' 480 46 = V 480 46 + 1 ∧ V' 480 52 = V 480 52) ∧ V' 467 = V 467 := by
  obtain ⟨V1, g1, g2, g3, g4⟩ := sl64t (J := J) (d := d) 4 (vup V 37 7 (V 37 7 + 1)) 0 .null (by omega) (by omega)
  rw [vup_at] at g1
  have hgo : zGo false 90 0 [.ref 0] [] (zm V J d) = zI1 (V 37 7 + 1) V1 J d := by
    rw [ze_90_0, ze_64_0]
    simp (disch := first | omega | assumption | (simp (disch := omega) only [vup_fn, vup_o, vup_k, vup_at]; first | done | omega | assumption)) only [g1, ze_90_7, Int.add_zero, ↓reduceIte, qw_id, zck_T, zck_t, zGor_v, zGor_n, zGor_e, zbs, vup_at, vup_vup, vup_self, vup_o, vup_k, vup_fn, ne_eq, not_true_eq_false, not_false_eq_true, and_true, true_and, and_self, and_false, false_and, or_true, true_or, or_self, or_false, false_or, xlt_t, xlt_f, xle_t, xle_f, xeq_t, xeq_f, xand_f, xor_t]
  obtain ⟨b1, b2, b3, b4, b5, b6, b7, b8⟩ := h.2.2.2.2.2.2.1
  have q1 : ∀ o : Nat, o ≠ 37 → o ≠ 44 → o ≠ 45 → V1 o = V o := fun o o1 o2 o3 => by rw [g4 o o2 o3, vup_fn o1]
  have q37 : ∀ x, V1 37 x = if x = 7 then V 37 7 + 1 else V 37 x := fun x => by
    rw [g4 37 (by omega) (by omega)]
    by_cases q : x = 7
    · rw [if_pos q, q, vup_at]
    · rw [if_neg q, vup_k q]
  obtain ⟨V3, r0, r480, r461, r462⟩ : ∃ U : zVt, (∀ o : Nat, o ≠ 480 → o ≠ 461 → o ≠ 462 → U o = V1 o) ∧ (∀ x, U 480 x = if x = 46 then V 37 7 + 1 else V 480 x) ∧ (∀ x, U 461 x = if 0 ≤ x ∧ x < 16 then 0 else V 461 x) ∧ ∀ x, U 462 x = if 0 ≤ x ∧ x < 48 then 0 else V 462 x := by
    refine ⟨fun o => if o = 480 then (fun x => if x = 46 then V 37 7 + 1 else V 480 x) else if o = 461 then (fun x => if 0 ≤ x ∧ x < 16 then 0 else V 461 x) else if o = 462 then (fun x => if 0 ≤ x ∧ x < 48 then 0 else V 462 x) else V1 o, fun o h1 h2 h3 => ?_, fun x => rfl, fun x => rfl, fun x => rfl⟩
    show (if o = 480 then _ else if o = 461 then _ else if o = 462 then _ else V1 o) = V1 o
    rw [if_neg h1, if_neg h2, if_neg h3]
  have r1 : ∀ o : Nat, o ≠ 37 → o ≠ 44 → o ≠ 45 → o ≠ 480 → o ≠ 461 → o ≠ 462 → V3 o = V o := fun o o1 o2 o3 o4 o5 o6 => by rw [r0 o o4 o5 o6, q1 o o1 o2 o3]
  have r37 : V3 37 = V1 37 := r0 37 (by omega) (by omega) (by omega)
  have r44 : ∀ x, V3 44 x = if 0 ≤ x ∧ x < 16 then 0 else V 44 x := fun x => by rw [r0 44 (by omega) (by omega) (by omega), g2, vup_o (by omega), Int.zero_mul]
  have r45 : ∀ x, V3 45 x = if 0 ≤ x ∧ x < 4 then 0 else V 45 x := fun x => by rw [r0 45 (by omega) (by omega) (by omega), g3, vup_o (by omega)]
  refine ⟨V3, ?_, ?_, ⟨fun o h1 h2 h3 => r1 o (by omega) (by omega) (by omega) h2 (by omega) (by omega), by rw [r480, if_neg (by omega)], by rw [r480, if_neg (by omega)], by rw [r480, if_neg (by omega)]⟩, ⟨by rw [r480, if_pos rfl, b4], by rw [r480, if_neg (by omega)]⟩, r1 467 (by omega) (by omega) (by omega) (by omega) (by omega) (by omega)⟩
  · rw [zm_cg (d := d) (V := V3) (V2 := V1) (J := J) (J2 := J) (fun o ho => (r0 o (by omega) (by omega) (by omega)).symm) (fun _ _ => rfl), ← b4]
    exact ws_v rfl hgo
  refine zInv_rh h hN (fun o h1 h2 h3 => r1 o (by omega) (by omega) (by omega) h2 (by omega) (by omega)) ⟨by rw [r480, if_neg (by omega)], by rw [r480, if_neg (by omega)], by rw [r480, if_neg (by omega)]⟩ ?_
  unfold iReh
  rw [r1 43 (by omega) (by omega) (by omega) (by omega) (by omega) (by omega), r1 460 (by omega) (by omega) (by omega) (by omega) (by omega) (by omega), r1 38 (by omega) (by omega) (by omega) (by omega) (by omega) (by omega), r1 39 (by omega) (by omega) (by omega) (by omega) (by omega) (by omega), r1 40 (by omega) (by omega) (by omega) (by omega) (by omega) (by omega), r1 41 (by omega) (by omega) (by omega) (by omega) (by omega) (by omega), r1 42 (by omega) (by omega) (by omega) (by omega) (by omega) (by omega), r1 463 (by omega) (by omega) (by omega) (by omega) (by omega) (by omega), r1 464 (by omega) (by omega) (by omega) (by omega) (by omega) (by omega), r1 465 (by omega) (by omega) (by omega) (by omega) (by omega) (by omega), r1 466 (by omega) (by omega) (by omega) (by omega) (by omega) (by omega), r1 467 (by omega) (by omega) (by omega) (by omega) (by omega) (by omega), r37, q37, q37, r480, r480, if_pos rfl, if_pos rfl, if_neg (by omega), if_neg (by omega)]
  refine ⟨b1, fun k k0 k1 => ?_, fun t t0 t1 => ⟨?_, fun s s0 s1 => Or.inl ?_⟩, rfl, by omega, b6, b7, fun k k0 k1 => ?_⟩
  · rw [r44, r461, if_pos (by omega), if_pos (by omega)]
    exact ⟨rfl, Or.inl rfl⟩
  · rw [r45, if_pos (by omega), yHr_cong (g := fun s => if s < 12 then V3 462 (12 * t + s) else 0) (h := fun _ => 0) 16 (by omega) (fun s s0 s1 => by
      show (if s < 12 then V3 462 (12 * t + s) else 0) = 0
      by_cases q : s < 12
      · rw [if_pos q, r462, if_pos (by omega)]
      · rw [if_neg q])]
    rfl
  · rw [r462, if_pos (by omega)]
  · obtain ⟨c1, c2, c3, c4, c5, c6, c7, c8, c9⟩ := b8 k k0 k1
    exact ⟨c1, c2, c3, c4, c5, c6, c7, c8, by omega⟩
theorem c_room (h : zInv N V J) (hN : N < 600) (h1 : 0 ≤ a ∧ a < 4) (h2 : 0 ≤ b ∧ b ≤ 12) : ∃ x V', wstub 20 [zi a, zi b] (zm V J d) = some (zi x, zm V' J d) ∧ (0 ≤ x ∧ x ≤ 12) ∧ zInv (N + 1) V' J ∧ lFd V V' ∧ (V' 480 46 = V 480 46 ∧ V' 480 52 = V 480 52) ∧ V' 467 = V 467 ∧ V' 461 = V 461 := by
  obtain ⟨b1, b2, b3, b4, b5, b6, b7, b8⟩ := h.2.2.2.2.2.2.1
  obtain ⟨k1, k2, k3⟩ := b1 a h1.1 h1.2
  have hgo : zGo false 129 0 [.ref 0, .int (zi a), .int (zi b), .null] [] (zm V J d) = zI1 (V 43 a) (vup V 43 a b) J d := by
    simp (disch := first | omega | assumption | (simp (disch := omega) only [vup_fn, vup_o, vup_k, vup_at]; first | done | omega | assumption)) only [ze_129_0, ze_129_9, ze_129_30, Int.add_zero, ↓reduceIte, qw_id, zck_T, zck_t, zGor_v, zGor_n, zGor_e, zbs, vup_at, vup_vup, vup_self, vup_o, vup_k, vup_fn, ne_eq, not_true_eq_false, not_false_eq_true, and_true, true_and, and_self, and_false, false_and, or_true, true_or, or_self, or_false, false_or, xlt_t, xlt_f, xle_t, xle_f, xeq_t, xeq_f, xand_f, xor_t]
  have fo : ∀ o : Nat, o ≠ 43 → o ≠ 460 → vup (vup V 43 a b) 460 a b o = V o := fun o o1 o3 => by rw [vup_fn o3, vup_fn o1]
  have f43 : ∀ r, vup (vup V 43 a b) 460 a b 43 r = if r = a then b else V 43 r := fun r => by
    rw [vup_o (by omega)]
    by_cases q : r = a
    · rw [if_pos q, q, vup_at]
    · rw [if_neg q, vup_k q]
  have f460 : ∀ r, vup (vup V 43 a b) 460 a b 460 r = if r = a then b else V 460 r := fun r => by
    by_cases q : r = a
    · rw [if_pos q, q, vup_at]
    · rw [if_neg q, vup_k q, vup_o (by omega)]
  have fz : zm (vup V 43 a b) J d = zm (vup (vup V 43 a b) 460 a b) J d := zm_cg (fun o ho => vup_fn (by omega)) (fun _ _ => rfl)
  generalize vup (vup V 43 a b) 460 a b = V' at *
  refine ⟨V 43 a, V', ?_, ⟨k2, k3⟩, ?_, ⟨fun o h1 h2 h3 => fo o (by omega) (by omega), by rw [fo 480 (by omega) (by omega)], by rw [fo 480 (by omega) (by omega)], by rw [fo 480 (by omega) (by omega)]⟩, ⟨by rw [fo 480 (by omega) (by omega)], by rw [fo 480 (by omega) (by omega)]⟩, fo 467 (by omega) (by omega), fo 461 (by omega) (by omega)⟩
  · rw [← fz]
    exact ws_i (C := 129) rfl rfl (by decide) hgo
  refine zInv_rh h hN (fun o o1 o2 o3 => fo o (by omega) (by omega)) ⟨by rw [fo 480 (by omega) (by omega)], by rw [fo 480 (by omega) (by omega)], by rw [fo 480 (by omega) (by omega)]⟩ ?_
  unfold iReh
  rw [fo 44 (by omega) (by omega), fo 45 (by omega) (by omega), fo 461 (by omega) (by omega), fo 462 (by omega) (by omega), fo 37 (by omega) (by omega), fo 38 (by omega) (by omega), fo 39 (by omega) (by omega), fo 40 (by omega) (by omega), fo 41 (by omega) (by omega), fo 42 (by omega) (by omega), fo 463 (by omega) (by omega), fo 464 (by omega) (by omega), fo 465 (by omega) (by omega), fo 466 (by omega) (by omega), fo 467 (by omega) (by omega), fo 480 (by omega) (by omega)]
  refine ⟨fun r r0 r1 => ?_, b2, b3, b4, by omega, b6, b7, fun k k0 k1 => ?_⟩
  · rw [f43, f460]
    by_cases q : r = a
    · rw [if_pos q, if_pos q]
      exact ⟨rfl, h2⟩
    · rw [if_neg q, if_neg q]
      exact b1 r r0 r1
  · obtain ⟨c1, c2, c3, c4, c5, c6, c7, c8, c9⟩ := b8 k k0 k1
    exact ⟨c1, c2, c3, c4, c5, c6, c7, c8, by omega⟩
theorem c_ask (h : zInv N V J) (hN : N < 600) (h1 : 0 ≤ a ∧ a < 3) (h2 : (1 ≤ b ∧ b ≤ 15) ∧ 0 ≤ c ∧ c ≤ e ∧ e < 40) (h3 : V 480 52 < 40) : ∃ V', wstub 21 [zi a, zi b, zi c, zi e] (zm V J d) = some (zi (V 480 52), zm V' J d) ∧ zInv (N + 1) V' J ∧ lFd V V' ∧ (V' 480 46 = V 480 46 ∧ V' 480 52 = V 480 52 + 1) ∧ (∀ x, V' 467 x = if x = V 480 52 then -1 else V 467 x) ∧ V' 461 = V 461 := by
  obtain ⟨b1, b2, b3, b4, b5, b6, b7, b8⟩ := h.2.2.2.2.2.2.1
  have e124 := sp124 (V := V) (J := J) (d := d) (a := a) (by omega)
  rw [if_pos h1] at e124
  obtain ⟨n, hn⟩ : ∃ n, V 480 52 = n := ⟨_, rfl⟩
  rw [hn] at b6 b7 h3
  have e66 : zGo false 66 0 [.ref 37, .int (zi a), .int (zi b), .int (zi c), .int (zi e)] [] (zm V J d) = zI1 n (vup (vup (vup (vup (vup (vup V 38 n a) 39 n b) 40 n c) 41 n e) 42 n (-1)) 37 5 (n + 1)) J d := by
    have ec : n + 1 - 1 = n := by omega
    simp (disch := first | omega | assumption | (simp (disch := omega) only [vup_fn, vup_o, vup_k, vup_at]; first | done | omega | assumption)) only [ze_66_0, b6, ec, Int.add_zero, ↓reduceIte, qw_id, zck_T, zck_t, zGor_v, zGor_n, zGor_e, zbs, vup_at, vup_vup, vup_self, vup_o, vup_k, vup_fn, ne_eq, not_true_eq_false, not_false_eq_true, and_true, true_and, and_self, and_false, false_and, or_true, true_or, or_self, or_false, false_or, xlt_t, xlt_f, xle_t, xle_f, xeq_t, xeq_f, xand_f, xor_t]
  have hgo : zGo false 130 0 [.ref 0, .int (zi a), .int (zi b), .int (zi c), .int (zi e)] [] (zm V J d) = zI1 n (vup (vup (vup (vup (vup (vup V 38 n a) 39 n b) 40 n c) 41 n e) 42 n (-1)) 37 5 (n + 1)) J d := by
    simp (disch := first | omega | assumption | (simp (disch := omega) only [vup_fn, vup_o, vup_k, vup_at]; first | done | omega | assumption)) only [ze_130_0, ze_130_5, ze_130_39, ze_130_85, e124, b6, e66, Int.add_zero, ↓reduceIte, qw_id, zck_T, zck_t, zGor_v, zGor_n, zGor_e, zbs, vup_at, vup_vup, vup_self, vup_o, vup_k, vup_fn, ne_eq, not_true_eq_false, not_false_eq_true, and_true, true_and, and_self, and_false, false_and, or_true, true_or, or_self, or_false, false_or, xlt_t, xlt_f, xle_t, xle_f, xeq_t, xeq_f, xand_f, xor_t]
  have fo : ∀ o : Nat, ¬(37 ≤ o ∧ o ≤ 42) → vup (vup (vup (vup (vup (vup V 38 n a) 39 n b) 40 n c) 41 n e) 42 n (-1)) 37 5 (n + 1) o = V o := fun o ho => by rw [vup_fn (by omega), vup_fn (by omega), vup_fn (by omega), vup_fn (by omega), vup_fn (by omega), vup_fn (by omega)]
  have f37 : ∀ x, vup (vup (vup (vup (vup (vup V 38 n a) 39 n b) 40 n c) 41 n e) 42 n (-1)) 37 5 (n + 1) 37 x = if x = 5 then n + 1 else V 37 x := fun x => by
    by_cases q : x = 5
    · rw [if_pos q, q, vup_at]
    · rw [if_neg q, vup_k q, vup_o (by omega), vup_o (by omega), vup_o (by omega), vup_o (by omega), vup_o (by omega)]
  have f38 : ∀ x, vup (vup (vup (vup (vup (vup V 38 n a) 39 n b) 40 n c) 41 n e) 42 n (-1)) 37 5 (n + 1) 38 x = if x = n then a else V 38 x := fun x => by
    rw [vup_o (by omega), vup_o (by omega), vup_o (by omega), vup_o (by omega), vup_o (by omega)]
    by_cases q : x = n
    · rw [if_pos q, q, vup_at]
    · rw [if_neg q, vup_k q]
  have f39 : ∀ x, vup (vup (vup (vup (vup (vup V 38 n a) 39 n b) 40 n c) 41 n e) 42 n (-1)) 37 5 (n + 1) 39 x = if x = n then b else V 39 x := fun x => by
    rw [vup_o (by omega), vup_o (by omega), vup_o (by omega), vup_o (by omega)]
    by_cases q : x = n
    · rw [if_pos q, q, vup_at]
    · rw [if_neg q, vup_k q, vup_o (by omega)]
  have f40 : ∀ x, vup (vup (vup (vup (vup (vup V 38 n a) 39 n b) 40 n c) 41 n e) 42 n (-1)) 37 5 (n + 1) 40 x = if x = n then c else V 40 x := fun x => by
    rw [vup_o (by omega), vup_o (by omega), vup_o (by omega)]
    by_cases q : x = n
    · rw [if_pos q, q, vup_at]
    · rw [if_neg q, vup_k q, vup_o (by omega), vup_o (by omega)]
  have f41 : ∀ x, vup (vup (vup (vup (vup (vup V 38 n a) 39 n b) 40 n c) 41 n e) 42 n (-1)) 37 5 (n + 1) 41 x = if x = n then e else V 41 x := fun x => by
    rw [vup_o (by omega), vup_o (by omega)]
    by_cases q : x = n
    · rw [if_pos q, q, vup_at]
    · rw [if_neg q, vup_k q, vup_o (by omega), vup_o (by omega), vup_o (by omega)]
  have f42 : ∀ x, vup (vup (vup (vup (vup (vup V 38 n a) 39 n b) 40 n c) 41 n e) 42 n (-1)) 37 5 (n + 1) 42 x = if x = n then -1 else V 42 x := fun x => by
    rw [vup_o (by omega)]
    by_cases q : x = n
    · rw [if_pos q, q, vup_at]
    · rw [if_neg q, vup_k q, vup_o (by omega), vup_o (by omega), vup_o (by omega), vup_o (by omega)]
  generalize vup (vup (vup (vup (vup (vup V 38 n a) 39 n b) 40 n c) 41 n e) 42 n (-1)) 37 5 (n + 1) = V1 at *
  obtain ⟨U, u0, u463, u464, u465, u466, u467, u480⟩ : ∃ U : zVt, (∀ o : Nat, ¬(463 ≤ o ∧ o ≤ 467) → o ≠ 480 → U o = V1 o) ∧ (∀ x, U 463 x = if x = n then a else V 463 x) ∧ (∀ x, U 464 x = if x = n then b else V 464 x) ∧ (∀ x, U 465 x = if x = n then c else V 465 x) ∧ (∀ x, U 466 x = if x = n then e else V 466 x) ∧ (∀ x, U 467 x = if x = n then -1 else V 467 x) ∧ ∀ x, U 480 x = if x = 52 then n + 1 else V 480 x := by
    refine ⟨fun o => if o = 463 then (fun x => if x = n then a else V 463 x) else if o = 464 then (fun x => if x = n then b else V 464 x) else if o = 465 then (fun x => if x = n then c else V 465 x) else if o = 466 then (fun x => if x = n then e else V 466 x) else if o = 467 then (fun x => if x = n then -1 else V 467 x) else if o = 480 then (fun x => if x = 52 then n + 1 else V 480 x) else V1 o, fun o h1 h2 => ?_, fun x => rfl, fun x => rfl, fun x => rfl, fun x => rfl, fun x => rfl, fun x => rfl⟩
    show (if o = 463 then _ else if o = 464 then _ else if o = 465 then _ else if o = 466 then _ else if o = 467 then _ else if o = 480 then _ else V1 o) = V1 o
    rw [if_neg (by omega), if_neg (by omega), if_neg (by omega), if_neg (by omega), if_neg (by omega), if_neg h2]
  have uV : ∀ o : Nat, ¬(37 ≤ o ∧ o ≤ 42) → ¬(463 ≤ o ∧ o ≤ 467) → o ≠ 480 → U o = V o := fun o h1 h2 h3 => by rw [u0 o h2 h3, fo o h1]
  refine ⟨U, ?_, ?_, ⟨fun o h1 h2 h3 => uV o (by omega) (by omega) h2, by rw [u480, if_neg (by omega)], by rw [u480, if_neg (by omega)], by rw [u480, if_neg (by omega)]⟩, ⟨by rw [u480, if_neg (by omega)], by rw [u480, if_pos rfl, hn]⟩, by rw [hn]; exact u467, uV 461 (by omega) (by omega) (by omega)⟩
  · rw [zm_cg (d := d) (V := U) (V2 := V1) (J := J) (J2 := J) (fun o ho => (u0 o (by omega) (by omega)).symm) (fun _ _ => rfl), hn]
    exact ws_i (C := 130) rfl rfl (by decide) hgo
  refine zInv_rh h hN (fun o o1 o2 o3 => uV o (by omega) (by omega) o2) ⟨by rw [u480, if_neg (by omega)], by rw [u480, if_neg (by omega)], by rw [u480, if_neg (by omega)]⟩ ?_
  have uc : ∀ o : Nat, 37 ≤ o → o ≤ 42 → U o = V1 o := fun o h1 h2 => u0 o (by omega) (by omega)
  unfold iReh
  rw [uV 43 (by omega) (by omega) (by omega), uV 44 (by omega) (by omega) (by omega), uV 45 (by omega) (by omega) (by omega), uV 460 (by omega) (by omega) (by omega), uV 461 (by omega) (by omega) (by omega), uV 462 (by omega) (by omega) (by omega), uc 37 (by omega) (by omega), uc 38 (by omega) (by omega), uc 39 (by omega) (by omega), uc 40 (by omega) (by omega), uc 41 (by omega) (by omega), uc 42 (by omega) (by omega), f37, f37, u480, u480, if_neg (by omega), if_neg (by omega), if_pos rfl, if_pos rfl]
  refine ⟨b1, b2, b3, b4, by omega, rfl, by omega, fun k k0 k1 => ?_⟩
  rw [f38, f39, f40, f41, f42, u463, u464, u465, u466, u467]
  by_cases q : k = n
  · rw [if_pos q, if_pos q, if_pos q, if_pos q, if_pos q, if_pos q, if_pos q, if_pos q, if_pos q, if_pos q]
    exact ⟨rfl, rfl, rfl, rfl, rfl, by omega, by omega, by omega, by omega⟩
  · rw [if_neg q, if_neg q, if_neg q, if_neg q, if_neg q, if_neg q, if_neg q, if_neg q, if_neg q, if_neg q]
    obtain ⟨c1, c2, c3, c4, c5, c6, c7, c8, c9⟩ := b8 k k0 (by rw [hn]; omega)
    exact ⟨c1, c2, c3, c4, c5, c6, c7, c8, by omega⟩
end
