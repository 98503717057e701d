/-! part 76: print, the call -/
section
variable {V : zVt} {J : zJt} {N a b : Int}
/-- the reference's error of the text alone, in a state with the same texts -/
theorem mErr2 {d : Nat → Nat → UInt64} (hi : zInv N V J) {w : Nat} (hw : w < 12) (hr : V (50 + 15 * w) 2 = 1) {V1 : zVt} {J1 : zJt} (h1 : V1 431 = V 431 ∧ V1 432 = V 432 ∧ V1 457 = V 457 ∧ V1 458 = V 458 ∧ V1 459 = V 459 ∧ V1 430 42 = V 430 42) : ∃ V' J', zGo false 153 0 [.ref 430, .int (zi 0), .int (zi w), .int (zi (-1))] [] (zm V1 J1 d) = zI1 (V (50 + 15 * w) 4) V' J' d ∧ mFm 0 V1 J1 V' J' := by
  obtain ⟨⟨n, b, F, A, fa, hx, h4, h5⟩, _⟩ := (hi.2.2.1 w hw).2.2.2.2.2.1 hr
  obtain ⟨c1, c2, c3, c4, c5⟩ := hi.2.1
  rw [c3, c4, c5, c2] at h4
  obtain ⟨k1, k2, k3, k4, k5, k6⟩ := h1
  have hx1 := hx.1
  have ht := hi.1.1
  rw [← k1, ← k2] at ht
  unfold yTt at hx1 h4
  rw [← k1, ← k2] at hx1
  obtain ⟨V', J', q1, q2, q3, q4, q5, q6, q7, q8⟩ := sm153 (V := V1) (J := J1) (d := d) ht (w := w) (s := 0) (e := -1) (by omega) (by decide) (Or.inl ⟨rfl, fun _ => rfl⟩) k6 hx1 (fun _ => aGood_0 c1 (fun _ _ _ => rfl))
  rw [k1, k2, k3, k4, k5] at q1
  rw [h4]
  exact ⟨V', J', q1, q2⟩
theorem x109 (h : zInv N V J) (hN : N < 600) (ha : -2147483648 ≤ a ∧ a < 2147483648) (hb : -2147483648 ≤ b ∧ b < 2147483648) : zTw N V J 109 [.ref 0, .int (zi a), .int (zi b), .null, .null] 187 [.ref 430, .int (zi a), .int (zi b), .null, .null] [0, 2] := by
  intro d
  by_cases hp : (0 ≤ a ∧ a < 3) ∧ (0 ≤ b ∧ b < 4)
  · skip
    obtain ⟨V1, J1, q1, q2, q3, q4, q5⟩ := cp100 (d := d) h hp
    have hw12 : (4 * a + b).toNat < 12 := by omega
    have hwi : (((4 * a + b).toNat : Nat) : Int) = 4 * a + b := by omega
    generalize (4 * a + b).toNat = w at *
    have hB := zBk_part hw12
    have hB10 := zBk_6row hB
    have hB5 := zBk_6music hB
    have hwt : (a * 4 + b).toNat = w := by omega
    have hf4 := cRd_f q2 hw12 q4
    have h37 := q2.2.2.2.1
    by_cases hok : V1 (50 + 15 * w) 4 = 0 ∧ V1 430 37 < 40
    · left
      obtain ⟨k, hk⟩ : ∃ k : Nat, V1 430 37 = k := ⟨(V1 430 37).toNat, by omega⟩
      have hk2 : V1 0 2 = k := by omega
      have hk4 : k < 40 := by omega
      have hkn : ((k : Nat) : Int).toNat = k := by omega
      have hBc := zBk_copy hk4
      have hBm := zBk_0marks hBc
      have hBu := zBk_0music hBc
      obtain ⟨⟨n, b', F, A, fa, hx, h4, h5⟩, _⟩ := (q2.2.2.1 w hw12).2.2.2.2.2.1 q4
      have hF : F = 0 := by
        rw [hok.1] at h4
        by_cases hF : F = 0
        · exact hF
        · exact absurd (h4.trans (if_pos hF)).symm hF
      subst hF
      have hz := (q2.2.2.2.2.1 k hk4).2.2 (by omega)
      have hco := q2.2.1
      have ht := zt_ok q2.1.1 (w := (w : Int)) (by omega)
      have fo : ∀ o : Nat, o ≠ 50 + 15 * w → o ≠ 230 + 5 * k → o ≠ 0 → vup (vup (vup V1 (50 + 15 * w) 3 1) (230 + 5 * k) 0 (a * 4 + b)) 0 2 (k + 1) o = V1 o := fun o h1 h2 h3 => by rw [vup_fn h3, vup_fn h2, vup_fn h1]
      have fP3 : vup (vup (vup V1 (50 + 15 * w) 3 1) (230 + 5 * k) 0 (a * 4 + b)) 0 2 (k + 1) (50 + 15 * w) 3 = 1 := by rw [vup_o (by omega), vup_o (by omega), vup_at]
      have fPx : ∀ x, x ≠ 3 → vup (vup (vup V1 (50 + 15 * w) 3 1) (230 + 5 * k) 0 (a * 4 + b)) 0 2 (k + 1) (50 + 15 * w) x = V1 (50 + 15 * w) x := fun x hx => by rw [vup_o (by omega), vup_o (by omega), vup_k hx]
      have fC0 : vup (vup (vup V1 (50 + 15 * w) 3 1) (230 + 5 * k) 0 (a * 4 + b)) 0 2 (k + 1) (230 + 5 * k) 0 = a * 4 + b := by rw [vup_o (by omega), vup_at]
      have fC1 : vup (vup (vup V1 (50 + 15 * w) 3 1) (230 + 5 * k) 0 (a * 4 + b)) 0 2 (k + 1) (230 + 5 * k) 1 = V1 (230 + 5 * k) 1 := by rw [vup_o (by omega), vup_k (by omega), vup_o (by omega)]
      have f02 : vup (vup (vup V1 (50 + 15 * w) 3 1) (230 + 5 * k) 0 (a * 4 + b)) 0 2 (k + 1) 0 2 = k + 1 := vup_at _ _ _ _
      have f0x : vup (vup (vup V1 (50 + 15 * w) 3 1) (230 + 5 * k) 0 (a * 4 + b)) 0 2 (k + 1) 0 11 = V1 0 11 := by rw [vup_k (by omega), vup_o (by omega), vup_o (by omega)]
      have e1 : zGo false 109 0 [.ref 0, .int (zi a), .int (zi b), .null, .null] [] (zm V J d) = (zGo false 110 0 [.ref 0, .ref (230 + 5 * k)] [] (zm (vup (vup (vup V1 (50 + 15 * w) 3 1) (230 + 5 * k) 0 (a * 4 + b)) 0 2 (k + 1)) J1 d)).bind (zGor false 109 75 [.ref 0, .int (zi a), .int (zi b), .ref (50 + 15 * w), .ref (230 + 5 * k)] []) := by
        rw [ze_109_0]
        simp (disch := first | omega | assumption | (simp (disch := omega) only [vup_fn, vup_o, vup_k, vup_at]; first | done | omega | assumption)) only [q1, ze_109_6, hk2, hkn, Int.add_zero, ↓reduceIte, qw_id, zck_T, zck_t, zGor_v, zGor_n, zGor_e, zbs, vup_at, vup_vup, vup_self, vup_o, vup_k, vup_fn, ne_eq, not_true_eq_false, not_false_eq_true, and_true, true_and, and_self, and_false, false_and, or_true, true_or, or_self, or_false, false_or, xlt_t, xlt_f, xle_t, xle_f, xeq_t, xeq_f, xand_f, xor_t]
      generalize vup (vup (vup V1 (50 + 15 * w) 3 1) (230 + 5 * k) 0 (a * 4 + b)) 0 2 (k + 1) = Va at *
      have e52 : 50 + 15 * w + 2 = 52 + 15 * w := by omega
      have hrow : cRow Va (52 + 15 * w) (yTt V1 w) (V1 432 w) n b' 0 A fa := by
        unfold cRow cTok7 at *
        rw [fo (52 + 15 * w) (by omega) (by omega) (by omega), fo (52 + 15 * w + 1) (by omega) (by omega) (by omega), fo (52 + 15 * w + 2) (by omega) (by omega) (by omega), fo (52 + 15 * w + 3) (by omega) (by omega) (by omega), fo (52 + 15 * w + 4) (by omega) (by omega) (by omega), fo (52 + 15 * w + 5) (by omega) (by omega) (by omega), fo (52 + 15 * w + 6) (by omega) (by omega) (by omega), fo (52 + 15 * w + 7) (by omega) (by omega) (by omega), fo (52 + 15 * w + 8) (by omega) (by omega) (by omega)]
        exact hx
      have f232 : Va (230 + 5 * k + 1 + 1) = V1 (232 + 5 * k) := by rw [show 230 + 5 * k + 1 + 1 = 232 + 5 * k by omega]; exact fo _ (by omega) (by omega) (by omega)
      have hg0 : aGood (yTt V1 w) (V1 (232 + 5 * k)) (V1 4) (V1 5) (V1 6) (V1 3 0) n := aGood_0 (by rw [hco.2.1]; exact hco.1) hz.2
      have hg : aGood (yTt V1 w) (Va (230 + 5 * k + 1 + 1)) (Va 4) (Va 5) (Va 6) (V1 3 0) n := by
        rw [f232, fo 4 (by omega) (by omega) (by omega), fo 5 (by omega) (by omega) (by omega), fo 6 (by omega) (by omega) (by omega)]
        exact hg0
      rw [e52] at hB10
      obtain ⟨V2, J2, s1, s2, s3, s4⟩ := sn68 (d := d) (V := Va) (J := J1) (T := yTt V1 w) (x := 52 + 15 * w) (Mk := 230 + 5 * k + 1) (M := 230 + 5 * k + 3) (cnt := V1 3 0) hB10 (by omega) hBm (by omega) hBu (by omega) hrow ht (by rw [fo 3 (by omega) (by omega) (by omega)]) hg
      rw [f232, fo 4 (by omega) (by omega) (by omega), fo 5 (by omega) (by omega) (by omega), fo 6 (by omega) (by omega) (by omega)] at s4
      have e110 : zGo false 110 0 [.ref 0, .ref (230 + 5 * k)] [] (zm Va J1 d) = zN1 V2 J2 d := by
        rw [← e52] at s1
        simp (disch := first | omega | assumption | (simp (disch := omega) only [vup_fn, vup_o, vup_k, vup_at]; first | done | omega | assumption)) only [ze_110_0, ze_110_31, fC0, hwt, s1, Int.add_zero, ↓reduceIte, qw_id, zck_T, zck_t, zGor_v, zGor_n, zGor_e, zbs, vup_at, vup_vup, vup_self, vup_o, vup_k, vup_fn, ne_eq, not_true_eq_false, not_false_eq_true, and_true, true_and, and_self, and_false, false_and, or_true, true_or, or_self, or_false, false_or, xlt_t, xlt_f, xle_t, xle_f, xeq_t, xeq_f, xand_f, xor_t]
      have g02 : V2 0 2 = k + 1 := by rw [s2 0 (by omega), f02]
      refine ⟨k, V2, J2, ?_, ?_⟩
      · rw [e1, e110, show ((k : Nat) : Int) = V2 0 2 - 1 by omega]
        simp (disch := first | omega | assumption | (simp (disch := omega) only [vup_fn, vup_o, vup_k, vup_at]; first | done | omega | assumption)) only [ze_109_75, Int.add_zero, ↓reduceIte, qw_id, zck_T, zck_t, zGor_v, zGor_n, zGor_e, zbs, vup_at, vup_vup, vup_self, vup_o, vup_k, vup_fn, ne_eq, not_true_eq_false, not_false_eq_true, and_true, true_and, and_self, and_false, false_and, or_true, true_or, or_self, or_false, false_or, xlt_t, xlt_f, xle_t, xle_f, xeq_t, xeq_f, xand_f, xor_t]
      intro J3 d2 hj
      have fr : ∀ o : Nat, 37 ≤ o → o ≠ 50 + 15 * w → o ≠ 230 + 5 * k → o ≠ 233 + 5 * k → V2 o = V1 o := fun o h1 h2 h3 h4 => (s2 o (by omega)).trans (fo o h2 h3 (by omega))
      have i1 := sm146 (V := V2) (J := J3) (d := d2) ha hb
      rw [if_pos hp] at i1
      obtain ⟨V4, J4, m1, m2⟩ := mErr2 (d := d2) q2 hw12 q4 (V1 := V2) (J1 := J3) ⟨fr _ (by omega) (by omega) (by omega) (by omega), fr _ (by omega) (by omega) (by omega) (by omega), fr _ (by omega) (by omega) (by omega) (by omega), fr _ (by omega) (by omega) (by omega) (by omega), fr _ (by omega) (by omega) (by omega) (by omega), by rw [fr 430 (by omega) (by omega) (by omega) (by omega)]⟩
      rw [hok.1, hwi] at m1
      have g37 : V4 430 37 = k := by rw [m2.2.1 37 (by omega), fr 430 (by omega) (by omega) (by omega) (by omega)]; exact hk
      have e2 := sm150 (V := V4) (J := J4) (d := d2) (p := 1) (q := 1) (r := 1) (by omega) (by omega) (by omega)
      rw [if_pos (show gC 1 1 1 = 0 from rfl)] at e2
      refine ⟨k, vup (vup (vup (vup V4 430 60 (gC 1 1 1)) 454 k (4 * a + b)) 455 k (-1)) 430 37 (k + 1), J4, ?_, by rw [vup_k (by omega), vup_o (by omega), vup_o (by omega), vup_at]; rfl, ?_, mN5 m2, fun _ => rfl⟩
      · rw [show zI1 k (vup (vup (vup (vup V4 430 60 (gC 1 1 1)) 454 k (4 * a + b)) 455 k (-1)) 430 37 (k + 1)) J4 d2 = zI1 (((k : Int) + 1) - 1) (vup (vup (vup (vup V4 430 60 (gC 1 1 1)) 454 k (4 * a + b)) 455 k (-1)) 430 37 (k + 1)) J4 d2 by rw [show ((k : Int) + 1) - 1 = k by omega]]
        simp (disch := first | omega | assumption | (simp (disch := omega) only [vup_fn, vup_o, vup_k, vup_at]; first | done | omega | assumption)) only [ze_187_0, ze_187_5, ze_187_27, ze_187_43, ze_187_44, ze_187_48, i1, e2, m1, g37, Int.add_zero, ↓reduceIte, qw_id, zck_T, zck_t, zGor_v, zGor_n, zGor_e, zbs, vup_at, vup_vup, vup_self, vup_o, vup_k, vup_fn, ne_eq, not_true_eq_false, not_false_eq_true, and_true, true_and, and_self, and_false, false_and, or_true, true_or, or_self, or_false, false_or, xlt_t, xlt_f, xle_t, xle_f, xeq_t, xeq_f, xand_f, xor_t]
      have g3 : ∀ o : Nat, 3 ≤ o → o ≤ 6 → V2 o = V1 o := fun o h1 h2 => (s2 o (by omega)).trans (fo o (by omega) (by omega) (by omega))
      have hm2 : iMs V2 J2 (233 + 5 * k) w (V1 (232 + 5 * k)) := by
        unfold iMs yTt
        rw [fr 431 (by omega) (by omega) (by omega) (by omega), fr 432 (by omega) (by omega) (by omega) (by omega), g3 3 (by omega) (by omega), g3 4 (by omega) (by omega), g3 5 (by omega) (by omega), g3 6 (by omega) (by omega)]
        exact ⟨n, b', 0, A, fa, hx.1, fun _ => hg0, by rw [show 233 + 5 * k = 230 + 5 * k + 3 by omega]; exact s4⟩
      have hv : ∀ o : Nat, o ≠ 430 → o ≠ 454 → o ≠ 455 → vup (vup (vup (vup V4 430 60 (gC 1 1 1)) 454 k (4 * a + b)) 455 k (-1)) 430 37 (k + 1) o = V4 o := fun o h1 h2 h3 => by rw [vup_fn h1, vup_fn h3, vup_fn h2, vup_fn h1]
      have h4' : ∀ o : Nat, ¬(o = 430 ∨ (433 ≤ o ∧ o ≤ 450) ∨ o = 453) → V4 o = V2 o := fun o ho => m2.1 o ho
      have h430 : ∀ x, ¬(10 ≤ x ∧ x ≤ 28) → x ≠ 37 → x ≠ 60 → vup (vup (vup (vup V4 430 60 (gC 1 1 1)) 454 k (4 * a + b)) 455 k (-1)) 430 37 (k + 1) 430 x = V1 430 x := fun x hx h37 h60 => by rw [vup_k h37, vup_o (by omega), vup_o (by omega), vup_k h60, m2.2.1 x hx, fr 430 (by omega) (by omega) (by omega) (by omega)]
      refine zInv_up (zInv_pr (k := k) hw12 q2 hk hk4 q4 hok.1 ?_ ?_ ?_ ?_ ?_ ?_ ?_ ?_ ?_ ?_) hN
      · intro o h1 h2 h3 h4 h5 h6 h7 h8 h9 h10
        rw [hv o h6 h9 h10, h4' o (by omega), s2 o (by omega)]
        exact fo o h1 h3 h2
      · intro o h1 h2 h3 h4
        rw [m2.2.2.2.2.1 o h3 h4, hj o (by omega)]
        exact s3 o (by omega)
      · rw [hv 0 (by omega) (by omega) (by omega), h4' 0 (by omega)]
        exact ⟨g02, by rw [s2 0 (by omega), f0x]⟩
      · rw [hv _ (by omega) (by omega) (by omega), h4' _ (by omega), s2 _ (by omega), fP3]
      · intro x hx
        rw [hv _ (by omega) (by omega) (by omega), h4' _ (by omega), s2 _ (by omega), fPx x hx]
      · rw [hv _ (by omega) (by omega) (by omega), h4' _ (by omega), s2 _ (by omega), fC0, fC1]
        exact ⟨by omega, rfl⟩
      · intro j
        by_cases e : j = k
        · rw [if_pos e, e, vup_o (by omega), vup_o (by omega), vup_at]
          omega
        · rw [if_neg e, vup_o (by omega), vup_o (by omega), vup_k e, vup_o (by omega), h4' 454 (by omega), fr 454 (by omega) (by omega) (by omega) (by omega)]
      · intro j
        by_cases e : j = k
        · rw [if_pos e, e, vup_o (by omega), vup_at]
        · rw [if_neg e, vup_o (by omega), vup_k e, vup_o (by omega), vup_o (by omega), h4' 455 (by omega), fr 455 (by omega) (by omega) (by omega) (by omega)]
      · exact ⟨vup_at _ _ _ _, h430 42 (by omega) (by omega) (by omega), h430 46 (by omega) (by omega) (by omega), h430 52 (by omega) (by omega) (by omega), h430 59 (by omega) (by omega) (by omega)⟩
      · refine iMs_fr ?_ ?_ ?_ ?_ ?_ ⟨?_, ?_, ?_⟩ hm2
        · rw [hv _ (by omega) (by omega) (by omega), h4' _ (by omega)]
        · rw [m2.2.2.2.2.1 _ (by omega) (by omega), hj _ (by omega)]
        · rw [hv _ (by omega) (by omega) (by omega), h4' _ (by omega)]
        · rw [hv _ (by omega) (by omega) (by omega), h4' _ (by omega)]
        · rw [hv _ (by omega) (by omega) (by omega), h4' _ (by omega)]
        · rw [hv _ (by omega) (by omega) (by omega), h4' _ (by omega)]
        · rw [hv _ (by omega) (by omega) (by omega), h4' _ (by omega)]
        · rw [hv _ (by omega) (by omega) (by omega), h4' _ (by omega)]
    · right
      refine ⟨1, 2, V1, J1, rfl, ?_, zRn_of q2 hN ?_⟩
      · by_cases f0 : V1 (50 + 15 * w) 4 = 0
        · simp (disch := first | omega | assumption | (simp (disch := omega) only [vup_fn, vup_o, vup_k, vup_at]; first | done | omega | assumption)) only [ze_109_0, ze_109_6, ze_109_23, ze_109_75, q1, Int.add_zero, ↓reduceIte, qw_id, zck_T, zck_t, zGor_v, zGor_n, zGor_e, zbs, vup_at, vup_vup, vup_self, vup_o, vup_k, vup_fn, ne_eq, not_true_eq_false, not_false_eq_true, and_true, true_and, and_self, and_false, false_and, or_true, true_or, or_self, or_false, false_or, xlt_t, xlt_f, xle_t, xle_f, xeq_t, xeq_f, xand_f, xor_t]
        · simp (disch := first | omega | assumption | (simp (disch := omega) only [vup_fn, vup_o, vup_k, vup_at]; first | done | omega | assumption)) only [ze_109_0, ze_109_6, ze_109_23, ze_109_75, q1, Int.add_zero, ↓reduceIte, qw_id, zck_T, zck_t, zGor_v, zGor_n, zGor_e, zbs, vup_at, vup_vup, vup_self, vup_o, vup_k, vup_fn, ne_eq, not_true_eq_false, not_false_eq_true, and_true, true_and, and_self, and_false, false_and, or_true, true_or, or_self, or_false, false_or, xlt_t, xlt_f, xle_t, xle_f, xeq_t, xeq_f, xand_f, xor_t]
      intro J2 d2 hj hi
      have e1 := sm146 (V := V1) (J := J2) (d := d2) ha hb
      rw [if_pos hp] at e1
      obtain ⟨V3, J3, m1, m2, m3, m4⟩ := mErr (d := d2) hi hw12 q4
      rw [hwi] at m1
      have g37 : V3 430 37 = V1 430 37 := m2.2.1 37 (by omega)
      have e2 := sm150 (V := V3) (J := J3) (d := d2) (p := 1) (q := 0) (r := 1) (by omega) (by omega) (by omega)
      rw [if_neg (show ¬ gC 1 0 1 = 0 by decide)] at e2
      refine ⟨0, vup V3 430 60 (gC 1 0 1), J3, ?_, vup_at _ _ _ _, pM_t (mFm_pM m2) pM_60, pC_t (mFm_pC m2) pC_60, mN5 m2, fun _ => by omega⟩
      by_cases f0 : V1 (50 + 15 * w) 4 = 0
      · simp (disch := first | omega | assumption | (simp (disch := omega) only [vup_fn, vup_o, vup_k, vup_at]; first | done | omega | assumption)) only [ze_187_0, ze_187_5, ze_187_27, ze_187_43, ze_187_44, ze_187_48, e1, e2, m1, g37, Int.add_zero, ↓reduceIte, qw_id, zck_T, zck_t, zGor_v, zGor_n, zGor_e, zbs, vup_at, vup_vup, vup_self, vup_o, vup_k, vup_fn, ne_eq, not_true_eq_false, not_false_eq_true, and_true, true_and, and_self, and_false, false_and, or_true, true_or, or_self, or_false, false_or, xlt_t, xlt_f, xle_t, xle_f, xeq_t, xeq_f, xand_f, xor_t]
      · simp (disch := first | omega | assumption | (simp (disch := omega) only [vup_fn, vup_o, vup_k, vup_at]; first | done | omega | assumption)) only [ze_187_0, ze_187_5, ze_187_27, ze_187_43, ze_187_44, ze_187_48, e1, e2, m1, g37, Int.add_zero, ↓reduceIte, qw_id, zck_T, zck_t, zGor_v, zGor_n, zGor_e, zbs, vup_at, vup_vup, vup_self, vup_o, vup_k, vup_fn, ne_eq, not_true_eq_false, not_false_eq_true, and_true, true_and, and_self, and_false, false_and, or_true, true_or, or_self, or_false, false_or, xlt_t, xlt_f, xle_t, xle_f, xeq_t, xeq_f, xand_f, xor_t]
  · right
    have e := cp100e (V := V) (J := J) (d := d) ha hb hp
    refine ⟨0, 0, V, J, rfl, ?_, zRn_of h hN ?_⟩
    · simp (disch := first | omega | assumption | (simp (disch := omega) only [vup_fn, vup_o, vup_k, vup_at]; first | done | omega | assumption)) only [ze_109_0, ze_109_6, ze_109_23, ze_109_75, e, Int.add_zero, ↓reduceIte, qw_id, zck_T, zck_t, zGor_v, zGor_n, zGor_e, zbs, vup_at, vup_vup, vup_self, vup_o, vup_k, vup_fn, ne_eq, not_true_eq_false, not_false_eq_true, and_true, true_and, and_self, and_false, false_and, or_true, true_or, or_self, or_false, false_or, xlt_t, xlt_f, xle_t, xle_f, xeq_t, xeq_f, xand_f, xor_t]
    intro J2 d2 hj hi
    have e1 := sm146 (V := V) (J := J2) (d := d2) ha hb
    rw [if_neg hp] at e1
    have e2 := sm150 (V := V) (J := J2) (d := d2) (p := 0) (q := 0) (r := 1) (by omega) (by omega) (by omega)
    rw [if_neg (show ¬ gC 0 0 1 = 0 by decide)] at e2
    refine ⟨0, vup V 430 60 (gC 0 0 1), J2, ?_, vup_at _ _ _ _, pM_60, pC_60, rfl, fun w => by omega⟩
    simp (disch := first | omega | assumption | (simp (disch := omega) only [vup_fn, vup_o, vup_k, vup_at]; first | done | omega | assumption)) only [ze_187_0, ze_187_5, ze_187_27, ze_187_43, ze_187_44, ze_187_48, e1, e2, Int.add_zero, ↓reduceIte, qw_id, zck_T, zck_t, zGor_v, zGor_n, zGor_e, zbs, vup_at, vup_vup, vup_self, vup_o, vup_k, vup_fn, ne_eq, not_true_eq_false, not_false_eq_true, and_true, true_and, and_self, and_false, false_and, or_true, true_or, or_self, or_false, false_or, xlt_t, xlt_f, xle_t, xle_f, xeq_t, xeq_f, xand_f, xor_t]
end
