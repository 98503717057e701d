/-! part 91: what singers have learned; learned, misled -/
/-- whether bar b of music M is what was learned last at place i -/
def oKi (V : zVt) (J : zJt) (i : Int) (M : Nat) (b : Int) : Int := if (0 < V 47 i ∧ b < V M 2) ∧ J 48 i = J (M + 1) (2 * b) ∧ J 49 i = J (M + 1) (2 * b + 1) then 1 else 0
theorem oKi_01 (V : zVt) (J : zJt) (i : Int) (M : Nat) (b : Int) : oKi V J i M b = 0 ∨ oKi V J i M b = 1 := by
  unfold oKi
  split
  · exact Or.inr rfl
  · exact Or.inl rfl
theorem zby_2 {L1 M1 L2 M2 : Int64} : (L1 = L2 ∧ M1 = M2) ↔ ∀ t, 0 ≤ t → t < 16 → (if t < 8 then zby L1 t else zby M1 (t - 8)) = if t < 8 then zby L2 t else zby M2 (t - 8) := by
  constructor
  · rintro ⟨h1, h2⟩ t _ _
    rw [h1, h2]
  · intro h
    refine ⟨zby_ext (fun r r0 r1 => ?_), zby_ext (fun r r0 r1 => ?_)⟩
    · have e := h r r0 (by omega)
      rw [if_pos r1, if_pos r1] at e
      exact e
    · have e := h (r + 8) (by omega) (by omega)
      rw [if_neg (by omega), if_neg (by omega), show r + 8 - 8 = r by omega] at e
      exact e
theorem yB_rng {x : Int} (h : yByte x) : 0 ≤ x ∧ x < 256 := by
  unfold yByte at h
  omega
theorem iLb_eq {V : zVt} {J : zJt} {i : Int} (h : iLb V J i) {U : zVt} {I : zJt} {M : Nat} {W : zVt} {K : zJt} {s b : Int} (h2 : rMus U I M W K s) (hb : 0 ≤ b ∧ b < U M 2) : (J 468 i = K 451 (40 * s + b) ∧ J 469 i = K 452 (40 * s + b) ∧ V 470 i = W 453 (40 * s + b)) ↔ (J 48 i = I (M + 1) (2 * b) ∧ J 49 i = I (M + 1) (2 * b + 1)) := by
  obtain ⟨B, hB, h8, h470⟩ := h
  have g2 := rMus_bg h2 hb
  have hc : ∀ t, (if t < 8 then zby (I (M + 1) (2 * b)) t else zby (I (M + 1) (2 * b + 1)) (t - 8)) = cSd I M b t := fun t => rfl
  have hl : ∀ t, 0 ≤ t → t < 16 → (if t < 8 then zby (J 48 i) t else zby (J 49 i) (t - 8)) = B t := fun t t0 t1 => by
    by_cases q : t < 8
    · rw [if_pos q]
      exact (h8 t t0 q).1
    · rw [if_neg q, (h8 (t - 8) (by omega) (by omega)).2.1, show t - 8 + 8 = t by omega]
  have hm : ∀ t, 0 ≤ t → t < 16 → (if t < 8 then zby (J 468 i) t else zby (J 469 i) (t - 8)) = yMb (B t) := fun t t0 t1 => by
    by_cases q : t < 8
    · rw [if_pos q]
      exact (h8 t t0 q).2.2.1
    · rw [if_neg q, (h8 (t - 8) (by omega) (by omega)).2.2.2, show t - 8 + 8 = t by omega]
  have hn : ∀ t, 0 ≤ t → t < 16 → (if t < 8 then zby (K 451 (40 * s + b)) t else zby (K 452 (40 * s + b)) (t - 8)) = yMb (cSd I M b t) := fun t t0 t1 => by
    by_cases q : t < 8
    · rw [if_pos q]
      exact (rMus_by h2 hb ⟨t0, t1⟩).1 q
    · rw [if_neg q]
      exact (rMus_by h2 hb ⟨t0, t1⟩).2 (by omega)
  rw [zby_2]
  constructor
  · rintro ⟨c1, c2, c3⟩ t t0 t1
    rw [h470, g2] at c3
    have y3 := yHr_eq (yBg_b01 B) (yBg_b01 (fun t => cSd I M b t)) 16 (by omega) c3 t (by omega) t1
    have y4 := zby_2.1 ⟨c1, c2⟩ t t0 t1
    rw [hm t t0 t1, hn t t0 t1] at y4
    rw [hl t t0 t1, hc t]
    exact yMB_inj (yB_rng (hB t t0 t1)) (cSd_rng _ _ _ _) y4 y3
  · intro h
    have h3 : ∀ t, 0 ≤ t → t < 16 → B t = cSd I M b t := fun t t0 t1 => by
      have e := h t t0 t1
      rw [hl t t0 t1, hc t] at e
      exact e
    have h4 : J 468 i = K 451 (40 * s + b) ∧ J 469 i = K 452 (40 * s + b) := zby_2.2 (fun t t0 t1 => by rw [hm t t0 t1, hn t t0 t1, h3 t t0 t1])
    refine ⟨h4.1, h4.2, ?_⟩
    rw [h470, g2]
    refine yHr_cong 16 (by omega) (fun t t0 t1 => ?_)
    show yBg (B t) = yBg (cSd I M b t)
    rw [h3 t t0 t1]
section
variable {V : zVt} {J : zJt} {N s w b : Int} {d : Nat → Nat → UInt64}
theorem sp20 {x y z : Int} : zGo false 20 0 [.ref 46, .int (zi x), .int (zi y), .int (zi z)] [] (zm V J d) = zI1 ((x * 12 + y) * 40 + z) V J d := by
  simp (disch := first | omega | assumption | (simp (disch := omega) only [vup_fn, vup_o, vup_k, vup_at]; first | done | omega | assumption)) only [ze_20_0, Int.add_zero, ↓reduceIte, qw_id, zck_T, zck_t, zGor_v, zGor_n, zGor_e, zbs, vup_at, vup_vup, vup_self, vup_o, vup_k, vup_fn, ne_eq, not_true_eq_false, not_false_eq_true, and_true, true_and, and_self, and_false, false_and, or_true, true_or, or_self, or_false, false_or, xlt_t, xlt_f, xle_t, xle_f, xeq_t, xeq_f, xand_f, xor_t]
theorem sp22 (hs : 0 ≤ s ∧ s < 12) (hw : 0 ≤ w ∧ w < 12) (hb : 0 ≤ b ∧ b < 40) : zGo false 22 0 [.ref 46, .int (zi s), .int (zi w), .int (zi b)] [] (zm V J d) = zI1 (V 47 ((s * 12 + w) * 40 + b)) V J d := by
  have e := sp20 (V := V) (J := J) (d := d) (x := s) (y := w) (z := b)
  simp (disch := first | omega | assumption | (simp (disch := omega) only [vup_fn, vup_o, vup_k, vup_at]; first | done | omega | assumption)) only [ze_22_0, ze_22_11, e, Int.add_zero, ↓reduceIte, qw_id, zck_T, zck_t, zGor_v, zGor_n, zGor_e, zbs, vup_at, vup_vup, vup_self, vup_o, vup_k, vup_fn, ne_eq, not_true_eq_false, not_false_eq_true, and_true, true_and, and_self, and_false, false_and, or_true, true_or, or_self, or_false, false_or, xlt_t, xlt_f, xle_t, xle_f, xeq_t, xeq_f, xand_f, xor_t]
/-- knows of the class -/
theorem sp21 {M : Nat} (hM : zBk 5 M) (hs : 0 ≤ s ∧ s < 12) (hw : 0 ≤ w ∧ w < 12) (hb : 0 ≤ b ∧ b < 40) (r : 0 ≤ V M 2 ∧ V M 2 ≤ 40) (hi : 0 ≤ V 47 ((s * 12 + w) * 40 + b) ∧ V 47 ((s * 12 + w) * 40 + b) ≤ 100000) : zGo false 21 0 [.ref 46, .int (zi s), .int (zi w), .ref M, .int (zi b), .null] [] (zm V J d) = zI1 (oKi V J ((s * 12 + w) * 40 + b) M b) V J d := by
  have e := sp20 (V := V) (J := J) (d := d) (x := s) (y := w) (z := b)
  have e30 := sp30 (V := V) (J := J) (d := d) (b := b) hM (by omega) r
  have hix : 0 ≤ (s * 12 + w) * 40 + b ∧ (s * 12 + w) * 40 + b < 5760 := by omega
  unfold oKi
  generalize (s * 12 + w) * 40 + b = i at *
  by_cases c1 : 0 < V 47 i
  · by_cases c2 : b < V M 2
    · rw [if_pos ⟨hb.1, c2⟩] at e30
      have e31 := sp31 (V := V) (J := J) (d := d) hM ⟨hb.1, c2⟩ r.2
      have e32 := sp32 (V := V) (J := J) (d := d) hM ⟨hb.1, c2⟩ r.2
      by_cases c3 : J 48 i = J (M + 1) (2 * b)
      · have l3 := lcmp_e c3
        by_cases c4 : J 49 i = J (M + 1) (2 * b + 1)
        · have l4 := lcmp_e c4
          rw [if_pos ⟨⟨c1, c2⟩, c3, c4⟩]
          simp (disch := first | omega | assumption | (simp (disch := omega) only [vup_fn, vup_o, vup_k, vup_at]; first | done | omega | assumption)) only [ze_21_0, ze_21_8, ze_21_26, ze_21_42, ze_21_59, ze_21_67, ze_21_68, e, e30, e31, e32, l3, l4, Int.add_zero, ↓reduceIte, qw_id, zck_T, zck_t, zGor_v, zGor_n, zGor_e, zbs, vup_at, vup_vup, vup_self, vup_o, vup_k, vup_fn, ne_eq, not_true_eq_false, not_false_eq_true, and_true, true_and, and_self, and_false, false_and, or_true, true_or, or_self, or_false, false_or, xlt_t, xlt_f, xle_t, xle_f, xeq_t, xeq_f, xand_f, xor_t]
        · rw [if_neg (fun q => c4 q.2.2)]
          rcases lcmp_n c4 with l4 | l4
          · simp (disch := first | omega | assumption | (simp (disch := omega) only [vup_fn, vup_o, vup_k, vup_at]; first | done | omega | assumption)) only [ze_21_0, ze_21_8, ze_21_26, ze_21_42, ze_21_59, ze_21_67, ze_21_68, e, e30, e31, e32, l3, l4, Int.add_zero, ↓reduceIte, qw_id, zck_T, zck_t, zGor_v, zGor_n, zGor_e, zbs, vup_at, vup_vup, vup_self, vup_o, vup_k, vup_fn, ne_eq, not_true_eq_false, not_false_eq_true, and_true, true_and, and_self, and_false, false_and, or_true, true_or, or_self, or_false, false_or, xlt_t, xlt_f, xle_t, xle_f, xeq_t, xeq_f, xand_f, xor_t]
          · simp (disch := first | omega | assumption | (simp (disch := omega) only [vup_fn, vup_o, vup_k, vup_at]; first | done | omega | assumption)) only [ze_21_0, ze_21_8, ze_21_26, ze_21_42, ze_21_59, ze_21_67, ze_21_68, e, e30, e31, e32, l3, l4, Int.add_zero, ↓reduceIte, qw_id, zck_T, zck_t, zGor_v, zGor_n, zGor_e, zbs, vup_at, vup_vup, vup_self, vup_o, vup_k, vup_fn, ne_eq, not_true_eq_false, not_false_eq_true, and_true, true_and, and_self, and_false, false_and, or_true, true_or, or_self, or_false, false_or, xlt_t, xlt_f, xle_t, xle_f, xeq_t, xeq_f, xand_f, xor_t]
      · rw [if_neg (fun q => c3 q.2.1)]
        rcases lcmp_n c3 with l3 | l3
        · simp (disch := first | omega | assumption | (simp (disch := omega) only [vup_fn, vup_o, vup_k, vup_at]; first | done | omega | assumption)) only [ze_21_0, ze_21_8, ze_21_26, ze_21_42, ze_21_59, ze_21_67, ze_21_68, e, e30, e31, e32, l3, Int.add_zero, ↓reduceIte, qw_id, zck_T, zck_t, zGor_v, zGor_n, zGor_e, zbs, vup_at, vup_vup, vup_self, vup_o, vup_k, vup_fn, ne_eq, not_true_eq_false, not_false_eq_true, and_true, true_and, and_self, and_false, false_and, or_true, true_or, or_self, or_false, false_or, xlt_t, xlt_f, xle_t, xle_f, xeq_t, xeq_f, xand_f, xor_t]
        · simp (disch := first | omega | assumption | (simp (disch := omega) only [vup_fn, vup_o, vup_k, vup_at]; first | done | omega | assumption)) only [ze_21_0, ze_21_8, ze_21_26, ze_21_42, ze_21_59, ze_21_67, ze_21_68, e, e30, e31, e32, l3, Int.add_zero, ↓reduceIte, qw_id, zck_T, zck_t, zGor_v, zGor_n, zGor_e, zbs, vup_at, vup_vup, vup_self, vup_o, vup_k, vup_fn, ne_eq, not_true_eq_false, not_false_eq_true, and_true, true_and, and_self, and_false, false_and, or_true, true_or, or_self, or_false, false_or, xlt_t, xlt_f, xle_t, xle_f, xeq_t, xeq_f, xand_f, xor_t]
    · rw [if_neg (fun q => c2 q.2)] at e30
      rw [if_neg (fun q => c2 q.1.2)]
      simp (disch := first | omega | assumption | (simp (disch := omega) only [vup_fn, vup_o, vup_k, vup_at]; first | done | omega | assumption)) only [ze_21_0, ze_21_8, ze_21_26, ze_21_42, ze_21_59, ze_21_67, ze_21_68, e, e30, Int.add_zero, ↓reduceIte, qw_id, zck_T, zck_t, zGor_v, zGor_n, zGor_e, zbs, vup_at, vup_vup, vup_self, vup_o, vup_k, vup_fn, ne_eq, not_true_eq_false, not_false_eq_true, and_true, true_and, and_self, and_false, false_and, or_true, true_or, or_self, or_false, false_or, xlt_t, xlt_f, xle_t, xle_f, xeq_t, xeq_f, xand_f, xor_t]
  · rw [if_neg (fun q => c1 q.1.1)]
    simp (disch := first | omega | assumption | (simp (disch := omega) only [vup_fn, vup_o, vup_k, vup_at]; first | done | omega | assumption)) only [ze_21_0, ze_21_8, ze_21_26, ze_21_42, ze_21_59, ze_21_67, ze_21_68, e, Int.add_zero, ↓reduceIte, qw_id, zck_T, zck_t, zGor_v, zGor_n, zGor_e, zbs, vup_at, vup_vup, vup_self, vup_o, vup_k, vup_fn, ne_eq, not_true_eq_false, not_false_eq_true, and_true, true_and, and_self, and_false, false_and, or_true, true_or, or_self, or_false, false_or, xlt_t, xlt_f, xle_t, xle_f, xeq_t, xeq_f, xand_f, xor_t]
/-- a place of what was learned -/
theorem iLrn_f (h : zInv N V J) {w : Nat} (hs : 0 ≤ s ∧ s < 12) (hw : w < 12) (hb : 0 ≤ b ∧ b < 40) : V 47 ((s * 12 + w) * 40 + b) = V 472 ((s * 12 + w) * 40 + b) ∧ (0 ≤ V 47 ((s * 12 + w) * 40 + b) ∧ V 47 ((s * 12 + w) * 40 + b) ≤ 40 * N) ∧ (0 < V 47 ((s * 12 + w) * 40 + b) → V (50 + 15 * w) 3 = 1 ∧ V 471 ((s * 12 + w) * 40 + b) = tN (yTt V w) 2 ∧ iLb V J ((s * 12 + w) * 40 + b)) := by
  have q := h.2.2.2.2.2.2.2.1 ((s * 12 + w) * 40 + b) (by omega) (by omega)
  rw [show (((s * 12 + w) * 40 + b) / 40 % 12).toNat = w by omega] at q
  exact q
/-- bars that were learned otherwise -/
def oMi (V : zVt) (J : zJt) (s w : Int) (M : Nat) (b : Int) : Int := if 0 < V 47 ((s * 12 + w) * 40 + b) ∧ oKi V J ((s * 12 + w) * 40 + b) M b = 0 then 1 else 0
theorem sl23 (h : zInv N V J) {w : Nat} (hs : 0 ≤ s ∧ s < 12) (hw : w < 12) (n : Nat) : ∀ b : Int, 0 ≤ b → 40 = b + n → zGo false 23 6 [.ref 46, .int (zi s), .int (zi w), .ref (50 + 15 * w + 13), .int (zi (oS (oMi V J s w (50 + 15 * w + 13)) b.toNat)), .int (zi b)] [] (zm V J d) = zI1 (oS (oMi V J s w (50 + 15 * w + 13)) 40) V J d := by
  have hBM := zBk_6music (zBk_part hw)
  have hN := h.2.2.2.2.2.2.2.2.2
  induction n with
  | zero =>
    intro b b0 hb
    obtain rfl : b = 40 := by omega
    rw [ze_23_6 _ _ _ _ _ hBM]
    simp (disch := first | omega | assumption | (simp (disch := omega) only [vup_fn, vup_o, vup_k, vup_at]; first | done | omega | assumption)) only [Int.add_zero, ↓reduceIte, qw_id, zck_T, zck_t, zGor_v, zGor_n, zGor_e, zbs, vup_at, vup_vup, vup_self, vup_o, vup_k, vup_fn, ne_eq, not_true_eq_false, not_false_eq_true, and_true, true_and, and_self, and_false, false_and, or_true, true_or, or_self, or_false, false_or, xlt_t, xlt_f, xle_t, xle_f, xeq_t, xeq_f, xand_f, xor_t]
    rfl
  | succ n ih =>
    intro b b0 hb
    have e := ih (b + 1) (by omega) (by omega)
    rw [oS_s b0] at e
    obtain ⟨k1, k2, k3⟩ := iLrn_f h hs hw (b := b) (by omega)
    have e22 := sp22 (V := V) (J := J) (d := d) hs (w := w) (by omega) (b := b) (by omega)
    have hM : oMi V J s w (50 + 15 * w + 13) b = if 0 < V 47 ((s * 12 + w) * 40 + b) ∧ oKi V J ((s * 12 + w) * 40 + b) (50 + 15 * w + 13) b = 0 then 1 else 0 := rfl
    rw [ze_23_6 _ _ _ _ _ hBM]
    by_cases c1 : 0 < V 47 ((s * 12 + w) * 40 + b)
    · have hp3 := (k3 c1).1
      have hmk := cMu_ok h hw (((h.2.2.1 w hw).2.2.2.2.2.2 hp3).1)
      rw [show 63 + 15 * w = 50 + 15 * w + 13 by omega] at hmk
      have e21 := sp21 (V := V) (J := J) (d := d) hBM hs (w := w) (by omega) (b := b) (by omega) hmk.2.2.1 (by omega)
      rcases oKi_01 V J ((s * 12 + w) * 40 + b) (50 + 15 * w + 13) b with q | q
      · rw [if_pos ⟨c1, q⟩] at hM
        rw [hM] at e
        rw [q] at e21
        simp (disch := first | omega | assumption | (simp (disch := omega) only [vup_fn, vup_o, vup_k, vup_at]; first | done | omega | assumption)) only [e22, ze_23_21, e21, ze_23_33, ze_23_39, e, Int.add_zero, ↓reduceIte, qw_id, zck_T, zck_t, zGor_v, zGor_n, zGor_e, zbs, vup_at, vup_vup, vup_self, vup_o, vup_k, vup_fn, ne_eq, not_true_eq_false, not_false_eq_true, and_true, true_and, and_self, and_false, false_and, or_true, true_or, or_self, or_false, false_or, xlt_t, xlt_f, xle_t, xle_f, xeq_t, xeq_f, xand_f, xor_t]
      · rw [if_neg (fun g => by omega)] at hM
        rw [hM, Int.add_zero] at e
        rw [q] at e21
        simp (disch := first | omega | assumption | (simp (disch := omega) only [vup_fn, vup_o, vup_k, vup_at]; first | done | omega | assumption)) only [e22, ze_23_21, e21, ze_23_33, ze_23_39, e, Int.add_zero, ↓reduceIte, qw_id, zck_T, zck_t, zGor_v, zGor_n, zGor_e, zbs, vup_at, vup_vup, vup_self, vup_o, vup_k, vup_fn, ne_eq, not_true_eq_false, not_false_eq_true, and_true, true_and, and_self, and_false, false_and, or_true, true_or, or_self, or_false, false_or, xlt_t, xlt_f, xle_t, xle_f, xeq_t, xeq_f, xand_f, xor_t]
    · rw [if_neg (fun g => c1 g.1)] at hM
      rw [hM, Int.add_zero] at e
      simp (disch := first | omega | assumption | (simp (disch := omega) only [vup_fn, vup_o, vup_k, vup_at]; first | done | omega | assumption)) only [e22, ze_23_21, ze_23_39, e, Int.add_zero, ↓reduceIte, qw_id, zck_T, zck_t, zGor_v, zGor_n, zGor_e, zbs, vup_at, vup_vup, vup_self, vup_o, vup_k, vup_fn, ne_eq, not_true_eq_false, not_false_eq_true, and_true, true_and, and_self, and_false, false_and, or_true, true_or, or_self, or_false, false_or, xlt_t, xlt_f, xle_t, xle_f, xeq_t, xeq_f, xand_f, xor_t]
theorem sp133 {a c : Int} (hs : -2147483648 ≤ s ∧ s < 2147483648) (ha : -2147483648 ≤ a ∧ a < 2147483648) (hc : -2147483648 ≤ c ∧ c < 2147483648) : zGo false 133 0 [.ref 0, .int (zi s), .int (zi a), .int (zi c)] [] (zm V J d) = if (0 ≤ s ∧ s < 12) ∧ (0 ≤ a ∧ a < 3) ∧ 0 ≤ c ∧ c < 4 then zN1 V J d else zE1 0 V J d := by
  by_cases h1 : s < 0
  · rw [if_neg (by omega)]
    simp (disch := first | omega | assumption | (simp (disch := omega) only [vup_fn, vup_o, vup_k, vup_at]; first | done | omega | assumption)) only [ze_133_0, ze_133_28, Int.add_zero, ↓reduceIte, qw_id, zck_T, zck_t, zGor_v, zGor_n, zGor_e, zbs, vup_at, vup_vup, vup_self, vup_o, vup_k, vup_fn, ne_eq, not_true_eq_false, not_false_eq_true, and_true, true_and, and_self, and_false, false_and, or_true, true_or, or_self, or_false, false_or, xlt_t, xlt_f, xle_t, xle_f, xeq_t, xeq_f, xand_f, xor_t]
  · by_cases h2 : 12 ≤ s
    · rw [if_neg (by omega)]
      simp (disch := first | omega | assumption | (simp (disch := omega) only [vup_fn, vup_o, vup_k, vup_at]; first | done | omega | assumption)) only [ze_133_0, ze_133_28, Int.add_zero, ↓reduceIte, qw_id, zck_T, zck_t, zGor_v, zGor_n, zGor_e, zbs, vup_at, vup_vup, vup_self, vup_o, vup_k, vup_fn, ne_eq, not_true_eq_false, not_false_eq_true, and_true, true_and, and_self, and_false, false_and, or_true, true_or, or_self, or_false, false_or, xlt_t, xlt_f, xle_t, xle_f, xeq_t, xeq_f, xand_f, xor_t]
    · by_cases h3 : a < 0
      · rw [if_neg (by omega)]
        simp (disch := first | omega | assumption | (simp (disch := omega) only [vup_fn, vup_o, vup_k, vup_at]; first | done | omega | assumption)) only [ze_133_0, ze_133_28, Int.add_zero, ↓reduceIte, qw_id, zck_T, zck_t, zGor_v, zGor_n, zGor_e, zbs, vup_at, vup_vup, vup_self, vup_o, vup_k, vup_fn, ne_eq, not_true_eq_false, not_false_eq_true, and_true, true_and, and_self, and_false, false_and, or_true, true_or, or_self, or_false, false_or, xlt_t, xlt_f, xle_t, xle_f, xeq_t, xeq_f, xand_f, xor_t]
      · by_cases h4 : 3 ≤ a
        · rw [if_neg (by omega)]
          simp (disch := first | omega | assumption | (simp (disch := omega) only [vup_fn, vup_o, vup_k, vup_at]; first | done | omega | assumption)) only [ze_133_0, ze_133_28, Int.add_zero, ↓reduceIte, qw_id, zck_T, zck_t, zGor_v, zGor_n, zGor_e, zbs, vup_at, vup_vup, vup_self, vup_o, vup_k, vup_fn, ne_eq, not_true_eq_false, not_false_eq_true, and_true, true_and, and_self, and_false, false_and, or_true, true_or, or_self, or_false, false_or, xlt_t, xlt_f, xle_t, xle_f, xeq_t, xeq_f, xand_f, xor_t]
        · by_cases h5 : c < 0
          · rw [if_neg (by omega)]
            simp (disch := first | omega | assumption | (simp (disch := omega) only [vup_fn, vup_o, vup_k, vup_at]; first | done | omega | assumption)) only [ze_133_0, ze_133_28, Int.add_zero, ↓reduceIte, qw_id, zck_T, zck_t, zGor_v, zGor_n, zGor_e, zbs, vup_at, vup_vup, vup_self, vup_o, vup_k, vup_fn, ne_eq, not_true_eq_false, not_false_eq_true, and_true, true_and, and_self, and_false, false_and, or_true, true_or, or_self, or_false, false_or, xlt_t, xlt_f, xle_t, xle_f, xeq_t, xeq_f, xand_f, xor_t]
          · by_cases h6 : c < 4
            · rw [if_pos (by omega)]
              simp (disch := first | omega | assumption | (simp (disch := omega) only [vup_fn, vup_o, vup_k, vup_at]; first | done | omega | assumption)) only [ze_133_0, ze_133_28, Int.add_zero, ↓reduceIte, qw_id, zck_T, zck_t, zGor_v, zGor_n, zGor_e, zbs, vup_at, vup_vup, vup_self, vup_o, vup_k, vup_fn, ne_eq, not_true_eq_false, not_false_eq_true, and_true, true_and, and_self, and_false, false_and, or_true, true_or, or_self, or_false, false_or, xlt_t, xlt_f, xle_t, xle_f, xeq_t, xeq_f, xand_f, xor_t]
            · rw [if_neg (by omega)]
              simp (disch := first | omega | assumption | (simp (disch := omega) only [vup_fn, vup_o, vup_k, vup_at]; first | done | omega | assumption)) only [ze_133_0, ze_133_28, Int.add_zero, ↓reduceIte, qw_id, zck_T, zck_t, zGor_v, zGor_n, zGor_e, zbs, vup_at, vup_vup, vup_self, vup_o, vup_k, vup_fn, ne_eq, not_true_eq_false, not_false_eq_true, and_true, true_and, and_self, and_false, false_and, or_true, true_or, or_self, or_false, false_or, xlt_t, xlt_f, xle_t, xle_f, xeq_t, xeq_f, xand_f, xor_t]
end
section
variable {V : zVt} {J : zJt} {N s a c b : Int}
end
