/-! part 91: what singers have learned; learned, misled -/
/-- whether bar b of music M is what was learned last at place i -/
def oKi (V : zVt) (J : zJt) (i : Int) (M : Nat) (b : Int) : Int := if (0 < V 47 i ∧ b < V M 2) ∧ J 48 i = J (M + 1) (2 * b) ∧ J 49 i = J (M + 1) (2 * b + 1) then 1 else 0
theorem oKi_01 (V : zVt) (J : zJt) (i : Int) (M : Nat) (b : Int) : oKi V J i M b = 0 ∨ oKi V J i M b = 1 := by
  unfold oKi
  split
  · exact Or.inr rfl
  · exact Or.inl rfl
theorem zby_2 {L1 M1 L2 M2 : Int64} : (L1 = L2 ∧ M1 = M2) ↔ ∀ t, 0 ≤ t → t < 16 → (if t < 8 then zby L1 t else zby M1 (t - 8)) = if t < 8 then zby L2 t else zby M2 (t - 8) := by
  constructor
  · rintro ⟨h1, h2⟩ t _ _
    rw [h1, h2]
  · intro h
    refine ⟨zby_ext (fun r r0 r1 => ?_), zby_ext (fun r r0 r1 => ?_)⟩
    · have e := h r r0 (by omega)
      rw [if_pos r1, if_pos r1] at e
      exact e
    · have e := h (r + 8) (by omega) (by omega)
      rw [if_neg (by omega), if_neg (by omega), show r + 8 - 8 = r by omega] at e
      exact e
theorem yB_rng {x : Int} (h : yByte x) : 0 ≤ x ∧ x < 256 := by
  unfold yByte at h
  omega
theorem iLb_eq {V : zVt} {J : zJt} {i : Int} (h : iLb V J i) {U : zVt} {I : zJt} {M : Nat} {W : zVt} {K : zJt} {s b : Int} (h2 : rMus U I M W K s) (hb : 0 ≤ b ∧ b < U M 2) : (J 468 i = K 451 (40 * s + b) ∧ J 469 i = K 452 (40 * s + b) ∧ V 470 i = W 453 (40 * s + b)) ↔ (J 48 i = I (M + 1) (2 * b) ∧ J 49 i = I (M + 1) (2 * b + 1)) := by
  obtain ⟨B, hB, h8, h470⟩ := h
  have g2 := rMus_bg h2 hb
  have hc : ∀ t, (if t < 8 then zby (I (M + 1) (2 * b)) t else zby (I (M + 1) (2 * b + 1)) (t - 8)) = cSd I M b t := fun t => rfl
  have hl : ∀ t, 0 ≤ t → t < 16 → (if t < 8 then zby (J 48 i) t else zby (J 49 i) (t - 8)) = B t := fun t t0 t1 => by
    by_cases q : t < 8
    · rw [if_pos q]
      exact (h8 t t0 q).1
    · rw [if_neg q, (h8 (t - 8) (by omega) (by omega)).2.1, show t - 8 + 8 = t by omega]
  have hm : ∀ t, 0 ≤ t → t < 16 → (if t < 8 then zby (J 468 i) t else zby (J 469 i) (t - 8)) = yMb (B t) := fun t t0 t1 => by
    by_cases q : t < 8
    · rw [if_pos q]
      exact (h8 t t0 q).2.2.1
    · rw [if_neg q, (h8 (t - 8) (by omega) (by omega)).2.2.2, show t - 8 + 8 = t by omega]
  have hn : ∀ t, 0 ≤ t → t < 16 → (if t < 8 then zby (K 451 (40 * s + b)) t else zby (K 452 (40 * s + b)) (t - 8)) = yMb (cSd I M b t) := fun t t0 t1 => by
    by_cases q : t < 8
    · rw [if_pos q]
      exact (rMus_by h2 hb ⟨t0, t1⟩).1 q
    · rw [if_neg q]
      exact (rMus_by h2 hb ⟨t0, t1⟩).2 (by omega)
  rw [zby_2]
  constructor
  · rintro ⟨c1, c2, c3⟩ t t0 t1
    rw [h470, g2] at c3
    have y3 := yHr_eq (yBg_b01 B) (yBg_b01 (fun t => cSd I M b t)) 16 (by omega) c3 t (by omega) t1
    have y4 := zby_2.1 ⟨c1, c2⟩ t t0 t1
    rw [hm t t0 t1, hn t t0 t1] at y4
    rw [hl t t0 t1, hc t]
    exact yMB_inj (yB_rng (hB t t0 t1)) (cSd_rng _ _ _ _) y4 y3
  · intro h
    have h3 : ∀ t, 0 ≤ t → t < 16 → B t = cSd I M b t := fun t t0 t1 => by
      have e := h t t0 t1
      rw [hl t t0 t1, hc t] at e
      exact e
    have h4 : J 468 i = K 451 (40 * s + b) ∧ J 469 i = K 452 (40 * s + b) := zby_2.2 (fun t t0 t1 => by rw [hm t t0 t1, hn t t0 t1, h3 t t0 t1])
    refine ⟨h4.1, h4.2, ?_⟩
    rw [h470, g2]
    refine yHr_cong 16 (by omega) (fun t t0 t1 => ?_)
    show yBg (B t) = yBg (cSd I M b t)
    rw [h3 t t0 t1]
section
variable {V : zVt} {J : zJt} {N s w b : Int} {d : Nat → Nat → UInt64}
theorem sp20 {x y z : Int} : zGo false 20 0 [.ref 46, .int (zi x), .int (zi y), .int (zi z)] [] (zm V J d) = zI1 ((x * 12 + y) * 40 + z) V J d := by
  simp (disch := first | omega | assumption | (simp (disch := omega) only [vup_fn, vup_o, vup_k, vup_at]; first | done | omega | assumption)) only [ze_20_0, Int.add_zero, ↓reduceIte, qw_id, zck_T, zck_t, zGor_v, zGor_n, zGor_e, zbs, vup_at, vup_vup, vup_self, vup_o, vup_k, vup_fn, ne_eq, not_true_eq_false, not_false_eq_true, and_true, true_and, and_self, and_false, false_and, or_true, true_or, or_self, or_false, false_or, xlt_t, xlt_f, xle_t, xle_f, xeq_t, xeq_f, xand_f, xor_t]
theorem sp22 (hs : 0 ≤ s ∧ s < 12) (hw : 0 ≤ w ∧ w < 12) (hb : 0 ≤ b ∧ b < 40) : zGo false 22 0 [.ref 46, .int (zi s), .int (zi w), .int (zi b)] [] (zm V J d) = zI1 (V 47 ((s * 12 + w) * 40 + b)) V J d := by
  have e := sp20 (V := V) (J := J) (d := d) (x := s) (y := w) (z := b)
  simp (disch := first | omega | assumption | (simp (disch := omega) only [vup_fn, vup_o, vup_k, vup_at]; first | done | omega | assumption)) only [ze_22_0, ze_22_11, e, Int.add_zero, ↓reduceIte, qw_id, zck_T, zck_t, zGor_v, zGor_n, zGor_e, zbs, vup_at, vup_vup, vup_self, vup_o, vup_k, vup_fn, ne_eq, not_true_eq_false, not_false_eq_true, and_true, true_and, and_self, and_false, false_and, or_true, true_or, or_self, or_false, false_or, xlt_t, xlt_f, xle_t, xle_f, xeq_t, xeq_f, xand_f, xor_t]
/-- knows of the class -/
theorem sp21 {M : Nat} (hM : zBk 5 M) (hs : 0 ≤ s ∧ s < 12) (hw : 0 ≤ w ∧ w < 12) (hb : 0 ≤ b ∧ b < 40) (r : 0 ≤ V M 2 ∧ V M 2 ≤ 40) (hi : 0 ≤ V 47 ((s * 12 + w) * 40 + b) ∧ V 47 ((s * 12 + w) * 40 + b) ≤ 100000) : zGo false 21 0 [.ref 46, .int (zi s), .int (zi w), .ref M, .int (zi b), .null] [] (zm V J d) = zI1 (oKi V J ((s * 12 + w) * 40 + b) M b) V J d := by
  have e := sp20 (V := V) (J := J) (d := d) (x := s) (y := w) (z := b)
  have e30 := sp30 (V := V) (J := J) (d := d) (b := b) hM (by omega) r
  have hix : 0 ≤ (s * 12 + w) * 40 + b ∧ (s * 12 + w) * 40 + b < 5760 := by omega
  unfold oKi
  generalize (s * 12 + w) * 40 + b = i at *
  by_cases c1 : 0 < V 47 i
  · by_cases c2 : b < V M 2
    · rw [if_pos ⟨hb.1, c2⟩] at e30
      have e31 := sp31 (V := V) (J := J) (d := d) hM ⟨hb.1, c2⟩ r.2
      have e32 := sp32 (V := V) (J := J) (d := d) hM ⟨hb.1, c2⟩ r.2
      by_cases c3 : J 48 i = J (M + 1) (2 * b)
      · have l3 := lcmp_e c3
        by_cases c4 : J 49 i = J (M + 1) (2 * b + 1)
        · have l4 := lcmp_e c4
          rw [if_pos ⟨⟨c1, c2⟩, c3, c4⟩]
          simp (disch := first | omega | assumption | (simp (disch := omega) only [vup_fn, vup_o, vup_k, vup_at]; first | done | omega | assumption)) only [ze_21_0, ze_21_8, ze_21_26, ze_21_42, ze_21_59, ze_21_67, ze_21_68, e, e30, e31, e32, l3, l4, Int.add_zero, ↓reduceIte, qw_id, zck_T, zck_t, zGor_v, zGor_n, zGor_e, zbs, vup_at, vup_vup, vup_self, vup_o, vup_k, vup_fn, ne_eq, not_true_eq_false, not_false_eq_true, and_true, true_and, and_self, and_false, false_and, or_true, true_or, or_self, or_false, false_or, xlt_t, xlt_f, xle_t, xle_f, xeq_t, xeq_f, xand_f, xor_t]
        · rw [if_neg (fun q => c4 q.2.2)]
          rcases lcmp_n c4 with l4 | l4
          · simp (disch := first | omega | assumption | (simp (disch := omega) only [vup_fn, vup_o, vup_k, vup_at]; first | done | omega | assumption)) only [ze_21_0, ze_21_8, ze_21_26, ze_21_42, ze_21_59, ze_21_67, ze_21_68, e, e30, e31, e32, l3, l4, Int.add_zero, ↓reduceIte, qw_id, zck_T, zck_t, zGor_v, zGor_n, zGor_e, zbs, vup_at, vup_vup, vup_self, vup_o, vup_k, vup_fn, ne_eq, not_true_eq_false, not_false_eq_true, and_true, true_and, and_self, and_false, false_and, or_true, true_or, or_self, or_false, false_or, xlt_t, xlt_f, xle_t, xle_f, xeq_t, xeq_f, xand_f, xor_t]
          · simp (disch := first | omega | assumption | (simp (disch := omega) only [vup_fn, vup_o, vup_k, vup_at]; first | done | omega | assumption)) only [ze_21_0, ze_21_8, ze_21_26, ze_21_42, ze_21_59, ze_21_67, ze_21_68, e, e30, e31, e32, l3, l4, Int.add_zero, ↓reduceIte, qw_id, zck_T, zck_t, zGor_v, zGor_n, zGor_e, zbs, vup_at, vup_vup, vup_self, vup_o, vup_k, vup_fn, ne_eq, not_true_eq_false, not_false_eq_true, and_true, true_and, and_self, and_false, false_and, or_true, true_or, or_self, or_false, false_or, xlt_t, xlt_f, xle_t, xle_f, xeq_t, xeq_f, xand_f, xor_t]
      · rw [if_neg (fun q => c3 q.2.1)]
        rcases lcmp_n c3 with l3 | l3
        · simp (disch := first | omega | assumption | (simp (disch := omega) only [vup_fn, vup_o, vup_k, vup_at]; first | done | omega | assumption)) only [ze_21_0, ze_21_8, ze_21_26, ze_21_42, ze_21_59, ze_21_67, ze_21_68, e, e30, e31, e32, l3, Int.add_zero, ↓reduceIte, qw_id, zck_T, zck_t, zGor_v, zGor_n, zGor_e, zbs, vup_at, vup_vup, vup_self, vup_o, vup_k, vup_fn, ne_eq, not_true_eq_false, not_false_eq_true, and_true, true_and, and_self, and_false, false_and, or_true, true_or, or_self, or_false, false_or, xlt_t, xlt_f, xle_t, xle_f, xeq_t, xeq_f, xand_f, xor_t]
        · simp (disch := first | omega | assumption | (simp (disch := omega) only [vup_fn, vup_o, vup_k, vup_at]; first | done | omega | assumption)) only [ze_21_0, ze_21_8, ze_21_26, ze_21_42, ze_21_59, ze_21_67, ze_21_68, e, e30, e31, e32, l3, Int.add_zero, ↓reduceIte, qw_id, zck_T, zck_t, zGor_v, zGor_n, zGor_e, zbs, vup_at, vup_vup, vup_self, vup_o, vup_k, vup_fn, ne_eq, not_true_eq_false, not_false_eq_true, and_true, true_and, and_self, and_false, false_and, or_true, true_or, or_self, or_false, false_or, xlt_t, xlt_f, xle_t, xle_f, xeq_t, xeq_f, xand_f, xor_t]
    · rw [if_neg (fun q => c2 q.2)] at e30
      rw [if_neg (fun q => c2 q.1.2)]
      simp (disch := first | omega | assumption | (simp (disch := omega) only [vup_fn, vup_o, vup_k, vup_at]; first | done | omega | assumption)) only [ze_21_0, ze_21_8, ze_21_26, ze_21_42, ze_21_59, ze_21_67, ze_21_68, e, e30, Int.add_zero, ↓reduceIte, qw_id, zck_T, zck_t, zGor_v, zGor_n, zGor_e, zbs, vup_at, vup_vup, vup_self, vup_o, vup_k, vup_fn, ne_eq, not_true_eq_false, not_false_eq_true, and_true, true_and, and_self, and_false, false_and, or_true, true_or, or_self, or_false, false_or, xlt_t, xlt_f, xle_t, xle_f, xeq_t, xeq_f, xand_f, xor_t]
  · rw [if_neg (fun q => c1 q.1.1)]
    simp (disch := first | omega | assumption | (simp (disch := omega) only [vup_fn, vup_o, vup_k, vup_at]; first | done | omega | assumption)) only [ze_21_0, ze_21_8, ze_21_26, ze_21_42, ze_21_59, ze_21_67, ze_21_68, e, Int.add_zero, ↓reduceIte, qw_id, zck_T, zck_t, zGor_v, zGor_n, zGor_e, zbs, vup_at, vup_vup, vup_self, vup_o, vup_k, vup_fn, ne_eq, not_true_eq_false, not_false_eq_true, and_true, true_and, and_self, and_false, false_and, or_true, true_or, or_self, or_false, false_or, xlt_t, xlt_f, xle_t, xle_f, xeq_t, xeq_f, xand_f, xor_t]
/-- a place of what was learned -/
theorem iLrn_f (h : zInv N V J) {w : Nat} (hs : 0 ≤ s ∧ s < 12) (hw : w < 12) (hb : 0 ≤ b ∧ b < 40) : V 47 ((s * 12 + w) * 40 + b) = V 472 ((s * 12 + w) * 40 + b) ∧ (0 ≤ V 47 ((s * 12 + w) * 40 + b) ∧ V 47 ((s * 12 + w) * 40 + b) ≤ 40 * N) ∧ (0 < V 47 ((s * 12 + w) * 40 + b) → V (50 + 15 * w) 3 = 1 ∧ V 471 ((s * 12 + w) * 40 + b) = tN (yTt V w) 2 ∧ iLb V J ((s * 12 + w) * 40 + b)) := by
  have q := h.2.2.2.2.2.2.2.1 ((s * 12 + w) * 40 + b) (by omega) (by omega)
  rw [show (((s * 12 + w) * 40 + b) / 40 % 12).toNat = w by omega] at q
  exact q
/-- isKnown of the reference -/
theorem m220 (h : zInv N V J) {w : Nat} (hs : 0 ≤ s ∧ s < 12) (hw : w < 12) (hb : 0 ≤ b) {W : zVt} {K : zJt} (hm : pM V W J K) {M : Nat} {sl : Int} (hsl : 0 ≤ sl ∧ sl < 5) (hM : rMus V J M W K sl) (hb2 : b < V M 2) (h40 : V M 2 ≤ 40) (h0 : V M 0 = 0) (hmt : V M 3 = tN (yTt V w) 2) (h16 : 0 ≤ V M 3 ∧ V M 3 ≤ 16) : zGo false 220 0 [.ref 430, .int (zi s), .int (zi w), .int (zi b), .int (zi sl), .null, .null] [] (zm W K d) = zI1 (oKi V J ((s * 12 + w) * 40 + b) M b) W K d := by
  obtain ⟨k1, k2, k3⟩ := iLrn_f h hs hw (b := b) (by omega)
  have hN := h.2.2.2.2.2.2.2.2.2
  have hix : 40 * (12 * s + (w : Int)) + b = (s * 12 + w) * 40 + b := by omega
  have hir : 0 ≤ (s * 12 + (w : Int)) * 40 + b ∧ (s * 12 + (w : Int)) * 40 + b < 5760 := by omega
  have a472 : W 472 = V 472 := hm.1 472 (by omega)
  have a471 : W 471 = V 471 := hm.1 471 (by omega)
  have a470 : W 470 = V 470 := hm.1 470 (by omega)
  have a468 := hm.2.2.1
  have a469 := hm.2.2.2
  have h450 : W 450 sl = V M 3 := hM.2.2.1 h0
  unfold oKi
  generalize hgi : (s * 12 + (w : Int)) * 40 + b = i at *
  have b472 : W 472 i = V 47 i := by rw [a472]; exact k1.symm
  by_cases c1 : 0 < V 47 i
  · obtain ⟨l1, l2, l3⟩ := k3 c1
    have b471 : W 471 i = V M 3 := by rw [a471, l2, hmt]
    have hq := iLb_eq l3 hM ⟨hb, hb2⟩
    rw [← a468, ← a469, ← a470] at hq
    have y1 : 0 ≤ W 470 i ∧ W 470 i < 65536 := by
      obtain ⟨B, hB, h8, h470⟩ := l3
      rw [a470, h470]
      exact yHr_rng (yBg_b01 B) 16 (by omega)
    have y2 : 0 ≤ W 453 (40 * sl + b) ∧ W 453 (40 * sl + b) < 65536 := by
      rw [rMus_bg hM ⟨hb, hb2⟩]
      exact yHr_rng (yBg_b01 (fun t => cSd J M b t)) 16 (by omega)
    by_cases c2 : K 468 i = K 451 (40 * sl + b)
    · have e2 := lcmp_e c2
      by_cases c3 : K 469 i = K 452 (40 * sl + b)
      · have e3 := lcmp_e c3
        by_cases c4 : W 470 i = W 453 (40 * sl + b)
        · rw [if_pos ⟨⟨c1, hb2⟩, hq.1 ⟨c2, c3, c4⟩⟩]
          simp (disch := first | omega | assumption | (simp (disch := omega) only [vup_fn, vup_o, vup_k, vup_at]; first | done | omega | assumption)) only [ze_220_0, ze_220_106, ze_220_107, hix, b472, b471, h450, e2, e3, Int.add_zero, ↓reduceIte, qw_id, zck_T, zck_t, zGor_v, zGor_n, zGor_e, zbs, vup_at, vup_vup, vup_self, vup_o, vup_k, vup_fn, ne_eq, not_true_eq_false, not_false_eq_true, and_true, true_and, and_self, and_false, false_and, or_true, true_or, or_self, or_false, false_or, xlt_t, xlt_f, xle_t, xle_f, xeq_t, xeq_f, xand_f, xor_t]
        · rw [if_neg (fun q => c4 (hq.2 q.2).2.2)]
          simp (disch := first | omega | assumption | (simp (disch := omega) only [vup_fn, vup_o, vup_k, vup_at]; first | done | omega | assumption)) only [ze_220_0, ze_220_106, ze_220_107, hix, b472, b471, h450, e2, e3, Int.add_zero, ↓reduceIte, qw_id, zck_T, zck_t, zGor_v, zGor_n, zGor_e, zbs, vup_at, vup_vup, vup_self, vup_o, vup_k, vup_fn, ne_eq, not_true_eq_false, not_false_eq_true, and_true, true_and, and_self, and_false, false_and, or_true, true_or, or_self, or_false, false_or, xlt_t, xlt_f, xle_t, xle_f, xeq_t, xeq_f, xand_f, xor_t]
      · rw [if_neg (fun q => c3 (hq.2 q.2).2.1)]
        rcases lcmp_n c3 with e3 | e3
        · simp (disch := first | omega | assumption | (simp (disch := omega) only [vup_fn, vup_o, vup_k, vup_at]; first | done | omega | assumption)) only [ze_220_0, ze_220_106, ze_220_107, hix, b472, b471, h450, e2, e3, Int.add_zero, ↓reduceIte, qw_id, zck_T, zck_t, zGor_v, zGor_n, zGor_e, zbs, vup_at, vup_vup, vup_self, vup_o, vup_k, vup_fn, ne_eq, not_true_eq_false, not_false_eq_true, and_true, true_and, and_self, and_false, false_and, or_true, true_or, or_self, or_false, false_or, xlt_t, xlt_f, xle_t, xle_f, xeq_t, xeq_f, xand_f, xor_t]
        · simp (disch := first | omega | assumption | (simp (disch := omega) only [vup_fn, vup_o, vup_k, vup_at]; first | done | omega | assumption)) only [ze_220_0, ze_220_106, ze_220_107, hix, b472, b471, h450, e2, e3, Int.add_zero, ↓reduceIte, qw_id, zck_T, zck_t, zGor_v, zGor_n, zGor_e, zbs, vup_at, vup_vup, vup_self, vup_o, vup_k, vup_fn, ne_eq, not_true_eq_false, not_false_eq_true, and_true, true_and, and_self, and_false, false_and, or_true, true_or, or_self, or_false, false_or, xlt_t, xlt_f, xle_t, xle_f, xeq_t, xeq_f, xand_f, xor_t]
    · rw [if_neg (fun q => c2 (hq.2 q.2).1)]
      rcases lcmp_n c2 with e2 | e2
      · simp (disch := first | omega | assumption | (simp (disch := omega) only [vup_fn, vup_o, vup_k, vup_at]; first | done | omega | assumption)) only [ze_220_0, ze_220_106, ze_220_107, hix, b472, b471, h450, e2, Int.add_zero, ↓reduceIte, qw_id, zck_T, zck_t, zGor_v, zGor_n, zGor_e, zbs, vup_at, vup_vup, vup_self, vup_o, vup_k, vup_fn, ne_eq, not_true_eq_false, not_false_eq_true, and_true, true_and, and_self, and_false, false_and, or_true, true_or, or_self, or_false, false_or, xlt_t, xlt_f, xle_t, xle_f, xeq_t, xeq_f, xand_f, xor_t]
      · simp (disch := first | omega | assumption | (simp (disch := omega) only [vup_fn, vup_o, vup_k, vup_at]; first | done | omega | assumption)) only [ze_220_0, ze_220_106, ze_220_107, hix, b472, b471, h450, e2, Int.add_zero, ↓reduceIte, qw_id, zck_T, zck_t, zGor_v, zGor_n, zGor_e, zbs, vup_at, vup_vup, vup_self, vup_o, vup_k, vup_fn, ne_eq, not_true_eq_false, not_false_eq_true, and_true, true_and, and_self, and_false, false_and, or_true, true_or, or_self, or_false, false_or, xlt_t, xlt_f, xle_t, xle_f, xeq_t, xeq_f, xand_f, xor_t]
  · rw [if_neg (fun q => c1 q.1.1)]
    simp (disch := first | omega | assumption | (simp (disch := omega) only [vup_fn, vup_o, vup_k, vup_at]; first | done | omega | assumption)) only [ze_220_0, ze_220_106, ze_220_107, hix, b472, Int.add_zero, ↓reduceIte, qw_id, zck_T, zck_t, zGor_v, zGor_n, zGor_e, zbs, vup_at, vup_vup, vup_self, vup_o, vup_k, vup_fn, ne_eq, not_true_eq_false, not_false_eq_true, and_true, true_and, and_self, and_false, false_and, or_true, true_or, or_self, or_false, false_or, xlt_t, xlt_f, xle_t, xle_f, xeq_t, xeq_f, xand_f, xor_t]
/-- bars that were learned otherwise -/
def oMi (V : zVt) (J : zJt) (s w : Int) (M : Nat) (b : Int) : Int := if 0 < V 47 ((s * 12 + w) * 40 + b) ∧ oKi V J ((s * 12 + w) * 40 + b) M b = 0 then 1 else 0
theorem sl23 (h : zInv N V J) {w : Nat} (hs : 0 ≤ s ∧ s < 12) (hw : w < 12) (n : Nat) : ∀ b : Int, 0 ≤ b → 40 = b + n → zGo false 23 6 [.ref 46, .int (zi s), .int (zi w), .ref (50 + 15 * w + 13), .int (zi (oS (oMi V J s w (50 + 15 * w + 13)) b.toNat)), .int (zi b)] [] (zm V J d) = zI1 (oS (oMi V J s w (50 + 15 * w + 13)) 40) V J d := by
  have hBM := zBk_6music (zBk_part hw)
  have hN := h.2.2.2.2.2.2.2.2.2
  induction n with
  | zero =>
    intro b b0 hb
    obtain rfl : b = 40 := by omega
    rw [ze_23_6 _ _ _ _ _ hBM]
    simp (disch := first | omega | assumption | (simp (disch := omega) only [vup_fn, vup_o, vup_k, vup_at]; first | done | omega | assumption)) only [Int.add_zero, ↓reduceIte, qw_id, zck_T, zck_t, zGor_v, zGor_n, zGor_e, zbs, vup_at, vup_vup, vup_self, vup_o, vup_k, vup_fn, ne_eq, not_true_eq_false, not_false_eq_true, and_true, true_and, and_self, and_false, false_and, or_true, true_or, or_self, or_false, false_or, xlt_t, xlt_f, xle_t, xle_f, xeq_t, xeq_f, xand_f, xor_t]
    rfl
  | succ n ih =>
    intro b b0 hb
    have e := ih (b + 1) (by omega) (by omega)
    rw [oS_s b0] at e
    obtain ⟨k1, k2, k3⟩ := iLrn_f h hs hw (b := b) (by omega)
    have e22 := sp22 (V := V) (J := J) (d := d) hs (w := w) (by omega) (b := b) (by omega)
    have hM : oMi V J s w (50 + 15 * w + 13) b = if 0 < V 47 ((s * 12 + w) * 40 + b) ∧ oKi V J ((s * 12 + w) * 40 + b) (50 + 15 * w + 13) b = 0 then 1 else 0 := rfl
    rw [ze_23_6 _ _ _ _ _ hBM]
    by_cases c1 : 0 < V 47 ((s * 12 + w) * 40 + b)
    · have hp3 := (k3 c1).1
      have hmk := cMu_ok h hw (((h.2.2.1 w hw).2.2.2.2.2.2 hp3).1)
      rw [show 63 + 15 * w = 50 + 15 * w + 13 by omega] at hmk
      have e21 := sp21 (V := V) (J := J) (d := d) hBM hs (w := w) (by omega) (b := b) (by omega) hmk.2.2.1 (by omega)
      rcases oKi_01 V J ((s * 12 + w) * 40 + b) (50 + 15 * w + 13) b with q | q
      · rw [if_pos ⟨c1, q⟩] at hM
        rw [hM] at e
        rw [q] at e21
        simp (disch := first | omega | assumption | (simp (disch := omega) only [vup_fn, vup_o, vup_k, vup_at]; first | done | omega | assumption)) only [e22, ze_23_21, e21, ze_23_33, ze_23_39, e, Int.add_zero, ↓reduceIte, qw_id, zck_T, zck_t, zGor_v, zGor_n, zGor_e, zbs, vup_at, vup_vup, vup_self, vup_o, vup_k, vup_fn, ne_eq, not_true_eq_false, not_false_eq_true, and_true, true_and, and_self, and_false, false_and, or_true, true_or, or_self, or_false, false_or, xlt_t, xlt_f, xle_t, xle_f, xeq_t, xeq_f, xand_f, xor_t]
      · rw [if_neg (fun g => by omega)] at hM
        rw [hM, Int.add_zero] at e
        rw [q] at e21
        simp (disch := first | omega | assumption | (simp (disch := omega) only [vup_fn, vup_o, vup_k, vup_at]; first | done | omega | assumption)) only [e22, ze_23_21, e21, ze_23_33, ze_23_39, e, Int.add_zero, ↓reduceIte, qw_id, zck_T, zck_t, zGor_v, zGor_n, zGor_e, zbs, vup_at, vup_vup, vup_self, vup_o, vup_k, vup_fn, ne_eq, not_true_eq_false, not_false_eq_true, and_true, true_and, and_self, and_false, false_and, or_true, true_or, or_self, or_false, false_or, xlt_t, xlt_f, xle_t, xle_f, xeq_t, xeq_f, xand_f, xor_t]
    · rw [if_neg (fun g => c1 g.1)] at hM
      rw [hM, Int.add_zero] at e
      simp (disch := first | omega | assumption | (simp (disch := omega) only [vup_fn, vup_o, vup_k, vup_at]; first | done | omega | assumption)) only [e22, ze_23_21, ze_23_39, e, Int.add_zero, ↓reduceIte, qw_id, zck_T, zck_t, zGor_v, zGor_n, zGor_e, zbs, vup_at, vup_vup, vup_self, vup_o, vup_k, vup_fn, ne_eq, not_true_eq_false, not_false_eq_true, and_true, true_and, and_self, and_false, false_and, or_true, true_or, or_self, or_false, false_or, xlt_t, xlt_f, xle_t, xle_f, xeq_t, xeq_f, xand_f, xor_t]
theorem sp133 {a c : Int} (hs : -2147483648 ≤ s ∧ s < 2147483648) (ha : -2147483648 ≤ a ∧ a < 2147483648) (hc : -2147483648 ≤ c ∧ c < 2147483648) : zGo false 133 0 [.ref 0, .int (zi s), .int (zi a), .int (zi c)] [] (zm V J d) = if (0 ≤ s ∧ s < 12) ∧ (0 ≤ a ∧ a < 3) ∧ 0 ≤ c ∧ c < 4 then zN1 V J d else zE1 0 V J d := by
  by_cases h1 : s < 0
  · rw [if_neg (by omega)]
    simp (disch := first | omega | assumption | (simp (disch := omega) only [vup_fn, vup_o, vup_k, vup_at]; first | done | omega | assumption)) only [ze_133_0, ze_133_28, Int.add_zero, ↓reduceIte, qw_id, zck_T, zck_t, zGor_v, zGor_n, zGor_e, zbs, vup_at, vup_vup, vup_self, vup_o, vup_k, vup_fn, ne_eq, not_true_eq_false, not_false_eq_true, and_true, true_and, and_self, and_false, false_and, or_true, true_or, or_self, or_false, false_or, xlt_t, xlt_f, xle_t, xle_f, xeq_t, xeq_f, xand_f, xor_t]
  · by_cases h2 : 12 ≤ s
    · rw [if_neg (by omega)]
      simp (disch := first | omega | assumption | (simp (disch := omega) only [vup_fn, vup_o, vup_k, vup_at]; first | done | omega | assumption)) only [ze_133_0, ze_133_28, Int.add_zero, ↓reduceIte, qw_id, zck_T, zck_t, zGor_v, zGor_n, zGor_e, zbs, vup_at, vup_vup, vup_self, vup_o, vup_k, vup_fn, ne_eq, not_true_eq_false, not_false_eq_true, and_true, true_and, and_self, and_false, false_and, or_true, true_or, or_self, or_false, false_or, xlt_t, xlt_f, xle_t, xle_f, xeq_t, xeq_f, xand_f, xor_t]
    · by_cases h3 : a < 0
      · rw [if_neg (by omega)]
        simp (disch := first | omega | assumption | (simp (disch := omega) only [vup_fn, vup_o, vup_k, vup_at]; first | done | omega | assumption)) only [ze_133_0, ze_133_28, Int.add_zero, ↓reduceIte, qw_id, zck_T, zck_t, zGor_v, zGor_n, zGor_e, zbs, vup_at, vup_vup, vup_self, vup_o, vup_k, vup_fn, ne_eq, not_true_eq_false, not_false_eq_true, and_true, true_and, and_self, and_false, false_and, or_true, true_or, or_self, or_false, false_or, xlt_t, xlt_f, xle_t, xle_f, xeq_t, xeq_f, xand_f, xor_t]
      · by_cases h4 : 3 ≤ a
        · rw [if_neg (by omega)]
          simp (disch := first | omega | assumption | (simp (disch := omega) only [vup_fn, vup_o, vup_k, vup_at]; first | done | omega | assumption)) only [ze_133_0, ze_133_28, Int.add_zero, ↓reduceIte, qw_id, zck_T, zck_t, zGor_v, zGor_n, zGor_e, zbs, vup_at, vup_vup, vup_self, vup_o, vup_k, vup_fn, ne_eq, not_true_eq_false, not_false_eq_true, and_true, true_and, and_self, and_false, false_and, or_true, true_or, or_self, or_false, false_or, xlt_t, xlt_f, xle_t, xle_f, xeq_t, xeq_f, xand_f, xor_t]
        · by_cases h5 : c < 0
          · rw [if_neg (by omega)]
            simp (disch := first | omega | assumption | (simp (disch := omega) only [vup_fn, vup_o, vup_k, vup_at]; first | done | omega | assumption)) only [ze_133_0, ze_133_28, Int.add_zero, ↓reduceIte, qw_id, zck_T, zck_t, zGor_v, zGor_n, zGor_e, zbs, vup_at, vup_vup, vup_self, vup_o, vup_k, vup_fn, ne_eq, not_true_eq_false, not_false_eq_true, and_true, true_and, and_self, and_false, false_and, or_true, true_or, or_self, or_false, false_or, xlt_t, xlt_f, xle_t, xle_f, xeq_t, xeq_f, xand_f, xor_t]
          · by_cases h6 : c < 4
            · rw [if_pos (by omega)]
              simp (disch := first | omega | assumption | (simp (disch := omega) only [vup_fn, vup_o, vup_k, vup_at]; first | done | omega | assumption)) only [ze_133_0, ze_133_28, Int.add_zero, ↓reduceIte, qw_id, zck_T, zck_t, zGor_v, zGor_n, zGor_e, zbs, vup_at, vup_vup, vup_self, vup_o, vup_k, vup_fn, ne_eq, not_true_eq_false, not_false_eq_true, and_true, true_and, and_self, and_false, false_and, or_true, true_or, or_self, or_false, false_or, xlt_t, xlt_f, xle_t, xle_f, xeq_t, xeq_f, xand_f, xor_t]
            · rw [if_neg (by omega)]
              simp (disch := first | omega | assumption | (simp (disch := omega) only [vup_fn, vup_o, vup_k, vup_at]; first | done | omega | assumption)) only [ze_133_0, ze_133_28, Int.add_zero, ↓reduceIte, qw_id, zck_T, zck_t, zGor_v, zGor_n, zGor_e, zbs, vup_at, vup_vup, vup_self, vup_o, vup_k, vup_fn, ne_eq, not_true_eq_false, not_false_eq_true, and_true, true_and, and_self, and_false, false_and, or_true, true_or, or_self, or_false, false_or, xlt_t, xlt_f, xle_t, xle_f, xeq_t, xeq_f, xand_f, xor_t]
/-- the reference reads a part that isn't printed -/
theorem mLibN (hi : zInv N V J) {w : Nat} (hw : w < 12) (hp : V (50 + 15 * w) 3 = 0) : ∃ f V' J', zGo false 183 0 [.ref 430, .int (zi 0), .int (zi w)] [] (zm V J d) = zI1 f V' J' d ∧ mFm 0 V J V' J' := by
  have hB := zBk_part hw
  have htx := hi.1.2 w hw
  have ht := zt_ok hi.1.1 (w := (w : Int)) (by omega)
  have hq := hi.2.2.1 w hw
  have hz := hq.2.2.2.2.1 hp
  have hmk := hq.2.2.2.1.1
  obtain ⟨V1, c, b', F, A, fa, p1, p2, p3⟩ := sp101 (V := V) (J := J) (d := d) (T := yTt V w) (x := 26) (P := 50 + 15 * w) (n := V 432 w) hB (by omega) zBk_26 (by omega) htx.1 ht (fun q q0 q1 => by rw [show 50 + 15 * w + 1 = 51 + 15 * w by omega]; exact (htx.2 q q0 q1).trans (if_pos ⟨q0, q1⟩).symm)
  obtain ⟨V', J', q1, q2, q3⟩ := sm153 (V := V) (J := J) (d := d) hi.1.1 (w := w) (s := 0) (e := 40 + w) (cnt := V 430 42) (H := fun _ => 0) (by omega) (by omega) (Or.inr ⟨by omega, fun c c0 c1 => by rw [(hmk c c0 c1).1, show 61 + 15 * w + 1 = 62 + 15 * w by omega, hz c c0 c1]⟩) rfl p2.1 (fun _ => aGood_0 hi.2.1.1 (fun _ _ _ => rfl))
  obtain ⟨f, hf⟩ : ∃ f, zGo false 153 0 [.ref 430, .int (zi 0), .int (zi w), .int (zi (40 + w))] [] (zm V J d) = zI1 f V' J' d := ⟨_, q1⟩
  refine ⟨f, V', J', ?_, q2⟩
  rw [ze_183_0, hf]
  simp (disch := first | omega | assumption | (simp (disch := omega) only [vup_fn, vup_o, vup_k, vup_at]; first | done | omega | assumption)) only [ze_183_10, Int.add_zero, ↓reduceIte, qw_id, zck_T, zck_t, zGor_v, zGor_n, zGor_e, zbs, vup_at, vup_vup, vup_self, vup_o, vup_k, vup_fn, ne_eq, not_true_eq_false, not_false_eq_true, and_true, true_and, and_self, and_false, false_and, or_true, true_or, or_self, or_false, false_or, xlt_t, xlt_f, xle_t, xle_f, xeq_t, xeq_f, xand_f, xor_t]
end
section
variable {V : zVt} {J : zJt} {N s a c b : Int}
theorem x132 (h : zInv N V J) (hN : N < 600) (hs : -2147483648 ≤ s ∧ s < 2147483648) (ha : -2147483648 ≤ a ∧ a < 2147483648) (hc : -2147483648 ≤ c ∧ c < 2147483648) (hb : -2147483648 ≤ b ∧ b < 2147483648) : zTw N V J 132 [.ref 0, .int (zi s), .int (zi a), .int (zi c), .int (zi b)] 222 [.ref 430, .int (zi s), .int (zi a), .int (zi c), .int (zi b), .null] [0] := by
  intro d
  have e133 := sp133 (V := V) (J := J) (d := d) hs ha hc
  by_cases h1 : (0 ≤ s ∧ s < 12) ∧ (0 ≤ a ∧ a < 3) ∧ 0 ≤ c ∧ c < 4
  · rw [if_pos h1] at e133
    by_cases h2 : 0 ≤ b ∧ b < 40
    · left
      have e22 := sp22 (V := V) (J := J) (d := d) h1.1 (w := a * 4 + c) (by omega) h2
      refine ⟨V 47 ((s * 12 + (a * 4 + c)) * 40 + b), V, J, ?_, zRn_of h hN ?_⟩
      · simp (disch := first | omega | assumption | (simp (disch := omega) only [vup_fn, vup_o, vup_k, vup_at]; first | done | omega | assumption)) only [ze_132_0, ze_132_7, ze_132_19, ze_132_45, e133, e22, Int.add_zero, ↓reduceIte, qw_id, zck_T, zck_t, zGor_v, zGor_n, zGor_e, zbs, vup_at, vup_vup, vup_self, vup_o, vup_k, vup_fn, ne_eq, not_true_eq_false, not_false_eq_true, and_true, true_and, and_self, and_false, false_and, or_true, true_or, or_self, or_false, false_or, xlt_t, xlt_f, xle_t, xle_f, xeq_t, xeq_f, xand_f, xor_t]
      intro J2 d2 hj hi
      have k := (h.2.2.2.2.2.2.2.1 ((s * 12 + (a * 4 + c)) * 40 + b) (by omega) (by omega)).1
      have e1 := sp147 (V := V) (J := J2) (d := d2) (a := s) (b := 12) hs (by omega)
      rw [if_pos h1.1] at e1
      have e2 := sm146 (V := V) (J := J2) (d := d2) ha hc
      rw [if_pos h1.2] at e2
      have e3 := sp147 (V := V) (J := J2) (d := d2) (a := b) (b := 40) hb (by omega)
      rw [if_pos h2] at e3
      have e4 := sm150 (V := V) (J := J2) (d := d2) (p := 1) (q := 1) (r := 1) (by omega) (by omega) (by omega)
      rw [if_pos (show gC 1 1 1 = 0 from rfl)] at e4
      have hix : 40 * (12 * s + 4 * a + c) + b = (s * 12 + (a * 4 + c)) * 40 + b := by omega
      refine ⟨V 47 ((s * 12 + (a * 4 + c)) * 40 + b), vup V 430 60 (gC 1 1 1), J2, ?_, vup_at _ _ _ _, pM_60, pC_60, rfl, fun _ => rfl⟩
      rw [k]
      simp (disch := first | omega | assumption | (simp (disch := omega) only [vup_fn, vup_o, vup_k, vup_at]; first | done | omega | assumption)) only [ze_222_0, ze_222_6, ze_222_14, ze_222_24, ze_222_31, ze_222_32, ze_222_42, ze_222_70, e1, e2, e3, e4, hix, Int.add_zero, ↓reduceIte, qw_id, zck_T, zck_t, zGor_v, zGor_n, zGor_e, zbs, vup_at, vup_vup, vup_self, vup_o, vup_k, vup_fn, ne_eq, not_true_eq_false, not_false_eq_true, and_true, true_and, and_self, and_false, false_and, or_true, true_or, or_self, or_false, false_or, xlt_t, xlt_f, xle_t, xle_f, xeq_t, xeq_f, xand_f, xor_t]
    · right
      refine ⟨0, 0, V, J, rfl, ?_, zRn_of h hN ?_⟩
      · by_cases b0 : b < 0
        · simp (disch := first | omega | assumption | (simp (disch := omega) only [vup_fn, vup_o, vup_k, vup_at]; first | done | omega | assumption)) only [ze_132_0, ze_132_7, ze_132_19, ze_132_45, e133, Int.add_zero, ↓reduceIte, qw_id, zck_T, zck_t, zGor_v, zGor_n, zGor_e, zbs, vup_at, vup_vup, vup_self, vup_o, vup_k, vup_fn, ne_eq, not_true_eq_false, not_false_eq_true, and_true, true_and, and_self, and_false, false_and, or_true, true_or, or_self, or_false, false_or, xlt_t, xlt_f, xle_t, xle_f, xeq_t, xeq_f, xand_f, xor_t]
        · simp (disch := first | omega | assumption | (simp (disch := omega) only [vup_fn, vup_o, vup_k, vup_at]; first | done | omega | assumption)) only [ze_132_0, ze_132_7, ze_132_19, ze_132_45, e133, Int.add_zero, ↓reduceIte, qw_id, zck_T, zck_t, zGor_v, zGor_n, zGor_e, zbs, vup_at, vup_vup, vup_self, vup_o, vup_k, vup_fn, ne_eq, not_true_eq_false, not_false_eq_true, and_true, true_and, and_self, and_false, false_and, or_true, true_or, or_self, or_false, false_or, xlt_t, xlt_f, xle_t, xle_f, xeq_t, xeq_f, xand_f, xor_t]
      intro J2 d2 hj hi
      have e1 := sp147 (V := V) (J := J2) (d := d2) (a := s) (b := 12) hs (by omega)
      rw [if_pos h1.1] at e1
      have e2 := sm146 (V := V) (J := J2) (d := d2) ha hc
      rw [if_pos h1.2] at e2
      have e3 := sp147 (V := V) (J := J2) (d := d2) (a := b) (b := 40) hb (by omega)
      rw [if_neg h2] at e3
      have e4 := sm150 (V := V) (J := J2) (d := d2) (p := 0) (q := 1) (r := 1) (by omega) (by omega) (by omega)
      rw [if_neg (show ¬ gC 0 1 1 = 0 by decide)] at e4
      refine ⟨0, vup V 430 60 (gC 0 1 1), J2, ?_, vup_at _ _ _ _, pM_60, pC_60, rfl, fun w => by omega⟩
      simp (disch := first | omega | assumption | (simp (disch := omega) only [vup_fn, vup_o, vup_k, vup_at]; first | done | omega | assumption)) only [ze_222_0, ze_222_6, ze_222_14, ze_222_24, ze_222_31, ze_222_32, ze_222_42, ze_222_70, e1, e2, e3, e4, Int.add_zero, ↓reduceIte, qw_id, zck_T, zck_t, zGor_v, zGor_n, zGor_e, zbs, vup_at, vup_vup, vup_self, vup_o, vup_k, vup_fn, ne_eq, not_true_eq_false, not_false_eq_true, and_true, true_and, and_self, and_false, false_and, or_true, true_or, or_self, or_false, false_or, xlt_t, xlt_f, xle_t, xle_f, xeq_t, xeq_f, xand_f, xor_t]
  · right
    rw [if_neg h1] at e133
    refine ⟨0, 0, V, J, rfl, ?_, zRn_of h hN ?_⟩
    · simp (disch := first | omega | assumption | (simp (disch := omega) only [vup_fn, vup_o, vup_k, vup_at]; first | done | omega | assumption)) only [ze_132_0, ze_132_7, ze_132_19, ze_132_45, e133, Int.add_zero, ↓reduceIte, qw_id, zck_T, zck_t, zGor_v, zGor_n, zGor_e, zbs, vup_at, vup_vup, vup_self, vup_o, vup_k, vup_fn, ne_eq, not_true_eq_false, not_false_eq_true, and_true, true_and, and_self, and_false, false_and, or_true, true_or, or_self, or_false, false_or, xlt_t, xlt_f, xle_t, xle_f, xeq_t, xeq_f, xand_f, xor_t]
    intro J2 d2 hj hi
    have e1 := sp147 (V := V) (J := J2) (d := d2) (a := s) (b := 12) hs (by omega)
    have e2 := sm146 (V := V) (J := J2) (d := d2) ha hc
    have e4 := sm150 (V := V) (J := J2) (d := d2) (p := 0) (q := 1) (r := 1) (by omega) (by omega) (by omega)
    rw [if_neg (show ¬ gC 0 1 1 = 0 by decide)] at e4
    refine ⟨0, vup V 430 60 (gC 0 1 1), J2, ?_, vup_at _ _ _ _, pM_60, pC_60, rfl, fun w => by omega⟩
    by_cases q : 0 ≤ s ∧ s < 12
    · rw [if_pos q] at e1
      rw [if_neg (fun g => h1 ⟨q, g⟩)] at e2
      simp (disch := first | omega | assumption | (simp (disch := omega) only [vup_fn, vup_o, vup_k, vup_at]; first | done | omega | assumption)) only [ze_222_0, ze_222_6, ze_222_14, ze_222_24, ze_222_31, ze_222_32, ze_222_42, ze_222_70, e1, e2, e4, Int.add_zero, ↓reduceIte, qw_id, zck_T, zck_t, zGor_v, zGor_n, zGor_e, zbs, vup_at, vup_vup, vup_self, vup_o, vup_k, vup_fn, ne_eq, not_true_eq_false, not_false_eq_true, and_true, true_and, and_self, and_false, false_and, or_true, true_or, or_self, or_false, false_or, xlt_t, xlt_f, xle_t, xle_f, xeq_t, xeq_f, xand_f, xor_t]
    · rw [if_neg q] at e1
      simp (disch := first | omega | assumption | (simp (disch := omega) only [vup_fn, vup_o, vup_k, vup_at]; first | done | omega | assumption)) only [ze_222_0, ze_222_6, ze_222_14, ze_222_24, ze_222_31, ze_222_32, ze_222_42, ze_222_70, e1, e4, Int.add_zero, ↓reduceIte, qw_id, zck_T, zck_t, zGor_v, zGor_n, zGor_e, zbs, vup_at, vup_vup, vup_self, vup_o, vup_k, vup_fn, ne_eq, not_true_eq_false, not_false_eq_true, and_true, true_and, and_self, and_false, false_and, or_true, true_or, or_self, or_false, false_or, xlt_t, xlt_f, xle_t, xle_f, xeq_t, xeq_f, xand_f, xor_t]
theorem ml223 {d : Nat → Nat → UInt64} (h : zInv N V J) {w : Nat} (hs : 0 ≤ s ∧ s < 12) (hw : w < 12) {W : zVt} {K : zJt} (hm : pM V W J K) (hM : V (50 + 15 * w) 3 = 1 → rMus V J (50 + 15 * w + 13) W K 0) {x2 x3 : Int} (n : Nat) : ∀ (b : Int) (x7 : Value), 0 ≤ b → 40 = b + n → zGo false 223 54 [.ref 430, .int (zi s), .int (zi x2), .int (zi x3), .int (zi w), .int (zi (oS (oMi V J s w (50 + 15 * w + 13)) b.toNat)), .int (zi b), x7] [] (zm W K d) = zI1 (oS (oMi V J s w (50 + 15 * w + 13)) 40) W K d := by
  have hN := h.2.2.2.2.2.2.2.2.2
  induction n with
  | zero =>
    intro b x7 b0 hb
    obtain rfl : b = 40 := by omega
    rw [ze_223_54]
    simp (disch := first | omega | assumption | (simp (disch := omega) only [vup_fn, vup_o, vup_k, vup_at]; first | done | omega | assumption)) only [Int.add_zero, ↓reduceIte, qw_id, zck_T, zck_t, zGor_v, zGor_n, zGor_e, zbs, vup_at, vup_vup, vup_self, vup_o, vup_k, vup_fn, ne_eq, not_true_eq_false, not_false_eq_true, and_true, true_and, and_self, and_false, false_and, or_true, true_or, or_self, or_false, false_or, xlt_t, xlt_f, xle_t, xle_f, xeq_t, xeq_f, xand_f, xor_t]
    rfl
  | succ n ih =>
    intro b x7 b0 hb
    have e := fun x => ih (b + 1) x (by omega) (by omega)
    rw [oS_s b0] at e
    obtain ⟨k1, k2, k3⟩ := iLrn_f h hs hw (b := b) (by omega)
    have hix : 40 * (12 * s + (w : Int)) + b = (s * 12 + w) * 40 + b := by omega
    have hMi : oMi V J s w (50 + 15 * w + 13) b = if 0 < V 47 ((s * 12 + w) * 40 + b) ∧ oKi V J ((s * 12 + w) * 40 + b) (50 + 15 * w + 13) b = 0 then 1 else 0 := rfl
    have b472 : W 472 ((s * 12 + w) * 40 + b) = V 47 ((s * 12 + w) * 40 + b) := by rw [hm.1 472 (by omega)]; exact k1.symm
    rw [ze_223_54]
    by_cases c1 : 0 < V 47 ((s * 12 + w) * 40 + b)
    · have hp3 := (k3 c1).1
      have hp2 := ((h.2.2.1 w hw).2.2.2.2.2.2 hp3).1
      have hmk := cMu_ok h hw hp2
      have hms := ((h.2.2.1 w hw).2.2.2.2.2.1 hp2).2
      rw [show 63 + 15 * w = 50 + 15 * w + 13 by omega] at hmk hms
      have hr := hM hp3
      have h449 : W 449 0 = V (50 + 15 * w + 13) 2 := hr.2.1
      have r2 := hmk.2.2.1
      by_cases c2 : b < V (50 + 15 * w + 13) 2
      · have h0 : V (50 + 15 * w + 13) 0 = 0 := Decidable.byContradiction (fun q => by have := hmk.2.2.2.1 q; omega)
        have e220 := m220 (d := d) h hs hw b0 hm (sl := 0) (by omega) hr c2 r2.2 h0 (iMs_mt hms h0) hmk.2.2.2.2.1
        rcases oKi_01 V J ((s * 12 + w) * 40 + b) (50 + 15 * w + 13) b with q | q
        · rw [if_pos ⟨c1, q⟩] at hMi
          rw [hMi] at e
          rw [q] at e220
          simp (disch := first | omega | assumption | (simp (disch := omega) only [vup_fn, vup_o, vup_k, vup_at]; first | done | omega | assumption)) only [hix, b472, ze_223_87, e220, ze_223_117, ze_223_120, ze_223_124, ze_223_125, e, Int.add_zero, ↓reduceIte, qw_id, zck_T, zck_t, zGor_v, zGor_n, zGor_e, zbs, vup_at, vup_vup, vup_self, vup_o, vup_k, vup_fn, ne_eq, not_true_eq_false, not_false_eq_true, and_true, true_and, and_self, and_false, false_and, or_true, true_or, or_self, or_false, false_or, xlt_t, xlt_f, xle_t, xle_f, xeq_t, xeq_f, xand_f, xor_t]
        · rw [if_neg (fun g => by omega)] at hMi
          rw [hMi, Int.add_zero] at e
          rw [q] at e220
          simp (disch := first | omega | assumption | (simp (disch := omega) only [vup_fn, vup_o, vup_k, vup_at]; first | done | omega | assumption)) only [hix, b472, ze_223_87, e220, ze_223_117, ze_223_120, ze_223_124, ze_223_125, e, Int.add_zero, ↓reduceIte, qw_id, zck_T, zck_t, zGor_v, zGor_n, zGor_e, zbs, vup_at, vup_vup, vup_self, vup_o, vup_k, vup_fn, ne_eq, not_true_eq_false, not_false_eq_true, and_true, true_and, and_self, and_false, false_and, or_true, true_or, or_self, or_false, false_or, xlt_t, xlt_f, xle_t, xle_f, xeq_t, xeq_f, xand_f, xor_t]
      · have q : oKi V J ((s * 12 + w) * 40 + b) (50 + 15 * w + 13) b = 0 := if_neg (fun g => c2 g.1.2)
        rw [if_pos ⟨c1, q⟩] at hMi
        rw [hMi] at e
        simp (disch := first | omega | assumption | (simp (disch := omega) only [vup_fn, vup_o, vup_k, vup_at]; first | done | omega | assumption)) only [hix, b472, ze_223_87, ze_223_120, ze_223_124, ze_223_125, e, Int.add_zero, ↓reduceIte, qw_id, zck_T, zck_t, zGor_v, zGor_n, zGor_e, zbs, vup_at, vup_vup, vup_self, vup_o, vup_k, vup_fn, ne_eq, not_true_eq_false, not_false_eq_true, and_true, true_and, and_self, and_false, false_and, or_true, true_or, or_self, or_false, false_or, xlt_t, xlt_f, xle_t, xle_f, xeq_t, xeq_f, xand_f, xor_t]
    · rw [if_neg (fun g => c1 g.1)] at hMi
      rw [hMi, Int.add_zero] at e
      simp (disch := first | omega | assumption | (simp (disch := omega) only [vup_fn, vup_o, vup_k, vup_at]; first | done | omega | assumption)) only [hix, b472, ze_223_87, ze_223_120, ze_223_124, ze_223_125, e, Int.add_zero, ↓reduceIte, qw_id, zck_T, zck_t, zGor_v, zGor_n, zGor_e, zbs, vup_at, vup_vup, vup_self, vup_o, vup_k, vup_fn, ne_eq, not_true_eq_false, not_false_eq_true, and_true, true_and, and_self, and_false, false_and, or_true, true_or, or_self, or_false, false_or, xlt_t, xlt_f, xle_t, xle_f, xeq_t, xeq_f, xand_f, xor_t]
theorem x134 (h : zInv N V J) (hN : N < 600) (hs : -2147483648 ≤ s ∧ s < 2147483648) (ha : -2147483648 ≤ a ∧ a < 2147483648) (hc : -2147483648 ≤ c ∧ c < 2147483648) : zTw N V J 134 [.ref 0, .int (zi s), .int (zi a), .int (zi c), .null] 223 [.ref 430, .int (zi s), .int (zi a), .int (zi c), .null, .null, .null, .null] [0] := by
  intro d
  have e133 := sp133 (V := V) (J := J) (d := d) hs ha hc
  by_cases h1 : (0 ≤ s ∧ s < 12) ∧ (0 ≤ a ∧ a < 3) ∧ 0 ≤ c ∧ c < 4
  · rw [if_pos h1] at e133
    left
    obtain ⟨w, hw⟩ : ∃ w : Nat, a * 4 + c = w := ⟨(a * 4 + c).toNat, by omega⟩
    have hw12 : w < 12 := by omega
    have hwt : ((w : Nat) : Int).toNat = w := by omega
    have hwi : 4 * a + c = w := by omega
    have hBM := zBk_6music (zBk_part hw12)
    have e23 := sl23 (d := d) h h1.1 hw12 40 0 (by omega) (by omega)
    rw [show oS (oMi V J s w (50 + 15 * w + 13)) (0 : Int).toNat = 0 from rfl] at e23
    refine ⟨oS (oMi V J s w (50 + 15 * w + 13)) 40, V, J, ?_, zRn_of h hN ?_⟩
    · simp (disch := first | omega | assumption | (simp (disch := omega) only [vup_fn, vup_o, vup_k, vup_at]; first | done | omega | assumption)) only [ze_134_0, ze_134_7, ze_134_34, ze_23_0, e133, hw, hwt, e23, Int.add_zero, ↓reduceIte, qw_id, zck_T, zck_t, zGor_v, zGor_n, zGor_e, zbs, vup_at, vup_vup, vup_self, vup_o, vup_k, vup_fn, ne_eq, not_true_eq_false, not_false_eq_true, and_true, true_and, and_self, and_false, false_and, or_true, true_or, or_self, or_false, false_or, xlt_t, xlt_f, xle_t, xle_f, xeq_t, xeq_f, xand_f, xor_t]
    intro J2 d2 hj hi
    have e1 := sp147 (V := V) (J := J2) (d := d2) (a := s) (b := 12) hs (by omega)
    rw [if_pos h1.1] at e1
    have e2 := sm146 (V := V) (J := J2) (d := d2) ha hc
    rw [if_pos h1.2] at e2
    have e4 := sm150 (V := V) (J := J2) (d := d2) (p := 1) (q := 1) (r := 1) (by omega) (by omega) (by omega)
    rw [if_pos (show gC 1 1 1 = 0 from rfl)] at e4
    have hi2 := zInv_fr (pM_60 (c := gC 1 1 1)) pC_60 hi
    have heq : oS (oMi V J2 s w (50 + 15 * w + 13)) 40 = oS (oMi V J s w (50 + 15 * w + 13)) 40 := oS_cong 40 (fun b _ _ => by
      unfold oMi oKi
      rw [hj 48 (by omega), hj 49 (by omega), hj (50 + 15 * w + 13 + 1) (by omega)])
    have hend : ∀ (W : zVt) (K : zJt) (f : Int), zGo false 183 0 [.ref 430, .int (zi 0), .int (zi w)] [] (zm (vup V 430 60 (gC 1 1 1)) J2 d2) = zI1 f W K d2 → mFm 0 (vup V 430 60 (gC 1 1 1)) J2 W K → (V (50 + 15 * w) 3 = 1 → rMus V J2 (50 + 15 * w + 13) W K 0) → ∃ y V2 J3, zGo false 223 0 [.ref 430, .int (zi s), .int (zi a), .int (zi c), .null, .null, .null, .null] [] (zm V J2 d2) = zI1 y V2 J3 d2 ∧ V2 430 60 = 0 ∧ pM V V2 J2 J3 ∧ pC V V2 J2 J3 ∧ J3 474 = J2 474 ∧ ((0 : Int) = 0 → y = oS (oMi V J s w (50 + 15 * w + 13)) 40) := fun W K f m1 m2 m3 => by
      have hpm := pM_t pM_60 (mFm_pM m2)
      have e223 := ml223 (d := d2) hi h1.1 hw12 hpm m3 (x2 := a) (x3 := c) 40 0 .null (by omega) (by omega)
      rw [show oS (oMi V J2 s w (50 + 15 * w + 13)) (0 : Int).toNat = 0 from rfl, heq] at e223
      refine ⟨oS (oMi V J s w (50 + 15 * w + 13)) 40, W, K, ?_, by rw [m2.2.1 60 (by omega), vup_at]; rfl, hpm, pC_t pC_60 (mFm_pC m2), mN5 m2, fun _ => rfl⟩
      simp (disch := first | omega | assumption | (simp (disch := omega) only [vup_fn, vup_o, vup_k, vup_at]; first | done | omega | assumption)) only [ze_223_0, ze_223_7, ze_223_15, ze_223_22, ze_223_23, ze_223_28, ze_223_47, e1, e2, e4, hwi, m1, e223, Int.add_zero, ↓reduceIte, qw_id, zck_T, zck_t, zGor_v, zGor_n, zGor_e, zbs, vup_at, vup_vup, vup_self, vup_o, vup_k, vup_fn, ne_eq, not_true_eq_false, not_false_eq_true, and_true, true_and, and_self, and_false, false_and, or_true, true_or, or_self, or_false, false_or, xlt_t, xlt_f, xle_t, xle_f, xeq_t, xeq_f, xand_f, xor_t]
    by_cases hp3 : V (50 + 15 * w) 3 = 1
    · have hp2 := ((h.2.2.1 w hw12).2.2.2.2.2.2 hp3).1
      obtain ⟨W, K, m1, m2, m3⟩ := mLib (d := d2) hi2 hw12 (by rw [vup_fn (by omega)]; exact hp2) (s := 0) (by omega)
      rw [show 63 + 15 * w = 50 + 15 * w + 13 by omega] at m3
      exact hend W K _ m1 m2 (fun _ => rMus_st m3 (vup_fn (by omega)).symm rfl)
    · have hp0 : V (50 + 15 * w) 3 = 0 := by
        have := (h.2.2.1 w hw12).2.1
        omega
      obtain ⟨f, W, K, m1, m2⟩ := mLibN (d := d2) hi2 hw12 (by rw [vup_fn (by omega)]; exact hp0)
      exact hend W K f m1 m2 (fun q => absurd q hp3)
  · right
    rw [if_neg h1] at e133
    refine ⟨0, 0, V, J, rfl, ?_, zRn_of h hN ?_⟩
    · simp (disch := first | omega | assumption | (simp (disch := omega) only [vup_fn, vup_o, vup_k, vup_at]; first | done | omega | assumption)) only [ze_134_0, ze_134_7, ze_134_34, e133, Int.add_zero, ↓reduceIte, qw_id, zck_T, zck_t, zGor_v, zGor_n, zGor_e, zbs, vup_at, vup_vup, vup_self, vup_o, vup_k, vup_fn, ne_eq, not_true_eq_false, not_false_eq_true, and_true, true_and, and_self, and_false, false_and, or_true, true_or, or_self, or_false, false_or, xlt_t, xlt_f, xle_t, xle_f, xeq_t, xeq_f, xand_f, xor_t]
    intro J2 d2 hj hi
    have e1 := sp147 (V := V) (J := J2) (d := d2) (a := s) (b := 12) hs (by omega)
    have e2 := sm146 (V := V) (J := J2) (d := d2) ha hc
    have e4 := sm150 (V := V) (J := J2) (d := d2) (p := 0) (q := 1) (r := 1) (by omega) (by omega) (by omega)
    rw [if_neg (show ¬ gC 0 1 1 = 0 by decide)] at e4
    refine ⟨0, vup V 430 60 (gC 0 1 1), J2, ?_, vup_at _ _ _ _, pM_60, pC_60, rfl, fun w => by omega⟩
    by_cases q : 0 ≤ s ∧ s < 12
    · rw [if_pos q] at e1
      rw [if_neg (fun g => h1 ⟨q, g⟩)] at e2
      simp (disch := first | omega | assumption | (simp (disch := omega) only [vup_fn, vup_o, vup_k, vup_at]; first | done | omega | assumption)) only [ze_223_0, ze_223_7, ze_223_15, ze_223_22, ze_223_23, ze_223_28, ze_223_47, ze_223_54, ze_223_87, ze_223_117, ze_223_120, ze_223_124, ze_223_125, e1, e2, e4, Int.add_zero, ↓reduceIte, qw_id, zck_T, zck_t, zGor_v, zGor_n, zGor_e, zbs, vup_at, vup_vup, vup_self, vup_o, vup_k, vup_fn, ne_eq, not_true_eq_false, not_false_eq_true, and_true, true_and, and_self, and_false, false_and, or_true, true_or, or_self, or_false, false_or, xlt_t, xlt_f, xle_t, xle_f, xeq_t, xeq_f, xand_f, xor_t]
    · rw [if_neg q] at e1
      simp (disch := first | omega | assumption | (simp (disch := omega) only [vup_fn, vup_o, vup_k, vup_at]; first | done | omega | assumption)) only [ze_223_0, ze_223_7, ze_223_15, ze_223_22, ze_223_23, ze_223_28, ze_223_47, ze_223_54, ze_223_87, ze_223_117, ze_223_120, ze_223_124, ze_223_125, e1, e4, Int.add_zero, ↓reduceIte, qw_id, zck_T, zck_t, zGor_v, zGor_n, zGor_e, zbs, vup_at, vup_vup, vup_self, vup_o, vup_k, vup_fn, ne_eq, not_true_eq_false, not_false_eq_true, and_true, true_and, and_self, and_false, false_and, or_true, true_or, or_self, or_false, false_or, xlt_t, xlt_f, xle_t, xle_f, xeq_t, xeq_f, xand_f, xor_t]
end
