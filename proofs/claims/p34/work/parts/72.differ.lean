/-! part 72: how many bars are unlike; differ -/
theorem lcmp_e {a b : Int64} (h : a = b) : (lg_cmp a b).toInt = 0 := by
  rw [(lg_cmp_eq a b).2 h]
  rfl
theorem lcmp_n {a b : Int64} (h : a ≠ b) : (lg_cmp a b).toInt = 1 ∨ (lg_cmp a b).toInt = -1 := by
  by_cases g : a > b
  · left
    show (if a > b then (1 : Int32) else if a = b then 0 else -1).toInt = 1
    rw [if_pos g]
    rfl
  · right
    show (if a > b then (1 : Int32) else if a = b then 0 else -1).toInt = -1
    rw [if_neg g, if_neg h]
    rfl
def cDf (V : zVt) (J : zJt) (M1 M2 : Nat) (b : Int) : Int := if (b < V M1 2 ∧ b < V M2 2) ∧ J (M1 + 1) (2 * b) = J (M2 + 1) (2 * b) ∧ J (M1 + 1) (2 * b + 1) = J (M2 + 1) (2 * b + 1) then 0 else 1
def cUn (V : zVt) (J : zJt) (M1 M2 : Nat) : Nat → Int
  | 0 => 0
  | n + 1 => cUn V J M1 M2 n + cDf V J M1 M2 n
def cMx (a b : Int) : Int := if a ≤ b then b else a
theorem cDf_01 (V : zVt) (J : zJt) (M1 M2 : Nat) (b : Int) : cDf V J M1 M2 b = 0 ∨ cDf V J M1 M2 b = 1 := by
  unfold cDf
  split
  · exact Or.inl rfl
  · exact Or.inr rfl
theorem cUn_rng (V : zVt) (J : zJt) (M1 M2 : Nat) : ∀ n : Nat, 0 ≤ cUn V J M1 M2 n ∧ cUn V J M1 M2 n ≤ n
  | 0 => ⟨Int.le_refl 0, Int.le_refl 0⟩
  | n + 1 => by
    have e1 := cUn_rng V J M1 M2 n
    have e2 := cDf_01 V J M1 M2 n
    show 0 ≤ cUn V J M1 M2 n + cDf V J M1 M2 n ∧ cUn V J M1 M2 n + cDf V J M1 M2 n ≤ ((n + 1 : Nat) : Int)
    omega
theorem cUn_s {V : zVt} {J : zJt} {M1 M2 : Nat} {b : Int} (h : 0 ≤ b) : cUn V J M1 M2 (b + 1).toNat = cUn V J M1 M2 b.toNat + cDf V J M1 M2 b := by
  rw [show (b + 1).toNat = b.toNat + 1 by omega]
  show cUn V J M1 M2 b.toNat + cDf V J M1 M2 ((b.toNat : Nat) : Int) = _
  rw [show ((b.toNat : Nat) : Int) = b by omega]
section
variable {V : zVt} {J : zJt} {d : Nat → Nat → UInt64}
theorem sp31 {M : Nat} {b : Int} (hb : zBk 5 M) (h : 0 ≤ b ∧ b < V M 2) (hm : V M 2 ≤ 40) : zGo false 31 0 [.ref M, .int (zi b)] [] (zm V J d) = some (.inl (some (.long (J (M + 1) (2 * b)))), zm V J d) := by
  have e := sp30 (V := V) (J := J) (d := d) (b := b) hb (by omega) (by omega)
  rw [if_pos h] at e
  simp (disch := first | omega | assumption | (simp (disch := omega) only [vup_fn, vup_o, vup_k, vup_at]; first | done | omega | assumption)) only [ze_31_0, ze_31_5, ze_31_20, e, Int.add_zero, ↓reduceIte, qw_id, zck_T, zck_t, zGor_v, zGor_n, zGor_e, zbs, vup_at, vup_vup, vup_self, vup_o, vup_k, vup_fn, ne_eq, not_true_eq_false, not_false_eq_true, and_true, true_and, and_self, and_false, false_and, or_true, true_or, or_self, or_false, false_or, xlt_t, xlt_f, xle_t, xle_f, xeq_t, xeq_f, xand_f, xor_t]
theorem sp32 {M : Nat} {b : Int} (hb : zBk 5 M) (h : 0 ≤ b ∧ b < V M 2) (hm : V M 2 ≤ 40) : zGo false 32 0 [.ref M, .int (zi b)] [] (zm V J d) = some (.inl (some (.long (J (M + 1) (2 * b + 1)))), zm V J d) := by
  have e := sp30 (V := V) (J := J) (d := d) (b := b) hb (by omega) (by omega)
  rw [if_pos h] at e
  simp (disch := first | omega | assumption | (simp (disch := omega) only [vup_fn, vup_o, vup_k, vup_at]; first | done | omega | assumption)) only [ze_32_0, ze_32_5, ze_32_22, e, Int.add_zero, ↓reduceIte, qw_id, zck_T, zck_t, zGor_v, zGor_n, zGor_e, zbs, vup_at, vup_vup, vup_self, vup_o, vup_k, vup_fn, ne_eq, not_true_eq_false, not_false_eq_true, and_true, true_and, and_self, and_false, false_and, or_true, true_or, or_self, or_false, false_or, xlt_t, xlt_f, xle_t, xle_f, xeq_t, xeq_f, xand_f, xor_t]
theorem sl39 {M1 M2 : Nat} (h1 : zBk 5 M1) (h2 : zBk 5 M2) (r1 : 0 ≤ V M1 2 ∧ V M1 2 ≤ 40) (r2 : 0 ≤ V M2 2 ∧ V M2 2 ≤ 40) (n : Nat) : ∀ b : Int, 0 ≤ b → cMx (V M1 2) (V M2 2) = b + n → zGo false 39 4 [.ref M1, .ref M2, .int (zi (cUn V J M1 M2 b.toNat)), .int (zi b)] [] (zm V J d) = zI1 (cUn V J M1 M2 (cMx (V M1 2) (V M2 2)).toNat) V J d := by
  have hmx : cMx (V M1 2) (V M2 2) = V M1 2 ∧ V M2 2 ≤ V M1 2 ∨ cMx (V M1 2) (V M2 2) = V M2 2 ∧ V M1 2 ≤ V M2 2 := by
    unfold cMx
    split
    · right; omega
    · left; omega
  induction n with
  | zero =>
    intro b b0 hb
    have e : b = cMx (V M1 2) (V M2 2) := by omega
    rw [← e, ze_39_4 _ _ _ _ h1 h2]
    simp (disch := first | omega | assumption | (simp (disch := omega) only [vup_fn, vup_o, vup_k, vup_at]; first | done | omega | assumption)) only [Int.add_zero, ↓reduceIte, qw_id, zck_T, zck_t, zGor_v, zGor_n, zGor_e, zbs, vup_at, vup_vup, vup_self, vup_o, vup_k, vup_fn, ne_eq, not_true_eq_false, not_false_eq_true, and_true, true_and, and_self, and_false, false_and, or_true, true_or, or_self, or_false, false_or, xlt_t, xlt_f, xle_t, xle_f, xeq_t, xeq_f, xand_f, xor_t]
  | succ n ih =>
    intro b b0 hb
    have e := ih (b + 1) (by omega) (by omega)
    rw [cUn_s b0] at e
    have hu := cUn_rng V J M1 M2 b.toNat
    have hd : cDf V J M1 M2 b = if (b < V M1 2 ∧ b < V M2 2) ∧ J (M1 + 1) (2 * b) = J (M2 + 1) (2 * b) ∧ J (M1 + 1) (2 * b + 1) = J (M2 + 1) (2 * b + 1) then 0 else 1 := rfl
    have e1 := sp30 (J := J) (d := d) (b := b) h1 (by omega) r1
    have e2 := sp30 (J := J) (d := d) (b := b) h2 (by omega) r2
    generalize cUn V J M1 M2 b.toNat = u at *
    rw [ze_39_4 _ _ _ _ h1 h2]
    by_cases a1 : b < V M1 2
    · rw [if_pos ⟨b0, a1⟩] at e1
      by_cases a2 : b < V M2 2
      · rw [if_pos ⟨b0, a2⟩] at e2
        have l1 := sp31 (J := J) (d := d) h1 ⟨b0, a1⟩ r1.2
        have l2 := sp31 (J := J) (d := d) h2 ⟨b0, a2⟩ r2.2
        have l3 := sp32 (J := J) (d := d) h1 ⟨b0, a1⟩ r1.2
        have l4 := sp32 (J := J) (d := d) h2 ⟨b0, a2⟩ r2.2
        by_cases c1 : J (M1 + 1) (2 * b) = J (M2 + 1) (2 * b)
        · have w1 := lcmp_e c1
          by_cases c2 : J (M1 + 1) (2 * b + 1) = J (M2 + 1) (2 * b + 1)
          · have w2 := lcmp_e c2
            rw [if_pos ⟨⟨a1, a2⟩, c1, c2⟩] at hd
            rw [hd, Int.add_zero] at e
            simp (disch := first | omega | assumption | (simp (disch := omega) only [vup_fn, vup_o, vup_k, vup_at]; first | done | omega | assumption)) only [ze_39_20, ze_39_25, ze_39_33, ze_39_41, ze_39_46, ze_39_55, ze_39_60, ze_39_67, e1, e2, l1, l2, l3, l4, w1, w2, e, Int.add_zero, ↓reduceIte, qw_id, zck_T, zck_t, zGor_v, zGor_n, zGor_e, zbs, vup_at, vup_vup, vup_self, vup_o, vup_k, vup_fn, ne_eq, not_true_eq_false, not_false_eq_true, and_true, true_and, and_self, and_false, false_and, or_true, true_or, or_self, or_false, false_or, xlt_t, xlt_f, xle_t, xle_f, xeq_t, xeq_f, xand_f, xor_t]
          · rw [if_neg (fun q => c2 q.2.2)] at hd
            rw [hd] at e
            rcases lcmp_n c2 with w2 | w2
            · simp (disch := first | omega | assumption | (simp (disch := omega) only [vup_fn, vup_o, vup_k, vup_at]; first | done | omega | assumption)) only [ze_39_20, ze_39_25, ze_39_33, ze_39_41, ze_39_46, ze_39_55, ze_39_60, ze_39_64, ze_39_67, e1, e2, l1, l2, l3, l4, w1, w2, e, Int.add_zero, ↓reduceIte, qw_id, zck_T, zck_t, zGor_v, zGor_n, zGor_e, zbs, vup_at, vup_vup, vup_self, vup_o, vup_k, vup_fn, ne_eq, not_true_eq_false, not_false_eq_true, and_true, true_and, and_self, and_false, false_and, or_true, true_or, or_self, or_false, false_or, xlt_t, xlt_f, xle_t, xle_f, xeq_t, xeq_f, xand_f, xor_t]
            · simp (disch := first | omega | assumption | (simp (disch := omega) only [vup_fn, vup_o, vup_k, vup_at]; first | done | omega | assumption)) only [ze_39_20, ze_39_25, ze_39_33, ze_39_41, ze_39_46, ze_39_55, ze_39_60, ze_39_64, ze_39_67, e1, e2, l1, l2, l3, l4, w1, w2, e, Int.add_zero, ↓reduceIte, qw_id, zck_T, zck_t, zGor_v, zGor_n, zGor_e, zbs, vup_at, vup_vup, vup_self, vup_o, vup_k, vup_fn, ne_eq, not_true_eq_false, not_false_eq_true, and_true, true_and, and_self, and_false, false_and, or_true, true_or, or_self, or_false, false_or, xlt_t, xlt_f, xle_t, xle_f, xeq_t, xeq_f, xand_f, xor_t]
        · rw [if_neg (fun q => c1 q.2.1)] at hd
          rw [hd] at e
          rcases lcmp_n c1 with w1 | w1
          · simp (disch := first | omega | assumption | (simp (disch := omega) only [vup_fn, vup_o, vup_k, vup_at]; first | done | omega | assumption)) only [ze_39_20, ze_39_25, ze_39_33, ze_39_41, ze_39_46, ze_39_55, ze_39_60, ze_39_64, ze_39_67, e1, e2, l1, l2, w1, e, Int.add_zero, ↓reduceIte, qw_id, zck_T, zck_t, zGor_v, zGor_n, zGor_e, zbs, vup_at, vup_vup, vup_self, vup_o, vup_k, vup_fn, ne_eq, not_true_eq_false, not_false_eq_true, and_true, true_and, and_self, and_false, false_and, or_true, true_or, or_self, or_false, false_or, xlt_t, xlt_f, xle_t, xle_f, xeq_t, xeq_f, xand_f, xor_t]
          · simp (disch := first | omega | assumption | (simp (disch := omega) only [vup_fn, vup_o, vup_k, vup_at]; first | done | omega | assumption)) only [ze_39_20, ze_39_25, ze_39_33, ze_39_41, ze_39_46, ze_39_55, ze_39_60, ze_39_64, ze_39_67, e1, e2, l1, l2, w1, e, Int.add_zero, ↓reduceIte, qw_id, zck_T, zck_t, zGor_v, zGor_n, zGor_e, zbs, vup_at, vup_vup, vup_self, vup_o, vup_k, vup_fn, ne_eq, not_true_eq_false, not_false_eq_true, and_true, true_and, and_self, and_false, false_and, or_true, true_or, or_self, or_false, false_or, xlt_t, xlt_f, xle_t, xle_f, xeq_t, xeq_f, xand_f, xor_t]
      · rw [if_neg (fun q => a2 q.2)] at e2
        rw [if_neg (fun q => a2 q.1.2)] at hd
        rw [hd] at e
        simp (disch := first | omega | assumption | (simp (disch := omega) only [vup_fn, vup_o, vup_k, vup_at]; first | done | omega | assumption)) only [ze_39_20, ze_39_25, ze_39_33, ze_39_64, ze_39_67, e1, e2, e, Int.add_zero, ↓reduceIte, qw_id, zck_T, zck_t, zGor_v, zGor_n, zGor_e, zbs, vup_at, vup_vup, vup_self, vup_o, vup_k, vup_fn, ne_eq, not_true_eq_false, not_false_eq_true, and_true, true_and, and_self, and_false, false_and, or_true, true_or, or_self, or_false, false_or, xlt_t, xlt_f, xle_t, xle_f, xeq_t, xeq_f, xand_f, xor_t]
    · rw [if_neg (fun q => a1 q.2)] at e1
      rw [if_neg (fun q => a1 q.1.1)] at hd
      rw [hd] at e
      simp (disch := first | omega | assumption | (simp (disch := omega) only [vup_fn, vup_o, vup_k, vup_at]; first | done | omega | assumption)) only [ze_39_20, ze_39_25, ze_39_64, ze_39_67, e1, e, Int.add_zero, ↓reduceIte, qw_id, zck_T, zck_t, zGor_v, zGor_n, zGor_e, zbs, vup_at, vup_vup, vup_self, vup_o, vup_k, vup_fn, ne_eq, not_true_eq_false, not_false_eq_true, and_true, true_and, and_self, and_false, false_and, or_true, true_or, or_self, or_false, false_or, xlt_t, xlt_f, xle_t, xle_f, xeq_t, xeq_f, xand_f, xor_t]
theorem sp39 {M1 M2 : Nat} (h1 : zBk 5 M1) (h2 : zBk 5 M2) (r1 : 0 ≤ V M1 2 ∧ V M1 2 ≤ 40) (r2 : 0 ≤ V M2 2 ∧ V M2 2 ≤ 40) : zGo false 39 0 [.ref M1, .ref M2, .null, .null] [] (zm V J d) = zI1 (cUn V J M1 M2 (cMx (V M1 2) (V M2 2)).toNat) V J d := by
  have e := sl39 (d := d) (J := J) h1 h2 r1 r2 (cMx (V M1 2) (V M2 2)).toNat 0 (by omega) (by unfold cMx; split <;> omega)
  rw [ze_39_0 _ _ h1 h2]
  exact e
theorem zby_eq {L M : Int64} : L = M ↔ ∀ r, 0 ≤ r → r < 8 → zby L r = zby M r := ⟨fun h _ _ _ => by rw [h], zby_ext⟩
theorem yMB_inj {x y : Int} (hx : 0 ≤ x ∧ x < 256) (hy : 0 ≤ y ∧ y < 256) (h : yMb x = yMb y) (h2 : yBg x = yBg y) : x = y := by
  unfold yMb at h
  unfold yBg at h2
  by_cases a : 128 ≤ x
  · rw [if_neg (show ¬ x = 0 by omega), if_pos a] at h
    rw [if_pos a] at h2
    by_cases b : 128 ≤ y
    · rw [if_neg (show ¬ y = 0 by omega), if_pos b] at h
      omega
    · rw [if_neg b] at h2
      omega
  · rw [if_neg a] at h h2
    by_cases b : 128 ≤ y
    · rw [if_pos b] at h2
      omega
    · rw [if_neg b] at h
      by_cases x0 : x = 0
      · rw [if_pos x0] at h
        by_cases y0 : y = 0
        · omega
        · rw [if_neg y0] at h
          omega
      · rw [if_neg x0] at h
        by_cases y0 : y = 0
        · rw [if_pos y0] at h
          omega
        · rw [if_neg y0] at h
          omega
/-- the bytes of two bars are the same -/
theorem cSd_eq {M1 M2 : Nat} {b1 b2 : Int} {J1 J2 : zJt} : (J1 (M1 + 1) (2 * b1) = J2 (M2 + 1) (2 * b2) ∧ J1 (M1 + 1) (2 * b1 + 1) = J2 (M2 + 1) (2 * b2 + 1)) ↔ ∀ t, 0 ≤ t → t < 16 → cSd J1 M1 b1 t = cSd J2 M2 b2 t := by
  unfold cSd
  constructor
  · intro h t _ _
    rw [h.1, h.2]
  · intro h
    refine ⟨zby_ext (fun r r0 r1 => ?_), zby_ext (fun r r0 r1 => ?_)⟩
    · have e := h r r0 (by omega)
      rw [if_pos r1, if_pos r1] at e
      exact e
    · have e := h (r + 8) (by omega) (by omega)
      rw [if_neg (by omega), if_neg (by omega), show r + 8 - 8 = r by omega] at e
      exact e
theorem rMus_eq {V1 V2 : zVt} {J1 J2 : zJt} {M1 M2 : Nat} {W1 W2 : zVt} {K1 K2 : zJt} {s1 s2 b1 b2 : Int} (h1 : rMus V1 J1 M1 W1 K1 s1) (h2 : rMus V2 J2 M2 W2 K2 s2) (hb1 : 0 ≤ b1 ∧ b1 < V1 M1 2) (hb2 : 0 ≤ b2 ∧ b2 < V2 M2 2) : (K1 451 (40 * s1 + b1) = K2 451 (40 * s2 + b2) ∧ K1 452 (40 * s1 + b1) = K2 452 (40 * s2 + b2) ∧ W1 453 (40 * s1 + b1) = W2 453 (40 * s2 + b2)) ↔ (J1 (M1 + 1) (2 * b1) = J2 (M2 + 1) (2 * b2) ∧ J1 (M1 + 1) (2 * b1 + 1) = J2 (M2 + 1) (2 * b2 + 1)) := by
  rw [cSd_eq]
  have g1 := rMus_bg h1 hb1
  have g2 := rMus_bg h2 hb2
  constructor
  · intro ⟨c1, c2, c3⟩ t t0 t1
    rw [g1, g2] at c3
    have y3 := yHr_eq (yBg_b01 (fun t => cSd J1 M1 b1 t)) (yBg_b01 (fun t => cSd J2 M2 b2 t)) 16 (by omega) c3 t (by omega) t1
    refine yMB_inj (cSd_rng _ _ _ _) (cSd_rng _ _ _ _) ?_ y3
    by_cases h8 : t < 8
    · have u1 := (rMus_by h1 hb1 ⟨t0, t1⟩).1 h8
      have u2 := (rMus_by h2 hb2 ⟨t0, t1⟩).1 h8
      rw [← u1, ← u2, c1]
    · have u1 := (rMus_by h1 hb1 ⟨t0, t1⟩).2 (by omega)
      have u2 := (rMus_by h2 hb2 ⟨t0, t1⟩).2 (by omega)
      rw [← u1, ← u2, c2]
  · intro h
    refine ⟨zby_ext (fun r r0 r1 => ?_), zby_ext (fun r r0 r1 => ?_), ?_⟩
    · rw [(rMus_by h1 hb1 (t := r) (by omega)).1 r1, (rMus_by h2 hb2 (t := r) (by omega)).1 r1, h r r0 (by omega)]
    · have u1 := (rMus_by h1 hb1 (t := r + 8) (by omega)).2 (by omega)
      have u2 := (rMus_by h2 hb2 (t := r + 8) (by omega)).2 (by omega)
      rw [show r + 8 - 8 = r by omega] at u1 u2
      rw [u1, u2, h (r + 8) (by omega) (by omega)]
    · rw [g1, g2]
      refine yHr_cong 16 (by omega) (fun t t0 t1 => ?_)
      show yBg (cSd J1 M1 b1 t) = yBg (cSd J2 M2 b2 t)
      rw [h t t0 t1]
end
theorem rMus_fr {V : zVt} {J : zJt} {M : Nat} {W W' : zVt} {K K' : zJt} {s s2 : Int} (h : rMus V J M W K s) (hf : mFm s2 W K W' K') (hne : s ≠ s2) (h40 : V M 2 ≤ 40) : rMus V J M W' K' s := by
  unfold rMus mBar at h ⊢
  obtain ⟨a1, a2, a3, B, a4, a5⟩ := h
  have f := hf.2.2.2.1 s hne
  rw [f.1, f.2.1, f.2.2]
  refine ⟨a1, a2, a3, B, a4, fun b b0 b1 => ?_⟩
  have g := hf.2.2.2.2.2 (40 * s + b) (by omega)
  rw [g.1, g.2, hf.2.2.1 (40 * s + b) (by omega)]
  exact a5 b b0 b1
theorem rMus_st {V V' : zVt} {J J' : zJt} {M : Nat} {W : zVt} {K : zJt} {s : Int} (h : rMus V J M W K s) (h1 : V' M = V M) (h2 : J' (M + 1) = J (M + 1)) : rMus V' J' M W K s := by
  unfold rMus at h ⊢
  rw [h1, h2]
  exact h
theorem iMs_mt {V : zVt} {J : zJt} {M w : Nat} {H : Int → Int} (h : iMs V J M w H) (h0 : V M 0 = 0) : V M 3 = tN (yTt V w) 2 := by
  obtain ⟨n, b, F, A, fa, hx, hg, m1, m2, m3, m4, m5⟩ := h
  rw [m1] at h0
  have hF : F = 0 := by
    by_cases hF : F = 0
    · exact hF
    · exact absurd ((if_pos hF).symm.trans h0) hF
  rw [m4]
  exact if_neg (fun w' => w' hF)
section
variable {V : zVt} {J : zJt} {d : Nat → Nat → UInt64}
end
section
variable {V : zVt} {J : zJt}
theorem mRg {N : Int} (hi : zInv N V J) {W W' : zVt} {K K' : zJt} {s : Int} (h : mFm s W K W' K') (h60 : V = W) (hj : J = K) : zInv N W' K' := by
  subst h60 hj
  exact zInv_fr (mFm_pM h) (mFm_pC h) hi
end
