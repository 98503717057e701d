/-! part 72: how many bars are unlike; differ -/
theorem lcmp_e {a b : Int64} (h : a = b) : (lg_cmp a b).toInt = 0 := by
  rw [(lg_cmp_eq a b).2 h]
  rfl
theorem lcmp_n {a b : Int64} (h : a ≠ b) : (lg_cmp a b).toInt = 1 ∨ (lg_cmp a b).toInt = -1 := by
  by_cases g : a > b
  · left
    show (if a > b then (1 : Int32) else if a = b then 0 else -1).toInt = 1
    rw [if_pos g]
    rfl
  · right
    show (if a > b then (1 : Int32) else if a = b then 0 else -1).toInt = -1
    rw [if_neg g, if_neg h]
    rfl
def cDf (V : zVt) (J : zJt) (M1 M2 : Nat) (b : Int) : Int := if (b < V M1 2 ∧ b < V M2 2) ∧ J (M1 + 1) (2 * b) = J (M2 + 1) (2 * b) ∧ J (M1 + 1) (2 * b + 1) = J (M2 + 1) (2 * b + 1) then 0 else 1
def cUn (V : zVt) (J : zJt) (M1 M2 : Nat) : Nat → Int
  | 0 => 0
  | n + 1 => cUn V J M1 M2 n + cDf V J M1 M2 n
def cMx (a b : Int) : Int := if a ≤ b then b else a
theorem cDf_01 (V : zVt) (J : zJt) (M1 M2 : Nat) (b : Int) : cDf V J M1 M2 b = 0 ∨ cDf V J M1 M2 b = 1 := by
  unfold cDf
  split
  · exact Or.inl rfl
  · exact Or.inr rfl
theorem cUn_rng (V : zVt) (J : zJt) (M1 M2 : Nat) : ∀ n : Nat, 0 ≤ cUn V J M1 M2 n ∧ cUn V J M1 M2 n ≤ n
  | 0 => ⟨Int.le_refl 0, Int.le_refl 0⟩
  | n + 1 => by
    have e1 := cUn_rng V J M1 M2 n
    have e2 := cDf_01 V J M1 M2 n
    show 0 ≤ cUn V J M1 M2 n + cDf V J M1 M2 n ∧ cUn V J M1 M2 n + cDf V J M1 M2 n ≤ ((n + 1 : Nat) : Int)
    omega
theorem cUn_s {V : zVt} {J : zJt} {M1 M2 : Nat} {b : Int} (h : 0 ≤ b) : cUn V J M1 M2 (b + 1).toNat = cUn V J M1 M2 b.toNat + cDf V J M1 M2 b := by
  rw [show (b + 1).toNat = b.toNat + 1 by omega]
  show cUn V J M1 M2 b.toNat + cDf V J M1 M2 ((b.toNat : Nat) : Int) = _
  rw [show ((b.toNat : Nat) : Int) = b by omega]
section
variable {V : zVt} {J : zJt} {d : Nat → Nat → UInt64}
theorem sp31 {M : Nat} {b : Int} (hb : zBk 5 M) (h : 0 ≤ b ∧ b < V M 2) (hm : V M 2 ≤ 40) : zGo false 31 0 [.ref M, .int (zi b)] [] (zm V J d) = some (.inl (some (.long (J (M + 1) (2 * b)))), zm V J d) := by
  have e := sp30 (V := V) (J := J) (d := d) (b := b) hb (by omega) (by omega)
  rw [if_pos h] at e
  simp (disch := first | omega | assumption | (simp (disch := omega) only [vup_fn, vup_o, vup_k, vup_at]; first | done | omega | assumption)) only [ze_31_0, ze_31_5, ze_31_20, e, Int.add_zero, ↓reduceIte, qw_id, zck_T, zck_t, zGor_v, zGor_n, zGor_e, zbs, vup_at, vup_vup, vup_self, vup_o, vup_k, vup_fn, ne_eq, not_true_eq_false, not_false_eq_true, and_true, true_and, and_self, and_false, false_and, or_true, true_or, or_self, or_false, false_or, xlt_t, xlt_f, xle_t, xle_f, xeq_t, xeq_f, xand_f, xor_t]
theorem sp32 {M : Nat} {b : Int} (hb : zBk 5 M) (h : 0 ≤ b ∧ b < V M 2) (hm : V M 2 ≤ 40) : zGo false 32 0 [.ref M, .int (zi b)] [] (zm V J d) = some (.inl (some (.long (J (M + 1) (2 * b + 1)))), zm V J d) := by
  have e := sp30 (V := V) (J := J) (d := d) (b := b) hb (by omega) (by omega)
  rw [if_pos h] at e
  simp (disch := first | omega | assumption | (simp (disch := omega) only [vup_fn, vup_o, vup_k, vup_at]; first | done | omega | assumption)) only [ze_32_0, ze_32_5, ze_32_22, e, Int.add_zero, ↓reduceIte, qw_id, zck_T, zck_t, zGor_v, zGor_n, zGor_e, zbs, vup_at, vup_vup, vup_self, vup_o, vup_k, vup_fn, ne_eq, not_true_eq_false, not_false_eq_true, and_true, true_and, and_self, and_false, false_and, or_true, true_or, or_self, or_false, false_or, xlt_t, xlt_f, xle_t, xle_f, xeq_t, xeq_f, xand_f, xor_t]
theorem sl39 {M1 M2 : Nat} (h1 : zBk 5 M1) (h2 : zBk 5 M2) (r1 : 0 ≤ V M1 2 ∧ V M1 2 ≤ 40) (r2 : 0 ≤ V M2 2 ∧ V M2 2 ≤ 40) (n : Nat) : ∀ b : Int, 0 ≤ b → cMx (V M1 2) (V M2 2) = b + n → zGo false 39 4 [.ref M1, .ref M2, .int (zi (cUn V J M1 M2 b.toNat)), .int (zi b)] [] (zm V J d) = zI1 (cUn V J M1 M2 (cMx (V M1 2) (V M2 2)).toNat) V J d := by
  have hmx : cMx (V M1 2) (V M2 2) = V M1 2 ∧ V M2 2 ≤ V M1 2 ∨ cMx (V M1 2) (V M2 2) = V M2 2 ∧ V M1 2 ≤ V M2 2 := by
    unfold cMx
    split
    · right; omega
    · left; omega
  induction n with
  | zero =>
    intro b b0 hb
    have e : b = cMx (V M1 2) (V M2 2) := by omega
    rw [← e, ze_39_4 _ _ _ _ h1 h2]
    simp (disch := first | omega | assumption | (simp (disch := omega) only [vup_fn, vup_o, vup_k, vup_at]; first | done | omega | assumption)) only [Int.add_zero, ↓reduceIte, qw_id, zck_T, zck_t, zGor_v, zGor_n, zGor_e, zbs, vup_at, vup_vup, vup_self, vup_o, vup_k, vup_fn, ne_eq, not_true_eq_false, not_false_eq_true, and_true, true_and, and_self, and_false, false_and, or_true, true_or, or_self, or_false, false_or, xlt_t, xlt_f, xle_t, xle_f, xeq_t, xeq_f, xand_f, xor_t]
  | succ n ih =>
    intro b b0 hb
    have e := ih (b + 1) (by omega) (by omega)
    rw [cUn_s b0] at e
    have hu := cUn_rng V J M1 M2 b.toNat
    have hd : cDf V J M1 M2 b = if (b < V M1 2 ∧ b < V M2 2) ∧ J (M1 + 1) (2 * b) = J (M2 + 1) (2 * b) ∧ J (M1 + 1) (2 * b + 1) = J (M2 + 1) (2 * b + 1) then 0 else 1 := rfl
    have e1 := sp30 (J := J) (d := d) (b := b) h1 (by omega) r1
    have e2 := sp30 (J := J) (d := d) (b := b) h2 (by omega) r2
    generalize cUn V J M1 M2 b.toNat = u at *
    rw [ze_39_4 _ _ _ _ h1 h2]
    by_cases a1 : b < V M1 2
    · rw [if_pos ⟨b0, a1⟩] at e1
      by_cases a2 : b < V M2 2
      · rw [if_pos ⟨b0, a2⟩] at e2
        have l1 := sp31 (J := J) (d := d) h1 ⟨b0, a1⟩ r1.2
        have l2 := sp31 (J := J) (d := d) h2 ⟨b0, a2⟩ r2.2
        have l3 := sp32 (J := J) (d := d) h1 ⟨b0, a1⟩ r1.2
        have l4 := sp32 (J := J) (d := d) h2 ⟨b0, a2⟩ r2.2
        by_cases c1 : J (M1 + 1) (2 * b) = J (M2 + 1) (2 * b)
        · have w1 := lcmp_e c1
          by_cases c2 : J (M1 + 1) (2 * b + 1) = J (M2 + 1) (2 * b + 1)
          · have w2 := lcmp_e c2
            rw [if_pos ⟨⟨a1, a2⟩, c1, c2⟩] at hd
            rw [hd, Int.add_zero] at e
            simp (disch := first | omega | assumption | (simp (disch := omega) only [vup_fn, vup_o, vup_k, vup_at]; first | done | omega | assumption)) only [ze_39_20, ze_39_25, ze_39_33, ze_39_41, ze_39_46, ze_39_55, ze_39_60, ze_39_67, e1, e2, l1, l2, l3, l4, w1, w2, e, Int.add_zero, ↓reduceIte, qw_id, zck_T, zck_t, zGor_v, zGor_n, zGor_e, zbs, vup_at, vup_vup, vup_self, vup_o, vup_k, vup_fn, ne_eq, not_true_eq_false, not_false_eq_true, and_true, true_and, and_self, and_false, false_and, or_true, true_or, or_self, or_false, false_or, xlt_t, xlt_f, xle_t, xle_f, xeq_t, xeq_f, xand_f, xor_t]
          · rw [if_neg (fun q => c2 q.2.2)] at hd
            rw [hd] at e
            rcases lcmp_n c2 with w2 | w2
            · simp (disch := first | omega | assumption | (simp (disch := omega) only [vup_fn, vup_o, vup_k, vup_at]; first | done | omega | assumption)) only [ze_39_20, ze_39_25, ze_39_33, ze_39_41, ze_39_46, ze_39_55, ze_39_60, ze_39_64, ze_39_67, e1, e2, l1, l2, l3, l4, w1, w2, e, Int.add_zero, ↓reduceIte, qw_id, zck_T, zck_t, zGor_v, zGor_n, zGor_e, zbs, vup_at, vup_vup, vup_self, vup_o, vup_k, vup_fn, ne_eq, not_true_eq_false, not_false_eq_true, and_true, true_and, and_self, and_false, false_and, or_true, true_or, or_self, or_false, false_or, xlt_t, xlt_f, xle_t, xle_f, xeq_t, xeq_f, xand_f, xor_t]
            · simp (disch := first | omega | assumption | (simp (disch := omega) only [vup_fn, vup_o, vup_k, vup_at]; first | done | omega | assumption)) only [ze_39_20, ze_39_25, ze_39_33, ze_39_41, ze_39_46, ze_39_55, ze_39_60, ze_39_64, ze_39_67, e1, e2, l1, l2, l3, l4, w1, w2, e, Int.add_zero, ↓reduceIte, qw_id, zck_T, zck_t, zGor_v, zGor_n, zGor_e, zbs, vup_at, vup_vup, vup_self, vup_o, vup_k, vup_fn, ne_eq, not_true_eq_false, not_false_eq_true, and_true, true_and, and_self, and_false, false_and, or_true, true_or, or_self, or_false, false_or, xlt_t, xlt_f, xle_t, xle_f, xeq_t, xeq_f, xand_f, xor_t]
        · rw [if_neg (fun q => c1 q.2.1)] at hd
          rw [hd] at e
          rcases lcmp_n c1 with w1 | w1
          · simp (disch := first | omega | assumption | (simp (disch := omega) only [vup_fn, vup_o, vup_k, vup_at]; first | done | omega | assumption)) only [ze_39_20, ze_39_25, ze_39_33, ze_39_41, ze_39_46, ze_39_55, ze_39_60, ze_39_64, ze_39_67, e1, e2, l1, l2, w1, e, Int.add_zero, ↓reduceIte, qw_id, zck_T, zck_t, zGor_v, zGor_n, zGor_e, zbs, vup_at, vup_vup, vup_self, vup_o, vup_k, vup_fn, ne_eq, not_true_eq_false, not_false_eq_true, and_true, true_and, and_self, and_false, false_and, or_true, true_or, or_self, or_false, false_or, xlt_t, xlt_f, xle_t, xle_f, xeq_t, xeq_f, xand_f, xor_t]
          · simp (disch := first | omega | assumption | (simp (disch := omega) only [vup_fn, vup_o, vup_k, vup_at]; first | done | omega | assumption)) only [ze_39_20, ze_39_25, ze_39_33, ze_39_41, ze_39_46, ze_39_55, ze_39_60, ze_39_64, ze_39_67, e1, e2, l1, l2, w1, e, Int.add_zero, ↓reduceIte, qw_id, zck_T, zck_t, zGor_v, zGor_n, zGor_e, zbs, vup_at, vup_vup, vup_self, vup_o, vup_k, vup_fn, ne_eq, not_true_eq_false, not_false_eq_true, and_true, true_and, and_self, and_false, false_and, or_true, true_or, or_self, or_false, false_or, xlt_t, xlt_f, xle_t, xle_f, xeq_t, xeq_f, xand_f, xor_t]
      · rw [if_neg (fun q => a2 q.2)] at e2
        rw [if_neg (fun q => a2 q.1.2)] at hd
        rw [hd] at e
        simp (disch := first | omega | assumption | (simp (disch := omega) only [vup_fn, vup_o, vup_k, vup_at]; first | done | omega | assumption)) only [ze_39_20, ze_39_25, ze_39_33, ze_39_64, ze_39_67, e1, e2, e, Int.add_zero, ↓reduceIte, qw_id, zck_T, zck_t, zGor_v, zGor_n, zGor_e, zbs, vup_at, vup_vup, vup_self, vup_o, vup_k, vup_fn, ne_eq, not_true_eq_false, not_false_eq_true, and_true, true_and, and_self, and_false, false_and, or_true, true_or, or_self, or_false, false_or, xlt_t, xlt_f, xle_t, xle_f, xeq_t, xeq_f, xand_f, xor_t]
    · rw [if_neg (fun q => a1 q.2)] at e1
      rw [if_neg (fun q => a1 q.1.1)] at hd
      rw [hd] at e
      simp (disch := first | omega | assumption | (simp (disch := omega) only [vup_fn, vup_o, vup_k, vup_at]; first | done | omega | assumption)) only [ze_39_20, ze_39_25, ze_39_64, ze_39_67, e1, e, Int.add_zero, ↓reduceIte, qw_id, zck_T, zck_t, zGor_v, zGor_n, zGor_e, zbs, vup_at, vup_vup, vup_self, vup_o, vup_k, vup_fn, ne_eq, not_true_eq_false, not_false_eq_true, and_true, true_and, and_self, and_false, false_and, or_true, true_or, or_self, or_false, false_or, xlt_t, xlt_f, xle_t, xle_f, xeq_t, xeq_f, xand_f, xor_t]
theorem sp39 {M1 M2 : Nat} (h1 : zBk 5 M1) (h2 : zBk 5 M2) (r1 : 0 ≤ V M1 2 ∧ V M1 2 ≤ 40) (r2 : 0 ≤ V M2 2 ∧ V M2 2 ≤ 40) : zGo false 39 0 [.ref M1, .ref M2, .null, .null] [] (zm V J d) = zI1 (cUn V J M1 M2 (cMx (V M1 2) (V M2 2)).toNat) V J d := by
  have e := sl39 (d := d) (J := J) h1 h2 r1 r2 (cMx (V M1 2) (V M2 2)).toNat 0 (by omega) (by unfold cMx; split <;> omega)
  rw [ze_39_0 _ _ h1 h2]
  exact e
theorem zby_eq {L M : Int64} : L = M ↔ ∀ r, 0 ≤ r → r < 8 → zby L r = zby M r := ⟨fun h _ _ _ => by rw [h], zby_ext⟩
theorem yMB_inj {x y : Int} (hx : 0 ≤ x ∧ x < 256) (hy : 0 ≤ y ∧ y < 256) (h : yMb x = yMb y) (h2 : yBg x = yBg y) : x = y := by
  unfold yMb at h
  unfold yBg at h2
  by_cases a : 128 ≤ x
  · rw [if_neg (show ¬ x = 0 by omega), if_pos a] at h
    rw [if_pos a] at h2
    by_cases b : 128 ≤ y
    · rw [if_neg (show ¬ y = 0 by omega), if_pos b] at h
      omega
    · rw [if_neg b] at h2
      omega
  · rw [if_neg a] at h h2
    by_cases b : 128 ≤ y
    · rw [if_pos b] at h2
      omega
    · rw [if_neg b] at h
      by_cases x0 : x = 0
      · rw [if_pos x0] at h
        by_cases y0 : y = 0
        · omega
        · rw [if_neg y0] at h
          omega
      · rw [if_neg x0] at h
        by_cases y0 : y = 0
        · rw [if_pos y0] at h
          omega
        · rw [if_neg y0] at h
          omega
/-- the bytes of two bars are the same -/
theorem cSd_eq {M1 M2 : Nat} {b1 b2 : Int} {J1 J2 : zJt} : (J1 (M1 + 1) (2 * b1) = J2 (M2 + 1) (2 * b2) ∧ J1 (M1 + 1) (2 * b1 + 1) = J2 (M2 + 1) (2 * b2 + 1)) ↔ ∀ t, 0 ≤ t → t < 16 → cSd J1 M1 b1 t = cSd J2 M2 b2 t := by
  unfold cSd
  constructor
  · intro h t _ _
    rw [h.1, h.2]
  · intro h
    refine ⟨zby_ext (fun r r0 r1 => ?_), zby_ext (fun r r0 r1 => ?_)⟩
    · have e := h r r0 (by omega)
      rw [if_pos r1, if_pos r1] at e
      exact e
    · have e := h (r + 8) (by omega) (by omega)
      rw [if_neg (by omega), if_neg (by omega), show r + 8 - 8 = r by omega] at e
      exact e
theorem rMus_eq {V1 V2 : zVt} {J1 J2 : zJt} {M1 M2 : Nat} {W1 W2 : zVt} {K1 K2 : zJt} {s1 s2 b1 b2 : Int} (h1 : rMus V1 J1 M1 W1 K1 s1) (h2 : rMus V2 J2 M2 W2 K2 s2) (hb1 : 0 ≤ b1 ∧ b1 < V1 M1 2) (hb2 : 0 ≤ b2 ∧ b2 < V2 M2 2) : (K1 451 (40 * s1 + b1) = K2 451 (40 * s2 + b2) ∧ K1 452 (40 * s1 + b1) = K2 452 (40 * s2 + b2) ∧ W1 453 (40 * s1 + b1) = W2 453 (40 * s2 + b2)) ↔ (J1 (M1 + 1) (2 * b1) = J2 (M2 + 1) (2 * b2) ∧ J1 (M1 + 1) (2 * b1 + 1) = J2 (M2 + 1) (2 * b2 + 1)) := by
  rw [cSd_eq]
  have g1 := rMus_bg h1 hb1
  have g2 := rMus_bg h2 hb2
  constructor
  · intro ⟨c1, c2, c3⟩ t t0 t1
    rw [g1, g2] at c3
    have y3 := yHr_eq (yBg_b01 (fun t => cSd J1 M1 b1 t)) (yBg_b01 (fun t => cSd J2 M2 b2 t)) 16 (by omega) c3 t (by omega) t1
    refine yMB_inj (cSd_rng _ _ _ _) (cSd_rng _ _ _ _) ?_ y3
    by_cases h8 : t < 8
    · have u1 := (rMus_by h1 hb1 ⟨t0, t1⟩).1 h8
      have u2 := (rMus_by h2 hb2 ⟨t0, t1⟩).1 h8
      rw [← u1, ← u2, c1]
    · have u1 := (rMus_by h1 hb1 ⟨t0, t1⟩).2 (by omega)
      have u2 := (rMus_by h2 hb2 ⟨t0, t1⟩).2 (by omega)
      rw [← u1, ← u2, c2]
  · intro h
    refine ⟨zby_ext (fun r r0 r1 => ?_), zby_ext (fun r r0 r1 => ?_), ?_⟩
    · rw [(rMus_by h1 hb1 (t := r) (by omega)).1 r1, (rMus_by h2 hb2 (t := r) (by omega)).1 r1, h r r0 (by omega)]
    · have u1 := (rMus_by h1 hb1 (t := r + 8) (by omega)).2 (by omega)
      have u2 := (rMus_by h2 hb2 (t := r + 8) (by omega)).2 (by omega)
      rw [show r + 8 - 8 = r by omega] at u1 u2
      rw [u1, u2, h (r + 8) (by omega) (by omega)]
    · rw [g1, g2]
      refine yHr_cong 16 (by omega) (fun t t0 t1 => ?_)
      show yBg (cSd J1 M1 b1 t) = yBg (cSd J2 M2 b2 t)
      rw [h t t0 t1]
end
theorem rMus_fr {V : zVt} {J : zJt} {M : Nat} {W W' : zVt} {K K' : zJt} {s s2 : Int} (h : rMus V J M W K s) (hf : mFm s2 W K W' K') (hne : s ≠ s2) (h40 : V M 2 ≤ 40) : rMus V J M W' K' s := by
  unfold rMus mBar at h ⊢
  obtain ⟨a1, a2, a3, B, a4, a5⟩ := h
  have f := hf.2.2.2.1 s hne
  rw [f.1, f.2.1, f.2.2]
  refine ⟨a1, a2, a3, B, a4, fun b b0 b1 => ?_⟩
  have g := hf.2.2.2.2.2 (40 * s + b) (by omega)
  rw [g.1, g.2, hf.2.2.1 (40 * s + b) (by omega)]
  exact a5 b b0 b1
theorem rMus_st {V V' : zVt} {J J' : zJt} {M : Nat} {W : zVt} {K : zJt} {s : Int} (h : rMus V J M W K s) (h1 : V' M = V M) (h2 : J' (M + 1) = J (M + 1)) : rMus V' J' M W K s := by
  unfold rMus at h ⊢
  rw [h1, h2]
  exact h
theorem iMs_mt {V : zVt} {J : zJt} {M w : Nat} {H : Int → Int} (h : iMs V J M w H) (h0 : V M 0 = 0) : V M 3 = tN (yTt V w) 2 := by
  obtain ⟨n, b, F, A, fa, hx, hg, m1, m2, m3, m4, m5⟩ := h
  rw [m1] at h0
  have hF : F = 0 := by
    by_cases hF : F = 0
    · exact hF
    · exact absurd ((if_pos hF).symm.trans h0) hF
  rw [m4]
  exact if_neg (fun w' => w' hF)
section
variable {V : zVt} {J : zJt} {d : Nat → Nat → UInt64}
theorem m206 {M1 M2 : Nat} {W : zVt} {K : zJt} {s1 s2 b : Int} (h1 : rMus V J M1 W K s1) (h2 : rMus V J M2 W K s2) (hs1 : 0 ≤ s1 ∧ s1 < 5) (hs2 : 0 ≤ s2 ∧ s2 < 5) (hb1 : 0 ≤ b ∧ b < V M1 2) (hb2 : b < V M2 2) (h40 : V M1 2 ≤ 40) (hm : W 450 s1 = W 450 s2) (hr : 0 ≤ W 450 s1 ∧ W 450 s1 ≤ 16) : zGo false 206 0 [.ref 430, .int (zi s1), .int (zi s2), .int (zi b), .null, .null] [] (zm W K d) = zI1 (1 - cDf V J M1 M2 b) W K d := by
  have e := rMus_eq h1 h2 hb1 ⟨hb1.1, hb2⟩
  have g1 := rMus_bg h1 hb1
  have g2 := rMus_bg h2 ⟨hb1.1, hb2⟩
  have t1 := yHr_rng (yBg_b01 (fun t => cSd J M1 b t)) 16 (by omega)
  have t2 := yHr_rng (yBg_b01 (fun t => cSd J M2 b t)) 16 (by omega)
  rw [← g1] at t1
  rw [← g2] at t2
  unfold cDf
  by_cases c1 : K 451 (40 * s1 + b) = K 451 (40 * s2 + b)
  · have w1 := lcmp_e c1
    by_cases c2 : K 452 (40 * s1 + b) = K 452 (40 * s2 + b)
    · have w2 := lcmp_e c2
      by_cases c3 : W 453 (40 * s1 + b) = W 453 (40 * s2 + b)
      · rw [if_pos ⟨⟨hb1.2, hb2⟩, e.1 ⟨c1, c2, c3⟩⟩, show (1 : Int) - 0 = 1 from rfl]
        simp (disch := first | omega | assumption | (simp (disch := omega) only [vup_fn, vup_o, vup_k, vup_at]; first | done | omega | assumption)) only [ze_206_0, ze_206_88, ze_206_89, w1, w2, Int.add_zero, ↓reduceIte, qw_id, zck_T, zck_t, zGor_v, zGor_n, zGor_e, zbs, vup_at, vup_vup, vup_self, vup_o, vup_k, vup_fn, ne_eq, not_true_eq_false, not_false_eq_true, and_true, true_and, and_self, and_false, false_and, or_true, true_or, or_self, or_false, false_or, xlt_t, xlt_f, xle_t, xle_f, xeq_t, xeq_f, xand_f, xor_t]
      · rw [if_neg (fun q => c3 (e.2 q.2).2.2), show (1 : Int) - 1 = 0 from rfl]
        simp (disch := first | omega | assumption | (simp (disch := omega) only [vup_fn, vup_o, vup_k, vup_at]; first | done | omega | assumption)) only [ze_206_0, ze_206_88, ze_206_89, w1, w2, Int.add_zero, ↓reduceIte, qw_id, zck_T, zck_t, zGor_v, zGor_n, zGor_e, zbs, vup_at, vup_vup, vup_self, vup_o, vup_k, vup_fn, ne_eq, not_true_eq_false, not_false_eq_true, and_true, true_and, and_self, and_false, false_and, or_true, true_or, or_self, or_false, false_or, xlt_t, xlt_f, xle_t, xle_f, xeq_t, xeq_f, xand_f, xor_t]
    · rw [if_neg (fun q => c2 (e.2 q.2).2.1), show (1 : Int) - 1 = 0 from rfl]
      rcases lcmp_n c2 with w2 | w2
      · simp (disch := first | omega | assumption | (simp (disch := omega) only [vup_fn, vup_o, vup_k, vup_at]; first | done | omega | assumption)) only [ze_206_0, ze_206_88, ze_206_89, w1, w2, Int.add_zero, ↓reduceIte, qw_id, zck_T, zck_t, zGor_v, zGor_n, zGor_e, zbs, vup_at, vup_vup, vup_self, vup_o, vup_k, vup_fn, ne_eq, not_true_eq_false, not_false_eq_true, and_true, true_and, and_self, and_false, false_and, or_true, true_or, or_self, or_false, false_or, xlt_t, xlt_f, xle_t, xle_f, xeq_t, xeq_f, xand_f, xor_t]
      · simp (disch := first | omega | assumption | (simp (disch := omega) only [vup_fn, vup_o, vup_k, vup_at]; first | done | omega | assumption)) only [ze_206_0, ze_206_88, ze_206_89, w1, w2, Int.add_zero, ↓reduceIte, qw_id, zck_T, zck_t, zGor_v, zGor_n, zGor_e, zbs, vup_at, vup_vup, vup_self, vup_o, vup_k, vup_fn, ne_eq, not_true_eq_false, not_false_eq_true, and_true, true_and, and_self, and_false, false_and, or_true, true_or, or_self, or_false, false_or, xlt_t, xlt_f, xle_t, xle_f, xeq_t, xeq_f, xand_f, xor_t]
  · rw [if_neg (fun q => c1 (e.2 q.2).1), show (1 : Int) - 1 = 0 from rfl]
    rcases lcmp_n c1 with w1 | w1
    · simp (disch := first | omega | assumption | (simp (disch := omega) only [vup_fn, vup_o, vup_k, vup_at]; first | done | omega | assumption)) only [ze_206_0, ze_206_88, ze_206_89, w1, Int.add_zero, ↓reduceIte, qw_id, zck_T, zck_t, zGor_v, zGor_n, zGor_e, zbs, vup_at, vup_vup, vup_self, vup_o, vup_k, vup_fn, ne_eq, not_true_eq_false, not_false_eq_true, and_true, true_and, and_self, and_false, false_and, or_true, true_or, or_self, or_false, false_or, xlt_t, xlt_f, xle_t, xle_f, xeq_t, xeq_f, xand_f, xor_t]
    · simp (disch := first | omega | assumption | (simp (disch := omega) only [vup_fn, vup_o, vup_k, vup_at]; first | done | omega | assumption)) only [ze_206_0, ze_206_88, ze_206_89, w1, Int.add_zero, ↓reduceIte, qw_id, zck_T, zck_t, zGor_v, zGor_n, zGor_e, zbs, vup_at, vup_vup, vup_self, vup_o, vup_k, vup_fn, ne_eq, not_true_eq_false, not_false_eq_true, and_true, true_and, and_self, and_false, false_and, or_true, true_or, or_self, or_false, false_or, xlt_t, xlt_f, xle_t, xle_f, xeq_t, xeq_f, xand_f, xor_t]
/-- unlike of the reference -/
theorem ml205 {M1 M2 : Nat} {W : zVt} {K : zJt} {s1 s2 : Int} (h1 : rMus V J M1 W K s1) (h2 : rMus V J M2 W K s2) (hs1 : 0 ≤ s1 ∧ s1 < 5) (hs2 : 0 ≤ s2 ∧ s2 < 5) (r1 : 0 ≤ V M1 2 ∧ V M1 2 ≤ 40) (r2 : 0 ≤ V M2 2 ∧ V M2 2 ≤ 40) (hm : 0 < V M1 2 → 0 < V M2 2 → W 450 s1 = W 450 s2 ∧ 0 ≤ W 450 s1 ∧ W 450 s1 ≤ 16) (n : Nat) : ∀ (b : Int) (v : Value), 0 ≤ b → cMx (V M1 2) (V M2 2) = b + n → zGo false 205 37 [.ref 430, .int (zi s1), .int (zi s2), .int (zi (cMx (V M1 2) (V M2 2))), .int (zi (cUn V J M1 M2 b.toNat)), .int (zi b), v] [] (zm W K d) = zI1 (cUn V J M1 M2 (cMx (V M1 2) (V M2 2)).toNat) W K d := by
  have hmx : cMx (V M1 2) (V M2 2) = V M1 2 ∧ V M2 2 ≤ V M1 2 ∨ cMx (V M1 2) (V M2 2) = V M2 2 ∧ V M1 2 ≤ V M2 2 := by
    unfold cMx
    split
    · right; omega
    · left; omega
  have b1 := h1.2.1
  have b2 := h2.2.1
  induction n with
  | zero =>
    intro b v b0 hb
    have e : b = cMx (V M1 2) (V M2 2) := by omega
    rw [← e, ze_205_37]
    simp (disch := first | omega | assumption | (simp (disch := omega) only [vup_fn, vup_o, vup_k, vup_at]; first | done | omega | assumption)) only [Int.add_zero, ↓reduceIte, qw_id, zck_T, zck_t, zGor_v, zGor_n, zGor_e, zbs, vup_at, vup_vup, vup_self, vup_o, vup_k, vup_fn, ne_eq, not_true_eq_false, not_false_eq_true, and_true, true_and, and_self, and_false, false_and, or_true, true_or, or_self, or_false, false_or, xlt_t, xlt_f, xle_t, xle_f, xeq_t, xeq_f, xand_f, xor_t]
  | succ n ih =>
    intro b v b0 hb
    have e := fun v => ih (b + 1) v (by omega) (by omega)
    rw [cUn_s b0] at e
    have hu := cUn_rng V J M1 M2 b.toNat
    have hd : cDf V J M1 M2 b = if (b < V M1 2 ∧ b < V M2 2) ∧ J (M1 + 1) (2 * b) = J (M2 + 1) (2 * b) ∧ J (M1 + 1) (2 * b + 1) = J (M2 + 1) (2 * b + 1) then 0 else 1 := rfl
    have h01 := cDf_01 V J M1 M2 b
    have e206 := fun q1 q2 => m206 (d := d) h1 h2 hs1 hs2 (b := b) ⟨b0, q1⟩ q2 r1.2 (hm (by omega) (by omega)).1 (hm (by omega) (by omega)).2
    generalize cUn V J M1 M2 b.toNat = u at *
    generalize cMx (V M1 2) (V M2 2) = mx at *
    rw [ze_205_37]
    by_cases a1 : b < V M1 2
    · by_cases a2 : b < V M2 2
      · have e3 := e206 a1 a2
        rcases h01 with c1 | c1
        · rw [c1] at e3 e
          rw [Int.add_zero] at e
          simp (disch := first | omega | assumption | (simp (disch := omega) only [vup_fn, vup_o, vup_k, vup_at]; first | done | omega | assumption)) only [ze_205_73, ze_205_81, ze_205_95, e3, e, Int.add_zero, ↓reduceIte, qw_id, zck_T, zck_t, zGor_v, zGor_n, zGor_e, zbs, vup_at, vup_vup, vup_self, vup_o, vup_k, vup_fn, ne_eq, not_true_eq_false, not_false_eq_true, and_true, true_and, and_self, and_false, false_and, or_true, true_or, or_self, or_false, false_or, xlt_t, xlt_f, xle_t, xle_f, xeq_t, xeq_f, xand_f, xor_t]
        · rw [c1] at e3 e
          simp (disch := first | omega | assumption | (simp (disch := omega) only [vup_fn, vup_o, vup_k, vup_at]; first | done | omega | assumption)) only [ze_205_73, ze_205_80, ze_205_81, ze_205_95, e3, e, Int.add_zero, ↓reduceIte, qw_id, zck_T, zck_t, zGor_v, zGor_n, zGor_e, zbs, vup_at, vup_vup, vup_self, vup_o, vup_k, vup_fn, ne_eq, not_true_eq_false, not_false_eq_true, and_true, true_and, and_self, and_false, false_and, or_true, true_or, or_self, or_false, false_or, xlt_t, xlt_f, xle_t, xle_f, xeq_t, xeq_f, xand_f, xor_t]
      · rw [if_neg (fun q => a2 q.1.2)] at hd
        rw [hd] at e
        simp (disch := first | omega | assumption | (simp (disch := omega) only [vup_fn, vup_o, vup_k, vup_at]; first | done | omega | assumption)) only [ze_205_80, ze_205_81, ze_205_95, e, Int.add_zero, ↓reduceIte, qw_id, zck_T, zck_t, zGor_v, zGor_n, zGor_e, zbs, vup_at, vup_vup, vup_self, vup_o, vup_k, vup_fn, ne_eq, not_true_eq_false, not_false_eq_true, and_true, true_and, and_self, and_false, false_and, or_true, true_or, or_self, or_false, false_or, xlt_t, xlt_f, xle_t, xle_f, xeq_t, xeq_f, xand_f, xor_t]
    · rw [if_neg (fun q => a1 q.1.1)] at hd
      rw [hd] at e
      simp (disch := first | omega | assumption | (simp (disch := omega) only [vup_fn, vup_o, vup_k, vup_at]; first | done | omega | assumption)) only [ze_205_80, ze_205_81, ze_205_95, e, Int.add_zero, ↓reduceIte, qw_id, zck_T, zck_t, zGor_v, zGor_n, zGor_e, zbs, vup_at, vup_vup, vup_self, vup_o, vup_k, vup_fn, ne_eq, not_true_eq_false, not_false_eq_true, and_true, true_and, and_self, and_false, false_and, or_true, true_or, or_self, or_false, false_or, xlt_t, xlt_f, xle_t, xle_f, xeq_t, xeq_f, xand_f, xor_t]
theorem m205 {M1 M2 : Nat} {W : zVt} {K : zJt} {s1 s2 : Int} (h1 : rMus V J M1 W K s1) (h2 : rMus V J M2 W K s2) (hs1 : 0 ≤ s1 ∧ s1 < 5) (hs2 : 0 ≤ s2 ∧ s2 < 5) (r1 : 0 ≤ V M1 2 ∧ V M1 2 ≤ 40) (r2 : 0 ≤ V M2 2 ∧ V M2 2 ≤ 40) (hm : 0 < V M1 2 → 0 < V M2 2 → W 450 s1 = W 450 s2 ∧ 0 ≤ W 450 s1 ∧ W 450 s1 ≤ 16) : zGo false 205 0 [.ref 430, .int (zi s1), .int (zi s2), .null, .null, .null, .null] [] (zm W K d) = zI1 (cUn V J M1 M2 (cMx (V M1 2) (V M2 2)).toNat) W K d := by
  have b1 := h1.2.1
  have b2 := h2.2.1
  have e := ml205 (d := d) h1 h2 hs1 hs2 r1 r2 hm (cMx (V M1 2) (V M2 2)).toNat 0 .null (by omega) (by unfold cMx; split <;> omega)
  rw [show cUn V J M1 M2 (0 : Int).toNat = 0 from rfl] at e
  by_cases a : V M1 2 ≤ V M2 2
  · have em : cMx (V M1 2) (V M2 2) = V M2 2 := if_pos a
    rw [em] at e ⊢
    rw [← b2] at e ⊢
    simp (disch := first | omega | assumption | (simp (disch := omega) only [vup_fn, vup_o, vup_k, vup_at]; first | done | omega | assumption)) only [ze_205_0, ze_205_30, e, Int.add_zero, ↓reduceIte, qw_id, zck_T, zck_t, zGor_v, zGor_n, zGor_e, zbs, vup_at, vup_vup, vup_self, vup_o, vup_k, vup_fn, ne_eq, not_true_eq_false, not_false_eq_true, and_true, true_and, and_self, and_false, false_and, or_true, true_or, or_self, or_false, false_or, xlt_t, xlt_f, xle_t, xle_f, xeq_t, xeq_f, xand_f, xor_t]
  · have em : cMx (V M1 2) (V M2 2) = V M1 2 := if_neg a
    rw [em] at e ⊢
    rw [← b1] at e ⊢
    simp (disch := first | omega | assumption | (simp (disch := omega) only [vup_fn, vup_o, vup_k, vup_at]; first | done | omega | assumption)) only [ze_205_0, ze_205_30, e, Int.add_zero, ↓reduceIte, qw_id, zck_T, zck_t, zGor_v, zGor_n, zGor_e, zbs, vup_at, vup_vup, vup_self, vup_o, vup_k, vup_fn, ne_eq, not_true_eq_false, not_false_eq_true, and_true, true_and, and_self, and_false, false_and, or_true, true_or, or_self, or_false, false_or, xlt_t, xlt_f, xle_t, xle_f, xeq_t, xeq_f, xand_f, xor_t]
end
section
variable {V : zVt} {J : zJt}
theorem mRg {N : Int} (hi : zInv N V J) {W W' : zVt} {K K' : zJt} {s : Int} (h : mFm s W K W' K') (h60 : V = W) (hj : J = K) : zInv N W' K' := by
  subst h60 hj
  exact zInv_fr (mFm_pM h) (mFm_pC h) hi
theorem x122 {N a b : Int} (h : zInv N V J) (hN : N < 600) (ha : -2147483648 ≤ a ∧ a < 2147483648) (hb : -2147483648 ≤ b ∧ b < 2147483648) : zTw N V J 122 [.ref 0, .int (zi a), .int (zi b), .null, .null] 204 [.ref 430, .int (zi a), .int (zi b), .null, .null] [0, 1, 2] := by
  intro d
  have ea := cp112 (d := d) h ha
  have eb := cp112 (d := d) h hb
  have h37 := h.2.2.2.1
  by_cases hpa : 0 ≤ a ∧ a < V 430 37
  · rw [if_pos hpa] at ea
    by_cases hpb : 0 ≤ b ∧ b < V 430 37
    · rw [if_pos hpb] at eb
      have hBa := zBk_copy (i := a.toNat) (by omega)
      have hBb := zBk_copy (i := b.toNat) (by omega)
      have hMa := zBk_0music hBa
      have hMb := zBk_0music hBb
      have fa : 230 + 5 * a.toNat + 3 = 233 + 5 * a.toNat := by omega
      have fb : 230 + 5 * b.toNat + 3 = 233 + 5 * b.toNat := by omega
      rw [fa] at hMa
      rw [fb] at hMb
      obtain ⟨a1, a2, a3, a4, a5⟩ := iCp_ms h hpa
      obtain ⟨b1, b2, b3, b4, b5⟩ := iCp_ms h hpb
      have ka := iMs_mok h (by omega) a1
      have kb := iMs_mok h (by omega) b1
      unfold cMok at ka kb
      have e39 := sp39 (V := V) (J := J) (d := d) hMa hMb (by omega) (by omega)
      have g189 := fun (J2 : zJt) (d2 : Nat → Nat → UInt64) (hi : zInv N V J2) => sm189 (d := d2) hi ha
      have f189 := fun (J2 : zJt) (d2 : Nat → Nat → UInt64) (hi : zInv N V J2) => sm189 (d := d2) hi hb
      rw [if_pos hpa] at g189
      rw [if_pos hpb] at f189
      by_cases hw : V 454 a = V 454 b
      · by_cases hf : V (233 + 5 * a.toNat) 0 = 0
        · by_cases hg : V (233 + 5 * b.toNat) 0 = 0
          · left
            refine ⟨cUn V J (233 + 5 * a.toNat) (233 + 5 * b.toNat) (cMx (V (233 + 5 * a.toNat) 2) (V (233 + 5 * b.toNat) 2)).toNat, V, J, ?_, zRn_of h hN ?_⟩
            · simp (disch := first | omega | assumption | (simp (disch := omega) only [vup_fn, vup_o, vup_k, vup_at]; first | done | omega | assumption)) only [ze_122_0, ze_122_5, ze_122_11, ze_122_56, ze_122_78, ea, eb, fa, fb, e39, Int.add_zero, ↓reduceIte, qw_id, zck_T, zck_t, zGor_v, zGor_n, zGor_e, zbs, vup_at, vup_vup, vup_self, vup_o, vup_k, vup_fn, ne_eq, not_true_eq_false, not_false_eq_true, and_true, true_and, and_self, and_false, false_and, or_true, true_or, or_self, or_false, false_or, xlt_t, xlt_f, xle_t, xle_f, xeq_t, xeq_f, xand_f, xor_t]
            intro J2 d2 hj hi
            have e1 := g189 J2 d2 hi
            have e3 := f189 J2 d2 hi
            obtain ⟨V3, J3, m1, m2, m3⟩ := m198 (d := d2) hi hpa (iCp_ms hi hpa).1 (s := 0) (by omega)
            have hi3 := mRg hi m2 rfl rfl
            have f454 : V3 454 = V 454 := m2.1 454 (by omega)
            have f37 : V3 430 37 = V 430 37 := m2.2.1 37 (by omega)
            have fM : ∀ o : Nat, 231 ≤ o → o ≤ 429 → V3 o = V o := fun o _ _ => m2.1 o (by omega)
            have hpb3 : 0 ≤ b ∧ b < V3 430 37 := by rw [f37]; exact hpb
            obtain ⟨V4, J4, n1, n2, n3⟩ := m198 (d := d2) hi3 hpb3 (iCp_ms hi3 hpb3).1 (s := 1) (by omega)
            rw [fM _ (by omega) (by omega)] at n1
            rw [hf] at m1
            rw [hg] at n1
            have e2 := sm150 (V := V4) (J := J4) (d := d2) (p := 1) (q := 1) (r := 1) (by omega) (by omega) (by omega)
            rw [if_pos (show gC 1 1 1 = 0 from rfl)] at e2
            have r1 := rMus_60 (x := gC 1 1 1) (rMus_fr m3 n2 (by decide) (by omega))
            have r2 := rMus_60 (x := gC 1 1 1) (rMus_st n3 (V' := V) (J' := J2) (fM _ (by omega) (by omega)).symm (m2.2.2.2.2.1 _ (by omega) (by omega)).symm)
            have t1 := iMs_mt a1 hf
            have t2 := iMs_mt b1 hg
            rw [hw] at t1
            have u1 := r1.2.2.1 hf
            have u2 := r2.2.2.1 hg
            have e5 := m205 (d := d2) r1 r2 (by omega) (by omega) (by omega) (by omega) (fun _ _ => by omega)
            have ej : cUn V J2 (233 + 5 * a.toNat) (233 + 5 * b.toNat) = cUn V J (233 + 5 * a.toNat) (233 + 5 * b.toNat) := by
              have ed : cDf V J2 (233 + 5 * a.toNat) (233 + 5 * b.toNat) = cDf V J (233 + 5 * a.toNat) (233 + 5 * b.toNat) := by
                funext x
                unfold cDf
                rw [hj _ (by omega), hj _ (by omega)]
              funext n
              induction n with
              | zero => rfl
              | succ n ih =>
                show cUn _ _ _ _ n + cDf V J2 (233 + 5 * a.toNat) (233 + 5 * b.toNat) n = cUn _ _ _ _ n + cDf V J (233 + 5 * a.toNat) (233 + 5 * b.toNat) n
                rw [ih, ed]
            rw [ej] at e5
            refine ⟨_, vup V4 430 60 (gC 1 1 1), J4, ?_, vup_at _ _ _ _, pM_t (pM_t (mFm_pM m2) (mFm_pM n2)) pM_60, pC_t (pC_t (mFm_pC m2) (mFm_pC n2)) pC_60, (mN5 n2).trans (mN5 m2), fun _ => rfl⟩
            simp (disch := first | omega | assumption | (simp (disch := omega) only [vup_fn, vup_o, vup_k, vup_at]; first | done | omega | assumption)) only [ze_204_0, ze_204_5, ze_204_13, ze_204_20, ze_204_21, ze_204_45, ze_204_46, ze_204_63, ze_204_72, ze_204_79, ze_204_80, ze_204_83, ze_204_94, e1, e2, e3, e5, m1, n1, Int.add_zero, ↓reduceIte, qw_id, zck_T, zck_t, zGor_v, zGor_n, zGor_e, zbs, vup_at, vup_vup, vup_self, vup_o, vup_k, vup_fn, ne_eq, not_true_eq_false, not_false_eq_true, and_true, true_and, and_self, and_false, false_and, or_true, true_or, or_self, or_false, false_or, xlt_t, xlt_f, xle_t, xle_f, xeq_t, xeq_f, xand_f, xor_t]
          · right
            refine ⟨2, 2, V, J, rfl, ?_, zRn_of h hN ?_⟩
            · simp (disch := first | omega | assumption | (simp (disch := omega) only [vup_fn, vup_o, vup_k, vup_at]; first | done | omega | assumption)) only [ze_122_0, ze_122_5, ze_122_11, ze_122_56, ze_122_78, ea, eb, fa, fb, Int.add_zero, ↓reduceIte, qw_id, zck_T, zck_t, zGor_v, zGor_n, zGor_e, zbs, vup_at, vup_vup, vup_self, vup_o, vup_k, vup_fn, ne_eq, not_true_eq_false, not_false_eq_true, and_true, true_and, and_self, and_false, false_and, or_true, true_or, or_self, or_false, false_or, xlt_t, xlt_f, xle_t, xle_f, xeq_t, xeq_f, xand_f, xor_t]
            intro J2 d2 hj hi
            have e1 := g189 J2 d2 hi
            have e3 := f189 J2 d2 hi
            obtain ⟨V3, J3, m1, m2, m3⟩ := m198 (d := d2) hi hpa (iCp_ms hi hpa).1 (s := 0) (by omega)
            have hi3 := mRg hi m2 rfl rfl
            have f454 : V3 454 = V 454 := m2.1 454 (by omega)
            have f37 : V3 430 37 = V 430 37 := m2.2.1 37 (by omega)
            have fM : ∀ o : Nat, 231 ≤ o → o ≤ 429 → V3 o = V o := fun o _ _ => m2.1 o (by omega)
            have hpb3 : 0 ≤ b ∧ b < V3 430 37 := by rw [f37]; exact hpb
            obtain ⟨V4, J4, n1, n2, n3⟩ := m198 (d := d2) hi3 hpb3 (iCp_ms hi3 hpb3).1 (s := 1) (by omega)
            rw [fM _ (by omega) (by omega)] at n1
            rw [hf] at m1
            have e2 := sm150 (V := V4) (J := J4) (d := d2) (p := 1) (q := 1) (r := 0) (by omega) (by omega) (by omega)
            rw [if_neg (show ¬ gC 1 1 0 = 0 by decide)] at e2
            refine ⟨0, vup V4 430 60 (gC 1 1 0), J4, ?_, vup_at _ _ _ _, pM_t (pM_t (mFm_pM m2) (mFm_pM n2)) pM_60, pC_t (pC_t (mFm_pC m2) (mFm_pC n2)) pC_60, (mN5 n2).trans (mN5 m2), fun w => by omega⟩
            simp (disch := first | omega | assumption | (simp (disch := omega) only [vup_fn, vup_o, vup_k, vup_at]; first | done | omega | assumption)) only [ze_204_0, ze_204_5, ze_204_13, ze_204_20, ze_204_21, ze_204_45, ze_204_46, ze_204_63, ze_204_72, ze_204_79, ze_204_80, ze_204_83, ze_204_94, e1, e2, e3, m1, n1, Int.add_zero, ↓reduceIte, qw_id, zck_T, zck_t, zGor_v, zGor_n, zGor_e, zbs, vup_at, vup_vup, vup_self, vup_o, vup_k, vup_fn, ne_eq, not_true_eq_false, not_false_eq_true, and_true, true_and, and_self, and_false, false_and, or_true, true_or, or_self, or_false, false_or, xlt_t, xlt_f, xle_t, xle_f, xeq_t, xeq_f, xand_f, xor_t]
        · right
          refine ⟨2, 2, V, J, rfl, ?_, zRn_of h hN ?_⟩
          · simp (disch := first | omega | assumption | (simp (disch := omega) only [vup_fn, vup_o, vup_k, vup_at]; first | done | omega | assumption)) only [ze_122_0, ze_122_5, ze_122_11, ze_122_56, ze_122_78, ea, eb, fa, fb, Int.add_zero, ↓reduceIte, qw_id, zck_T, zck_t, zGor_v, zGor_n, zGor_e, zbs, vup_at, vup_vup, vup_self, vup_o, vup_k, vup_fn, ne_eq, not_true_eq_false, not_false_eq_true, and_true, true_and, and_self, and_false, false_and, or_true, true_or, or_self, or_false, false_or, xlt_t, xlt_f, xle_t, xle_f, xeq_t, xeq_f, xand_f, xor_t]
          intro J2 d2 hj hi
          have e1 := g189 J2 d2 hi
          have e3 := f189 J2 d2 hi
          obtain ⟨V3, J3, m1, m2, m3⟩ := m198 (d := d2) hi hpa (iCp_ms hi hpa).1 (s := 0) (by omega)
          have e2 := sm150 (V := V3) (J := J3) (d := d2) (p := 1) (q := 1) (r := 0) (by omega) (by omega) (by omega)
          rw [if_neg (show ¬ gC 1 1 0 = 0 by decide)] at e2
          refine ⟨0, vup V3 430 60 (gC 1 1 0), J3, ?_, vup_at _ _ _ _, pM_t (mFm_pM m2) pM_60, pC_t (mFm_pC m2) pC_60, mN5 m2, fun w => by omega⟩
          simp (disch := first | omega | assumption | (simp (disch := omega) only [vup_fn, vup_o, vup_k, vup_at]; first | done | omega | assumption)) only [ze_204_0, ze_204_5, ze_204_13, ze_204_20, ze_204_21, ze_204_45, ze_204_46, ze_204_63, ze_204_72, ze_204_79, ze_204_80, ze_204_83, ze_204_94, e1, e2, e3, m1, Int.add_zero, ↓reduceIte, qw_id, zck_T, zck_t, zGor_v, zGor_n, zGor_e, zbs, vup_at, vup_vup, vup_self, vup_o, vup_k, vup_fn, ne_eq, not_true_eq_false, not_false_eq_true, and_true, true_and, and_self, and_false, false_and, or_true, true_or, or_self, or_false, false_or, xlt_t, xlt_f, xle_t, xle_f, xeq_t, xeq_f, xand_f, xor_t]
      · right
        refine ⟨1, 1, V, J, rfl, ?_, zRn_of h hN ?_⟩
        · simp (disch := first | omega | assumption | (simp (disch := omega) only [vup_fn, vup_o, vup_k, vup_at]; first | done | omega | assumption)) only [ze_122_0, ze_122_5, ze_122_11, ze_122_56, ze_122_78, ea, eb, fa, fb, Int.add_zero, ↓reduceIte, qw_id, zck_T, zck_t, zGor_v, zGor_n, zGor_e, zbs, vup_at, vup_vup, vup_self, vup_o, vup_k, vup_fn, ne_eq, not_true_eq_false, not_false_eq_true, and_true, true_and, and_self, and_false, false_and, or_true, true_or, or_self, or_false, false_or, xlt_t, xlt_f, xle_t, xle_f, xeq_t, xeq_f, xand_f, xor_t]
        intro J2 d2 hj hi
        have e1 := g189 J2 d2 hi
        have e3 := f189 J2 d2 hi
        have e2 := sm150 (V := V) (J := J2) (d := d2) (p := 1) (q := 0) (r := 0) (by omega) (by omega) (by omega)
        rw [if_neg (show ¬ gC 1 0 0 = 0 by decide)] at e2
        refine ⟨0, vup V 430 60 (gC 1 0 0), J2, ?_, vup_at _ _ _ _, pM_60, pC_60, rfl, fun w => by omega⟩
        simp (disch := first | omega | assumption | (simp (disch := omega) only [vup_fn, vup_o, vup_k, vup_at]; first | done | omega | assumption)) only [ze_204_0, ze_204_5, ze_204_13, ze_204_20, ze_204_21, ze_204_45, ze_204_46, ze_204_63, ze_204_72, ze_204_79, ze_204_80, ze_204_83, ze_204_94, e1, e2, e3, Int.add_zero, ↓reduceIte, qw_id, zck_T, zck_t, zGor_v, zGor_n, zGor_e, zbs, vup_at, vup_vup, vup_self, vup_o, vup_k, vup_fn, ne_eq, not_true_eq_false, not_false_eq_true, and_true, true_and, and_self, and_false, false_and, or_true, true_or, or_self, or_false, false_or, xlt_t, xlt_f, xle_t, xle_f, xeq_t, xeq_f, xand_f, xor_t]
    · right
      rw [if_neg hpb] at eb
      have hBa := zBk_copy (i := a.toNat) (by omega)
      refine ⟨0, 0, V, J, rfl, ?_, zRn_of h hN ?_⟩
      · simp (disch := first | omega | assumption | (simp (disch := omega) only [vup_fn, vup_o, vup_k, vup_at]; first | done | omega | assumption)) only [ze_122_0, ze_122_5, ze_122_11, ze_122_56, ze_122_78, ea, eb, Int.add_zero, ↓reduceIte, qw_id, zck_T, zck_t, zGor_v, zGor_n, zGor_e, zbs, vup_at, vup_vup, vup_self, vup_o, vup_k, vup_fn, ne_eq, not_true_eq_false, not_false_eq_true, and_true, true_and, and_self, and_false, false_and, or_true, true_or, or_self, or_false, false_or, xlt_t, xlt_f, xle_t, xle_f, xeq_t, xeq_f, xand_f, xor_t]
      intro J2 d2 hj hi
      have e1 := sm189 (d := d2) hi ha
      have e3 := sm189 (d := d2) hi hb
      rw [if_pos hpa] at e1
      rw [if_neg hpb] at e3
      have e2 := sm150 (V := V) (J := J2) (d := d2) (p := 0) (q := 0) (r := 0) (by omega) (by omega) (by omega)
      rw [if_neg (show ¬ gC 0 0 0 = 0 by decide)] at e2
      refine ⟨0, vup V 430 60 (gC 0 0 0), J2, ?_, vup_at _ _ _ _, pM_60, pC_60, rfl, fun w => by omega⟩
      simp (disch := first | omega | assumption | (simp (disch := omega) only [vup_fn, vup_o, vup_k, vup_at]; first | done | omega | assumption)) only [ze_204_0, ze_204_5, ze_204_13, ze_204_20, ze_204_21, ze_204_45, ze_204_46, ze_204_63, ze_204_72, ze_204_79, ze_204_80, ze_204_83, ze_204_94, e1, e2, e3, Int.add_zero, ↓reduceIte, qw_id, zck_T, zck_t, zGor_v, zGor_n, zGor_e, zbs, vup_at, vup_vup, vup_self, vup_o, vup_k, vup_fn, ne_eq, not_true_eq_false, not_false_eq_true, and_true, true_and, and_self, and_false, false_and, or_true, true_or, or_self, or_false, false_or, xlt_t, xlt_f, xle_t, xle_f, xeq_t, xeq_f, xand_f, xor_t]
  · right
    rw [if_neg hpa] at ea
    refine ⟨0, 0, V, J, rfl, ?_, zRn_of h hN ?_⟩
    · simp (disch := first | omega | assumption | (simp (disch := omega) only [vup_fn, vup_o, vup_k, vup_at]; first | done | omega | assumption)) only [ze_122_0, ze_122_5, ze_122_11, ze_122_56, ze_122_78, ea, Int.add_zero, ↓reduceIte, qw_id, zck_T, zck_t, zGor_v, zGor_n, zGor_e, zbs, vup_at, vup_vup, vup_self, vup_o, vup_k, vup_fn, ne_eq, not_true_eq_false, not_false_eq_true, and_true, true_and, and_self, and_false, false_and, or_true, true_or, or_self, or_false, false_or, xlt_t, xlt_f, xle_t, xle_f, xeq_t, xeq_f, xand_f, xor_t]
    intro J2 d2 hj hi
    have e1 := sm189 (d := d2) hi ha
    rw [if_neg hpa] at e1
    have e2 := sm150 (V := V) (J := J2) (d := d2) (p := 0) (q := 0) (r := 0) (by omega) (by omega) (by omega)
    rw [if_neg (show ¬ gC 0 0 0 = 0 by decide)] at e2
    refine ⟨0, vup V 430 60 (gC 0 0 0), J2, ?_, vup_at _ _ _ _, pM_60, pC_60, rfl, fun w => by omega⟩
    simp (disch := first | omega | assumption | (simp (disch := omega) only [vup_fn, vup_o, vup_k, vup_at]; first | done | omega | assumption)) only [ze_204_0, ze_204_5, ze_204_13, ze_204_20, ze_204_21, ze_204_45, ze_204_46, ze_204_63, ze_204_72, ze_204_79, ze_204_80, ze_204_83, ze_204_94, e1, e2, Int.add_zero, ↓reduceIte, qw_id, zck_T, zck_t, zGor_v, zGor_n, zGor_e, zbs, vup_at, vup_vup, vup_self, vup_o, vup_k, vup_fn, ne_eq, not_true_eq_false, not_false_eq_true, and_true, true_and, and_self, and_false, false_and, or_true, true_or, or_self, or_false, false_or, xlt_t, xlt_f, xle_t, xle_f, xeq_t, xeq_f, xand_f, xor_t]
end
