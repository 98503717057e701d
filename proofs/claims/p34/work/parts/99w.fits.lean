/-! part 99w: the law's method fits answers 1 -/
/-- what a copy sung anew leaves -/
def lA7 (V V' : zVt) (J J' : zJt) : Prop := (∀ o : Nat, ¬(7 ≤ o ∧ o ≤ 36) → V' o = V o) ∧ ∀ o : Nat, o ≠ 36 → J' o = J o
theorem lA7_r {V : zVt} {J : zJt} : lA7 V V J J := ⟨fun _ _ => rfl, fun _ _ => rfl⟩
theorem lA7_t {V V1 V2 : zVt} {J J1 J2 : zJt} (h : lA7 V V1 J J1) (h2 : lA7 V1 V2 J1 J2) : lA7 V V2 J J2 := ⟨fun o a => (h2.1 o a).trans (h.1 o a), fun o a => (h2.2 o a).trans (h.2 o a)⟩
section
variable {cf : Int32 → Int32} {V : zVt} {J : zJt} {N c : Int} {d : Nat → Nat → UInt64} {kk : Nat}
theorem lF_turn {m e b t : Int} {x7 x8 : Value} (h : zInv N V J) (hc : 0 ≤ c ∧ c < V 480 37) (he : V (233 + 5 * c.toNat) 0 = e) (hb : 0 ≤ b ∧ b < 8) (ht : 0 ≤ t ∧ t < 9) : ∃ V' J' y7 y8, zInv N V' J' ∧ lA7 V V' J J' ∧ wGo cf 144 40 [.ref 0, .int (zi c), .int (zi m), .int (zi e), .int (zi 1), .int (zi b), .int (zi t), x7, x8] [] (zm V J d) kk = wGo cf 144 40 [.ref 0, .int (zi c), .int (zi m), .int (zi e), .int (zi 1), .int (zi b), .int (zi (t + 3)), y7, y8] [] (zm V' J' d) (kk + 3) := by
  have e1 := c_copyPitch (d := d) h hc (b := b) (t := t) (by omega) (by omega)
  have e2 := c_begins (d := d) h hc (b := b) (t := t) (by omega) (by omega)
  obtain ⟨V', J', e3, z1, z2, z3⟩ := c_copyAnew (d := d) h hc (b := b) (t := t) (by omega) (by omega)
  obtain ⟨hms, c2, _⟩ := iCp_ms h hc
  have hok := iMs_ok (zt_ok h.1.1 (w := ((V 454 c).toNat : Int)) (by omega)) hms
  obtain ⟨o1, o2, o3, o4, o5, o6⟩ := hok
  have hby := cSd_rng J (233 + 5 * c.toNat) b t
  obtain ⟨p, hp⟩ : ∃ p : Int, (if mIn V (233 + 5 * c.toNat) b t then yPi (cSd J (233 + 5 * c.toNat) b t) else -101) = p := ⟨_, rfl⟩
  obtain ⟨g, hg⟩ : ∃ g : Int, (if mIn V (233 + 5 * c.toNat) b t then yBg (cSd J (233 + 5 * c.toNat) b t) else -101) = g := ⟨_, rfl⟩
  rw [hp] at e1 e3
  rw [hg] at e2
  have facts : (p = -101 ∧ g = -101) ∨ ((-2 ≤ p ∧ p < 256) ∧ (g = 0 ∨ g = 1 ∧ 0 ≤ p) ∧ e = 0) := by
    by_cases q : mIn V (233 + 5 * c.toNat) b t
    · right
      rw [if_pos q] at hp hg
      unfold yPi at hp
      unfold yBg at hg
      have e0 : e = 0 := by
        by_cases w : e = 0
        · exact w
        · exfalso
          have := o4 (by omega)
          have := q.1
          omega
      by_cases q0 : cSd J (233 + 5 * c.toNat) b t = 0
      · rw [if_pos q0] at hp
        rw [if_neg (by omega)] at hg
        omega
      · rw [if_neg q0] at hp
        by_cases q1 : 128 ≤ cSd J (233 + 5 * c.toNat) b t
        · rw [if_pos q1] at hp hg
          omega
        · rw [if_neg q1] at hp hg
          omega
    · left
      rw [if_neg q] at hp hg
      exact ⟨hp.symm, hg.symm⟩
  refine ⟨V', J', .int (zi p), .int (zi g), z1, ⟨z2, z3⟩, ?_⟩
  rw [lw_144_40]
  rcases facts with ⟨f1, f2⟩ | ⟨f1, f2, f3⟩
  · subst f1
    subst f2
    by_cases q : e = 0
    · simp (disch := first | omega | assumption) only [lw_144_61, lw_144_72, lw_144_85, lw_144_100, lw_144_112, lw_144_126, lw_144_137, lw_144_142, e1, e2, e3, q, wck_t, wck_T, wbS, wbV, wbR, qdiv_p, qrem_p, Int.add_zero, ↓reduceIte, qw_id, ne_eq, not_true_eq_false, not_false_eq_true, and_true, true_and, and_self, and_false, false_and, or_true, true_or, or_self, or_false, false_or, xlt_t, xlt_f, xle_t, xle_f, xeq_t, xeq_f, xand_f, xor_t]
    · have er : -2147483648 ≤ e ∧ e < 2147483648 := by omega
      simp (disch := first | omega | assumption) only [lw_144_61, lw_144_72, lw_144_85, lw_144_100, lw_144_112, lw_144_126, lw_144_137, lw_144_142, e1, e2, e3, wck_t, wck_T, wbS, wbV, wbR, qdiv_p, qrem_p, Int.add_zero, ↓reduceIte, qw_id, ne_eq, not_true_eq_false, not_false_eq_true, and_true, true_and, and_self, and_false, false_and, or_true, true_or, or_self, or_false, false_or, xlt_t, xlt_f, xle_t, xle_f, xeq_t, xeq_f, xand_f, xor_t]
  · rcases f2 with q | ⟨q, q2⟩
    · subst q
      subst f3
      simp (disch := first | omega | assumption) only [lw_144_61, lw_144_72, lw_144_85, lw_144_100, lw_144_112, lw_144_126, lw_144_137, lw_144_142, e1, e2, e3, wck_t, wck_T, wbS, wbV, wbR, qdiv_p, qrem_p, Int.add_zero, ↓reduceIte, qw_id, ne_eq, not_true_eq_false, not_false_eq_true, and_true, true_and, and_self, and_false, false_and, or_true, true_or, or_self, or_false, false_or, xlt_t, xlt_f, xle_t, xle_f, xeq_t, xeq_f, xand_f, xor_t]
    · subst q
      subst f3
      simp (disch := first | omega | assumption) only [lw_144_61, lw_144_72, lw_144_85, lw_144_100, lw_144_112, lw_144_126, lw_144_137, lw_144_142, e1, e2, e3, wck_t, wck_T, wbS, wbV, wbR, qdiv_p, qrem_p, Int.add_zero, ↓reduceIte, qw_id, ne_eq, not_true_eq_false, not_false_eq_true, and_true, true_and, and_self, and_false, false_and, or_true, true_or, or_self, or_false, false_or, xlt_t, xlt_f, xle_t, xle_f, xeq_t, xeq_f, xand_f, xor_t]
theorem c_fits {m : Int} (h : zInv N V J) (hc : 0 ≤ c ∧ c < V 480 37) (hm : 0 ≤ m ∧ m < 2147483648) : ∃ V' J', zInv N V' J' ∧ lA7 V V' J J' ∧ wGo cf 144 0 [.ref 0, .int (zi c), .int (zi m), .null, .null, .null, .null, .null, .null] [] (zm V J d) kk = some (zi 1, zm V' J' d, kk + 11) := by
  obtain ⟨hms, c2, _⟩ := iCp_ms h hc
  have ht := zt_ok h.1.1 (w := ((V 454 c).toNat : Int)) (by omega)
  have hok := iMs_ok ht hms
  obtain ⟨o1, o2, o3, o4, o5, o6⟩ := hok
  have hpr : V (50 + 15 * (V 454 c).toNat) 3 = 1 := (h.2.2.1 (V 454 c).toNat (by omega)).2.2.1.2 ⟨c, hc, by omega⟩
  obtain ⟨n, b', A, fa, r1, r2, r3, r4⟩ := iPr_row h (by omega) hpr
  have f := iMs_f7 ht hms r1.1
  obtain ⟨e, he⟩ : ∃ e, V (233 + 5 * c.toNat) 0 = e := ⟨_, rfl⟩
  have a0 := c_copyError (d := d) h hc
  rw [he] at a0 f
  obtain ⟨V1, J1, y7, y8, z1, w1, g1⟩ := lF_turn (cf := cf) (d := d) (kk := kk + 1) (m := m) (x7 := .null) (x8 := .null) h hc he (b := m % 8) (t := m % 3) (by omega) (by omega)
  have k1 : V1 480 = V 480 := w1.1 480 (by omega)
  have hcn : c.toNat < 40 := by
    have := h.2.2.2.1
    omega
  obtain ⟨V2, J2, u7, u8, z2, w2, g2⟩ := lF_turn (cf := cf) (d := d) (kk := kk + 1 + 3) (m := m) (x7 := y7) (x8 := y8) z1 (by rw [k1]; exact hc) (e := e) (by rw [w1.1 _ (by omega)]; exact he) (b := m % 8) (t := m % 3 + 3) (by omega) (by omega)
  have w12 := lA7_t w1 w2
  have k2 : V2 480 = V 480 := w12.1 480 (by omega)
  obtain ⟨V3, J3, v7, v8, z3, w3, g3⟩ := lF_turn (cf := cf) (d := d) (kk := kk + 1 + 3 + 3) (m := m) (x7 := u7) (x8 := u8) z2 (by rw [k2]; exact hc) (e := e) (by rw [w12.1 _ (by omega)]; exact he) (b := m % 8) (t := m % 3 + 3 + 3) (by omega) (by omega)
  have w13 := lA7_t w12 w3
  have k3 : V3 480 = V 480 := w13.1 480 (by omega)
  have k454 : V3 454 = V 454 := w13.1 454 (by omega)
  have a1 := c_differ (d := d) z3 (a := c) (b := c) (by rw [k3]; exact hc) (by rw [k3]; exact hc) rfl
  have kM : V3 (233 + 5 * c.toNat) = V (233 + 5 * c.toNat) := w13.1 _ (by omega)
  rw [cDif_self (by rw [kM]; omega), kM, he] at a1
  refine ⟨V3, J3, z3, w13, ?_⟩
  have top : wGo cf 144 0 [.ref 0, .int (zi c), .int (zi m), .null, .null, .null, .null, .null, .null] [] (zm V J d) kk = wGo cf 144 40 [.ref 0, .int (zi c), .int (zi m), .int (zi e), .int (zi 1), .int (zi (m % 8)), .int (zi (m % 3)), .null, .null] [] (zm V J d) (kk + 1) := by
    by_cases q : e = 0
    · subst q
      simp (disch := first | omega | assumption) only [lw_144_0, lw_144_5, lw_144_22, lw_144_27, a0, wck_t, wck_T, wbS, wbV, wbR, qdiv_p, qrem_p, Int.add_zero, ↓reduceIte, qw_id, ne_eq, not_true_eq_false, not_false_eq_true, and_true, true_and, and_self, and_false, false_and, or_true, true_or, or_self, or_false, false_or, xlt_t, xlt_f, xle_t, xle_f, xeq_t, xeq_f, xand_f, xor_t]
    · simp (disch := first | omega | assumption) only [lw_144_0, lw_144_5, lw_144_22, lw_144_27, a0, wck_t, wck_T, wbS, wbV, wbR, qdiv_p, qrem_p, Int.add_zero, ↓reduceIte, qw_id, ne_eq, not_true_eq_false, not_false_eq_true, and_true, true_and, and_self, and_false, false_and, or_true, true_or, or_self, or_false, false_or, xlt_t, xlt_f, xle_t, xle_f, xeq_t, xeq_f, xand_f, xor_t]
  rw [top, g1, g2, g3, lw_144_40]
  by_cases q : e = 0
  · rw [if_pos q] at a1
    subst q
    simp (disch := first | omega | assumption) only [lw_144_150, lw_144_161, lw_144_171, lw_144_179, a1, wck_t, wck_T, wbS, wbV, wbR, qdiv_p, qrem_p, Int.add_zero, ↓reduceIte, qw_id, ne_eq, not_true_eq_false, not_false_eq_true, and_true, true_and, and_self, and_false, false_and, or_true, true_or, or_self, or_false, false_or, xlt_t, xlt_f, xle_t, xle_f, xeq_t, xeq_f, xand_f, xor_t]
  · rw [if_neg q] at a1
    simp (disch := first | omega | assumption) only [lw_144_150, lw_144_161, lw_144_171, lw_144_179, a1, wck_t, wck_T, wbS, wbV, wbR, qdiv_p, qrem_p, Int.add_zero, ↓reduceIte, qw_id, ne_eq, not_true_eq_false, not_false_eq_true, and_true, true_and, and_self, and_false, false_and, or_true, true_or, or_self, or_false, false_or, xlt_t, xlt_f, xle_t, xle_f, xeq_t, xeq_f, xand_f, xor_t]
end
