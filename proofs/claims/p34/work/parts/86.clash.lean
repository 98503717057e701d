/-! part 86: clashes of two voices; sums -/
def oS (f : Int → Int) : Nat → Int
  | 0 => 0
  | n + 1 => oS f n + f n
theorem oS_s {f : Int → Int} {k : Int} (h : 0 ≤ k) : oS f (k + 1).toNat = oS f k.toNat + f k := by
  rw [show (k + 1).toNat = k.toNat + 1 by omega]
  show oS f k.toNat + f ((k.toNat : Nat) : Int) = _
  rw [show ((k.toNat : Nat) : Int) = k by omega]
theorem oS_rng {f : Int → Int} : ∀ n : Nat, (∀ k : Int, 0 ≤ k → k < n → f k = 0 ∨ f k = 1) → 0 ≤ oS f n ∧ oS f n ≤ n
  | 0, _ => ⟨Int.le_refl 0, Int.le_refl 0⟩
  | n + 1, h => by
    have e1 := oS_rng n (fun k k0 k1 => h k k0 (by omega))
    have e2 := h n (by omega) (by omega)
    show 0 ≤ oS f n + f n ∧ oS f n + f n ≤ ((n + 1 : Nat) : Int)
    omega
theorem oS_cong {f g : Int → Int} : ∀ n : Nat, (∀ k : Int, 0 ≤ k → k < n → f k = g k) → oS f n = oS g n
  | 0, _ => rfl
  | n + 1, h => by
    have e1 := oS_cong n (fun k k0 k1 => h k k0 (by omega))
    show oS f n + f n = oS g n + g n
    rw [e1, h n (by omega) (by omega)]
theorem oS_add {f g h : Int → Int} : ∀ n : Nat, (∀ k : Int, 0 ≤ k → k < n → f k = g k + h k) → oS f n = oS g n + oS h n
  | 0, _ => rfl
  | n + 1, e => by
    have e1 := oS_add n (fun k k0 k1 => e k k0 (by omega))
    have e2 := e n (by omega) (by omega)
    show oS f n + f n = oS g n + g n + (oS h n + h n)
    omega
abbrev oAb (x : Int) : Int := if 0 ≤ x then x else -x
abbrev oHa (x : Int) : Prop := oAb x % 12 = 1 ∨ oAb x % 12 = 11
/-- whether two bytes clash -/
def oCl (k x y : Int) : Int := if ((yPi x ≠ -2 ∧ yPi y ≠ -2) ∧ (yBg x ≠ 0 ∨ yBg y ≠ 0)) ∧ (k = 2 ∧ oHa (yPi x - yPi y) ∨ k ≠ 2 ∧ yPi x < yPi y) then 1 else 0
def qX (J : zJt) (M1 M2 : Nat) (b k t : Int) : Int := oCl k (cSd J M1 b t) (cSd J M2 b t)
theorem qX_01 (J : zJt) (M1 M2 : Nat) (b k t : Int) : qX J M1 M2 b k t = 0 ∨ qX J M1 M2 b k t = 1 := by
  unfold qX oCl
  split
  · exact Or.inr rfl
  · exact Or.inl rfl
theorem yPi_rng {x : Int} (h : 0 ≤ x ∧ x < 256) : -2 ≤ yPi x ∧ yPi x ≤ 127 := by
  unfold yPi
  split
  · omega
  · split
    · omega
    · omega
section
variable {V : zVt} {J : zJt} {d : Nat → Nat → UInt64}
theorem sp234 {x : Int} (h : -100000 ≤ x ∧ x < 100000) : zGo false 234 0 [.int (zi x)] [] (zm V J d) = zI1 (oAb x) V J d := by
  by_cases h0 : 0 ≤ x
  · rw [show oAb x = x from if_pos h0]
    simp (disch := first | omega | assumption | (simp (disch := omega) only [vup_fn, vup_o, vup_k, vup_at]; first | done | omega | assumption)) only [ze_234_0, ze_234_10, Int.add_zero, ↓reduceIte, qw_id, zck_T, zck_t, zGor_v, zGor_n, zGor_e, zbs, vup_at, vup_vup, vup_self, vup_o, vup_k, vup_fn, ne_eq, not_true_eq_false, not_false_eq_true, and_true, true_and, and_self, and_false, false_and, or_true, true_or, or_self, or_false, false_or, xlt_t, xlt_f, xle_t, xle_f, xeq_t, xeq_f, xand_f, xor_t]
  · rw [show oAb x = -x from if_neg h0]
    simp (disch := first | omega | assumption | (simp (disch := omega) only [vup_fn, vup_o, vup_k, vup_at]; first | done | omega | assumption)) only [ze_234_0, ze_234_10, Int.add_zero, ↓reduceIte, qw_id, zck_T, zck_t, zGor_v, zGor_n, zGor_e, zbs, vup_at, vup_vup, vup_self, vup_o, vup_k, vup_fn, ne_eq, not_true_eq_false, not_false_eq_true, and_true, true_and, and_self, and_false, false_and, or_true, true_or, or_self, or_false, false_or, xlt_t, xlt_f, xle_t, xle_f, xeq_t, xeq_f, xand_f, xor_t]
theorem sp41 {M : Nat} {x : Int} (hM : zBk 5 M) (h : -100000 ≤ x ∧ x < 100000) : zGo false 41 0 [.ref M, .int (zi x), .null] [] (zm V J d) = zI1 (if oHa x then 1 else 0) V J d := by
  have e := sp234 (V := V) (J := J) (d := d) h
  have ha : 0 ≤ oAb x ∧ oAb x < 200000 := by
    unfold oAb
    split <;> omega
  have hr := qrem_p (a := oAb x) (b := 12) (by omega) (by omega)
  obtain ⟨q, hq⟩ : ∃ q, oAb x = q := ⟨_, rfl⟩
  rw [hq] at e ha hr
  have hlt : 0 ≤ q % 12 ∧ q % 12 < 12 := by omega
  by_cases h1 : q % 12 = 1
  · rw [if_pos (show oHa x from Or.inl (by rw [hq]; exact h1))]
    simp (disch := first | omega | assumption | (simp (disch := omega) only [vup_fn, vup_o, vup_k, vup_at]; first | done | omega | assumption)) only [ze_41_0, ze_41_4, ze_41_19, ze_41_24, e, hr, Int.add_zero, ↓reduceIte, qw_id, zck_T, zck_t, zGor_v, zGor_n, zGor_e, zbs, vup_at, vup_vup, vup_self, vup_o, vup_k, vup_fn, ne_eq, not_true_eq_false, not_false_eq_true, and_true, true_and, and_self, and_false, false_and, or_true, true_or, or_self, or_false, false_or, xlt_t, xlt_f, xle_t, xle_f, xeq_t, xeq_f, xand_f, xor_t]
  · by_cases h2 : q % 12 = 11
    · rw [if_pos (show oHa x from Or.inr (by rw [hq]; exact h2))]
      simp (disch := first | omega | assumption | (simp (disch := omega) only [vup_fn, vup_o, vup_k, vup_at]; first | done | omega | assumption)) only [ze_41_0, ze_41_4, ze_41_19, ze_41_24, e, hr, Int.add_zero, ↓reduceIte, qw_id, zck_T, zck_t, zGor_v, zGor_n, zGor_e, zbs, vup_at, vup_vup, vup_self, vup_o, vup_k, vup_fn, ne_eq, not_true_eq_false, not_false_eq_true, and_true, true_and, and_self, and_false, false_and, or_true, true_or, or_self, or_false, false_or, xlt_t, xlt_f, xle_t, xle_f, xeq_t, xeq_f, xand_f, xor_t]
    · rw [if_neg (show ¬ oHa x from fun w => by
        rcases w with w | w
        · rw [hq] at w
          exact h1 w
        · rw [hq] at w
          exact h2 w)]
      simp (disch := first | omega | assumption | (simp (disch := omega) only [vup_fn, vup_o, vup_k, vup_at]; first | done | omega | assumption)) only [ze_41_0, ze_41_4, ze_41_19, ze_41_24, e, hr, Int.add_zero, ↓reduceIte, qw_id, zck_T, zck_t, zGor_v, zGor_n, zGor_e, zbs, vup_at, vup_vup, vup_self, vup_o, vup_k, vup_fn, ne_eq, not_true_eq_false, not_false_eq_true, and_true, true_and, and_self, and_false, false_and, or_true, true_or, or_self, or_false, false_or, xlt_t, xlt_f, xle_t, xle_f, xeq_t, xeq_f, xand_f, xor_t]
theorem sl40 {M1 M2 : Nat} (h1 : zBk 5 M1) (h2 : zBk 5 M2) {b k : Int} (hb1 : 0 ≤ b ∧ b < V M1 2) (hb2 : b < V M2 2) (r1 : V M1 2 ≤ 40) (r2 : V M2 2 ≤ 40) (hm : 0 ≤ V M1 3 ∧ V M1 3 ≤ 16) (hk : k = 2 ∨ k = 3) (n : Nat) : ∀ (t : Int) (x6 x7 : Value), 0 ≤ t → V M1 3 = t + n → zGo false 40 24 [.ref M1, .ref M2, .int (zi b), .int (zi k), .int (zi (oS (qX J M1 M2 b k) t.toNat)), .int (zi t), x6, x7] [] (zm V J d) = zI1 (oS (qX J M1 M2 b k) (V M1 3).toNat) V J d := by
  induction n with
  | zero =>
    intro t x6 x7 t0 ht
    have e : t = V M1 3 := by omega
    rw [← e, ze_40_24 _ _ _ _ _ _ _ _ h1 h2]
    simp (disch := first | omega | assumption | (simp (disch := omega) only [vup_fn, vup_o, vup_k, vup_at]; first | done | omega | assumption)) only [Int.add_zero, ↓reduceIte, qw_id, zck_T, zck_t, zGor_v, zGor_n, zGor_e, zbs, vup_at, vup_vup, vup_self, vup_o, vup_k, vup_fn, ne_eq, not_true_eq_false, not_false_eq_true, and_true, true_and, and_self, and_false, false_and, or_true, true_or, or_self, or_false, false_or, xlt_t, xlt_f, xle_t, xle_f, xeq_t, xeq_f, xand_f, xor_t]
  | succ n ih =>
    intro t x6 x7 t0 ht
    have e := fun x6 x7 => ih (t + 1) x6 x7 (by omega) (by omega)
    rw [oS_s t0] at e
    have hu := oS_rng (f := qX J M1 M2 b k) t.toNat (fun _ _ _ => qX_01 _ _ _ _ _ _)
    have e1 := sp36 (V := V) (J := J) (d := d) (b := b) (t := t) h1 (by omega) (by omega) (by omega)
    have e2 := sp36 (V := V) (J := J) (d := d) (b := b) (t := t) h2 (by omega) (by omega) (by omega)
    have e3 := sp38 (V := V) (J := J) (d := d) (b := b) (t := t) h1 (by omega) (by omega) (by omega)
    have e4 := sp38 (V := V) (J := J) (d := d) (b := b) (t := t) h2 (by omega) (by omega) (by omega)
    rw [if_pos hb1.2] at e1 e3
    rw [if_pos hb2] at e2 e4
    have hX : qX J M1 M2 b k t = oCl k (cSd J M1 b t) (cSd J M2 b t) := rfl
    have g1 := yPi_rng (cSd_rng J M1 b t)
    have g2 := yPi_rng (cSd_rng J M2 b t)
    have g3 := yBg_01 (cSd J M1 b t)
    have g4 := yBg_01 (cSd J M2 b t)
    unfold oCl at hX
    generalize oS (qX J M1 M2 b k) t.toNat = u at *
    generalize qX J M1 M2 b k t = q at *
    generalize yPi (cSd J M1 b t) = p1 at *
    generalize yPi (cSd J M2 b t) = p2 at *
    generalize yBg (cSd J M1 b t) = b1 at *
    generalize yBg (cSd J M2 b t) = b2 at *
    have e5 := sp41 (V := V) (J := J) (d := d) (x := p1 - p2) h1 (by omega)
    rw [ze_40_24 _ _ _ _ _ _ _ _ h1 h2]
    by_cases a1 : p1 = -2
    · rw [if_neg (fun w => w.1.1.1 a1)] at hX
      rw [hX, Int.add_zero] at e
      simp (disch := first | omega | assumption | (simp (disch := omega) only [vup_fn, vup_o, vup_k, vup_at]; first | done | omega | assumption)) only [ze_40_40, ze_40_49, ze_40_115, e1, e2, e, Int.add_zero, ↓reduceIte, qw_id, zck_T, zck_t, zGor_v, zGor_n, zGor_e, zbs, vup_at, vup_vup, vup_self, vup_o, vup_k, vup_fn, ne_eq, not_true_eq_false, not_false_eq_true, and_true, true_and, and_self, and_false, false_and, or_true, true_or, or_self, or_false, false_or, xlt_t, xlt_f, xle_t, xle_f, xeq_t, xeq_f, xand_f, xor_t]
    · by_cases a2 : p2 = -2
      · rw [if_neg (fun w => w.1.1.2 a2)] at hX
        rw [hX, Int.add_zero] at e
        simp (disch := first | omega | assumption | (simp (disch := omega) only [vup_fn, vup_o, vup_k, vup_at]; first | done | omega | assumption)) only [ze_40_40, ze_40_49, ze_40_115, e1, e2, e, Int.add_zero, ↓reduceIte, qw_id, zck_T, zck_t, zGor_v, zGor_n, zGor_e, zbs, vup_at, vup_vup, vup_self, vup_o, vup_k, vup_fn, ne_eq, not_true_eq_false, not_false_eq_true, and_true, true_and, and_self, and_false, false_and, or_true, true_or, or_self, or_false, false_or, xlt_t, xlt_f, xle_t, xle_f, xeq_t, xeq_f, xand_f, xor_t]
      · by_cases a3 : b1 = 0 ∧ b2 = 0
        · rw [if_neg (fun w => by omega)] at hX
          rw [hX, Int.add_zero] at e
          have a4 := a3.1
          have a5 := a3.2
          simp (disch := first | omega | assumption | (simp (disch := omega) only [vup_fn, vup_o, vup_k, vup_at]; first | done | omega | assumption)) only [ze_40_40, ze_40_49, ze_40_72, ze_40_82, ze_40_115, e1, e2, e3, e4, e, Int.add_zero, ↓reduceIte, qw_id, zck_T, zck_t, zGor_v, zGor_n, zGor_e, zbs, vup_at, vup_vup, vup_self, vup_o, vup_k, vup_fn, ne_eq, not_true_eq_false, not_false_eq_true, and_true, true_and, and_self, and_false, false_and, or_true, true_or, or_self, or_false, false_or, xlt_t, xlt_f, xle_t, xle_f, xeq_t, xeq_f, xand_f, xor_t]
        · have hx85 : zGo false 40 72 [.ref M1, .ref M2, .int (zi b), .int (zi k), .int (zi u), .int (zi t), .int (zi p1), .int (zi p2)] [.int (zi b1)] (zm V J d) = zGo false 40 85 [.ref M1, .ref M2, .int (zi b), .int (zi k), .int (zi u), .int (zi t), .int (zi p1), .int (zi p2)] [] (zm V J d) := by
            rcases g3 with g3 | g3
            · rcases g4 with g4 | g4
              · exact absurd ⟨g3, g4⟩ a3
              · simp (disch := first | omega | assumption | (simp (disch := omega) only [vup_fn, vup_o, vup_k, vup_at]; first | done | omega | assumption)) only [ze_40_72, ze_40_82, e4, Int.add_zero, ↓reduceIte, qw_id, zck_T, zck_t, zGor_v, zGor_n, zGor_e, zbs, vup_at, vup_vup, vup_self, vup_o, vup_k, vup_fn, ne_eq, not_true_eq_false, not_false_eq_true, and_true, true_and, and_self, and_false, false_and, or_true, true_or, or_self, or_false, false_or, xlt_t, xlt_f, xle_t, xle_f, xeq_t, xeq_f, xand_f, xor_t]
            · simp (disch := first | omega | assumption | (simp (disch := omega) only [vup_fn, vup_o, vup_k, vup_at]; first | done | omega | assumption)) only [ze_40_72, ze_40_82, Int.add_zero, ↓reduceIte, qw_id, zck_T, zck_t, zGor_v, zGor_n, zGor_e, zbs, vup_at, vup_vup, vup_self, vup_o, vup_k, vup_fn, ne_eq, not_true_eq_false, not_false_eq_true, and_true, true_and, and_self, and_false, false_and, or_true, true_or, or_self, or_false, false_or, xlt_t, xlt_f, xle_t, xle_f, xeq_t, xeq_f, xand_f, xor_t]
          by_cases k2 : k = 2
          · by_cases ha : oHa (p1 - p2)
            · rw [if_pos ⟨⟨⟨a1, a2⟩, by omega⟩, Or.inl ⟨k2, ha⟩⟩] at hX
              rw [hX] at e
              rw [if_pos ha] at e5
              simp (disch := first | omega | assumption | (simp (disch := omega) only [vup_fn, vup_o, vup_k, vup_at]; first | done | omega | assumption)) only [ze_40_40, ze_40_49, hx85, ze_40_85, ze_40_99, ze_40_112, ze_40_115, e1, e2, e3, e5, e, Int.add_zero, ↓reduceIte, qw_id, zck_T, zck_t, zGor_v, zGor_n, zGor_e, zbs, vup_at, vup_vup, vup_self, vup_o, vup_k, vup_fn, ne_eq, not_true_eq_false, not_false_eq_true, and_true, true_and, and_self, and_false, false_and, or_true, true_or, or_self, or_false, false_or, xlt_t, xlt_f, xle_t, xle_f, xeq_t, xeq_f, xand_f, xor_t]
            · rw [if_neg (fun w => by
                rcases w.2 with w | w
                · exact ha w.2
                · exact w.1 k2)] at hX
              rw [hX, Int.add_zero] at e
              rw [if_neg ha] at e5
              simp (disch := first | omega | assumption | (simp (disch := omega) only [vup_fn, vup_o, vup_k, vup_at]; first | done | omega | assumption)) only [ze_40_40, ze_40_49, hx85, ze_40_85, ze_40_99, ze_40_112, ze_40_115, e1, e2, e3, e5, e, Int.add_zero, ↓reduceIte, qw_id, zck_T, zck_t, zGor_v, zGor_n, zGor_e, zbs, vup_at, vup_vup, vup_self, vup_o, vup_k, vup_fn, ne_eq, not_true_eq_false, not_false_eq_true, and_true, true_and, and_self, and_false, false_and, or_true, true_or, or_self, or_false, false_or, xlt_t, xlt_f, xle_t, xle_f, xeq_t, xeq_f, xand_f, xor_t]
          · by_cases ha : p1 < p2
            · rw [if_pos ⟨⟨⟨a1, a2⟩, by omega⟩, Or.inr ⟨k2, ha⟩⟩] at hX
              rw [hX] at e
              simp (disch := first | omega | assumption | (simp (disch := omega) only [vup_fn, vup_o, vup_k, vup_at]; first | done | omega | assumption)) only [ze_40_40, ze_40_49, hx85, ze_40_85, ze_40_112, ze_40_115, e1, e2, e3, e, Int.add_zero, ↓reduceIte, qw_id, zck_T, zck_t, zGor_v, zGor_n, zGor_e, zbs, vup_at, vup_vup, vup_self, vup_o, vup_k, vup_fn, ne_eq, not_true_eq_false, not_false_eq_true, and_true, true_and, and_self, and_false, false_and, or_true, true_or, or_self, or_false, false_or, xlt_t, xlt_f, xle_t, xle_f, xeq_t, xeq_f, xand_f, xor_t]
            · rw [if_neg (fun w => by
                rcases w.2 with w | w
                · exact k2 w.1
                · exact ha w.2)] at hX
              rw [hX, Int.add_zero] at e
              simp (disch := first | omega | assumption | (simp (disch := omega) only [vup_fn, vup_o, vup_k, vup_at]; first | done | omega | assumption)) only [ze_40_40, ze_40_49, hx85, ze_40_85, ze_40_112, ze_40_115, e1, e2, e3, e, Int.add_zero, ↓reduceIte, qw_id, zck_T, zck_t, zGor_v, zGor_n, zGor_e, zbs, vup_at, vup_vup, vup_self, vup_o, vup_k, vup_fn, ne_eq, not_true_eq_false, not_false_eq_true, and_true, true_and, and_self, and_false, false_and, or_true, true_or, or_self, or_false, false_or, xlt_t, xlt_f, xle_t, xle_f, xeq_t, xeq_f, xand_f, xor_t]
theorem sp40 {M1 M2 : Nat} (h1 : zBk 5 M1) (h2 : zBk 5 M2) {b k : Int} (hb : 0 ≤ b ∧ b < 40) (r1 : 0 ≤ V M1 2 ∧ V M1 2 ≤ 40) (r2 : 0 ≤ V M2 2 ∧ V M2 2 ≤ 40) (hm : 0 ≤ V M1 3 ∧ V M1 3 ≤ 16) (hk : k = 2 ∨ k = 3) : zGo false 40 0 [.ref M1, .ref M2, .int (zi b), .int (zi k), .null, .null, .null, .null] [] (zm V J d) = zI1 (if b < V M1 2 ∧ b < V M2 2 then oS (qX J M1 M2 b k) (V M1 3).toNat else 0) V J d := by
  have e1 := sp30 (V := V) (J := J) (d := d) (b := b) h1 (by omega) r1
  have e2 := sp30 (V := V) (J := J) (d := d) (b := b) h2 (by omega) r2
  by_cases a1 : b < V M1 2
  · rw [if_pos ⟨hb.1, a1⟩] at e1
    by_cases a2 : b < V M2 2
    · rw [if_pos ⟨hb.1, a2⟩] at e2
      have e := sl40 (V := V) (J := J) (d := d) h1 h2 (b := b) (k := k) ⟨hb.1, a1⟩ a2 r1.2 r2.2 hm hk (V M1 3).toNat 0 .null .null (by omega) (by omega)
      rw [show oS (qX J M1 M2 b k) (0 : Int).toNat = 0 from rfl] at e
      rw [if_pos ⟨a1, a2⟩]
      simp (disch := first | omega | assumption | (simp (disch := omega) only [vup_fn, vup_o, vup_k, vup_at]; first | done | omega | assumption)) only [ze_40_0, ze_40_5, ze_40_13, e1, e2, e, Int.add_zero, ↓reduceIte, qw_id, zck_T, zck_t, zGor_v, zGor_n, zGor_e, zbs, vup_at, vup_vup, vup_self, vup_o, vup_k, vup_fn, ne_eq, not_true_eq_false, not_false_eq_true, and_true, true_and, and_self, and_false, false_and, or_true, true_or, or_self, or_false, false_or, xlt_t, xlt_f, xle_t, xle_f, xeq_t, xeq_f, xand_f, xor_t]
    · rw [if_neg (fun q => a2 q.2)] at e2
      rw [if_neg (fun q => a2 q.2)]
      simp (disch := first | omega | assumption | (simp (disch := omega) only [vup_fn, vup_o, vup_k, vup_at]; first | done | omega | assumption)) only [ze_40_0, ze_40_5, ze_40_13, ze_40_16, e1, e2, Int.add_zero, ↓reduceIte, qw_id, zck_T, zck_t, zGor_v, zGor_n, zGor_e, zbs, vup_at, vup_vup, vup_self, vup_o, vup_k, vup_fn, ne_eq, not_true_eq_false, not_false_eq_true, and_true, true_and, and_self, and_false, false_and, or_true, true_or, or_self, or_false, false_or, xlt_t, xlt_f, xle_t, xle_f, xeq_t, xeq_f, xand_f, xor_t]
  · rw [if_neg (fun q => a1 q.2)] at e1
    rw [if_neg (fun q => a1 q.1)]
    simp (disch := first | omega | assumption | (simp (disch := omega) only [vup_fn, vup_o, vup_k, vup_at]; first | done | omega | assumption)) only [ze_40_0, ze_40_5, ze_40_13, ze_40_16, e1, Int.add_zero, ↓reduceIte, qw_id, zck_T, zck_t, zGor_v, zGor_n, zGor_e, zbs, vup_at, vup_vup, vup_self, vup_o, vup_k, vup_fn, ne_eq, not_true_eq_false, not_false_eq_true, and_true, true_and, and_self, and_false, false_and, or_true, true_or, or_self, or_false, false_or, xlt_t, xlt_f, xle_t, xle_f, xeq_t, xeq_f, xand_f, xor_t]
end
