/-! part 89: clashes, clashesOf -/
section
variable {V : zVt} {J : zJt} {N p b : Int} {d : Nat → Nat → UInt64}
section
variable {W : zVt} {K : zJt}
theorem m210 {Mu Ml : Nat} {u l t : Int} (hu : rMus V J Mu W K u) (hl : rMus V J Ml W K l) (u5 : 0 ≤ u ∧ u < 5) (l5 : 0 ≤ l ∧ l < 5) (hbu : 0 ≤ b ∧ b < V Mu 2) (hbl : b < V Ml 2) (hu4 : V Mu 2 ≤ 40) (hl4 : V Ml 2 ≤ 40) (ht : 0 ≤ t ∧ t < 16) : zGo false 210 0 [.ref 430, .int (zi u), .int (zi l), .int (zi b), .int (zi t), .null, .null] [] (zm W K d) = zI1 (if oHa (yPi (cSd J Mu b t) - yPi (cSd J Ml b t)) then 1 else 0) W K d := by
  have e1 := sp185 (d := d) hu u5 hu4 hbu ht
  have e2 := sp185 (d := d) hl l5 hl4 ⟨hbu.1, hbl⟩ ht
  have g1 := yPi_rng (cSd_rng J Mu b t)
  have g2 := yPi_rng (cSd_rng J Ml b t)
  obtain ⟨x, hx⟩ : ∃ x, yPi (cSd J Mu b t) - yPi (cSd J Ml b t) = x := ⟨_, rfl⟩
  rw [hx]
  generalize yPi (cSd J Mu b t) = p1 at *
  generalize yPi (cSd J Ml b t) = p2 at *
  have ha : 0 ≤ oAb x ∧ oAb x < 200000 := by
    unfold oAb
    split <;> omega
  have hr := qrem_p (a := oAb x) (b := 12) (by omega) (by omega)
  have h32 : zGo false 210 16 [.ref 430, .int (zi u), .int (zi l), .int (zi b), .int (zi t), .null, .null] [.int (zi p2), .int (zi p1)] (zm W K d) = zGo false 210 32 [.ref 430, .int (zi u), .int (zi l), .int (zi b), .int (zi t), .int (zi x), .null] [.int (zi (oAb x))] (zm W K d) := by
    rw [ze_210_16, hx]
    by_cases h0 : 0 ≤ x
    · rw [show oAb x = x from if_pos h0]
      simp (disch := first | omega | assumption | (simp (disch := omega) only [vup_fn, vup_o, vup_k, vup_at]; first | done | omega | assumption)) only [Int.add_zero, ↓reduceIte, qw_id, zck_T, zck_t, zGor_v, zGor_n, zGor_e, zbs, vup_at, vup_vup, vup_self, vup_o, vup_k, vup_fn, ne_eq, not_true_eq_false, not_false_eq_true, and_true, true_and, and_self, and_false, false_and, or_true, true_or, or_self, or_false, false_or, xlt_t, xlt_f, xle_t, xle_f, xeq_t, xeq_f, xand_f, xor_t]
    · rw [show oAb x = -x from if_neg h0]
      simp (disch := first | omega | assumption | (simp (disch := omega) only [vup_fn, vup_o, vup_k, vup_at]; first | done | omega | assumption)) only [Int.add_zero, ↓reduceIte, qw_id, zck_T, zck_t, zGor_v, zGor_n, zGor_e, zbs, vup_at, vup_vup, vup_self, vup_o, vup_k, vup_fn, ne_eq, not_true_eq_false, not_false_eq_true, and_true, true_and, and_self, and_false, false_and, or_true, true_or, or_self, or_false, false_or, xlt_t, xlt_f, xle_t, xle_f, xeq_t, xeq_f, xand_f, xor_t]
  obtain ⟨q, hq⟩ : ∃ q, oAb x = q := ⟨_, rfl⟩
  rw [hq] at h32 ha hr
  have hlt : 0 ≤ q % 12 ∧ q % 12 < 12 := by omega
  by_cases h1 : q % 12 = 1
  · rw [if_pos (show oHa x from Or.inl (by rw [hq]; exact h1))]
    simp (disch := first | omega | assumption | (simp (disch := omega) only [vup_fn, vup_o, vup_k, vup_at]; first | done | omega | assumption)) only [ze_210_0, ze_210_8, ze_210_32, ze_210_50, ze_210_55, e1, e2, h32, hr, Int.add_zero, ↓reduceIte, qw_id, zck_T, zck_t, zGor_v, zGor_n, zGor_e, zbs, vup_at, vup_vup, vup_self, vup_o, vup_k, vup_fn, ne_eq, not_true_eq_false, not_false_eq_true, and_true, true_and, and_self, and_false, false_and, or_true, true_or, or_self, or_false, false_or, xlt_t, xlt_f, xle_t, xle_f, xeq_t, xeq_f, xand_f, xor_t]
  · by_cases h2 : q % 12 = 11
    · rw [if_pos (show oHa x from Or.inr (by rw [hq]; exact h2))]
      simp (disch := first | omega | assumption | (simp (disch := omega) only [vup_fn, vup_o, vup_k, vup_at]; first | done | omega | assumption)) only [ze_210_0, ze_210_8, ze_210_32, ze_210_50, ze_210_55, e1, e2, h32, hr, Int.add_zero, ↓reduceIte, qw_id, zck_T, zck_t, zGor_v, zGor_n, zGor_e, zbs, vup_at, vup_vup, vup_self, vup_o, vup_k, vup_fn, ne_eq, not_true_eq_false, not_false_eq_true, and_true, true_and, and_self, and_false, false_and, or_true, true_or, or_self, or_false, false_or, xlt_t, xlt_f, xle_t, xle_f, xeq_t, xeq_f, xand_f, xor_t]
    · rw [if_neg (show ¬ oHa x from fun w => by
        rcases w with w | w
        · rw [hq] at w
          exact h1 w
        · rw [hq] at w
          exact h2 w)]
      simp (disch := first | omega | assumption | (simp (disch := omega) only [vup_fn, vup_o, vup_k, vup_at]; first | done | omega | assumption)) only [ze_210_0, ze_210_8, ze_210_32, ze_210_50, ze_210_55, e1, e2, h32, hr, Int.add_zero, ↓reduceIte, qw_id, zck_T, zck_t, zGor_v, zGor_n, zGor_e, zbs, vup_at, vup_vup, vup_self, vup_o, vup_k, vup_fn, ne_eq, not_true_eq_false, not_false_eq_true, and_true, true_and, and_self, and_false, false_and, or_true, true_or, or_self, or_false, false_or, xlt_t, xlt_f, xle_t, xle_f, xeq_t, xeq_f, xand_f, xor_t]
/-- ticks of two voices -/
theorem ml209t {Mu Ml : Nat} {u l k x3 x4 s : Int} (hu : rMus V J Mu W K u) (hl : rMus V J Ml W K l) (u4 : 0 ≤ u ∧ u < 4) (l4 : 0 ≤ l ∧ l < 4) (hbu : 0 ≤ b ∧ b < V Mu 2) (hbl : b < V Ml 2) (hu4 : V Mu 2 ≤ 40) (hl4 : V Ml 2 ≤ 40) (h449 : W 449 u = V Mu 2) (h450 : W 450 l = V Ml 3) (hT : 0 ≤ V Ml 3 ∧ V Ml 3 ≤ 16) (hk : k = 2 ∨ k = 3) (n : Nat) : ∀ (t : Int) (x10 x11 : Value), 0 ≤ t → V Ml 3 = t + n → ∃ y10 y11 : Value, zGo false 209 235 [.ref 430, .int (zi b), .int (zi k), .int (zi x3), .int (zi x4), .int (zi (s + oS (qX J Mu Ml b k) t.toNat)), .int (zi 0), .int (zi l), .int (zi u), .int (zi t), x10, x11] [] (zm W K d) = zGo false 209 394 [.ref 430, .int (zi b), .int (zi k), .int (zi x3), .int (zi x4), .int (zi (s + oS (qX J Mu Ml b k) (V Ml 3).toNat)), .int (zi 0), .int (zi l), .int (zi u), .int (zi (V Ml 3)), y10, y11] [] (zm W K d) := by
  induction n with
  | zero =>
    intro t x10 x11 t0 ht
    have e : t = V Ml 3 := by omega
    refine ⟨x10, x11, ?_⟩
    rw [← e, ze_209_235]
    simp (disch := first | omega | assumption | (simp (disch := omega) only [vup_fn, vup_o, vup_k, vup_at]; first | done | omega | assumption)) only [Int.add_zero, ↓reduceIte, qw_id, zck_T, zck_t, zGor_v, zGor_n, zGor_e, zbs, vup_at, vup_vup, vup_self, vup_o, vup_k, vup_fn, ne_eq, not_true_eq_false, not_false_eq_true, and_true, true_and, and_self, and_false, false_and, or_true, true_or, or_self, or_false, false_or, xlt_t, xlt_f, xle_t, xle_f, xeq_t, xeq_f, xand_f, xor_t]
  | succ n ih =>
    intro t x10 x11 t0 ht
    have ht16 : 0 ≤ t ∧ t < 16 := by omega
    have e1 := sp185 (d := d) hl (by omega) hl4 ⟨hbu.1, hbl⟩ ht16
    have e2 := sp185 (d := d) hu (by omega) hu4 hbu ht16
    have e3 := sp203 (d := d) hl (by omega) hl4 ⟨hbu.1, hbl⟩ ht16
    have e4 := sp203 (d := d) hu (by omega) hu4 hbu ht16
    have e5 := m210 (d := d) (t := t) hu hl (by omega) (by omega) hbu hbl hu4 hl4 ht16
    have hX : qX J Mu Ml b k t = oCl k (cSd J Mu b t) (cSd J Ml b t) := rfl
    have g1 := yPi_rng (cSd_rng J Mu b t)
    have g2 := yPi_rng (cSd_rng J Ml b t)
    have g3 := yBg_01 (cSd J Mu b t)
    have g4 := yBg_01 (cSd J Ml b t)
    unfold oCl at hX
    have hcr : ∃ c : Int, (c = 0 ∨ c = 1) ∧ (c = 1 ↔ yPi (cSd J Mu b t) < yPi (cSd J Ml b t)) := by
      by_cases q : yPi (cSd J Mu b t) < yPi (cSd J Ml b t)
      · exact ⟨1, Or.inr rfl, fun _ => q, fun _ => rfl⟩
      · exact ⟨0, Or.inl rfl, fun w => by omega, fun w => absurd w q⟩
    obtain ⟨c, c1, c2⟩ := hcr
    -- from the flag on
    have h315 : ∀ (g : Int) (y10 : Value), (g = 0 ∨ g = 1) → zGo false 209 315 [.ref 430, .int (zi b), .int (zi k), .int (zi x3), .int (zi x4), .int (zi (s + oS (qX J Mu Ml b k) t.toNat)), .int (zi 0), .int (zi l), .int (zi u), .int (zi t), y10, x11] [.int (zi g)] (zm W K d) = zGo false 209 343 [.ref 430, .int (zi b), .int (zi k), .int (zi x3), .int (zi x4), .int (zi (s + oS (qX J Mu Ml b k) t.toNat)), .int (zi 0), .int (zi l), .int (zi u), .int (zi t), .int (zi g), x11] [.int (zi c)] (zm W K d) := fun g y10 hg => by
      rcases c1 with c1 | c1
      · have c3 : yPi (cSd J Ml b t) ≤ yPi (cSd J Mu b t) := by omega
        rw [c1]
        simp (disch := first | omega | assumption | (simp (disch := omega) only [vup_fn, vup_o, vup_k, vup_at]; first | done | omega | assumption)) only [ze_209_315, ze_209_326, ze_209_335, e1, e2, Int.add_zero, ↓reduceIte, qw_id, zck_T, zck_t, zGor_v, zGor_n, zGor_e, zbs, vup_at, vup_vup, vup_self, vup_o, vup_k, vup_fn, ne_eq, not_true_eq_false, not_false_eq_true, and_true, true_and, and_self, and_false, false_and, or_true, true_or, or_self, or_false, false_or, xlt_t, xlt_f, xle_t, xle_f, xeq_t, xeq_f, xand_f, xor_t]
      · have c3 := c2.1 c1
        rw [c1]
        simp (disch := first | omega | assumption | (simp (disch := omega) only [vup_fn, vup_o, vup_k, vup_at]; first | done | omega | assumption)) only [ze_209_315, ze_209_326, ze_209_335, e1, e2, Int.add_zero, ↓reduceIte, qw_id, zck_T, zck_t, zGor_v, zGor_n, zGor_e, zbs, vup_at, vup_vup, vup_self, vup_o, vup_k, vup_fn, ne_eq, not_true_eq_false, not_false_eq_true, and_true, true_and, and_self, and_false, false_and, or_true, true_or, or_self, or_false, false_or, xlt_t, xlt_f, xle_t, xle_f, xeq_t, xeq_f, xand_f, xor_t]
    have hfl : ∃ g : Int, (g = 0 ∨ g = 1) ∧ (g = 1 ↔ (yPi (cSd J Mu b t) ≠ -2 ∧ yPi (cSd J Ml b t) ≠ -2) ∧ (yBg (cSd J Mu b t) ≠ 0 ∨ yBg (cSd J Ml b t) ≠ 0)) ∧ zGo false 209 235 [.ref 430, .int (zi b), .int (zi k), .int (zi x3), .int (zi x4), .int (zi (s + oS (qX J Mu Ml b k) t.toNat)), .int (zi 0), .int (zi l), .int (zi u), .int (zi t), x10, x11] [] (zm W K d) = zGo false 209 315 [.ref 430, .int (zi b), .int (zi k), .int (zi x3), .int (zi x4), .int (zi (s + oS (qX J Mu Ml b k) t.toNat)), .int (zi 0), .int (zi l), .int (zi u), .int (zi t), x10, x11] [.int (zi g)] (zm W K d) := by
      by_cases a2 : yPi (cSd J Ml b t) = -2
      · refine ⟨0, Or.inl rfl, ⟨fun w => by omega, fun w => absurd a2 w.1.2⟩, ?_⟩
        rw [a2] at e1
        simp (disch := first | omega | assumption | (simp (disch := omega) only [vup_fn, vup_o, vup_k, vup_at]; first | done | omega | assumption)) only [ze_209_235, ze_209_267, ze_209_281, ze_209_314, e1, Int.add_zero, ↓reduceIte, qw_id, zck_T, zck_t, zGor_v, zGor_n, zGor_e, zbs, vup_at, vup_vup, vup_self, vup_o, vup_k, vup_fn, ne_eq, not_true_eq_false, not_false_eq_true, and_true, true_and, and_self, and_false, false_and, or_true, true_or, or_self, or_false, false_or, xlt_t, xlt_f, xle_t, xle_f, xeq_t, xeq_f, xand_f, xor_t]
      · by_cases a1 : yPi (cSd J Mu b t) = -2
        · refine ⟨0, Or.inl rfl, ⟨fun w => by omega, fun w => absurd a1 w.1.1⟩, ?_⟩
          rw [a1] at e2
          simp (disch := first | omega | assumption | (simp (disch := omega) only [vup_fn, vup_o, vup_k, vup_at]; first | done | omega | assumption)) only [ze_209_235, ze_209_267, ze_209_281, ze_209_314, e1, e2, Int.add_zero, ↓reduceIte, qw_id, zck_T, zck_t, zGor_v, zGor_n, zGor_e, zbs, vup_at, vup_vup, vup_self, vup_o, vup_k, vup_fn, ne_eq, not_true_eq_false, not_false_eq_true, and_true, true_and, and_self, and_false, false_and, or_true, true_or, or_self, or_false, false_or, xlt_t, xlt_f, xle_t, xle_f, xeq_t, xeq_f, xand_f, xor_t]
        · rcases g4 with g4 | g4
          · rcases g3 with g3 | g3
            · refine ⟨0, Or.inl rfl, ⟨fun w => by omega, fun w => by omega⟩, ?_⟩
              rw [g4] at e3
              rw [g3] at e4
              simp (disch := first | omega | assumption | (simp (disch := omega) only [vup_fn, vup_o, vup_k, vup_at]; first | done | omega | assumption)) only [ze_209_235, ze_209_267, ze_209_281, ze_209_295, ze_209_307, ze_209_310, ze_209_314, e1, e2, e3, e4, Int.add_zero, ↓reduceIte, qw_id, zck_T, zck_t, zGor_v, zGor_n, zGor_e, zbs, vup_at, vup_vup, vup_self, vup_o, vup_k, vup_fn, ne_eq, not_true_eq_false, not_false_eq_true, and_true, true_and, and_self, and_false, false_and, or_true, true_or, or_self, or_false, false_or, xlt_t, xlt_f, xle_t, xle_f, xeq_t, xeq_f, xand_f, xor_t]
            · refine ⟨1, Or.inr rfl, ⟨fun w => ⟨⟨a1, a2⟩, by omega⟩, fun w => rfl⟩, ?_⟩
              rw [g4] at e3
              rw [g3] at e4
              simp (disch := first | omega | assumption | (simp (disch := omega) only [vup_fn, vup_o, vup_k, vup_at]; first | done | omega | assumption)) only [ze_209_235, ze_209_267, ze_209_281, ze_209_295, ze_209_307, ze_209_310, ze_209_314, e1, e2, e3, e4, Int.add_zero, ↓reduceIte, qw_id, zck_T, zck_t, zGor_v, zGor_n, zGor_e, zbs, vup_at, vup_vup, vup_self, vup_o, vup_k, vup_fn, ne_eq, not_true_eq_false, not_false_eq_true, and_true, true_and, and_self, and_false, false_and, or_true, true_or, or_self, or_false, false_or, xlt_t, xlt_f, xle_t, xle_f, xeq_t, xeq_f, xand_f, xor_t]
          · refine ⟨1, Or.inr rfl, ⟨fun w => ⟨⟨a1, a2⟩, by omega⟩, fun w => rfl⟩, ?_⟩
            rw [g4] at e3
            simp (disch := first | omega | assumption | (simp (disch := omega) only [vup_fn, vup_o, vup_k, vup_at]; first | done | omega | assumption)) only [ze_209_235, ze_209_267, ze_209_281, ze_209_295, ze_209_307, ze_209_310, ze_209_314, e1, e2, e3, Int.add_zero, ↓reduceIte, qw_id, zck_T, zck_t, zGor_v, zGor_n, zGor_e, zbs, vup_at, vup_vup, vup_self, vup_o, vup_k, vup_fn, ne_eq, not_true_eq_false, not_false_eq_true, and_true, true_and, and_self, and_false, false_and, or_true, true_or, or_self, or_false, false_or, xlt_t, xlt_f, xle_t, xle_f, xeq_t, xeq_f, xand_f, xor_t]
    obtain ⟨g, g01, g5, h235⟩ := hfl
    obtain ⟨y10, y11, e⟩ := ih (t + 1) (.int (zi g)) (.int (zi c)) (by omega) (by omega)
    rw [oS_s t0, ← Int.add_assoc] at e
    refine ⟨y10, y11, ?_⟩
    rw [h235, h315 g x10 g01]
    clear h235 h315 ih
    rcases g01 with g0 | g0
    · rw [if_neg (fun w => by have := g5.2 w.1; omega)] at hX
      rw [hX, Int.add_zero, g0] at e
      rw [g0]
      simp (disch := first | omega | assumption | (simp (disch := omega) only [vup_fn, vup_o, vup_k, vup_at]; first | done | omega | assumption)) only [ze_209_343, ze_209_385, e, Int.add_zero, ↓reduceIte, qw_id, zck_T, zck_t, zGor_v, zGor_n, zGor_e, zbs, vup_at, vup_vup, vup_self, vup_o, vup_k, vup_fn, ne_eq, not_true_eq_false, not_false_eq_true, and_true, true_and, and_self, and_false, false_and, or_true, true_or, or_self, or_false, false_or, xlt_t, xlt_f, xle_t, xle_f, xeq_t, xeq_f, xand_f, xor_t]
    · have g6 := g5.1 g0
      by_cases k2 : k = 2
      · by_cases ha : oHa (yPi (cSd J Mu b t) - yPi (cSd J Ml b t))
        · rw [if_pos ⟨g6, Or.inl ⟨k2, ha⟩⟩] at hX
          rw [hX, g0] at e
          rw [if_pos ha] at e5
          rw [g0]
          simp (disch := first | omega | assumption | (simp (disch := omega) only [vup_fn, vup_o, vup_k, vup_at]; first | done | omega | assumption)) only [ze_209_343, ze_209_372, ze_209_385, e5, e, Int.add_zero, ↓reduceIte, qw_id, zck_T, zck_t, zGor_v, zGor_n, zGor_e, zbs, vup_at, vup_vup, vup_self, vup_o, vup_k, vup_fn, ne_eq, not_true_eq_false, not_false_eq_true, and_true, true_and, and_self, and_false, false_and, or_true, true_or, or_self, or_false, false_or, xlt_t, xlt_f, xle_t, xle_f, xeq_t, xeq_f, xand_f, xor_t]
        · rw [if_neg (fun w => by
            rcases w.2 with w | w
            · exact ha w.2
            · exact w.1 k2)] at hX
          rw [hX, Int.add_zero, g0] at e
          rw [if_neg ha] at e5
          rw [g0]
          simp (disch := first | omega | assumption | (simp (disch := omega) only [vup_fn, vup_o, vup_k, vup_at]; first | done | omega | assumption)) only [ze_209_343, ze_209_372, ze_209_385, e5, e, Int.add_zero, ↓reduceIte, qw_id, zck_T, zck_t, zGor_v, zGor_n, zGor_e, zbs, vup_at, vup_vup, vup_self, vup_o, vup_k, vup_fn, ne_eq, not_true_eq_false, not_false_eq_true, and_true, true_and, and_self, and_false, false_and, or_true, true_or, or_self, or_false, false_or, xlt_t, xlt_f, xle_t, xle_f, xeq_t, xeq_f, xand_f, xor_t]
      · by_cases ha : yPi (cSd J Mu b t) < yPi (cSd J Ml b t)
        · rw [if_pos ⟨g6, Or.inr ⟨k2, ha⟩⟩] at hX
          rw [hX, g0, c2.2 ha] at e
          rw [g0, c2.2 ha]
          simp (disch := first | omega | assumption | (simp (disch := omega) only [vup_fn, vup_o, vup_k, vup_at]; first | done | omega | assumption)) only [ze_209_343, ze_209_372, ze_209_385, e, Int.add_zero, ↓reduceIte, qw_id, zck_T, zck_t, zGor_v, zGor_n, zGor_e, zbs, vup_at, vup_vup, vup_self, vup_o, vup_k, vup_fn, ne_eq, not_true_eq_false, not_false_eq_true, and_true, true_and, and_self, and_false, false_and, or_true, true_or, or_self, or_false, false_or, xlt_t, xlt_f, xle_t, xle_f, xeq_t, xeq_f, xand_f, xor_t]
        · rw [if_neg (fun w => by
            rcases w.2 with w | w
            · exact k2 w.1
            · exact ha w.2)] at hX
          have c0 : c = 0 := by
            rcases c1 with q | q
            · exact q
            · exact absurd (c2.1 q) ha
          rw [hX, Int.add_zero, g0, c0] at e
          rw [g0, c0]
          simp (disch := first | omega | assumption | (simp (disch := omega) only [vup_fn, vup_o, vup_k, vup_at]; first | done | omega | assumption)) only [ze_209_343, ze_209_372, ze_209_385, e, Int.add_zero, ↓reduceIte, qw_id, zck_T, zck_t, zGor_v, zGor_n, zGor_e, zbs, vup_at, vup_vup, vup_self, vup_o, vup_k, vup_fn, ne_eq, not_true_eq_false, not_false_eq_true, and_true, true_and, and_self, and_false, false_and, or_true, true_or, or_self, or_false, false_or, xlt_t, xlt_f, xle_t, xle_f, xeq_t, xeq_f, xand_f, xor_t]
theorem ml209u (hi : zInv N V J) (hp : 0 ≤ p ∧ p < 3) (hb : 0 ≤ b ∧ b < 40) (hm : ∀ u, 0 ≤ u → u < 4 → mPv V J p u W K) {k x3 x4 l : Int} (hk : k = 2 ∨ k = 3) (hl : 0 ≤ l ∧ l < 4) (n : Nat) : ∀ (u s : Int) (x9 x10 x11 : Value), 0 ≤ u → l = u + n → ∃ (u' : Int) (y9 y10 y11 : Value), zGo false 209 214 [.ref 430, .int (zi b), .int (zi k), .int (zi x3), .int (zi x4), .int (zi (s + oS (qW V J p b k l) u.toNat)), .int (zi 0), .int (zi l), .int (zi u), x9, x10, x11] [] (zm W K d) = zGo false 209 400 [.ref 430, .int (zi b), .int (zi k), .int (zi x3), .int (zi x4), .int (zi (s + oS (qW V J p b k l) l.toNat)), .int (zi 0), .int (zi l), .int (zi u'), y9, y10, y11] [] (zm W K d) := by
  induction n with
  | zero =>
    intro u s x9 x10 x11 u0 hu
    obtain rfl : l = u := by omega
    refine ⟨l, x9, x10, x11, ?_⟩
    rw [ze_209_214]
    simp (disch := first | omega | assumption | (simp (disch := omega) only [vup_fn, vup_o, vup_k, vup_at]; first | done | omega | assumption)) only [Int.add_zero, ↓reduceIte, qw_id, zck_T, zck_t, zGor_v, zGor_n, zGor_e, zbs, vup_at, vup_vup, vup_self, vup_o, vup_k, vup_fn, ne_eq, not_true_eq_false, not_false_eq_true, and_true, true_and, and_self, and_false, false_and, or_true, true_or, or_self, or_false, false_or, xlt_t, xlt_f, xle_t, xle_f, xeq_t, xeq_f, xand_f, xor_t]
  | succ n ih =>
    intro u s x9 x10 x11 u0 hu
    have hu4 : 0 ≤ u ∧ u < 4 := by omega
    have hml := hm l hl.1 hl.2
    have hmu := hm u u0 hu4.2
    have kl := mPv_f (b := b) hi hp hl hml
    have ku := mPv_f (b := b) hi hp hu4 hmu
    have hw : qW V J p b k l u = if b < qN V p u ∧ b < qN V p l then oS (qX J (50 + 15 * (p * 4 + u).toNat + 13) (50 + 15 * (p * 4 + l).toNat + 13) b k) (V (50 + 15 * (p * 4 + l).toNat + 13) 3).toNat else 0 := rfl
    have h5 := hml.2.2.1
    have h6 := hmu.2.2.1
    by_cases c1 : b < qN V p l
    · have k1 := kl.2 hb.1 c1
      have q1 := hml.2.2.2 k1.1
      by_cases c2 : b < qN V p u
      · have k2 := ku.2 hb.1 c2
        have q2 := hmu.2.2.2 k2.1
        rw [if_pos ⟨c2, c1⟩] at hw
        obtain ⟨z10, z11, et⟩ := ml209t (d := d) (x3 := x3) (x4 := x4) (s := s + oS (qW V J p b k l) u.toNat) q2.2 q1.2 hu4 hl ⟨hb.1, k2.2.1⟩ k1.2.1 k2.2.2.1 k1.2.2.1 (by rw [h6]; exact qN_has k2.1) q1.1 (by omega) hk (V (50 + 15 * (p * 4 + l).toNat + 13) 3).toNat 0 x10 x11 (by omega) (by omega)
        rw [show oS (qX J (50 + 15 * (p * 4 + u).toNat + 13) (50 + 15 * (p * 4 + l).toNat + 13) b k) (0 : Int).toNat = 0 from rfl, Int.add_zero, ← hw, Int.add_assoc, ← oS_s u0] at et
        obtain ⟨u', y9, y10, y11, e⟩ := ih (u + 1) s (.int (zi (V (50 + 15 * (p * 4 + l).toNat + 13) 3))) z10 z11 (by omega) (by omega)
        refine ⟨u', y9, y10, y11, ?_⟩
        rw [ze_209_214]
        simp (disch := first | omega | assumption | (simp (disch := omega) only [vup_fn, vup_o, vup_k, vup_at]; first | done | omega | assumption)) only [et, ze_209_394, e, Int.add_zero, ↓reduceIte, qw_id, zck_T, zck_t, zGor_v, zGor_n, zGor_e, zbs, vup_at, vup_vup, vup_self, vup_o, vup_k, vup_fn, ne_eq, not_true_eq_false, not_false_eq_true, and_true, true_and, and_self, and_false, false_and, or_true, true_or, or_self, or_false, false_or, xlt_t, xlt_f, xle_t, xle_f, xeq_t, xeq_f, xand_f, xor_t]
      · rw [if_neg (fun w => c2 w.1)] at hw
        obtain ⟨u', y9, y10, y11, e⟩ := ih (u + 1) s (.int (zi 0)) x10 x11 (by omega) (by omega)
        rw [oS_s u0, hw, Int.add_zero] at e
        refine ⟨u', y9, y10, y11, ?_⟩
        have q3 := q1.1
        rw [ze_209_214]
        simp (disch := first | omega | assumption | (simp (disch := omega) only [vup_fn, vup_o, vup_k, vup_at]; first | done | omega | assumption)) only [ze_209_235, ze_209_394, e, Int.add_zero, ↓reduceIte, qw_id, zck_T, zck_t, zGor_v, zGor_n, zGor_e, zbs, vup_at, vup_vup, vup_self, vup_o, vup_k, vup_fn, ne_eq, not_true_eq_false, not_false_eq_true, and_true, true_and, and_self, and_false, false_and, or_true, true_or, or_self, or_false, false_or, xlt_t, xlt_f, xle_t, xle_f, xeq_t, xeq_f, xand_f, xor_t]
    · refine ⟨u, x9, x10, x11, ?_⟩
      have hz : ∀ m : Nat, oS (qW V J p b k l) m = 0 := fun m => by
        induction m with
        | zero => rfl
        | succ m im =>
          show oS (qW V J p b k l) m + qW V J p b k l m = 0
          rw [im]
          unfold qW
          rw [if_neg (fun w => c1 w.2)]
          rfl
      rw [hz, hz, ze_209_214]
      simp (disch := first | omega | assumption | (simp (disch := omega) only [vup_fn, vup_o, vup_k, vup_at]; first | done | omega | assumption)) only [Int.add_zero, ↓reduceIte, qw_id, zck_T, zck_t, zGor_v, zGor_n, zGor_e, zbs, vup_at, vup_vup, vup_self, vup_o, vup_k, vup_fn, ne_eq, not_true_eq_false, not_false_eq_true, and_true, true_and, and_self, and_false, false_and, or_true, true_or, or_self, or_false, false_or, xlt_t, xlt_f, xle_t, xle_f, xeq_t, xeq_f, xand_f, xor_t]
theorem ml209l (hi : zInv N V J) (hp : 0 ≤ p ∧ p < 3) (hb : 0 ≤ b ∧ b < 40) (hm : ∀ u, 0 ≤ u → u < 4 → mPv V J p u W K) {k x3 x4 : Int} (hk : k = 2 ∨ k = 3) (n : Nat) : ∀ (l : Int) (x8 x9 x10 x11 : Value), 0 ≤ l → 4 = l + n → zGo false 209 200 [.ref 430, .int (zi b), .int (zi k), .int (zi x3), .int (zi x4), .int (zi (oS (fun l => oS (qW V J p b k l) l.toNat) l.toNat)), .int (zi 0), .int (zi l), x8, x9, x10, x11] [] (zm W K d) = zI1 (qZ V J p b k) W K d := by
  induction n with
  | zero =>
    intro l x8 x9 x10 x11 l0 hl
    obtain rfl : l = 4 := by omega
    rw [ze_209_200, show qZ V J p b k = oS (fun l => oS (qW V J p b k l) l.toNat) (4 : Int).toNat from rfl]
    simp (disch := first | omega | assumption | (simp (disch := omega) only [vup_fn, vup_o, vup_k, vup_at]; first | done | omega | assumption)) only [ze_209_406, Int.add_zero, ↓reduceIte, qw_id, zck_T, zck_t, zGor_v, zGor_n, zGor_e, zbs, vup_at, vup_vup, vup_self, vup_o, vup_k, vup_fn, ne_eq, not_true_eq_false, not_false_eq_true, and_true, true_and, and_self, and_false, false_and, or_true, true_or, or_self, or_false, false_or, xlt_t, xlt_f, xle_t, xle_f, xeq_t, xeq_f, xand_f, xor_t]
  | succ n ih =>
    intro l x8 x9 x10 x11 l0 hl
    obtain ⟨u', y9, y10, y11, e⟩ := ml209u (d := d) hi hp hb hm (x3 := x3) (x4 := x4) hk (l := l) (by omega) l.toNat 0 (oS (fun l => oS (qW V J p b k l) l.toNat) l.toNat) x9 x10 x11 (by omega) (by omega)
    rw [show oS (qW V J p b k l) (0 : Int).toNat = 0 from rfl, Int.add_zero] at e
    have e2 := ih (l + 1) (.int (zi u')) y9 y10 y11 (by omega) (by omega)
    rw [oS_s l0] at e2
    rw [ze_209_200]
    simp (disch := first | omega | assumption | (simp (disch := omega) only [vup_fn, vup_o, vup_k, vup_at]; first | done | omega | assumption)) only [e, ze_209_400, e2, Int.add_zero, ↓reduceIte, qw_id, zck_T, zck_t, zGor_v, zGor_n, zGor_e, zbs, vup_at, vup_vup, vup_self, vup_o, vup_k, vup_fn, ne_eq, not_true_eq_false, not_false_eq_true, and_true, true_and, and_self, and_false, false_and, or_true, true_or, or_self, or_false, false_or, xlt_t, xlt_f, xle_t, xle_f, xeq_t, xeq_f, xand_f, xor_t]
theorem m209 (hi : zInv N V J) (hp : 0 ≤ p ∧ p < 3) (hb : 0 ≤ b ∧ b < 40) (hm : ∀ u, 0 ≤ u → u < 4 → mPv V J p u W K) {k y : Int} (hk : 0 ≤ k ∧ k ≤ 3) (hy : y = 0 ∨ y = 1) (hU : y = 1 ↔ qU V p b) : zGo false 209 0 [.ref 430, .int (zi b), .int (zi k), .null, .null, .null, .null, .null, .null, .null, .null, .null] [] (zm W K d) = zI1 (qC V J p b k y) W K d := by
  obtain ⟨f, y8, y9, f01, f2, e⟩ := ml209v (d := d) hi hp hb hm (k := k) (x5 := 0) 4 0 0 .null .null (by omega) (by omega) (Or.inl rfl) ⟨fun w => by omega, fun ⟨u, t, h1, h2, h3⟩ => by omega⟩
  rw [show oS (qL V p b) (0 : Int).toNat = 0 from rfl, show oS (qB V p b) (0 : Int).toNat = 0 from rfl] at e
  rw [qQ_U] at f2
  have hfy : f = y := by
    by_cases q : qU V p b
    · rw [f2.2 q, hU.2 q]
    · rcases f01 with q1 | q1
      · rcases hy with q2 | q2
        · rw [q1, q2]
        · exact absurd (hU.1 q2) q
      · exact absurd (f2.1 q1) q
  clear f2 hU
  subst hfy
  have r1 := oS_rng (f := qL V p b) 4 (fun k _ _ => qL_01 V p b k)
  have r2 := oS_rng (f := qB V p b) 4 (fun k _ _ => qB_01 V p b k)
  have ra := oS_add (f := qH V p) (g := qL V p b) (h := qB V p b) 4 (fun k _ _ => qH_LB hb.1 k)
  have el := ml209l (d := d) (k := k) (x3 := oS (qL V p b) 4) (x4 := oS (qB V p b) 4) hi hp hb hm
  unfold qC
  rw [ra]
  generalize oS (qL V p b) 4 = a at *
  generalize oS (qB V p b) 4 = c at *
  rw [ze_209_0, e]
  by_cases k0 : k = 0
  · rw [if_pos k0]
    by_cases q : 0 < c ∧ c < a + c
    · rw [if_pos q]
      simp (disch := first | omega | assumption | (simp (disch := omega) only [vup_fn, vup_o, vup_k, vup_at]; first | done | omega | assumption)) only [ze_209_14, ze_209_164, ze_209_195, ze_209_196, Int.add_zero, ↓reduceIte, qw_id, zck_T, zck_t, zGor_v, zGor_n, zGor_e, zbs, vup_at, vup_vup, vup_self, vup_o, vup_k, vup_fn, ne_eq, not_true_eq_false, not_false_eq_true, and_true, true_and, and_self, and_false, false_and, or_true, true_or, or_self, or_false, false_or, xlt_t, xlt_f, xle_t, xle_f, xeq_t, xeq_f, xand_f, xor_t]
    · rw [if_neg q]
      by_cases q2 : a ≤ 0
      · simp (disch := first | omega | assumption | (simp (disch := omega) only [vup_fn, vup_o, vup_k, vup_at]; first | done | omega | assumption)) only [ze_209_14, ze_209_164, ze_209_195, ze_209_196, Int.add_zero, ↓reduceIte, qw_id, zck_T, zck_t, zGor_v, zGor_n, zGor_e, zbs, vup_at, vup_vup, vup_self, vup_o, vup_k, vup_fn, ne_eq, not_true_eq_false, not_false_eq_true, and_true, true_and, and_self, and_false, false_and, or_true, true_or, or_self, or_false, false_or, xlt_t, xlt_f, xle_t, xle_f, xeq_t, xeq_f, xand_f, xor_t]
      · simp (disch := first | omega | assumption | (simp (disch := omega) only [vup_fn, vup_o, vup_k, vup_at]; first | done | omega | assumption)) only [ze_209_14, ze_209_164, ze_209_195, ze_209_196, Int.add_zero, ↓reduceIte, qw_id, zck_T, zck_t, zGor_v, zGor_n, zGor_e, zbs, vup_at, vup_vup, vup_self, vup_o, vup_k, vup_fn, ne_eq, not_true_eq_false, not_false_eq_true, and_true, true_and, and_self, and_false, false_and, or_true, true_or, or_self, or_false, false_or, xlt_t, xlt_f, xle_t, xle_f, xeq_t, xeq_f, xand_f, xor_t]
  · rw [if_neg k0]
    by_cases k1 : k = 1
    · rw [if_pos k1]
      rcases f01 with q | q
      · rw [q]
        simp (disch := first | omega | assumption | (simp (disch := omega) only [vup_fn, vup_o, vup_k, vup_at]; first | done | omega | assumption)) only [ze_209_14, ze_209_164, ze_209_195, ze_209_196, Int.add_zero, ↓reduceIte, qw_id, zck_T, zck_t, zGor_v, zGor_n, zGor_e, zbs, vup_at, vup_vup, vup_self, vup_o, vup_k, vup_fn, ne_eq, not_true_eq_false, not_false_eq_true, and_true, true_and, and_self, and_false, false_and, or_true, true_or, or_self, or_false, false_or, xlt_t, xlt_f, xle_t, xle_f, xeq_t, xeq_f, xand_f, xor_t]
      · rw [q]
        simp (disch := first | omega | assumption | (simp (disch := omega) only [vup_fn, vup_o, vup_k, vup_at]; first | done | omega | assumption)) only [ze_209_14, ze_209_164, ze_209_195, ze_209_196, Int.add_zero, ↓reduceIte, qw_id, zck_T, zck_t, zGor_v, zGor_n, zGor_e, zbs, vup_at, vup_vup, vup_self, vup_o, vup_k, vup_fn, ne_eq, not_true_eq_false, not_false_eq_true, and_true, true_and, and_self, and_false, false_and, or_true, true_or, or_self, or_false, false_or, xlt_t, xlt_f, xle_t, xle_f, xeq_t, xeq_f, xand_f, xor_t]
    · rw [if_neg k1]
      rcases f01 with q | q
      · rw [if_neg (by omega), q]
        have e2 := el (by omega) 4 0 y8 y9 .null .null (by omega) (by omega)
        rw [show oS (fun l => oS (qW V J p b k l) l.toNat) (0 : Int).toNat = 0 from rfl] at e2
        simp (disch := first | omega | assumption | (simp (disch := omega) only [vup_fn, vup_o, vup_k, vup_at]; first | done | omega | assumption)) only [ze_209_14, e2, Int.add_zero, ↓reduceIte, qw_id, zck_T, zck_t, zGor_v, zGor_n, zGor_e, zbs, vup_at, vup_vup, vup_self, vup_o, vup_k, vup_fn, ne_eq, not_true_eq_false, not_false_eq_true, and_true, true_and, and_self, and_false, false_and, or_true, true_or, or_self, or_false, false_or, xlt_t, xlt_f, xle_t, xle_f, xeq_t, xeq_f, xand_f, xor_t]
      · rw [if_pos q, q]
        simp (disch := first | omega | assumption | (simp (disch := omega) only [vup_fn, vup_o, vup_k, vup_at]; first | done | omega | assumption)) only [ze_209_14, ze_209_200, ze_209_406, Int.add_zero, ↓reduceIte, qw_id, zck_T, zck_t, zGor_v, zGor_n, zGor_e, zbs, vup_at, vup_vup, vup_self, vup_o, vup_k, vup_fn, ne_eq, not_true_eq_false, not_false_eq_true, and_true, true_and, and_self, and_false, false_and, or_true, true_or, or_self, or_false, false_or, xlt_t, xlt_f, xle_t, xle_f, xeq_t, xeq_f, xand_f, xor_t]
end
theorem sp124 {a : Int} (ha : -2147483648 ≤ a ∧ a < 2147483648) : zGo false 124 0 [.ref 0, .int (zi a)] [] (zm V J d) = if 0 ≤ a ∧ a < 3 then zN1 V J d else zE1 0 V J d := by
  by_cases h1 : a < 0
  · rw [if_neg (by omega)]
    simp (disch := first | omega | assumption | (simp (disch := omega) only [vup_fn, vup_o, vup_k, vup_at]; first | done | omega | assumption)) only [ze_124_0, ze_124_9, Int.add_zero, ↓reduceIte, qw_id, zck_T, zck_t, zGor_v, zGor_n, zGor_e, zbs, vup_at, vup_vup, vup_self, vup_o, vup_k, vup_fn, ne_eq, not_true_eq_false, not_false_eq_true, and_true, true_and, and_self, and_false, false_and, or_true, true_or, or_self, or_false, false_or, xlt_t, xlt_f, xle_t, xle_f, xeq_t, xeq_f, xand_f, xor_t]
  · by_cases h2 : a < 3
    · rw [if_pos (by omega)]
      simp (disch := first | omega | assumption | (simp (disch := omega) only [vup_fn, vup_o, vup_k, vup_at]; first | done | omega | assumption)) only [ze_124_0, ze_124_9, Int.add_zero, ↓reduceIte, qw_id, zck_T, zck_t, zGor_v, zGor_n, zGor_e, zbs, vup_at, vup_vup, vup_self, vup_o, vup_k, vup_fn, ne_eq, not_true_eq_false, not_false_eq_true, and_true, true_and, and_self, and_false, false_and, or_true, true_or, or_self, or_false, false_or, xlt_t, xlt_f, xle_t, xle_f, xeq_t, xeq_f, xand_f, xor_t]
    · rw [if_neg (by omega)]
      simp (disch := first | omega | assumption | (simp (disch := omega) only [vup_fn, vup_o, vup_k, vup_at]; first | done | omega | assumption)) only [ze_124_0, ze_124_9, Int.add_zero, ↓reduceIte, qw_id, zck_T, zck_t, zGor_v, zGor_n, zGor_e, zbs, vup_at, vup_vup, vup_self, vup_o, vup_k, vup_fn, ne_eq, not_true_eq_false, not_false_eq_true, and_true, true_and, and_self, and_false, false_and, or_true, true_or, or_self, or_false, false_or, xlt_t, xlt_f, xle_t, xle_f, xeq_t, xeq_f, xand_f, xor_t]
/-- which bars clash in meter -/
theorem qY_ex (V : zVt) (p : Int) : ∃ Y : Int → Int, ∀ b, (Y b = 0 ∨ Y b = 1) ∧ (Y b = 1 ↔ qU V p b) := by
  refine ⟨fun b => @ite Int (qU V p b) (Classical.propDecidable _) 1 0, fun b => ?_⟩
  by_cases q : qU V p b
  · have e : @ite Int (qU V p b) (Classical.propDecidable _) 1 0 = 1 := if_pos q
    exact ⟨Or.inr e, fun _ => q, fun _ => e⟩
  · have e : @ite Int (qU V p b) (Classical.propDecidable _) 1 0 = 0 := if_neg q
    exact ⟨Or.inl e, fun w => absurd (e.symm.trans w) (by decide), fun w => absurd w q⟩
end
section
variable {V : zVt} {J : zJt} {N p b : Int}
theorem sl123 (h : zInv N V J) (hp : 0 ≤ p ∧ p < 3) (hb : 0 ≤ b ∧ b < 40) {y : Int} (hY : (y = 0 ∨ y = 1) ∧ (y = 1 ↔ qU V p b)) (d : Nat → Nat → UInt64) (n : Nat) : ∀ k : Int, 0 ≤ k → 4 = k + n → zGo false 123 31 [.ref 0, .int (zi p), .int (zi b), .int (zi (oS (fun k => qC V J p b k y) k.toNat)), .int (zi k)] [] (zm V J d) = zI1 (oS (fun k => qC V J p b k y) 4) V J d := by
  induction n with
  | zero =>
    intro k k0 hk
    obtain rfl : k = 4 := by omega
    rw [ze_123_31]
    simp (disch := first | omega | assumption | (simp (disch := omega) only [vup_fn, vup_o, vup_k, vup_at]; first | done | omega | assumption)) only [Int.add_zero, ↓reduceIte, qw_id, zck_T, zck_t, zGor_v, zGor_n, zGor_e, zbs, vup_at, vup_vup, vup_self, vup_o, vup_k, vup_fn, ne_eq, not_true_eq_false, not_false_eq_true, and_true, true_and, and_self, and_false, false_and, or_true, true_or, or_self, or_false, false_or, xlt_t, xlt_f, xle_t, xle_f, xeq_t, xeq_f, xand_f, xor_t]
    rfl
  | succ n ih =>
    intro k k0 hk
    have e := ih (k + 1) (by omega) (by omega)
    rw [oS_s k0] at e
    have e1 := sp125 (d := d) h hp hb (k := k) (by omega) hY.1 hY.2
    rw [ze_123_31]
    simp (disch := first | omega | assumption | (simp (disch := omega) only [vup_fn, vup_o, vup_k, vup_at]; first | done | omega | assumption)) only [e1, ze_123_46, e, Int.add_zero, ↓reduceIte, qw_id, zck_T, zck_t, zGor_v, zGor_n, zGor_e, zbs, vup_at, vup_vup, vup_self, vup_o, vup_k, vup_fn, ne_eq, not_true_eq_false, not_false_eq_true, and_true, true_and, and_self, and_false, false_and, or_true, true_or, or_self, or_false, false_or, xlt_t, xlt_f, xle_t, xle_f, xeq_t, xeq_f, xand_f, xor_t]
theorem x123 (h : zInv N V J) (hN : N < 600) (hp : -2147483648 ≤ p ∧ p < 2147483648) (hb : -2147483648 ≤ b ∧ b < 2147483648) : zTw N V J 123 [.ref 0, .int (zi p), .int (zi b), .null, .null] 207 [.ref 430, .int (zi p), .int (zi b)] [0] := by
  intro d
  have e124 := sp124 (V := V) (J := J) (d := d) hp
  by_cases h1 : 0 ≤ p ∧ p < 3
  · rw [if_pos h1] at e124
    by_cases h2 : 0 ≤ b ∧ b < 40
    · left
      obtain ⟨Y, hY⟩ := qY_ex V p
      have c0 := sp125 (d := d) h h1 h2 (k := 0) (by omega) (hY b).1 (hY b).2
      have c1 := sp125 (d := d) h h1 h2 (k := 1) (by omega) (hY b).1 (hY b).2
      have c2 := sp125 (d := d) h h1 h2 (k := 2) (by omega) (hY b).1 (hY b).2
      have c3 := sp125 (d := d) h h1 h2 (k := 3) (by omega) (hY b).1 (hY b).2
      refine ⟨0 + qC V J p b 0 (Y b) + qC V J p b 1 (Y b) + qC V J p b 2 (Y b) + qC V J p b 3 (Y b), V, J, ?_, zRn_of h hN ?_⟩
      · have e := sl123 h h1 h2 (hY b) d 4 0 (by omega) (by omega)
        rw [show oS (fun k => qC V J p b k (Y b)) (0 : Int).toNat = 0 from rfl, show oS (fun k => qC V J p b k (Y b)) 4 = 0 + qC V J p b 0 (Y b) + qC V J p b 1 (Y b) + qC V J p b 2 (Y b) + qC V J p b 3 (Y b) from rfl] at e
        simp (disch := first | omega | assumption | (simp (disch := omega) only [vup_fn, vup_o, vup_k, vup_at]; first | done | omega | assumption)) only [ze_123_0, ze_123_5, ze_123_15, e124, e, Int.add_zero, ↓reduceIte, qw_id, zck_T, zck_t, zGor_v, zGor_n, zGor_e, zbs, vup_at, vup_vup, vup_self, vup_o, vup_k, vup_fn, ne_eq, not_true_eq_false, not_false_eq_true, and_true, true_and, and_self, and_false, false_and, or_true, true_or, or_self, or_false, false_or, xlt_t, xlt_f, xle_t, xle_f, xeq_t, xeq_f, xand_f, xor_t]
      intro J2 d2 hj hi
      have e1 := sp147 (V := V) (J := J2) (d := d2) (a := p) (b := 3) hp (by omega)
      rw [if_pos h1] at e1
      have e3 := sp147 (V := V) (J := J2) (d := d2) (a := b) (b := 40) hb (by omega)
      rw [if_pos h2] at e3
      have e2 := sm150 (V := V) (J := J2) (d := d2) (p := 1) (q := 1) (r := 1) (by omega) (by omega) (by omega)
      rw [if_pos (show gC 1 1 1 = 0 from rfl)] at e2
      obtain ⟨W, K, m1, m2, m3, m4, m5, m6⟩ := m208 (d := d2) hi h1 (W := vup V 430 60 (gC 1 1 1)) (K := J2) pM_60 pC_60
      have hqc : ∀ k, qC V J2 p b k (Y b) = qC V J p b k (Y b) := fun k => by
        have hx : ∀ M1 M2 : Nat, M1 + 1 ≠ 474 → M2 + 1 ≠ 474 → qX J2 M1 M2 b k = qX J M1 M2 b k := fun M1 M2 n1 n2 => by
          funext t
          unfold qX cSd
          rw [hj _ n1, hj _ n2]
        unfold qC qZ qW
        rw [oS_cong (g := fun l => oS (fun u => if b < qN V p u ∧ b < qN V p l then oS (qX J (50 + 15 * (p * 4 + u).toNat + 13) (50 + 15 * (p * 4 + l).toNat + 13) b k) (V (50 + 15 * (p * 4 + l).toNat + 13) 3).toNat else 0) l.toNat) 4 (fun l l0 l1 => oS_cong l.toNat (fun u u0 u1 => by rw [hx _ _ (by omega) (by omega)]))]
      have g0 := m209 (d := d2) hi h1 h2 m6 (k := 0) (by omega) (hY b).1 (hY b).2
      have g1 := m209 (d := d2) hi h1 h2 m6 (k := 1) (by omega) (hY b).1 (hY b).2
      have g2 := m209 (d := d2) hi h1 h2 m6 (k := 2) (by omega) (hY b).1 (hY b).2
      have g3 := m209 (d := d2) hi h1 h2 m6 (k := 3) (by omega) (hY b).1 (hY b).2
      rw [hqc] at g0 g1 g2 g3
      refine ⟨0 + qC V J p b 0 (Y b) + qC V J p b 1 (Y b) + qC V J p b 2 (Y b) + qC V J p b 3 (Y b), W, K, ?_, by rw [m5, vup_at]; rfl, m2, m3, m4, fun _ => rfl⟩
      rw [Int.zero_add]
      simp (disch := first | omega | assumption | (simp (disch := omega) only [vup_fn, vup_o, vup_k, vup_at]; first | done | omega | assumption)) only [ze_207_0, ze_207_6, ze_207_15, ze_207_22, ze_207_23, ze_207_28, ze_207_38, ze_207_44, ze_207_50, ze_207_57, ze_207_64, e1, e2, e3, m1, g0, g1, g2, g3, Int.add_zero, ↓reduceIte, qw_id, zck_T, zck_t, zGor_v, zGor_n, zGor_e, zbs, vup_at, vup_vup, vup_self, vup_o, vup_k, vup_fn, ne_eq, not_true_eq_false, not_false_eq_true, and_true, true_and, and_self, and_false, false_and, or_true, true_or, or_self, or_false, false_or, xlt_t, xlt_f, xle_t, xle_f, xeq_t, xeq_f, xand_f, xor_t]
    · right
      refine ⟨0, 0, V, J, rfl, ?_, zRn_of h hN ?_⟩
      · by_cases b0 : b < 0
        · simp (disch := first | omega | assumption | (simp (disch := omega) only [vup_fn, vup_o, vup_k, vup_at]; first | done | omega | assumption)) only [ze_123_0, ze_123_5, ze_123_15, e124, Int.add_zero, ↓reduceIte, qw_id, zck_T, zck_t, zGor_v, zGor_n, zGor_e, zbs, vup_at, vup_vup, vup_self, vup_o, vup_k, vup_fn, ne_eq, not_true_eq_false, not_false_eq_true, and_true, true_and, and_self, and_false, false_and, or_true, true_or, or_self, or_false, false_or, xlt_t, xlt_f, xle_t, xle_f, xeq_t, xeq_f, xand_f, xor_t]
        · simp (disch := first | omega | assumption | (simp (disch := omega) only [vup_fn, vup_o, vup_k, vup_at]; first | done | omega | assumption)) only [ze_123_0, ze_123_5, ze_123_15, e124, Int.add_zero, ↓reduceIte, qw_id, zck_T, zck_t, zGor_v, zGor_n, zGor_e, zbs, vup_at, vup_vup, vup_self, vup_o, vup_k, vup_fn, ne_eq, not_true_eq_false, not_false_eq_true, and_true, true_and, and_self, and_false, false_and, or_true, true_or, or_self, or_false, false_or, xlt_t, xlt_f, xle_t, xle_f, xeq_t, xeq_f, xand_f, xor_t]
      intro J2 d2 hj hi
      have e1 := sp147 (V := V) (J := J2) (d := d2) (a := p) (b := 3) hp (by omega)
      rw [if_pos h1] at e1
      have e3 := sp147 (V := V) (J := J2) (d := d2) (a := b) (b := 40) hb (by omega)
      rw [if_neg h2] at e3
      have e2 := sm150 (V := V) (J := J2) (d := d2) (p := 0) (q := 1) (r := 1) (by omega) (by omega) (by omega)
      rw [if_neg (show ¬ gC 0 1 1 = 0 by decide)] at e2
      refine ⟨0, vup V 430 60 (gC 0 1 1), J2, ?_, vup_at _ _ _ _, pM_60, pC_60, rfl, fun w => by omega⟩
      simp (disch := first | omega | assumption | (simp (disch := omega) only [vup_fn, vup_o, vup_k, vup_at]; first | done | omega | assumption)) only [ze_207_0, ze_207_6, ze_207_15, ze_207_22, ze_207_23, ze_207_28, ze_207_38, ze_207_44, ze_207_50, ze_207_57, ze_207_64, e1, e2, e3, Int.add_zero, ↓reduceIte, qw_id, zck_T, zck_t, zGor_v, zGor_n, zGor_e, zbs, vup_at, vup_vup, vup_self, vup_o, vup_k, vup_fn, ne_eq, not_true_eq_false, not_false_eq_true, and_true, true_and, and_self, and_false, false_and, or_true, true_or, or_self, or_false, false_or, xlt_t, xlt_f, xle_t, xle_f, xeq_t, xeq_f, xand_f, xor_t]
  · right
    rw [if_neg h1] at e124
    refine ⟨0, 0, V, J, rfl, ?_, zRn_of h hN ?_⟩
    · simp (disch := first | omega | assumption | (simp (disch := omega) only [vup_fn, vup_o, vup_k, vup_at]; first | done | omega | assumption)) only [ze_123_0, ze_123_5, ze_123_15, e124, Int.add_zero, ↓reduceIte, qw_id, zck_T, zck_t, zGor_v, zGor_n, zGor_e, zbs, vup_at, vup_vup, vup_self, vup_o, vup_k, vup_fn, ne_eq, not_true_eq_false, not_false_eq_true, and_true, true_and, and_self, and_false, false_and, or_true, true_or, or_self, or_false, false_or, xlt_t, xlt_f, xle_t, xle_f, xeq_t, xeq_f, xand_f, xor_t]
    intro J2 d2 hj hi
    have e1 := sp147 (V := V) (J := J2) (d := d2) (a := p) (b := 3) hp (by omega)
    rw [if_neg h1] at e1
    have e2 := sm150 (V := V) (J := J2) (d := d2) (p := 0) (q := 1) (r := 1) (by omega) (by omega) (by omega)
    rw [if_neg (show ¬ gC 0 1 1 = 0 by decide)] at e2
    refine ⟨0, vup V 430 60 (gC 0 1 1), J2, ?_, vup_at _ _ _ _, pM_60, pC_60, rfl, fun w => by omega⟩
    simp (disch := first | omega | assumption | (simp (disch := omega) only [vup_fn, vup_o, vup_k, vup_at]; first | done | omega | assumption)) only [ze_207_0, ze_207_6, ze_207_15, ze_207_22, ze_207_23, ze_207_28, ze_207_38, ze_207_44, ze_207_50, ze_207_57, ze_207_64, e1, e2, Int.add_zero, ↓reduceIte, qw_id, zck_T, zck_t, zGor_v, zGor_n, zGor_e, zbs, vup_at, vup_vup, vup_self, vup_o, vup_k, vup_fn, ne_eq, not_true_eq_false, not_false_eq_true, and_true, true_and, and_self, and_false, false_and, or_true, true_or, or_self, or_false, false_or, xlt_t, xlt_f, xle_t, xle_f, xeq_t, xeq_f, xand_f, xor_t]
theorem sl128 (h : zInv N V J) (hp : 0 ≤ p ∧ p < 3) {k : Int} (hk : 0 ≤ k ∧ k ≤ 3) {Y : Int → Int} (hY : ∀ b, (Y b = 0 ∨ Y b = 1) ∧ (Y b = 1 ↔ qU V p b)) (d : Nat → Nat → UInt64) (n : Nat) : ∀ b : Int, 0 ≤ b → 40 = b + n → zGo false 128 30 [.ref 0, .int (zi p), .int (zi k), .int (zi (oS (fun b => qC V J p b k (Y b)) b.toNat)), .int (zi b)] [] (zm V J d) = zI1 (oS (fun b => qC V J p b k (Y b)) 40) V J d := by
  induction n with
  | zero =>
    intro b b0 hb
    obtain rfl : b = 40 := by omega
    rw [ze_128_30]
    simp (disch := first | omega | assumption | (simp (disch := omega) only [vup_fn, vup_o, vup_k, vup_at]; first | done | omega | assumption)) only [Int.add_zero, ↓reduceIte, qw_id, zck_T, zck_t, zGor_v, zGor_n, zGor_e, zbs, vup_at, vup_vup, vup_self, vup_o, vup_k, vup_fn, ne_eq, not_true_eq_false, not_false_eq_true, and_true, true_and, and_self, and_false, false_and, or_true, true_or, or_self, or_false, false_or, xlt_t, xlt_f, xle_t, xle_f, xeq_t, xeq_f, xand_f, xor_t]
    rfl
  | succ n ih =>
    intro b b0 hb
    have e := ih (b + 1) (by omega) (by omega)
    rw [oS_s b0] at e
    have e1 := sp125 (d := d) h hp (b := b) (by omega) hk (hY b).1 (hY b).2
    rw [ze_128_30]
    simp (disch := first | omega | assumption | (simp (disch := omega) only [vup_fn, vup_o, vup_k, vup_at]; first | done | omega | assumption)) only [e1, ze_128_46, e, Int.add_zero, ↓reduceIte, qw_id, zck_T, zck_t, zGor_v, zGor_n, zGor_e, zbs, vup_at, vup_vup, vup_self, vup_o, vup_k, vup_fn, ne_eq, not_true_eq_false, not_false_eq_true, and_true, true_and, and_self, and_false, false_and, or_true, true_or, or_self, or_false, false_or, xlt_t, xlt_f, xle_t, xle_f, xeq_t, xeq_f, xand_f, xor_t]
theorem ml211 (h : zInv N V J) (hp : 0 ≤ p ∧ p < 3) {k : Int} (hk : 0 ≤ k ∧ k ≤ 3) {Y : Int → Int} (hY : ∀ b, (Y b = 0 ∨ Y b = 1) ∧ (Y b = 1 ↔ qU V p b)) {W : zVt} {K : zJt} (hm : ∀ u, 0 ≤ u → u < 4 → mPv V J p u W K) (d : Nat → Nat → UInt64) (n : Nat) : ∀ b : Int, 0 ≤ b → 40 = b + n → zGo false 211 31 [.ref 430, .int (zi p), .int (zi k), .int (zi (oS (fun b => qC V J p b k (Y b)) b.toNat)), .int (zi b)] [] (zm W K d) = zI1 (oS (fun b => qC V J p b k (Y b)) 40) W K d := by
  induction n with
  | zero =>
    intro b b0 hb
    obtain rfl : b = 40 := by omega
    rw [ze_211_31]
    simp (disch := first | omega | assumption | (simp (disch := omega) only [vup_fn, vup_o, vup_k, vup_at]; first | done | omega | assumption)) only [Int.add_zero, ↓reduceIte, qw_id, zck_T, zck_t, zGor_v, zGor_n, zGor_e, zbs, vup_at, vup_vup, vup_self, vup_o, vup_k, vup_fn, ne_eq, not_true_eq_false, not_false_eq_true, and_true, true_and, and_self, and_false, false_and, or_true, true_or, or_self, or_false, false_or, xlt_t, xlt_f, xle_t, xle_f, xeq_t, xeq_f, xand_f, xor_t]
    rfl
  | succ n ih =>
    intro b b0 hb
    have e := ih (b + 1) (by omega) (by omega)
    rw [oS_s b0] at e
    have e1 := m209 (d := d) h hp (b := b) (by omega) hm hk (hY b).1 (hY b).2
    rw [ze_211_31]
    simp (disch := first | omega | assumption | (simp (disch := omega) only [vup_fn, vup_o, vup_k, vup_at]; first | done | omega | assumption)) only [e1, ze_211_46, e, Int.add_zero, ↓reduceIte, qw_id, zck_T, zck_t, zGor_v, zGor_n, zGor_e, zbs, vup_at, vup_vup, vup_self, vup_o, vup_k, vup_fn, ne_eq, not_true_eq_false, not_false_eq_true, and_true, true_and, and_self, and_false, false_and, or_true, true_or, or_self, or_false, false_or, xlt_t, xlt_f, xle_t, xle_f, xeq_t, xeq_f, xand_f, xor_t]
theorem x128 {k : Int} (h : zInv N V J) (hN : N < 600) (hp : -2147483648 ≤ p ∧ p < 2147483648) (hk : -2147483648 ≤ k ∧ k < 2147483648) : zTw N V J 128 [.ref 0, .int (zi p), .int (zi k), .null, .null] 211 [.ref 430, .int (zi p), .int (zi k), .null, .null] [0, 1] := by
  intro d
  have e124 := sp124 (V := V) (J := J) (d := d) hp
  by_cases h1 : 0 ≤ p ∧ p < 3
  · rw [if_pos h1] at e124
    by_cases h2 : 0 ≤ k ∧ k ≤ 3
    · left
      obtain ⟨Y, hY⟩ := qY_ex V p
      have c := sl128 h h1 h2 hY d 40 0 (by omega) (by omega)
      rw [show oS (fun b => qC V J p b k (Y b)) (0 : Int).toNat = 0 from rfl] at c
      refine ⟨oS (fun b => qC V J p b k (Y b)) 40, V, J, ?_, zRn_of h hN ?_⟩
      · simp (disch := first | omega | assumption | (simp (disch := omega) only [vup_fn, vup_o, vup_k, vup_at]; first | done | omega | assumption)) only [ze_128_0, ze_128_5, ze_128_14, e124, c, Int.add_zero, ↓reduceIte, qw_id, zck_T, zck_t, zGor_v, zGor_n, zGor_e, zbs, vup_at, vup_vup, vup_self, vup_o, vup_k, vup_fn, ne_eq, not_true_eq_false, not_false_eq_true, and_true, true_and, and_self, and_false, false_and, or_true, true_or, or_self, or_false, false_or, xlt_t, xlt_f, xle_t, xle_f, xeq_t, xeq_f, xand_f, xor_t]
      intro J2 d2 hj hi
      have e1 := sp147 (V := V) (J := J2) (d := d2) (a := p) (b := 3) hp (by omega)
      rw [if_pos h1] at e1
      have e3 := sp148 (V := V) (J := J2) (d := d2) (a := k) (b := 0) (c := 3) hk (by omega) (by omega)
      rw [if_pos h2] at e3
      have e2 := sm150 (V := V) (J := J2) (d := d2) (p := 1) (q := 1) (r := 1) (by omega) (by omega) (by omega)
      rw [if_pos (show gC 1 1 1 = 0 from rfl)] at e2
      obtain ⟨W, K, m1, m2, m3, m4, m5, m6⟩ := m208 (d := d2) hi h1 (W := vup V 430 60 (gC 1 1 1)) (K := J2) pM_60 pC_60
      have hqc : ∀ b : Int, qC V J2 p b k (Y b) = qC V J p b k (Y b) := fun b => by
        have hx : ∀ M1 M2 : Nat, M1 + 1 ≠ 474 → M2 + 1 ≠ 474 → qX J2 M1 M2 b k = qX J M1 M2 b k := fun M1 M2 n1 n2 => by
          funext t
          unfold qX cSd
          rw [hj _ n1, hj _ n2]
        unfold qC qZ qW
        rw [oS_cong (g := fun l => oS (fun u => if b < qN V p u ∧ b < qN V p l then oS (qX J (50 + 15 * (p * 4 + u).toNat + 13) (50 + 15 * (p * 4 + l).toNat + 13) b k) (V (50 + 15 * (p * 4 + l).toNat + 13) 3).toNat else 0) l.toNat) 4 (fun l l0 l1 => oS_cong l.toNat (fun u u0 u1 => by rw [hx _ _ (by omega) (by omega)]))]
      have g := ml211 hi h1 h2 hY m6 d2 40 0 (by omega) (by omega)
      rw [show oS (fun b => qC V J2 p b k (Y b)) (0 : Int).toNat = 0 from rfl, oS_cong (g := fun b => qC V J p b k (Y b)) 40 (fun b b0 b1 => hqc b)] at g
      refine ⟨oS (fun b => qC V J p b k (Y b)) 40, W, K, ?_, by rw [m5, vup_at]; rfl, m2, m3, m4, fun _ => rfl⟩
      simp (disch := first | omega | assumption | (simp (disch := omega) only [vup_fn, vup_o, vup_k, vup_at]; first | done | omega | assumption)) only [ze_211_0, ze_211_6, ze_211_12, ze_211_16, ze_211_26, e1, e2, e3, m1, g, Int.add_zero, ↓reduceIte, qw_id, zck_T, zck_t, zGor_v, zGor_n, zGor_e, zbs, vup_at, vup_vup, vup_self, vup_o, vup_k, vup_fn, ne_eq, not_true_eq_false, not_false_eq_true, and_true, true_and, and_self, and_false, false_and, or_true, true_or, or_self, or_false, false_or, xlt_t, xlt_f, xle_t, xle_f, xeq_t, xeq_f, xand_f, xor_t]
    · right
      refine ⟨1, 1, V, J, rfl, ?_, zRn_of h hN ?_⟩
      · by_cases b0 : k < 0
        · simp (disch := first | omega | assumption | (simp (disch := omega) only [vup_fn, vup_o, vup_k, vup_at]; first | done | omega | assumption)) only [ze_128_0, ze_128_5, ze_128_14, e124, Int.add_zero, ↓reduceIte, qw_id, zck_T, zck_t, zGor_v, zGor_n, zGor_e, zbs, vup_at, vup_vup, vup_self, vup_o, vup_k, vup_fn, ne_eq, not_true_eq_false, not_false_eq_true, and_true, true_and, and_self, and_false, false_and, or_true, true_or, or_self, or_false, false_or, xlt_t, xlt_f, xle_t, xle_f, xeq_t, xeq_f, xand_f, xor_t]
        · simp (disch := first | omega | assumption | (simp (disch := omega) only [vup_fn, vup_o, vup_k, vup_at]; first | done | omega | assumption)) only [ze_128_0, ze_128_5, ze_128_14, e124, Int.add_zero, ↓reduceIte, qw_id, zck_T, zck_t, zGor_v, zGor_n, zGor_e, zbs, vup_at, vup_vup, vup_self, vup_o, vup_k, vup_fn, ne_eq, not_true_eq_false, not_false_eq_true, and_true, true_and, and_self, and_false, false_and, or_true, true_or, or_self, or_false, false_or, xlt_t, xlt_f, xle_t, xle_f, xeq_t, xeq_f, xand_f, xor_t]
      intro J2 d2 hj hi
      have e1 := sp147 (V := V) (J := J2) (d := d2) (a := p) (b := 3) hp (by omega)
      rw [if_pos h1] at e1
      have e3 := sp148 (V := V) (J := J2) (d := d2) (a := k) (b := 0) (c := 3) hk (by omega) (by omega)
      rw [if_neg h2] at e3
      have e2 := sm150 (V := V) (J := J2) (d := d2) (p := 1) (q := 0) (r := 1) (by omega) (by omega) (by omega)
      rw [if_neg (show ¬ gC 1 0 1 = 0 by decide)] at e2
      refine ⟨0, vup V 430 60 (gC 1 0 1), J2, ?_, vup_at _ _ _ _, pM_60, pC_60, rfl, fun w => by omega⟩
      simp (disch := first | omega | assumption | (simp (disch := omega) only [vup_fn, vup_o, vup_k, vup_at]; first | done | omega | assumption)) only [ze_211_0, ze_211_6, ze_211_12, ze_211_16, ze_211_26, e1, e2, e3, Int.add_zero, ↓reduceIte, qw_id, zck_T, zck_t, zGor_v, zGor_n, zGor_e, zbs, vup_at, vup_vup, vup_self, vup_o, vup_k, vup_fn, ne_eq, not_true_eq_false, not_false_eq_true, and_true, true_and, and_self, and_false, false_and, or_true, true_or, or_self, or_false, false_or, xlt_t, xlt_f, xle_t, xle_f, xeq_t, xeq_f, xand_f, xor_t]
  · right
    rw [if_neg h1] at e124
    refine ⟨0, 0, V, J, rfl, ?_, zRn_of h hN ?_⟩
    · simp (disch := first | omega | assumption | (simp (disch := omega) only [vup_fn, vup_o, vup_k, vup_at]; first | done | omega | assumption)) only [ze_128_0, ze_128_5, ze_128_14, e124, Int.add_zero, ↓reduceIte, qw_id, zck_T, zck_t, zGor_v, zGor_n, zGor_e, zbs, vup_at, vup_vup, vup_self, vup_o, vup_k, vup_fn, ne_eq, not_true_eq_false, not_false_eq_true, and_true, true_and, and_self, and_false, false_and, or_true, true_or, or_self, or_false, false_or, xlt_t, xlt_f, xle_t, xle_f, xeq_t, xeq_f, xand_f, xor_t]
    intro J2 d2 hj hi
    have e1 := sp147 (V := V) (J := J2) (d := d2) (a := p) (b := 3) hp (by omega)
    rw [if_neg h1] at e1
    have e3 := sp148 (V := V) (J := J2) (d := d2) (a := k) (b := 0) (c := 3) hk (by omega) (by omega)
    have hg : ∃ g : Int, (g = 0 ∨ g = 1) ∧ (if 0 ≤ k ∧ k ≤ 3 then (1 : Int) else 0) = g := ⟨_, by split <;> simp, rfl⟩
    obtain ⟨g, g0, g1⟩ := hg
    rw [g1] at e3
    have e2 := sm150 (V := V) (J := J2) (d := d2) (p := 0) (q := g) (r := 1) (by omega) g0 (by omega)
    rw [if_neg (show ¬ gC 0 g 1 = 0 from fun w => absurd (show (1 : Int) = 0 from w) (by decide))] at e2
    refine ⟨0, vup V 430 60 (gC 0 g 1), J2, ?_, vup_at _ _ _ _, pM_60, pC_60, rfl, fun w => by omega⟩
    simp (disch := first | omega | assumption | (simp (disch := omega) only [vup_fn, vup_o, vup_k, vup_at]; first | done | omega | assumption)) only [ze_211_0, ze_211_6, ze_211_12, ze_211_16, ze_211_26, e1, e2, e3, Int.add_zero, ↓reduceIte, qw_id, zck_T, zck_t, zGor_v, zGor_n, zGor_e, zbs, vup_at, vup_vup, vup_self, vup_o, vup_k, vup_fn, ne_eq, not_true_eq_false, not_false_eq_true, and_true, true_and, and_self, and_false, false_and, or_true, true_or, or_self, or_false, false_or, xlt_t, xlt_f, xle_t, xle_f, xeq_t, xeq_f, xand_f, xor_t]
end
