/-! part 98: a rehearsal in the class -/
/-- copy k is sung from for request r -/
def oSg (U : zVt) (r k : Int) : Prop := oLe U (U 463 r) k ∧ U 464 r / ((2 ^ (U 454 k % 4).toNat : Nat) : Int) % 2 = 1 ∧ U (233 + 5 * k.toNat) 0 = 0 ∧ U 466 r < U (233 + 5 * k.toNat) 2
/-- place i of what was learned is learned anew from copy k -/
def oCn (U : zVt) (r k i : Int) : Prop := oSg U r k ∧ i / 40 = U 455 k * 12 + U 454 k ∧ U 465 r ≤ i % 40 ∧ i % 40 ≤ U 466 r
def oNv (U : zVt) (I : zJt) (k i : Int) : Int := if oKi U I i (233 + 5 * k.toNat) (i % 40) = 1 then U 47 i + 1 else 1
/-- the class but what a rehearsal changes -/
def oCa (U V : zVt) (I J : zJt) : Prop := (∀ o : Nat, (o ≤ 6 ∨ (37 ≤ o ∧ o ≤ 429)) → o ≠ 42 → o ≠ 44 → o ≠ 45 → o ≠ 47 → V o = U o) ∧ ∀ o : Nat, (37 ≤ o ∧ o ≤ 429) → o ≠ 48 → o ≠ 49 → J o = I o
/-- the singers of request r, by the first k copies -/
def oGs (U : zVt) (r k : Int) (g : Int → Int) : Prop := yB01 g ∧ (∀ s, 0 ≤ s → s < 12 → (g s = 1 ↔ ∃ j : Int, j < k ∧ oSg U r j ∧ U 455 j = s)) ∧ ∀ s, 12 ≤ s → g s = 0
abbrev oCt (g : Int → Int) : Int := g 0 + g 1 + g 2 + g 3 + g 4 + g 5 + g 6 + g 7 + g 8 + g 9 + g 10 + g 11
/-- slot t and room q are free -/
def oFr (U : zVt) (g : Int → Int) (t q : Int) : Prop := (∀ s, 0 ≤ s → s < 12 → ¬(U 462 (12 * t + s) = 1 ∧ g s = 1)) ∧ U 461 (4 * t + q) = 0 ∧ oCt g ≤ U 460 q
def oUs (U : zVt) (t : Int) : Int → Int := fun s => if s < 12 then U 462 (12 * t + s) else 0
section
variable {U V : zVt} {I J : zJt} {N r : Int} {d : Nat → Nat → UInt64}
theorem oSg_le {k : Int} (h : oSg U r k) : oLe U (U 463 r) k := h.1
theorem oCn_un (h : zInv N U I) {j k i : Int} (h1 : oCn U r j i) (h2 : oCn U r k i) : j = k := by
  obtain ⟨a1, a2, a3, a4⟩ := h1
  obtain ⟨b1, b2, b3, b4⟩ := h2
  have r1 := iCp_rg h j a1.1.1.1 a1.1.1.2
  have r2 := iCp_rg h k b1.1.1.1 b1.1.1.2
  have e1 : U 455 j = U 455 k := by omega
  have e2 : U 454 j = U 454 k := by omega
  exact h.2.2.2.2.2.1 j k a1.1.1.1 a1.1.1.2 b1.1.1.1 b1.1.1.2 a1.1.2.1 e1 (by rw [e2])
theorem sp1w {k : Nat} {p x y : Int} (hB : zBk 0 (230 + 5 * k)) (hx : V (230 + 5 * k) 0 = x) (hy : V (230 + 5 * k) 1 = y) (rx : 0 ≤ x ∧ x < 12) (ry : -1 ≤ y ∧ y < 12) (hp : -2147483648 ≤ p ∧ p < 2147483648) : zGo false 1 0 [.ref (230 + 5 * k), .int (zi p)] [] (zm V J d) = zI1 (if y ≠ -1 ∧ x / 4 = p then 1 else 0) V J d := by
  have hdv := qdiv_p (a := x) (b := 4) (by omega) (by omega)
  by_cases h1 : y = -1
  · rw [if_neg (fun w => w.1 h1)]
    simp (disch := first | omega | assumption | (simp (disch := omega) only [vup_fn, vup_o, vup_k, vup_at]; first | done | omega | assumption)) only [ze_1_0, ze_1_22, ze_1_23, hy, Int.add_zero, ↓reduceIte, qw_id, zck_T, zck_t, zGor_v, zGor_n, zGor_e, zbs, vup_at, vup_vup, vup_self, vup_o, vup_k, vup_fn, ne_eq, not_true_eq_false, not_false_eq_true, and_true, true_and, and_self, and_false, false_and, or_true, true_or, or_self, or_false, false_or, xlt_t, xlt_f, xle_t, xle_f, xeq_t, xeq_f, xand_f, xor_t]
  · by_cases h2 : x / 4 = p
    · rw [if_pos ⟨h1, h2⟩]
      simp (disch := first | omega | assumption | (simp (disch := omega) only [vup_fn, vup_o, vup_k, vup_at]; first | done | omega | assumption)) only [ze_1_0, ze_1_22, ze_1_23, hx, hy, hdv, Int.add_zero, ↓reduceIte, qw_id, zck_T, zck_t, zGor_v, zGor_n, zGor_e, zbs, vup_at, vup_vup, vup_self, vup_o, vup_k, vup_fn, ne_eq, not_true_eq_false, not_false_eq_true, and_true, true_and, and_self, and_false, false_and, or_true, true_or, or_self, or_false, false_or, xlt_t, xlt_f, xle_t, xle_f, xeq_t, xeq_f, xand_f, xor_t]
    · rw [if_neg (fun w => h2 w.2)]
      simp (disch := first | omega | assumption | (simp (disch := omega) only [vup_fn, vup_o, vup_k, vup_at]; first | done | omega | assumption)) only [ze_1_0, ze_1_22, ze_1_23, hx, hy, hdv, Int.add_zero, ↓reduceIte, qw_id, zck_T, zck_t, zGor_v, zGor_n, zGor_e, zbs, vup_at, vup_vup, vup_self, vup_o, vup_k, vup_fn, ne_eq, not_true_eq_false, not_false_eq_true, and_true, true_and, and_self, and_false, false_and, or_true, true_or, or_self, or_false, false_or, xlt_t, xlt_f, xle_t, xle_f, xeq_t, xeq_f, xand_f, xor_t]
theorem sp93 (h : zInv N U I) (hV : oCa U V I J) {k : Nat} (hk : (k : Int) < U 480 37) (hr : 0 ≤ r ∧ r < U 480 52) : ∃ y : Int, (y = 0 ∨ y = 1) ∧ (y = 1 ↔ oSg U r k) ∧ zGo false 93 0 [.ref 0, .ref (230 + 5 * k), .int (zi r)] [] (zm V J d) = zI1 y V J d := by
  obtain ⟨b5, mk, c3, c4, c2, c5, c1, hB, k40⟩ := iCp_mk h hk
  obtain ⟨b1, b2, b3, b4, b5', b6, b7, b8⟩ := h.2.2.2.2.2.2.1
  obtain ⟨q1, q2, q3, q4, q5, q6, q7, q8, q9⟩ := b8 r hr.1 hr.2
  have hkn : ((k : Nat) : Int).toNat = k := by omega
  have v : ∀ o : Nat, 50 ≤ o → o ≤ 429 → V o = U o := fun o _ _ => hV.1 o (by omega) (by omega) (by omega) (by omega) (by omega)
  have d3 : V (230 + 5 * k) 0 = U 454 k := by rw [v _ (by omega) (by omega)]; exact c3
  have d4 : V (230 + 5 * k) 1 = U 455 k := by rw [v _ (by omega) (by omega)]; exact c4
  have d38 : V 38 r = U 463 r := by rw [hV.1 38 (by omega) (by omega) (by omega) (by omega) (by omega)]; exact q1
  have d39 : V 39 r = U 464 r := by rw [hV.1 39 (by omega) (by omega) (by omega) (by omega) (by omega)]; exact q2
  have d41 : V 41 r = U 466 r := by rw [hV.1 41 (by omega) (by omega) (by omega) (by omega) (by omega)]; exact q4
  have f233 : 230 + 5 * k + 3 = 233 + 5 * k := by omega
  have dM : V (233 + 5 * k) = U (233 + 5 * k) := v _ (by omega) (by omega)
  have dM0 : V (233 + 5 * k) 0 = U (233 + 5 * k) 0 := by rw [dM]
  rw [f233] at b5
  have e1 := sp1w (J := J) (d := d) (p := U 463 r) hB d3 d4 c2 c5 (by omega)
  have hrm := qrem_p (a := U 454 k) (b := 4) (by omega) (by omega)
  have hqa := qand_4 (x := U 464 r) (v := U 454 k % 4) (by omega) (by omega)
  have hpw : 1 ≤ ((2 ^ (U 454 k % 4).toNat : Nat) : Int) ∧ ((2 ^ (U 454 k % 4).toNat : Nat) : Int) ≤ 8 := by
    rcases (show U 454 k % 4 = 0 ∨ U 454 k % 4 = 1 ∨ U 454 k % 4 = 2 ∨ U 454 k % 4 = 3 by omega) with e | e | e | e <;> rw [e] <;> decide
  have e30 := sp30 (V := V) (J := J) (d := d) (b := U 466 r) b5 (by omega) (by rw [dM]; exact mk.2.2.1)
  rw [dM] at e30
  have hdef : oSg U r k ↔ (U 455 k ≠ -1 ∧ U 454 k / 4 = U 463 r) ∧ U 464 r / ((2 ^ (U 454 k % 4).toNat : Nat) : Int) % 2 = 1 ∧ U (233 + 5 * k) 0 = 0 ∧ U 466 r < U (233 + 5 * k) 2 := by
    unfold oSg
    rw [hkn]
    exact ⟨fun w => ⟨w.1.2, w.2⟩, fun w => ⟨⟨⟨by omega, hk⟩, w.1⟩, w.2⟩⟩
  rw [hdef]
  generalize ((2 ^ (U 454 k % 4).toNat : Nat) : Int) = pw at *
  have mk0 := mk.1
  by_cases a1 : U 455 k ≠ -1 ∧ U 454 k / 4 = U 463 r
  · rw [if_pos a1] at e1
    by_cases a2 : U 464 r / pw % 2 = 1
    · rw [if_pos a2] at hqa
      by_cases a3 : U (233 + 5 * k) 0 = 0
      · by_cases a4 : U 466 r < U (233 + 5 * k) 2
        · rw [if_pos ⟨by omega, a4⟩] at e30
          refine ⟨1, Or.inr rfl, ⟨fun _ => ⟨a1, a2, a3, a4⟩, fun _ => rfl⟩, ?_⟩
          simp (disch := first | omega | assumption | (simp (disch := omega) only [vup_fn, vup_o, vup_k, vup_at]; first | done | omega | assumption)) only [ze_93_0, ze_93_13, ze_93_63, ze_93_70, ze_93_71, d38, d39, d41, d3, e1, hrm, hqa, f233, dM0, e30, Int.add_zero, ↓reduceIte, qw_id, zck_T, zck_t, zGor_v, zGor_n, zGor_e, zbs, vup_at, vup_vup, vup_self, vup_o, vup_k, vup_fn, ne_eq, not_true_eq_false, not_false_eq_true, and_true, true_and, and_self, and_false, false_and, or_true, true_or, or_self, or_false, false_or, xlt_t, xlt_f, xle_t, xle_f, xeq_t, xeq_f, xand_f, xor_t]
        · rw [if_neg (fun w => a4 w.2)] at e30
          refine ⟨0, Or.inl rfl, ⟨fun w => absurd w (by decide), fun w => absurd w.2.2.2 a4⟩, ?_⟩
          simp (disch := first | omega | assumption | (simp (disch := omega) only [vup_fn, vup_o, vup_k, vup_at]; first | done | omega | assumption)) only [ze_93_0, ze_93_13, ze_93_63, ze_93_70, ze_93_71, d38, d39, d41, d3, e1, hrm, hqa, f233, dM0, e30, Int.add_zero, ↓reduceIte, qw_id, zck_T, zck_t, zGor_v, zGor_n, zGor_e, zbs, vup_at, vup_vup, vup_self, vup_o, vup_k, vup_fn, ne_eq, not_true_eq_false, not_false_eq_true, and_true, true_and, and_self, and_false, false_and, or_true, true_or, or_self, or_false, false_or, xlt_t, xlt_f, xle_t, xle_f, xeq_t, xeq_f, xand_f, xor_t]
      · refine ⟨0, Or.inl rfl, ⟨fun w => absurd w (by decide), fun w => absurd w.2.2.1 a3⟩, ?_⟩
        simp (disch := first | omega | assumption | (simp (disch := omega) only [vup_fn, vup_o, vup_k, vup_at]; first | done | omega | assumption)) only [ze_93_0, ze_93_13, ze_93_63, ze_93_70, ze_93_71, d38, d39, d41, d3, e1, hrm, hqa, f233, dM0, Int.add_zero, ↓reduceIte, qw_id, zck_T, zck_t, zGor_v, zGor_n, zGor_e, zbs, vup_at, vup_vup, vup_self, vup_o, vup_k, vup_fn, ne_eq, not_true_eq_false, not_false_eq_true, and_true, true_and, and_self, and_false, false_and, or_true, true_or, or_self, or_false, false_or, xlt_t, xlt_f, xle_t, xle_f, xeq_t, xeq_f, xand_f, xor_t]
    · rw [if_neg a2] at hqa
      refine ⟨0, Or.inl rfl, ⟨fun w => absurd w (by decide), fun w => absurd w.2.1 a2⟩, ?_⟩
      simp (disch := first | omega | assumption | (simp (disch := omega) only [vup_fn, vup_o, vup_k, vup_at]; first | done | omega | assumption)) only [ze_93_0, ze_93_13, ze_93_63, ze_93_70, ze_93_71, d38, d39, d41, d3, e1, hrm, hqa, Int.add_zero, ↓reduceIte, qw_id, zck_T, zck_t, zGor_v, zGor_n, zGor_e, zbs, vup_at, vup_vup, vup_self, vup_o, vup_k, vup_fn, ne_eq, not_true_eq_false, not_false_eq_true, and_true, true_and, and_self, and_false, false_and, or_true, true_or, or_self, or_false, false_or, xlt_t, xlt_f, xle_t, xle_f, xeq_t, xeq_f, xand_f, xor_t]
  · rw [if_neg a1] at e1
    refine ⟨0, Or.inl rfl, ⟨fun w => absurd w (by decide), fun w => absurd w.1 a1⟩, ?_⟩
    simp (disch := first | omega | assumption | (simp (disch := omega) only [vup_fn, vup_o, vup_k, vup_at]; first | done | omega | assumption)) only [ze_93_0, ze_93_13, ze_93_63, ze_93_70, ze_93_71, d38, e1, Int.add_zero, ↓reduceIte, qw_id, zck_T, zck_t, zGor_v, zGor_n, zGor_e, zbs, vup_at, vup_vup, vup_self, vup_o, vup_k, vup_fn, ne_eq, not_true_eq_false, not_false_eq_true, and_true, true_and, and_self, and_false, false_and, or_true, true_or, or_self, or_false, false_or, xlt_t, xlt_f, xle_t, xle_f, xeq_t, xeq_f, xand_f, xor_t]
/-- who sings -/
theorem sl92a (h : zInv N U I) (hV : oCa U V I J) (hr : 0 ≤ r ∧ r < U 480 52) (n : Nat) : ∀ (k : Nat) (g : Int → Int), U 480 37 = k + n → oGs U r k g → ∃ g', oGs U r (U 480 37) g' ∧ zGo false 92 4 [.ref 0, .int (zi r), .int (zi (yHr g 16)), .int (zi k)] [] (zm V J d) = zGo false 92 4 [.ref 0, .int (zi r), .int (zi (yHr g' 16)), .int (zi (U 480 37))] [] (zm V J d) := by
  have h37 := h.2.2.2.1
  have v02 : V 0 2 = U 480 37 := by rw [hV.1 0 (by omega) (by omega) (by omega) (by omega) (by omega)]; exact h37.2
  induction n with
  | zero =>
    intro k g hk hg
    have e : U 480 37 = k := by omega
    exact ⟨g, by rw [e]; exact hg, by rw [e]⟩
  | succ n ih =>
    intro k g hk hg
    have hk1 : ((k : Nat) : Int) + 1 = ((k + 1 : Nat) : Int) := by omega
    have hkn : ((k : Nat) : Int).toNat = k := by omega
    obtain ⟨y, y1, y2, y3⟩ := sp93 (d := d) h hV (k := k) (by omega) hr
    obtain ⟨b5, mk, c3, c4, c2, c5, c1, hB, k40⟩ := iCp_mk h (k := k) (by omega)
    have d4 : V (230 + 5 * k) 1 = U 455 k := by rw [hV.1 _ (by omega) (by omega) (by omega) (by omega) (by omega)]; exact c4
    have hrg := yHr_rng hg.1 16 (by omega)
    have hrg2 : 0 ≤ yHr g 16 ∧ yHr g 16 < 65536 := hrg
    by_cases hy : y = 1
    · have hs := y2.1 hy
      have hs1 : U 455 k ≠ -1 := hs.1.2.1
      have hor := qor_set hg.1 (s := U 455 k) (by omega)
      have hg2 : oGs U r ((k + 1 : Nat) : Int) (fun t => if t = U 455 k then 1 else g t) := by
        refine ⟨fun t t0 t1 => ?_, fun s s0 s1 => ?_, fun s s1 => ?_⟩
        · show (if t = U 455 k then 1 else g t) = 0 ∨ (if t = U 455 k then 1 else g t) = 1
          split
          · exact Or.inr rfl
          · exact hg.1 t t0 t1
        · show (if s = U 455 k then 1 else g s) = 1 ↔ _
          by_cases e : s = U 455 k
          · rw [if_pos e]
            exact ⟨fun _ => ⟨k, by omega, hs, e.symm⟩, fun _ => rfl⟩
          · rw [if_neg e, hg.2.1 s s0 s1]
            constructor
            · rintro ⟨j, j1, j2, j3⟩
              exact ⟨j, by omega, j2, j3⟩
            · rintro ⟨j, j1, j2, j3⟩
              by_cases e2 : j = k
              · rw [e2] at j3
                exact absurd j3.symm e
              · exact ⟨j, by omega, j2, j3⟩
        · show (if s = U 455 k then 1 else g s) = 0
          rw [if_neg (by omega)]
          exact hg.2.2 s s1
      obtain ⟨g', g1, g2⟩ := ih (k + 1) _ (by omega) hg2
      refine ⟨g', g1, ?_⟩
      rw [hy] at y3
      clear ih hg2 y2 hg g1
      rw [ze_92_4]
      simp (disch := first | omega | assumption | (simp (disch := omega) only [vup_fn, vup_o, vup_k, vup_at]; first | done | omega | assumption)) only [v02, hkn, y3, ze_92_23, d4, hor, ze_92_40, hk1, g2, Int.add_zero, ↓reduceIte, qw_id, zck_T, zck_t, zGor_v, zGor_n, zGor_e, zbs, vup_at, vup_vup, vup_self, vup_o, vup_k, vup_fn, ne_eq, not_true_eq_false, not_false_eq_true, and_true, true_and, and_self, and_false, false_and, or_true, true_or, or_self, or_false, false_or, xlt_t, xlt_f, xle_t, xle_f, xeq_t, xeq_f, xand_f, xor_t]
    · have hg2 : oGs U r ((k + 1 : Nat) : Int) g := by
        refine ⟨hg.1, fun s s0 s1 => ?_, hg.2.2⟩
        rw [hg.2.1 s s0 s1]
        constructor
        · rintro ⟨j, j1, j2, j3⟩
          exact ⟨j, by omega, j2, j3⟩
        · rintro ⟨j, j1, j2, j3⟩
          by_cases e2 : j = k
          · rw [e2] at j2
            exact absurd (y2.2 j2) hy
          · exact ⟨j, by omega, j2, j3⟩
      obtain ⟨g', g1, g2⟩ := ih (k + 1) _ (by omega) hg2
      refine ⟨g', g1, ?_⟩
      rw [y1.resolve_right hy] at y3
      clear ih hg2 y2 hg g1
      rw [ze_92_4]
      simp (disch := first | omega | assumption | (simp (disch := omega) only [vup_fn, vup_o, vup_k, vup_at]; first | done | omega | assumption)) only [v02, hkn, y3, ze_92_23, ze_92_40, hk1, g2, Int.add_zero, ↓reduceIte, qw_id, zck_T, zck_t, zGor_v, zGor_n, zGor_e, zbs, vup_at, vup_vup, vup_self, vup_o, vup_k, vup_fn, ne_eq, not_true_eq_false, not_false_eq_true, and_true, true_and, and_self, and_false, false_and, or_true, true_or, or_self, or_false, false_or, xlt_t, xlt_f, xle_t, xle_f, xeq_t, xeq_f, xand_f, xor_t]
theorem oUs_01 (h : zInv N U I) {t : Int} (ht : 0 ≤ t ∧ t < 4) : yB01 (oUs U t) := fun s s0 s1 => by
  have b3 := (h.2.2.2.2.2.2.1.2.2.1 t ht.1 ht.2).2
  show (if s < 12 then U 462 (12 * t + s) else 0) = 0 ∨ (if s < 12 then U 462 (12 * t + s) else 0) = 1
  split
  · exact b3 s s0 (by omega)
  · exact Or.inl rfl
theorem sp65 {x A A2 z B P c q t : Int} (ht : 0 ≤ t ∧ t < 4) (hq : 0 ≤ q ∧ q < 4) (hr : 0 ≤ r ∧ r < 40) (w45 : V 45 t = A) (hz : qand A x = z) (rz : 0 ≤ z ∧ z < 65536) (hor : qor A x = A2) (w44 : V 44 (t * 4 + q) = B) (rB : B = 0 ∨ B = 1) (w43 : V 43 q = P) (rP : 0 ≤ P ∧ P ≤ 12) (e235 : zGo false 235 0 [.int (zi x)] [] (zm V J d) = zI1 c V J d) (rc : 0 ≤ c ∧ c ≤ 12) : zGo false 65 10 [.ref 37, .int (zi r), .int (zi x), .int (zi t), .int (zi q)] [] (zm V J d) = if z = 0 ∧ B = 0 ∧ c ≤ P then zI1 1 (vup (vup (vup V 45 t A2) 44 (t * 4 + q) 1) 42 r (100 * V 37 7 + 10 * t + q)) J d else zGo false 65 10 [.ref 37, .int (zi r), .int (zi x), .int (zi t), .int (zi (q + 1))] [] (zm V J d) := by
  rw [ze_65_10]
  by_cases a1 : z = 0
  · by_cases a2 : B = 0
    · by_cases a3 : c ≤ P
      · rw [if_pos (show (z = 0 ∧ B = 0 ∧ c ≤ P) from ⟨a1, a2, a3⟩)]
        simp (disch := first | omega | assumption | (simp (disch := omega) only [vup_fn, vup_o, vup_k, vup_at]; first | done | omega | assumption)) only [w45, hz, w44, w43, e235, ze_65_52, hor, Int.add_zero, ↓reduceIte, qw_id, zck_T, zck_t, zGor_v, zGor_n, zGor_e, zbs, vup_at, vup_vup, vup_self, vup_o, vup_k, vup_fn, ne_eq, not_true_eq_false, not_false_eq_true, and_true, true_and, and_self, and_false, false_and, or_true, true_or, or_self, or_false, false_or, xlt_t, xlt_f, xle_t, xle_f, xeq_t, xeq_f, xand_f, xor_t]
      · rw [if_neg (show ¬(z = 0 ∧ B = 0 ∧ c ≤ P) from fun w => a3 w.2.2)]
        simp (disch := first | omega | assumption | (simp (disch := omega) only [vup_fn, vup_o, vup_k, vup_at]; first | done | omega | assumption)) only [w45, hz, w44, w43, e235, ze_65_52, ze_65_100, Int.add_zero, ↓reduceIte, qw_id, zck_T, zck_t, zGor_v, zGor_n, zGor_e, zbs, vup_at, vup_vup, vup_self, vup_o, vup_k, vup_fn, ne_eq, not_true_eq_false, not_false_eq_true, and_true, true_and, and_self, and_false, false_and, or_true, true_or, or_self, or_false, false_or, xlt_t, xlt_f, xle_t, xle_f, xeq_t, xeq_f, xand_f, xor_t]
    · rw [if_neg (show ¬(z = 0 ∧ B = 0 ∧ c ≤ P) from fun w => a2 w.2.1)]
      simp (disch := first | omega | assumption | (simp (disch := omega) only [vup_fn, vup_o, vup_k, vup_at]; first | done | omega | assumption)) only [w45, hz, w44, ze_65_100, Int.add_zero, ↓reduceIte, qw_id, zck_T, zck_t, zGor_v, zGor_n, zGor_e, zbs, vup_at, vup_vup, vup_self, vup_o, vup_k, vup_fn, ne_eq, not_true_eq_false, not_false_eq_true, and_true, true_and, and_self, and_false, false_and, or_true, true_or, or_self, or_false, false_or, xlt_t, xlt_f, xle_t, xle_f, xeq_t, xeq_f, xand_f, xor_t]
  · rw [if_neg (show ¬(z = 0 ∧ B = 0 ∧ c ≤ P) from fun w => a1 w.1)]
    simp (disch := first | omega | assumption | (simp (disch := omega) only [vup_fn, vup_o, vup_k, vup_at]; first | done | omega | assumption)) only [w45, hz, ze_65_100, Int.add_zero, ↓reduceIte, qw_id, zck_T, zck_t, zGor_v, zGor_n, zGor_e, zbs, vup_at, vup_vup, vup_self, vup_o, vup_k, vup_fn, ne_eq, not_true_eq_false, not_false_eq_true, and_true, true_and, and_self, and_false, false_and, or_true, true_or, or_self, or_false, false_or, xlt_t, xlt_f, xle_t, xle_f, xeq_t, xeq_f, xand_f, xor_t]
theorem oCt_rng {g : Int → Int} (hg : yB01 g) : 0 ≤ oCt g ∧ oCt g ≤ 12 := by
  have h0 := hg 0 (by decide) (by decide)
  have h1 := hg 1 (by decide) (by decide)
  have h2 := hg 2 (by decide) (by decide)
  have h3 := hg 3 (by decide) (by decide)
  have h4 := hg 4 (by decide) (by decide)
  have h5 := hg 5 (by decide) (by decide)
  have h6 := hg 6 (by decide) (by decide)
  have h7 := hg 7 (by decide) (by decide)
  have h8 := hg 8 (by decide) (by decide)
  have h9 := hg 9 (by decide) (by decide)
  have h10 := hg 10 (by decide) (by decide)
  have h11 := hg 11 (by decide) (by decide)
  have b : ∀ x : Int, (x = 0 ∨ x = 1) → 0 ≤ x ∧ x ≤ 1 := fun x h => by omega
  replace h0 := b _ h0
  replace h1 := b _ h1
  replace h2 := b _ h2
  replace h3 := b _ h3
  replace h4 := b _ h4
  replace h5 := b _ h5
  replace h6 := b _ h6
  replace h7 := b _ h7
  replace h8 := b _ h8
  replace h9 := b _ h9
  replace h10 := b _ h10
  replace h11 := b _ h11
  clear hg b
  unfold oCt
  omega
theorem oFr_i {g : Int → Int} {t q : Int} : oFr U g t q ↔ (∀ s, 0 ≤ s → s < 16 → ¬(oUs U t s = 1 ∧ g s = 1)) ∧ U 461 (4 * t + q) = 0 ∧ oCt g ≤ U 460 q := by
  unfold oFr
  have e : (∀ s, 0 ≤ s → s < 12 → ¬(U 462 (12 * t + s) = 1 ∧ g s = 1)) ↔ ∀ s, 0 ≤ s → s < 16 → ¬(oUs U t s = 1 ∧ g s = 1) := by
    constructor
    · intro w s s0 s1 ⟨q1, q2⟩
      unfold oUs at q1
      by_cases c : s < 12
      · rw [if_pos c] at q1
        exact w s s0 c ⟨q1, q2⟩
      · rw [if_neg c] at q1
        omega
    · intro w s s0 s1 ⟨q1, q2⟩
      refine w s s0 (by omega) ⟨?_, q2⟩
      unfold oUs
      rw [if_pos s1]
      exact q1
  rw [e]
/-- whether slot t and room q are free, as the class sees it -/
theorem sl65q (h : zInv N U I) (hV : oCa U V I J) (v44 : V 44 = U 44) (v45 : V 45 = U 45) {g : Int → Int} (hg : yB01 g) (hz : ∀ s, 12 ≤ s → g s = 0) (hr : 0 ≤ r ∧ r < 40) {t : Int} (ht : 0 ≤ t ∧ t < 4) (n : Nat) : ∀ q : Int, 0 ≤ q → 4 = q + n → (∃ q', (q ≤ q' ∧ q' < 4) ∧ oFr U g t q' ∧ (∀ p, q ≤ p → p < q' → ¬ oFr U g t p) ∧ zGo false 65 10 [.ref 37, .int (zi r), .int (zi (yHr g 16)), .int (zi t), .int (zi q)] [] (zm V J d) = zI1 1 (vup (vup (vup V 45 t (yHr (fun s => if g s = 1 then 1 else oUs U t s) 16)) 44 (t * 4 + q') 1) 42 r (100 * V 37 7 + 10 * t + q')) J d) ∨ ((∀ p, q ≤ p → p < 4 → ¬ oFr U g t p) ∧ zGo false 65 10 [.ref 37, .int (zi r), .int (zi (yHr g 16)), .int (zi t), .int (zi q)] [] (zm V J d) = zGo false 65 2 [.ref 37, .int (zi r), .int (zi (yHr g 16)), .int (zi (t + 1)), .int (zi 4)] [] (zm V J d)) := by
  obtain ⟨b1, b2, b3, _⟩ := h.2.2.2.2.2.2.1
  have hU01 := oUs_01 h ht
  have w45 : V 45 t = yHr (oUs U t) 16 := by rw [v45]; exact (b3 t ht.1 ht.2).1
  have hqa := qand_un hU01 hg
  have hor := qor_un hU01 hg
  have e235 : zGo false 235 0 [.int (zi (yHr g 16))] [] (zm V J d) = zI1 (oCt g) V J d := by
    rw [sp235, yHr_pc hg (fun s s0 _ => hz s s0)]
  have hcr := oCt_rng hg
  induction n with
  | zero =>
    intro q q0 hq
    obtain rfl : q = 4 := by omega
    right
    refine ⟨fun p p0 p1 => by omega, ?_⟩
    rw [ze_65_10]
    simp (disch := first | omega | assumption | (simp (disch := omega) only [vup_fn, vup_o, vup_k, vup_at]; first | done | omega | assumption)) only [Int.add_zero, ↓reduceIte, qw_id, zck_T, zck_t, zGor_v, zGor_n, zGor_e, zbs, vup_at, vup_vup, vup_self, vup_o, vup_k, vup_fn, ne_eq, not_true_eq_false, not_false_eq_true, and_true, true_and, and_self, and_false, false_and, or_true, true_or, or_self, or_false, false_or, xlt_t, xlt_f, xle_t, xle_f, xeq_t, xeq_f, xand_f, xor_t]
  | succ n ih =>
    intro q q0 hq
    have w44 : V 44 (t * 4 + q) = U 461 (4 * t + q) := by rw [v44, show t * 4 + q = 4 * t + q by omega]; exact (b2 _ (by omega) (by omega)).1
    have r44 := (b2 (4 * t + q) (by omega) (by omega)).2
    rw [(b2 (4 * t + q) (by omega) (by omega)).1] at r44
    have w43 : V 43 q = U 460 q := by rw [hV.1 43 (by omega) (by omega) (by omega) (by omega) (by omega)]; exact (b1 q q0 (by omega)).1
    have r43 := (b1 q q0 (by omega)).2
    rw [(b1 q q0 (by omega)).1] at r43
    have e := sp65 (V := V) (J := J) (d := d) ht ⟨q0, by omega⟩ hr w45 rfl hqa.1 hor w44 r44 w43 r43 e235 hcr
    have hF : oFr U g t q ↔ qand (yHr (oUs U t) 16) (yHr g 16) = 0 ∧ U 461 (4 * t + q) = 0 ∧ oCt g ≤ U 460 q := by
      rw [oFr_i, hqa.2]
    by_cases hf : oFr U g t q
    · left
      rw [if_pos (hF.1 hf)] at e
      exact ⟨q, ⟨Int.le_refl q, by omega⟩, hf, fun p p0 p1 => by omega, e⟩
    · rw [if_neg (fun w => hf (hF.2 w))] at e
      rcases ih (q + 1) (by omega) (by omega) with ⟨q', k1, k2, k3, k4⟩ | ⟨k1, k2⟩
      · left
        refine ⟨q', by omega, k2, fun p p0 p1 => ?_, e.trans k4⟩
        by_cases e : p = q
        · rw [e]; exact hf
        · exact k3 p (by omega) p1
      · right
        refine ⟨fun p p0 p1 => ?_, e.trans k2⟩
        by_cases e : p = q
        · rw [e]; exact hf
        · exact k1 p (by omega) p1
theorem sl65t (h : zInv N U I) (hV : oCa U V I J) (v44 : V 44 = U 44) (v45 : V 45 = U 45) {g : Int → Int} (hg : yB01 g) (hz : ∀ s, 12 ≤ s → g s = 0) (hr : 0 ≤ r ∧ r < 40) (n : Nat) : ∀ (t : Int) (x : Value), 0 ≤ t → 4 = t + n → (∃ t' q', ((t ≤ t' ∧ t' < 4) ∧ 0 ≤ q' ∧ q' < 4) ∧ oFr U g t' q' ∧ (∀ u p, t ≤ u → 0 ≤ p → p < 4 → 4 * u + p < 4 * t' + q' → ¬ oFr U g u p) ∧ zGo false 65 2 [.ref 37, .int (zi r), .int (zi (yHr g 16)), .int (zi t), x] [] (zm V J d) = zI1 1 (vup (vup (vup V 45 t' (yHr (fun s => if g s = 1 then 1 else oUs U t' s) 16)) 44 (t' * 4 + q') 1) 42 r (100 * V 37 7 + 10 * t' + q')) J d) ∨ ((∀ u p, t ≤ u → u < 4 → 0 ≤ p → p < 4 → ¬ oFr U g u p) ∧ zGo false 65 2 [.ref 37, .int (zi r), .int (zi (yHr g 16)), .int (zi t), x] [] (zm V J d) = zI1 0 V J d) := by
  induction n with
  | zero =>
    intro t x t0 ht
    obtain rfl : t = 4 := by omega
    right
    refine ⟨fun u p u0 u1 => by omega, ?_⟩
    rw [ze_65_2]
    simp (disch := first | omega | assumption | (simp (disch := omega) only [vup_fn, vup_o, vup_k, vup_at]; first | done | omega | assumption)) only [Int.add_zero, ↓reduceIte, qw_id, zck_T, zck_t, zGor_v, zGor_n, zGor_e, zbs, vup_at, vup_vup, vup_self, vup_o, vup_k, vup_fn, ne_eq, not_true_eq_false, not_false_eq_true, and_true, true_and, and_self, and_false, false_and, or_true, true_or, or_self, or_false, false_or, xlt_t, xlt_f, xle_t, xle_f, xeq_t, xeq_f, xand_f, xor_t]
  | succ n ih =>
    intro t x t0 ht
    have hst : zGo false 65 2 [.ref 37, .int (zi r), .int (zi (yHr g 16)), .int (zi t), x] [] (zm V J d) = zGo false 65 10 [.ref 37, .int (zi r), .int (zi (yHr g 16)), .int (zi t), .int (zi 0)] [] (zm V J d) := by
      rw [ze_65_2]
      simp (disch := first | omega | assumption | (simp (disch := omega) only [vup_fn, vup_o, vup_k, vup_at]; first | done | omega | assumption)) only [Int.add_zero, ↓reduceIte, qw_id, zck_T, zck_t, zGor_v, zGor_n, zGor_e, zbs, vup_at, vup_vup, vup_self, vup_o, vup_k, vup_fn, ne_eq, not_true_eq_false, not_false_eq_true, and_true, true_and, and_self, and_false, false_and, or_true, true_or, or_self, or_false, false_or, xlt_t, xlt_f, xle_t, xle_f, xeq_t, xeq_f, xand_f, xor_t]
    rw [hst]
    rcases sl65q (d := d) h hV v44 v45 hg hz hr (t := t) (by omega) 4 0 (by omega) (by omega) with ⟨q', k1, k2, k3, k4⟩ | ⟨k1, k2⟩
    · left
      refine ⟨t, q', by omega, k2, fun u p u0 p0 p1 hu => ?_, k4⟩
      have e : u = t := by omega
      rw [e]
      exact k3 p p0 (by omega)
    · rcases ih (t + 1) (.int (zi 4)) (by omega) (by omega) with ⟨t', q', m1, m2, m3, m4⟩ | ⟨m1, m2⟩
      · left
        refine ⟨t', q', by omega, m2, fun u p u0 p0 p1 hu => ?_, by rw [k2]; exact m4⟩
        by_cases e : u = t
        · rw [e]
          exact k1 p p0 p1
        · exact m3 u p (by omega) p0 p1 hu
      · right
        refine ⟨fun u p u0 u1 p0 p1 => ?_, by rw [k2]; exact m2⟩
        by_cases e : u = t
        · rw [e]
          exact k1 p p0 p1
        · exact m1 u p (by omega) u1 p0 p1
end
