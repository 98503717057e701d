/-! part 99: learning in the class; a rehearsal whole -/
section
variable {U V : zVt} {I J : zJt} {N r x2 : Int} {d : Nat → Nat → UInt64}
/-- learn -/
theorem sp19 {M : Nat} {s w b : Int} (hM : zBk 5 M) (h50 : 50 ≤ M) (hs : 0 ≤ s ∧ s < 12) (hw : 0 ≤ w ∧ w < 12) (hb : 0 ≤ b ∧ b < 40) (hbM : b < V M 2) (h40 : V M 2 ≤ 40) (hi : 0 ≤ V 47 ((s * 12 + w) * 40 + b) ∧ V 47 ((s * 12 + w) * 40 + b) ≤ 100000) : zGo false 19 0 [.ref 46, .int (zi s), .int (zi w), .ref M, .int (zi b), .null] [] (zm V J d) = zN1 (vup V 47 ((s * 12 + w) * 40 + b) (if oKi V J ((s * 12 + w) * 40 + b) M b = 1 then V 47 ((s * 12 + w) * 40 + b) + 1 else 1)) (jup (jup J 48 ((s * 12 + w) * 40 + b) (J (M + 1) (2 * b))) 49 ((s * 12 + w) * 40 + b) (J (M + 1) (2 * b + 1))) d := by
  have e20 := sp20 (V := V) (J := J) (d := d) (x := s) (y := w) (z := b)
  have e21 := sp21 (V := V) (J := J) (d := d) hM hs hw hb ⟨by omega, h40⟩ hi
  have hix : 0 ≤ (s * 12 + w) * 40 + b ∧ (s * 12 + w) * 40 + b < 5760 := by omega
  generalize (s * 12 + w) * 40 + b = i at *
  obtain ⟨x, hx⟩ : ∃ x, (if oKi V J i M b = 1 then V 47 i + 1 else 1) = x := ⟨_, rfl⟩
  rw [hx]
  have hM2 : vup V 47 i x M 2 = V M 2 := vup_o (by omega)
  have e31 := sp31 (V := vup V 47 i x) (J := J) (d := d) hM (b := b) ⟨hb.1, by rw [hM2]; exact hbM⟩ (by rw [hM2]; exact h40)
  have e32 := sp32 (V := vup V 47 i x) (J := jup J 48 i (J (M + 1) (2 * b))) (d := d) hM (b := b) ⟨hb.1, by rw [hM2]; exact hbM⟩ (by rw [hM2]; exact h40)
  rw [jup_o (by omega)] at e32
  rcases oKi_01 V J i M b with q | q
  · rw [if_neg (by omega)] at hx
    subst hx
    rw [q] at e21
    simp (disch := first | omega | assumption | (simp (disch := omega) only [vup_fn, vup_o, vup_k, vup_at]; first | done | omega | assumption)) only [ze_19_0, ze_19_8, ze_19_25, ze_19_41, ze_19_54, ze_19_67, e20, e21, e31, e32, Int.add_zero, ↓reduceIte, qw_id, zck_T, zck_t, zGor_v, zGor_n, zGor_e, zbs, vup_at, vup_vup, vup_self, vup_o, vup_k, vup_fn, ne_eq, not_true_eq_false, not_false_eq_true, and_true, true_and, and_self, and_false, false_and, or_true, true_or, or_self, or_false, false_or, xlt_t, xlt_f, xle_t, xle_f, xeq_t, xeq_f, xand_f, xor_t]
  · rw [if_pos q] at hx
    subst hx
    rw [q] at e21
    simp (disch := first | omega | assumption | (simp (disch := omega) only [vup_fn, vup_o, vup_k, vup_at]; first | done | omega | assumption)) only [ze_19_0, ze_19_8, ze_19_25, ze_19_41, ze_19_54, ze_19_67, e20, e21, e31, e32, Int.add_zero, ↓reduceIte, qw_id, zck_T, zck_t, zGor_v, zGor_n, zGor_e, zbs, vup_at, vup_vup, vup_self, vup_o, vup_k, vup_fn, ne_eq, not_true_eq_false, not_false_eq_true, and_true, true_and, and_self, and_false, false_and, or_true, true_or, or_self, or_false, false_or, xlt_t, xlt_f, xle_t, xle_f, xeq_t, xeq_f, xand_f, xor_t]
theorem oKi_cg {V V' : zVt} {J J' : zJt} {i b : Int} {M : Nat} (h1 : V' 47 i = V 47 i) (h2 : V' M 2 = V M 2) (h3 : J' 48 i = J 48 i) (h4 : J' 49 i = J 49 i) (h5 : J' (M + 1) = J (M + 1)) : oKi V' J' i M b = oKi V J i M b := by
  unfold oKi
  rw [h1, h2, h3, h4, h5]
/-- learnFrom -/
theorem sl94 {k : Nat} (hk : k < 40) {s w x2 to : Int} (hs : 0 ≤ s ∧ s < 12) (hw : 0 ≤ w ∧ w < 12) (ht : 0 ≤ to ∧ to < 40) (n : Nat) : ∀ (V : zVt) (J : zJt) (b : Int), 0 ≤ b → to + 1 = b + n → V (230 + 5 * k) 0 = w → V (230 + 5 * k) 1 = s → to < V (233 + 5 * k) 2 → V (233 + 5 * k) 2 ≤ 40 → (∀ i, (s * 12 + w) * 40 + b ≤ i → i ≤ (s * 12 + w) * 40 + to → 0 ≤ V 47 i ∧ V 47 i ≤ 100000) → ∃ V' J', zGo false 94 3 [.ref 0, .ref (230 + 5 * k), .int (zi x2), .int (zi to), .int (zi b)] [] (zm V J d) = zN1 V' J' d ∧ (∀ i, (((s * 12 + w) * 40 + b ≤ i ∧ i ≤ (s * 12 + w) * 40 + to) → V' 47 i = (if oKi V J i (233 + 5 * k) (i - (s * 12 + w) * 40) = 1 then V 47 i + 1 else 1) ∧ J' 48 i = J (234 + 5 * k) (2 * (i - (s * 12 + w) * 40)) ∧ J' 49 i = J (234 + 5 * k) (2 * (i - (s * 12 + w) * 40) + 1)) ∧ (¬((s * 12 + w) * 40 + b ≤ i ∧ i ≤ (s * 12 + w) * 40 + to) → V' 47 i = V 47 i ∧ J' 48 i = J 48 i ∧ J' 49 i = J 49 i)) ∧ (∀ o : Nat, o ≠ 47 → V' o = V o) ∧ ∀ o : Nat, o ≠ 48 → o ≠ 49 → J' o = J o := by
  have hB := zBk_copy (i := k) (by omega)
  have b5 := zBk_0music hB
  have f233 : 230 + 5 * k + 3 = 233 + 5 * k := by omega
  have f234 : 233 + 5 * k + 1 = 234 + 5 * k := by omega
  induction n with
  | zero =>
    intro V J b b0 hb h0 h1 h2 h3 h4
    refine ⟨V, J, ?_, fun i => ⟨fun q => by omega, fun _ => ⟨rfl, rfl, rfl⟩⟩, fun _ _ => rfl, fun _ _ _ => rfl⟩
    rw [ze_94_3 _ _ _ _ hB]
    simp (disch := first | omega | assumption | (simp (disch := omega) only [vup_fn, vup_o, vup_k, vup_at]; first | done | omega | assumption)) only [Int.add_zero, ↓reduceIte, qw_id, zck_T, zck_t, zGor_v, zGor_n, zGor_e, zbs, vup_at, vup_vup, vup_self, vup_o, vup_k, vup_fn, ne_eq, not_true_eq_false, not_false_eq_true, and_true, true_and, and_self, and_false, false_and, or_true, true_or, or_self, or_false, false_or, xlt_t, xlt_f, xle_t, xle_f, xeq_t, xeq_f, xand_f, xor_t]
  | succ n ih =>
    intro V J b b0 hb h0 h1 h2 h3 h4
    have e19 := sp19 (V := V) (J := J) (d := d) (M := 230 + 5 * k + 3) (s := s) (w := w) (b := b) b5 (by omega) hs hw (by omega) (by rw [f233]; omega) (by rw [f233]; exact h3) (h4 _ (by omega) (by omega))
    rw [f233, f234] at e19
    obtain ⟨bs, hbs⟩ : ∃ bs, (s * 12 + w) * 40 = bs := ⟨_, rfl⟩
    rw [hbs] at e19 ih h4 ⊢
    obtain ⟨x, hx⟩ : ∃ x, (if oKi V J (bs + b) (233 + 5 * k) b = 1 then V 47 (bs + b) + 1 else 1) = x := ⟨_, rfl⟩
    rw [hx] at e19
    obtain ⟨V', J', i1, i2, i3, i4⟩ := ih (vup V 47 (bs + b) x) (jup (jup J 48 (bs + b) (J (234 + 5 * k) (2 * b))) 49 (bs + b) (J (234 + 5 * k) (2 * b + 1))) (b + 1) (by omega) (by omega) (by rw [vup_o (by omega)]; exact h0) (by rw [vup_o (by omega)]; exact h1) (by rw [vup_o (by omega)]; exact h2) (by rw [vup_o (by omega)]; exact h3) (fun i i0 i1 => by rw [vup_k (by omega)]; exact h4 i (by omega) i1)
    refine ⟨V', J', ?_, ?_, ?_, ?_⟩
    · rw [ze_94_3 _ _ _ _ hB]
      simp (disch := first | omega | assumption | (simp (disch := omega) only [vup_fn, vup_o, vup_k, vup_at]; first | done | omega | assumption)) only [h0, h1, f233, e19, ze_94_30, i1, Int.add_zero, ↓reduceIte, qw_id, zck_T, zck_t, zGor_v, zGor_n, zGor_e, zbs, vup_at, vup_vup, vup_self, vup_o, vup_k, vup_fn, ne_eq, not_true_eq_false, not_false_eq_true, and_true, true_and, and_self, and_false, false_and, or_true, true_or, or_self, or_false, false_or, xlt_t, xlt_f, xle_t, xle_f, xeq_t, xeq_f, xand_f, xor_t]
    · intro i
      obtain ⟨g1, g2⟩ := i2 i
      by_cases e : i = bs + b
      · obtain ⟨k1, k2, k3⟩ := g2 (by omega)
        subst e
        refine ⟨fun _ => ⟨?_, ?_, ?_⟩, fun q => by omega⟩
        · rw [k1, vup_at, ← hx, show bs + b - bs = b by omega]
        · rw [k2, jup_o (by omega), jup_at, show bs + b - bs = b by omega]
        · rw [k3, jup_at, show bs + b - bs = b by omega]
      · constructor
        · intro q
          obtain ⟨k1, k2, k3⟩ := g1 (by omega)
          refine ⟨?_, ?_, ?_⟩
          · rw [k1, vup_k e, oKi_cg (V := V) (J := J) (vup_k e) (vup_o (by omega)) (by rw [jup_o (by omega), jup_k e]) (jup_k e |>.trans (by rw [jup_o (by omega)])) (by rw [jup_fn (by omega), jup_fn (by omega)])]
          · rw [k2, jup_o (by omega), jup_o (by omega)]
          · rw [k3, jup_o (by omega), jup_o (by omega)]
        · intro q
          obtain ⟨k1, k2, k3⟩ := g2 (by omega)
          refine ⟨?_, ?_, ?_⟩
          · rw [k1, vup_k e]
          · rw [k2, jup_o (by omega), jup_k e]
          · rw [k3, jup_k e, jup_o (by omega)]
    · intro o ho
      rw [i3 o ho, vup_fn ho]
    · intro o o1 o2
      rw [i4 o o1 o2, jup_fn o2, jup_fn o1]
/-- what the class has learned, by the first k copies -/
def oLC (U : zVt) (I : zJt) (r k : Int) (V' : zVt) (J' : zJt) : Prop := ∀ i, (∀ j, j < k → oCn U r j i → V' 47 i = oNv U I j i ∧ J' 48 i = I (234 + 5 * j.toNat) (2 * (i % 40)) ∧ J' 49 i = I (234 + 5 * j.toNat) (2 * (i % 40) + 1)) ∧ ((∀ j, j < k → ¬ oCn U r j i) → V' 47 i = U 47 i ∧ J' 48 i = I 48 i ∧ J' 49 i = I 49 i)
theorem sl92b (h : zInv N U I) (hr : 0 ≤ r ∧ r < U 480 52) (n : Nat) : ∀ (k : Nat) (V : zVt) (J : zJt), U 480 37 = k + n → oCa U V I J → oLC U I r k V J → ∃ V' J', zGo false 92 66 [.ref 0, .int (zi r), .int (zi x2), .int (zi k)] [] (zm V J d) = zI1 1 V' J' d ∧ oLC U I r (U 480 37) V' J' ∧ (∀ o : Nat, o ≠ 47 → V' o = V o) ∧ ∀ o : Nat, o ≠ 48 → o ≠ 49 → J' o = J o := by
  have h37 := h.2.2.2.1
  have hN := h.2.2.2.2.2.2.2.2.2
  obtain ⟨b1, b2, b3, b4, b5', b6, b7, b8⟩ := h.2.2.2.2.2.2.1
  obtain ⟨q1, q2, q3, q4, q5, q6, q7, q8, q9⟩ := b8 r hr.1 hr.2
  induction n with
  | zero =>
    intro k V J hk hV hL
    have v02 : V 0 2 = U 480 37 := by rw [hV.1 0 (by omega) (by omega) (by omega) (by omega) (by omega)]; exact h37.2
    have e : U 480 37 = k := by omega
    refine ⟨V, J, ?_, by rw [e]; exact hL, fun _ _ => rfl, fun _ _ _ => rfl⟩
    rw [ze_92_66]
    simp (disch := first | omega | assumption | (simp (disch := omega) only [vup_fn, vup_o, vup_k, vup_at]; first | done | omega | assumption)) only [Int.add_zero, ↓reduceIte, qw_id, zck_T, zck_t, zGor_v, zGor_n, zGor_e, zbs, vup_at, vup_vup, vup_self, vup_o, vup_k, vup_fn, ne_eq, not_true_eq_false, not_false_eq_true, and_true, true_and, and_self, and_false, false_and, or_true, true_or, or_self, or_false, false_or, xlt_t, xlt_f, xle_t, xle_f, xeq_t, xeq_f, xand_f, xor_t]
  | succ n ih =>
    intro k V J hk hV hL
    have v02 : V 0 2 = U 480 37 := by rw [hV.1 0 (by omega) (by omega) (by omega) (by omega) (by omega)]; exact h37.2
    have hk1 : ((k : Nat) : Int) + 1 = ((k + 1 : Nat) : Int) := by omega
    have hkn : ((k : Nat) : Int).toNat = k := by omega
    obtain ⟨y, y1, y2, y3⟩ := sp93 (d := d) h hV (k := k) (by omega) hr
    obtain ⟨b5, mk, c3, c4, c2, c5, c1, hB, k40⟩ := iCp_mk h (k := k) (by omega)
    have v : ∀ o : Nat, 50 ≤ o → o ≤ 429 → V o = U o := fun o _ _ => hV.1 o (by omega) (by omega) (by omega) (by omega) (by omega)
    by_cases hy : y = 1
    · have hs := y2.1 hy
      have hs1 : U 455 k ≠ -1 := hs.1.2.1
      have hs2 : U 466 r < U (233 + 5 * k) 2 := by have := hs.2.2.2; rw [hkn] at this; exact this
      have d40 : V 40 r = U 465 r := by rw [hV.1 40 (by omega) (by omega) (by omega) (by omega) (by omega)]; exact q3
      have d41 : V 41 r = U 466 r := by rw [hV.1 41 (by omega) (by omega) (by omega) (by omega) (by omega)]; exact q4
      obtain ⟨w, hw⟩ : ∃ w : Nat, U 454 k = w := ⟨(U 454 k).toNat, by omega⟩
      have hcn : ∀ i, oCn U r k i ↔ ((U 455 k * 12 + w) * 40 + U 465 r ≤ i ∧ i ≤ (U 455 k * 12 + w) * 40 + U 466 r) := fun i => by
        unfold oCn
        rw [hw]
        constructor
        · rintro ⟨_, a1, a2, a3⟩
          omega
        · intro a
          exact ⟨hs, by omega, by omega, by omega⟩
      have hold : ∀ i, oCn U r k i → V 47 i = U 47 i ∧ J 48 i = I 48 i ∧ J 49 i = I 49 i := fun i hi => (hL i).2 (fun j j1 j2 => by
        have := oCn_un h j2 hi
        omega)
      obtain ⟨V1, J1, g1, g2, g3, g4⟩ := sl94 (d := d) k40 (s := U 455 k) (w := U 454 k) (x2 := U 465 r) (to := U 466 r) (by omega) c2 (by omega) (U 466 r + 1 - U 465 r).toNat V J (U 465 r) (by omega) (by omega) (by rw [v _ (by omega) (by omega)]; exact c3) (by rw [v _ (by omega) (by omega)]; exact c4) (by rw [v _ (by omega) (by omega)]; exact hs2) (by rw [v _ (by omega) (by omega)]; exact mk.2.2.1.2) (fun i i0 i1 => by
        rw [hw] at i0 i1
        rw [(hold i ((hcn i).2 ⟨i0, i1⟩)).1]
        have := (h.2.2.2.2.2.2.2.1 i (by omega) (by omega)).2.1
        omega)
      rw [hw] at g2
      have hV1 : oCa U V1 I J1 := ⟨fun o o1 o2 o3 o4 o5 => by rw [g3 o o5]; exact hV.1 o o1 o2 o3 o4 o5, fun o o1 o2 o3 => by rw [g4 o o2 o3]; exact hV.2 o o1 o2 o3⟩
      have hL1 : oLC U I r ((k + 1 : Nat) : Int) V1 J1 := fun i => by
        obtain ⟨l1, l2⟩ := hL i
        obtain ⟨p1, p2⟩ := g2 i
        by_cases hc : oCn U r k i
        · have hin := (hcn i).1 hc
          obtain ⟨m1, m2, m3⟩ := p1 hin
          have hb : i - (U 455 k * 12 + (w : Int)) * 40 = i % 40 := by omega
          rw [hb] at m1 m2 m3
          obtain ⟨o1, o2, o3⟩ := hold i hc
          have hJ : J (234 + 5 * k) = I (234 + 5 * k) := hV.2 _ (by omega) (by omega) (by omega)
          have hok : oKi V J i (233 + 5 * k) (i % 40) = oKi U I i (233 + 5 * k) (i % 40) := oKi_cg o1 (by rw [v _ (by omega) (by omega)]) o2 o3 (by rw [show 233 + 5 * k + 1 = 234 + 5 * k by omega]; exact hJ)
          rw [hok, o1] at m1
          rw [hJ] at m2 m3
          refine ⟨fun j j1 j2 => ?_, fun q => absurd hc (q k (by omega))⟩
          have e := oCn_un h j2 hc
          subst e
          unfold oNv
          rw [hkn]
          exact ⟨m1, m2, m3⟩
        · obtain ⟨m1, m2, m3⟩ := p2 (fun q => hc ((hcn i).2 q))
          rw [m1, m2, m3]
          refine ⟨fun j j1 j2 => ?_, fun q => l2 (fun j j1 => q j (by omega))⟩
          by_cases e : j = k
          · rw [e] at j2
            exact absurd j2 hc
          · exact l1 j (by omega) j2
      obtain ⟨V', J', i1, i2, i3, i4⟩ := ih (k + 1) V1 J1 (by omega) hV1 hL1
      refine ⟨V', J', ?_, i2, fun o ho => (i3 o ho).trans (g3 o ho), fun o o1 o2 => (i4 o o1 o2).trans (g4 o o1 o2)⟩
      rw [hy] at y3
      clear ih hL hL1 y2 hcn hold g2 i2
      rw [ze_92_66]
      simp (disch := first | omega | assumption | (simp (disch := omega) only [vup_fn, vup_o, vup_k, vup_at]; first | done | omega | assumption)) only [v02, hkn, y3, ze_92_85, d40, d41, ze_94_0, g1, ze_92_116, hk1, i1, Int.add_zero, ↓reduceIte, qw_id, zck_T, zck_t, zGor_v, zGor_n, zGor_e, zbs, vup_at, vup_vup, vup_self, vup_o, vup_k, vup_fn, ne_eq, not_true_eq_false, not_false_eq_true, and_true, true_and, and_self, and_false, false_and, or_true, true_or, or_self, or_false, false_or, xlt_t, xlt_f, xle_t, xle_f, xeq_t, xeq_f, xand_f, xor_t]
    · have hn : ¬ oSg U r k := fun q => hy (y2.2 q)
      have hL1 : oLC U I r ((k + 1 : Nat) : Int) V J := fun i => by
        obtain ⟨l1, l2⟩ := hL i
        refine ⟨fun j j1 j2 => ?_, fun q => l2 (fun j j1 => q j (by omega))⟩
        by_cases e : j = k
        · rw [e] at j2
          exact absurd j2.1 hn
        · exact l1 j (by omega) j2
      obtain ⟨V', J', i1, i2, i3, i4⟩ := ih (k + 1) V J (by omega) hV hL1
      refine ⟨V', J', ?_, i2, i3, i4⟩
      rw [y1.resolve_right hy] at y3
      clear ih hL hL1 y2 i2
      rw [ze_92_66]
      simp (disch := first | omega | assumption | (simp (disch := omega) only [vup_fn, vup_o, vup_k, vup_at]; first | done | omega | assumption)) only [v02, hkn, y3, ze_92_85, ze_92_116, hk1, i1, Int.add_zero, ↓reduceIte, qw_id, zck_T, zck_t, zGor_v, zGor_n, zGor_e, zbs, vup_at, vup_vup, vup_self, vup_o, vup_k, vup_fn, ne_eq, not_true_eq_false, not_false_eq_true, and_true, true_and, and_self, and_false, false_and, or_true, true_or, or_self, or_false, false_or, xlt_t, xlt_f, xle_t, xle_f, xeq_t, xeq_f, xand_f, xor_t]
/-- a rehearsal of the class -/
theorem cp92 (h : zInv N U I) (hV : pC U V I J) (hr : 0 ≤ r ∧ r < U 480 52) : ∃ g, oGs U r (U 480 37) g ∧ (((∀ s, 0 ≤ s → s < 12 → g s = 0) ∨ (∀ t q, 0 ≤ t → t < 4 → 0 ≤ q → q < 4 → ¬ oFr U g t q)) ∧ zGo false 92 0 [.ref 0, .int (zi r), .null, .null] [] (zm V J d) = zI1 0 V J d ∨ (¬(∀ s, 0 ≤ s → s < 12 → g s = 0)) ∧ ∃ t q V' J', ((0 ≤ t ∧ t < 4) ∧ 0 ≤ q ∧ q < 4) ∧ oFr U g t q ∧ (∀ u p, 0 ≤ u → 0 ≤ p → p < 4 → 4 * u + p < 4 * t + q → ¬ oFr U g u p) ∧ zGo false 92 0 [.ref 0, .int (zi r), .null, .null] [] (zm V J d) = zI1 1 V' J' d ∧ oLC U I r (U 480 37) V' J' ∧ (∀ x, V' 45 x = if x = t then yHr (fun s => if g s = 1 then 1 else oUs U t s) 16 else U 45 x) ∧ (∀ x, V' 44 x = if x = 4 * t + q then 1 else U 44 x) ∧ (∀ x, V' 42 x = if x = r then 100 * U 37 7 + 10 * t + q else U 42 x) ∧ (∀ o : Nat, o ≠ 42 → o ≠ 44 → o ≠ 45 → o ≠ 47 → V' o = V o) ∧ ∀ o : Nat, o ≠ 48 → o ≠ 49 → J' o = J o) := by
  have h37 := h.2.2.2.1
  obtain ⟨b1, b2, b3, b4, b5', b6, b7, b8⟩ := h.2.2.2.2.2.2.1
  have hVa : oCa U V I J := ⟨fun o o1 _ _ _ _ => hV.1 o o1, fun o o1 _ _ => hV.2 o o1⟩
  have v02 : V 0 2 = U 480 37 := by rw [hV.1 0 (by omega)]; exact h37.2
  have v44 := hV.1 44 (by omega)
  have v45 := hV.1 45 (by omega)
  have v42 := hV.1 42 (by omega)
  have v47 := hV.1 47 (by omega)
  have v37 := hV.1 37 (by omega)
  obtain ⟨g, g1, g2⟩ := sl92a (d := d) h hVa hr (U 480 37).toNat 0 (fun _ => 0) (by omega) ⟨fun _ _ _ => Or.inl rfl, fun s _ _ => ⟨fun w => absurd (show (0 : Int) = 1 from w) (by decide), fun ⟨j, j1, j2, _⟩ => by have := j2.1.1; omega⟩, fun _ _ => rfl⟩
  rw [show yHr (fun _ => 0) 16 = 0 from rfl, show ((0 : Nat) : Int) = 0 from rfl] at g2
  refine ⟨g, g1, ?_⟩
  have hz := yHr_0 g1.1
  have hrg : 0 ≤ yHr g 16 ∧ yHr g 16 < 65536 := yHr_rng g1.1 16 (by omega)
  by_cases c : yHr g 16 = 0
  · left
    refine ⟨Or.inl (fun s s0 s1 => hz.1 c s s0 (by omega)), ?_⟩
    rw [c] at g2
    clear hz g1
    rw [ze_92_0, g2, ze_92_4]
    simp (disch := first | omega | assumption | (simp (disch := omega) only [vup_fn, vup_o, vup_k, vup_at]; first | done | omega | assumption)) only [v02, ze_92_62, Int.add_zero, ↓reduceIte, qw_id, zck_T, zck_t, zGor_v, zGor_n, zGor_e, zbs, vup_at, vup_vup, vup_self, vup_o, vup_k, vup_fn, ne_eq, not_true_eq_false, not_false_eq_true, and_true, true_and, and_self, and_false, false_and, or_true, true_or, or_self, or_false, false_or, xlt_t, xlt_f, xle_t, xle_f, xeq_t, xeq_f, xand_f, xor_t]
  · have hnz : ¬(∀ s, 0 ≤ s → s < 12 → g s = 0) := fun w => c (hz.2 (fun s s0 s1 => by
      by_cases q : s < 12
      · exact w s s0 q
      · exact g1.2.2 s (by omega)))
    have hst : ∀ (m : Option (zRes × zM)), zGo false 65 2 [.ref 37, .int (zi r), .int (zi (yHr g 16)), .int (zi 0), .null] [] (zm V J d) = m → zGo false 92 0 [.ref 0, .int (zi r), .null, .null] [] (zm V J d) = m.bind (zGor false 92 59 [.ref 0, .int (zi r), .int (zi (yHr g 16)), .int (zi (U 480 37))] []) := fun m hm => by
      clear hz g1 hnz
      rw [ze_92_0, g2, ze_92_4]
      simp (disch := first | omega | assumption | (simp (disch := omega) only [vup_fn, vup_o, vup_k, vup_at]; first | done | omega | assumption)) only [v02, ze_65_0, hm, Int.add_zero, ↓reduceIte, qw_id, zck_T, zck_t, zGor_v, zGor_n, zGor_e, zbs, vup_at, vup_vup, vup_self, vup_o, vup_k, vup_fn, ne_eq, not_true_eq_false, not_false_eq_true, and_true, true_and, and_self, and_false, false_and, or_true, true_or, or_self, or_false, false_or, xlt_t, xlt_f, xle_t, xle_f, xeq_t, xeq_f, xand_f, xor_t]
    rcases sl65t (d := d) h hVa v44 v45 g1.1 g1.2.2 (by omega : 0 ≤ r ∧ r < 40) 4 0 .null (by omega) (by omega) with ⟨t, q, m1, m2, m3, m4⟩ | ⟨m1, m2⟩
    · right
      refine ⟨hnz, ?_⟩
      have e1 := hst _ m4
      have f45 : ∀ x, vup (vup (vup V 45 t (yHr (fun s => if g s = 1 then 1 else oUs U t s) 16)) 44 (t * 4 + q) 1) 42 r (100 * V 37 7 + 10 * t + q) 45 x = if x = t then yHr (fun s => if g s = 1 then 1 else oUs U t s) 16 else U 45 x := fun x => by
        rw [vup_o (by omega), vup_o (by omega)]
        by_cases e : x = t
        · rw [if_pos e, e, vup_at]
        · rw [if_neg e, vup_k e, v45]
      have f44 : ∀ x, vup (vup (vup V 45 t (yHr (fun s => if g s = 1 then 1 else oUs U t s) 16)) 44 (t * 4 + q) 1) 42 r (100 * V 37 7 + 10 * t + q) 44 x = if x = 4 * t + q then 1 else U 44 x := fun x => by
        rw [vup_o (by omega)]
        by_cases e : x = 4 * t + q
        · rw [if_pos e, e, show 4 * t + q = t * 4 + q by omega, vup_at]
        · rw [if_neg e, vup_k (by omega), vup_o (by omega), v44]
      have f42 : ∀ x, vup (vup (vup V 45 t (yHr (fun s => if g s = 1 then 1 else oUs U t s) 16)) 44 (t * 4 + q) 1) 42 r (100 * V 37 7 + 10 * t + q) 42 x = if x = r then 100 * U 37 7 + 10 * t + q else U 42 x := fun x => by
        by_cases e : x = r
        · rw [if_pos e, e, vup_at, v37]
        · rw [if_neg e, vup_k e, vup_o (by omega), vup_o (by omega), v42]
      have fo : ∀ o : Nat, o ≠ 42 → o ≠ 44 → o ≠ 45 → vup (vup (vup V 45 t (yHr (fun s => if g s = 1 then 1 else oUs U t s) 16)) 44 (t * 4 + q) 1) 42 r (100 * V 37 7 + 10 * t + q) o = V o := fun o o1 o2 o3 => by rw [vup_fn o1, vup_fn o2, vup_fn o3]
      generalize vup (vup (vup V 45 t (yHr (fun s => if g s = 1 then 1 else oUs U t s) 16)) 44 (t * 4 + q) 1) 42 r (100 * V 37 7 + 10 * t + q) = V1 at *
      have hV1 : oCa U V1 I J := ⟨fun o o1 o2 o3 o4 o5 => by rw [fo o o2 o3 o4]; exact hV.1 o o1, fun o o1 _ _ => hV.2 o o1⟩
      obtain ⟨V', J', i1, i2, i3, i4⟩ := sl92b (d := d) (x2 := yHr g 16) h hr (U 480 37).toNat 0 V1 J (by omega) hV1 (fun i => ⟨fun j j1 j2 => by have := j2.1.1.1; omega, fun _ => ⟨by rw [fo 47 (by omega) (by omega) (by omega), v47], by rw [hV.2 48 (by omega)], by rw [hV.2 49 (by omega)]⟩⟩)
      rw [show ((0 : Nat) : Int) = 0 from rfl] at i1
      refine ⟨t, q, V', J', ⟨⟨m1.1.1, m1.1.2⟩, m1.2⟩, m2, m3, ?_, i2, fun x => by rw [i3 45 (by omega), f45], fun x => by rw [i3 44 (by omega), f44], fun x => by rw [i3 42 (by omega), f42], fun o o1 o2 o3 o4 => by rw [i3 o o4, fo o o1 o2 o3], i4⟩
      rw [e1]
      clear hst hz g1 m3 i2 hnz
      simp (disch := first | omega | assumption | (simp (disch := omega) only [vup_fn, vup_o, vup_k, vup_at]; first | done | omega | assumption)) only [ze_92_59, i1, Int.add_zero, ↓reduceIte, qw_id, zck_T, zck_t, zGor_v, zGor_n, zGor_e, zbs, vup_at, vup_vup, vup_self, vup_o, vup_k, vup_fn, ne_eq, not_true_eq_false, not_false_eq_true, and_true, true_and, and_self, and_false, false_and, or_true, true_or, or_self, or_false, false_or, xlt_t, xlt_f, xle_t, xle_f, xeq_t, xeq_f, xand_f, xor_t]
    · left
      refine ⟨Or.inr (fun t q t0 t1 q0 q1 => m1 t q t0 t1 q0 q1), ?_⟩
      rw [hst _ m2]
      clear hst hz g1 m1 hnz
      simp (disch := first | omega | assumption | (simp (disch := omega) only [vup_fn, vup_o, vup_k, vup_at]; first | done | omega | assumption)) only [ze_92_59, ze_92_62, Int.add_zero, ↓reduceIte, qw_id, zck_T, zck_t, zGor_v, zGor_n, zGor_e, zbs, vup_at, vup_vup, vup_self, vup_o, vup_k, vup_fn, ne_eq, not_true_eq_false, not_false_eq_true, and_true, true_and, and_self, and_false, false_and, or_true, true_or, or_self, or_false, false_or, xlt_t, xlt_f, xle_t, xle_f, xeq_t, xeq_f, xand_f, xor_t]
end
