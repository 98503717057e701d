/-! part 99s1: plan: the loop over the requests -/
theorem lSm_cg {f g : Int → Int} : ∀ (n : Nat) (k : Int), (∀ j, k ≤ j → j < k + n → f j = g j) → lSm f k n = lSm g k n
  | 0, _, _ => rfl
  | n + 1, k, h => by
    show f k + lSm f (k + 1) n = g k + lSm g (k + 1) n
    rw [h k (by omega) (by omega), lSm_cg n (k + 1) (fun j j0 j1 => h j (by omega) (by omega))]
/-- a request that has got its room between U and U' -/
abbrev lFn (U U' : zVt) (j : Int) : Int := if U 467 j = -1 ∧ U' 467 j ≠ -1 then 1 else 0
section
variable {U V : zVt} {I J : zJt} {N r : Int} {d : Nat → Nat → UInt64}
theorem lDs_st {U U' : zVt} {r t q : Int} (h : lDs U) (hf : lFp U U') (hr : 0 ≤ r ∧ r < U 480 52) (hb : 0 ≤ U 480 46) (h1 : U 467 r = -1) (htq : (0 ≤ t ∧ t < 4) ∧ 0 ≤ q ∧ q < 4) (h461 : U 461 (4 * t + q) = 0) (h461' : U' 461 (4 * t + q) = 1) (h467 : ∀ x, U' 467 x = if x = r then 100 * U 480 46 + 10 * t + q else U 467 x) : lDs U' := by
  have e480 := hf.1 480 (by omega) (by omega) (by omega) (by omega) (by omega) (by omega) (by omega) (by omega) (by omega)
  have key : ∀ i, 0 ≤ i → i < U 480 52 → U 467 i ≠ -1 → U 467 i ≠ 100 * U 480 46 + 10 * t + q := fun i i0 i1 i2 w => by
    obtain ⟨D, t', q', k1, k2, k3, k4, k5⟩ := h.1 i i0 i1 i2
    have e : D = U 480 46 ∧ 4 * t' + q' = 4 * t + q := by omega
    have := k5 e.1
    rw [e.2, h461] at this
    omega
  refine ⟨fun i i0 i1 i2 => ?_, fun i j i0 ij j1 i2 => ?_⟩
  · rw [e480] at i1 ⊢
    rw [h467] at i2 ⊢
    by_cases e : i = r
    · rw [if_pos e]
      exact ⟨U 480 46, t, q, rfl, ⟨hb, Int.le_refl _⟩, htq.1, htq.2, fun _ => h461'⟩
    · rw [if_neg e] at i2 ⊢
      obtain ⟨D, t', q', k1, k2, k3, k4, k5⟩ := h.1 i i0 i1 i2
      exact ⟨D, t', q', k1, k2, k3, k4, fun w => hf.2.1.1 _ (k5 w)⟩
  · rw [e480] at j1
    rw [h467] at i2
    rw [h467, h467]
    by_cases e : i = r
    · rw [if_pos e, if_neg (by omega)]
      by_cases e2 : U 467 j = -1
      · omega
      · exact fun w => key j (by omega) j1 e2 w.symm
    · rw [if_neg e] at i2 ⊢
      by_cases e2 : j = r
      · rw [if_pos e2]
        exact key i i0 (by omega) i2
      · rw [if_neg e2]
        exact h.2 i j i0 ij j1 i2
theorem c_planL (d : Nat → Nat → UInt64) (n : Nat) : ∀ (r : Nat) (x c : Int) (U V : zVt) (I J : zJt), zInv N U I → (∀ i, 0 ≤ i → i < 5760 → U 47 i ≤ c) → (0 ≤ c ∧ c + n ≤ 40 * N) → U 480 52 = r + n → pC U V I J → lDs U → (∀ j : Int, 0 ≤ j → j < (r : Int) → U 467 j = -1 → oBl U j) → ∃ (x' : Int) (V' : zVt) (J' : zJt) (U' : zVt) (I' : zJt), zGo false 91 4 [.ref 0, .int (zi x), .int (zi r)] [] (zm V J d) = zI1 x' V' J' d ∧ pC U' V' I' J' ∧ (∀ o : Nat, 430 ≤ o → V' o = V o ∧ J' o = J o) ∧ zInv N U' I' ∧ lFp U U' ∧ lDs U' ∧ (∀ j, 0 ≤ j → j < U 480 52 → U' 467 j = -1 → oBl U' j) ∧ (∀ j : Int, j < (r : Int) ∨ U 467 j ≠ -1 → U' 467 j = U 467 j) ∧ (∀ j : Int, U 467 j = -1 → U' 467 j ≠ -1 → U' 467 j / 100 = U 480 46) ∧ x' = x + lSm (lFn U U') r n ∧ ∀ i, 0 ≤ i → i < 5760 → U' 47 i ≤ c + lSm (lFn U U') r n := by
  induction n with
  | zero =>
    intro r x c U V I J h hB hc hr hV hD hbl
    obtain ⟨b1, b2, b3, b4, b5, b6, b7, b8⟩ := h.2.2.2.2.2.2.1
    have v5 : V 37 5 = U 480 52 := by rw [hV.1 37 (by omega)]; exact b6
    refine ⟨x, V, J, U, I, ?_, hV, fun _ _ => ⟨rfl, rfl⟩, h, lFp_r, hD, fun j j0 j1 => hbl j j0 (by omega), fun j _ => rfl, fun j j0 j1 => absurd j0 j1, (Int.add_zero x).symm, fun i i0 i1 => by have := hB i i0 i1; show _ ≤ c + 0; omega⟩
    rw [ze_91_4]
    simp (disch := first | omega | assumption | (simp (disch := omega) only [vup_fn, vup_o, vup_k, vup_at]; first | done | omega | assumption)) only [v5, Int.add_zero, ↓reduceIte, qw_id, zck_T, zck_t, zGor_v, zGor_n, zGor_e, zbs, vup_at, vup_vup, vup_self, vup_o, vup_k, vup_fn, ne_eq, not_true_eq_false, not_false_eq_true, and_true, true_and, and_self, and_false, false_and, or_true, true_or, or_self, or_false, false_or, xlt_t, xlt_f, xle_t, xle_f, xeq_t, xeq_f, xand_f, xor_t]
  | succ n ih =>
    intro r x c U V I J h hB hc hr hV hD hbl
    obtain ⟨b1, b2, b3, b4, b5, b6, b7, b8⟩ := h.2.2.2.2.2.2.1
    obtain ⟨q1, q2, q3, q4, q5, q6, q7, q8, q9⟩ := b8 r (by omega) (by omega)
    have h37 := h.2.2.2.1
    have hN := h.2.2.2.2.2.2.2.2.2
    have v5 : V 37 5 = U 480 52 := by rw [hV.1 37 (by omega)]; exact b6
    have v42 : V 42 r = U 467 r := by rw [hV.1 42 (by omega)]; exact q5
    have hr1 : ((r : Nat) : Int) + 1 = ((r + 1 : Nat) : Int) := by omega
    have ls : ∀ f : Int → Int, lSm f r (n + 1) = f r + lSm f ((r + 1 : Nat) : Int) n := fun f => by rw [← hr1]; rfl
    have stay : ∀ (U' : zVt), (∀ j, j < ((r + 1 : Nat) : Int) ∨ U 467 j ≠ -1 → U' 467 j = U 467 j) → lFn U U' r = 0 := fun U' k => by
      have e := k r (Or.inl (by omega))
      show (if U 467 r = -1 ∧ U' 467 r ≠ -1 then (1 : Int) else 0) = 0
      rw [e]
      exact if_neg (fun w => w.2 w.1)
    by_cases hg : U 467 r = -1
    · rcases c_plan1 h hB ⟨hc.1, by omega⟩ (r := r) ⟨by omega, by omega⟩ hV d with ⟨g0, g1⟩ | ⟨V1, J1, U1, I1, g1, g2, g3, g4, g5, g6, t, q, g7, g8, g9, g10⟩
      · obtain ⟨x', V', J', U', I', i1, i2, i3, i4, i5, i6, i7, i8, i9, i10, i11⟩ := ih (r + 1) x c U V I J h hB (by omega) (by omega) hV hD (fun j j0 j1 j2 => by
          by_cases e : j = r
          · rw [e]; exact g0
          · exact hbl j j0 (by omega) j2)
        have e0 := stay U' i8
        have ex : lSm (lFn U U') r (n + 1) = lSm (lFn U U') ((r + 1 : Nat) : Int) n := by rw [ls, e0, Int.zero_add]
        refine ⟨x', V', J', U', I', ?_, i2, i3, i4, i5, i6, i7, fun j hj => i8 j (by omega), i9, by rw [ex]; exact i10, by rw [ex]; exact i11⟩
        clear ih hB b8 b1 b2 b3
        rw [ze_91_4]
        simp (disch := first | omega | assumption | (simp (disch := omega) only [vup_fn, vup_o, vup_k, vup_at]; first | done | omega | assumption)) only [v5, v42, g1, ze_91_33, ze_91_39, hr1, i1, Int.add_zero, ↓reduceIte, qw_id, zck_T, zck_t, zGor_v, zGor_n, zGor_e, zbs, vup_at, vup_vup, vup_self, vup_o, vup_k, vup_fn, ne_eq, not_true_eq_false, not_false_eq_true, and_true, true_and, and_self, and_false, false_and, or_true, true_or, or_self, or_false, false_or, xlt_t, xlt_f, xle_t, xle_f, xeq_t, xeq_f, xand_f, xor_t]
      · have e480 := g6.1 480 (by omega) (by omega) (by omega) (by omega) (by omega) (by omega) (by omega) (by omega) (by omega)
        have hD1 := lDs_st hD g6 (r := r) ⟨by omega, by omega⟩ b5.1 hg g7 g8 g9 g10
        obtain ⟨x', V', J', U', I', i1, i2, i3, i4, i5, i6, i7, i8, i9, i10, i11⟩ := ih (r + 1) (x + 1) (c + 1) U1 V1 I1 J1 g4 g5 (by omega) (by rw [e480]; omega) g2 hD1 (fun j j0 j1 j2 => by
          rw [g10] at j2
          by_cases e : j = r
          · rw [if_pos e] at j2
            omega
          · rw [if_neg e] at j2
            exact oBl_fr g6 h37.1.2 (hbl j j0 (by omega) j2))
        have er : U' 467 r = 100 * U 480 46 + 10 * t + q := by rw [i8 r (Or.inl (by omega)), g10, if_pos rfl]
        have hj : ∀ j : Int, j ≠ r → U1 467 j = U 467 j := fun j hj => by rw [g10, if_neg hj]
        have e0 : lFn U U' r = 1 := by
          show (if U 467 r = -1 ∧ U' 467 r ≠ -1 then (1 : Int) else 0) = 1
          rw [er]
          exact if_pos ⟨hg, by omega⟩
        have ec : lSm (lFn U1 U') ((r + 1 : Nat) : Int) n = lSm (lFn U U') ((r + 1 : Nat) : Int) n := lSm_cg n _ (fun j j0 j1 => by
          show (if U1 467 j = -1 ∧ U' 467 j ≠ -1 then (1 : Int) else 0) = (if U 467 j = -1 ∧ U' 467 j ≠ -1 then (1 : Int) else 0)
          rw [hj j (by omega)])
        have ex : lSm (lFn U U') r (n + 1) = 1 + lSm (lFn U1 U') ((r + 1 : Nat) : Int) n := by rw [ls, e0, ec]
        refine ⟨x', V', J', U', I', ?_, i2, fun o ho => ⟨(i3 o ho).1.trans (g3 o ho).1, (i3 o ho).2.trans (g3 o ho).2⟩, i4, lFp_t g6 i5, i6, fun j j0 j1 => i7 j j0 (by rw [e480]; exact j1), fun j hj2 => ?_, fun j j0 j1 => ?_, by rw [ex]; omega, fun i i0 i1' => by have := i11 i i0 i1'; rw [ex]; omega⟩
        · clear ih hB b8 b1 b2 b3
          rw [ze_91_4]
          simp (disch := first | omega | assumption | (simp (disch := omega) only [vup_fn, vup_o, vup_k, vup_at]; first | done | omega | assumption)) only [v5, v42, g1, ze_91_33, ze_91_39, hr1, i1, Int.add_zero, ↓reduceIte, qw_id, zck_T, zck_t, zGor_v, zGor_n, zGor_e, zbs, vup_at, vup_vup, vup_self, vup_o, vup_k, vup_fn, ne_eq, not_true_eq_false, not_false_eq_true, and_true, true_and, and_self, and_false, false_and, or_true, true_or, or_self, or_false, false_or, xlt_t, xlt_f, xle_t, xle_f, xeq_t, xeq_f, xand_f, xor_t]
        · have hne : j ≠ r := fun e => by
            rcases hj2 with w | w
            · omega
            · rw [e] at w
              exact w hg
          rw [i8 j (by rw [hj j hne]; omega), hj j hne]
        · by_cases e : j = r
          · rw [e, er]
            omega
          · have := i9 j (by rw [hj j e]; exact j0) j1
            rw [e480] at this
            exact this
    · obtain ⟨x', V', J', U', I', i1, i2, i3, i4, i5, i6, i7, i8, i9, i10, i11⟩ := ih (r + 1) x c U V I J h hB (by omega) (by omega) hV hD (fun j j0 j1 j2 => by
        by_cases e : j = r
        · rw [e] at j2
          exact absurd j2 hg
        · exact hbl j j0 (by omega) j2)
      have e0 := stay U' i8
      have ex : lSm (lFn U U') r (n + 1) = lSm (lFn U U') ((r + 1 : Nat) : Int) n := by rw [ls, e0, Int.zero_add]
      refine ⟨x', V', J', U', I', ?_, i2, i3, i4, i5, i6, i7, fun j hj => i8 j (by omega), i9, by rw [ex]; exact i10, by rw [ex]; exact i11⟩
      clear ih hB b8 b1 b2 b3
      rw [ze_91_4]
      simp (disch := first | omega | assumption | (simp (disch := omega) only [vup_fn, vup_o, vup_k, vup_at]; first | done | omega | assumption)) only [v5, v42, ze_91_39, hr1, i1, Int.add_zero, ↓reduceIte, qw_id, zck_T, zck_t, zGor_v, zGor_n, zGor_e, zbs, vup_at, vup_vup, vup_self, vup_o, vup_k, vup_fn, ne_eq, not_true_eq_false, not_false_eq_true, and_true, true_and, and_self, and_false, false_and, or_true, true_or, or_self, or_false, false_or, xlt_t, xlt_f, xle_t, xle_f, xeq_t, xeq_f, xand_f, xor_t]
theorem c_planB (h : zInv N U I) (hV : pC U V I J) (hr : 0 ≤ r ∧ r < U 480 52) (hb : oBl U r) : zGo false 92 0 [.ref 0, .int (zi r), .null, .null] [] (zm V J d) = zI1 0 V J d := by
  obtain ⟨g, hg, hcase⟩ := cp92 (d := d) h hV hr
  rcases hcase with ⟨e1, e2⟩ | ⟨e1, t, q, V', J', htq, hf, hfirst, e2, eL, e45, e44, e42, eo, ej⟩
  · exact e2
  · rcases hb g hg with w | w
    · exact absurd w e1
    · exact absurd hf (w t q htq.1.1 htq.1.2 htq.2.1 htq.2.2)
theorem c_planL0 (h : zInv N V J) (hb : ∀ j, 0 ≤ j → j < V 480 52 → V 467 j = -1 → oBl V j) (n : Nat) : ∀ (r : Nat) (x : Int), V 480 52 = r + n → zGo false 91 4 [.ref 0, .int (zi x), .int (zi r)] [] (zm V J d) = zI1 x V J d := by
  obtain ⟨b1, b2, b3, b4, b5, b6, b7, b8⟩ := h.2.2.2.2.2.2.1
  have v5 : V 37 5 = V 480 52 := b6
  have hN := h.2.2.2.2.2.2.2.2.2
  induction n with
  | zero =>
    intro r x hr
    rw [ze_91_4]
    simp (disch := first | omega | assumption | (simp (disch := omega) only [vup_fn, vup_o, vup_k, vup_at]; first | done | omega | assumption)) only [v5, Int.add_zero, ↓reduceIte, qw_id, zck_T, zck_t, zGor_v, zGor_n, zGor_e, zbs, vup_at, vup_vup, vup_self, vup_o, vup_k, vup_fn, ne_eq, not_true_eq_false, not_false_eq_true, and_true, true_and, and_self, and_false, false_and, or_true, true_or, or_self, or_false, false_or, xlt_t, xlt_f, xle_t, xle_f, xeq_t, xeq_f, xand_f, xor_t]
  | succ n ih =>
    intro r x hr
    have hr1 : ((r : Nat) : Int) + 1 = ((r + 1 : Nat) : Int) := by omega
    have i1 := ih (r + 1) x (by omega)
    obtain ⟨q1, q2, q3, q4, q5, q6, q7, q8, q9⟩ := b8 r (by omega) (by omega)
    have v42 : V 42 r = V 467 r := q5
    by_cases hg : V 467 r = -1
    · have g1 := c_planB (d := d) h (pC_r (V := V) (J := J)) (r := r) ⟨by omega, by omega⟩ (hb r (by omega) (by omega) hg)
      clear ih hb b8 b1 b2 b3
      rw [ze_91_4]
      simp (disch := first | omega | assumption | (simp (disch := omega) only [vup_fn, vup_o, vup_k, vup_at]; first | done | omega | assumption)) only [v5, v42, g1, ze_91_33, ze_91_39, hr1, i1, Int.add_zero, ↓reduceIte, qw_id, zck_T, zck_t, zGor_v, zGor_n, zGor_e, zbs, vup_at, vup_vup, vup_self, vup_o, vup_k, vup_fn, ne_eq, not_true_eq_false, not_false_eq_true, and_true, true_and, and_self, and_false, false_and, or_true, true_or, or_self, or_false, false_or, xlt_t, xlt_f, xle_t, xle_f, xeq_t, xeq_f, xand_f, xor_t]
    · clear ih hb b8 b1 b2 b3
      rw [ze_91_4]
      simp (disch := first | omega | assumption | (simp (disch := omega) only [vup_fn, vup_o, vup_k, vup_at]; first | done | omega | assumption)) only [v5, v42, ze_91_39, hr1, i1, Int.add_zero, ↓reduceIte, qw_id, zck_T, zck_t, zGor_v, zGor_n, zGor_e, zbs, vup_at, vup_vup, vup_self, vup_o, vup_k, vup_fn, ne_eq, not_true_eq_false, not_false_eq_true, and_true, true_and, and_self, and_false, false_and, or_true, true_or, or_self, or_false, false_or, xlt_t, xlt_f, xle_t, xle_f, xeq_t, xeq_f, xand_f, xor_t]
theorem c_plan0 (h : zInv N V J) (hb : ∀ j, 0 ≤ j → j < V 480 52 → V 467 j = -1 → oBl V j) : wvirt 91 (zm V J d) = some (zi 0, zm V J d) := by
  obtain ⟨b1, b2, b3, b4, b5, b6, b7, b8⟩ := h.2.2.2.2.2.2.1
  have e := c_planL0 (d := d) h hb (V 480 52).toNat 0 0 (by omega)
  exact ws_v (L := [.ref 0, .null, .null]) rfl (by rw [ze_91_0]; exact e)
theorem c_plan {c : Int} (h : zInv N V J) (hN : 2 ≤ N) (hD : lDs V) (hB : ∀ i, 0 ≤ i → i < 5760 → V 47 i ≤ c) (hc : 0 ≤ c ∧ c ≤ 40) : ∃ x V' J', wvirt 91 (zm V J d) = some (zi x, zm V' J' d) ∧ zInv N V' J' ∧ lFp V V' ∧ lDs V' ∧ (∀ j, 0 ≤ j → j < V 480 52 → V' 467 j = -1 → oBl V' j) ∧ (∀ j, V 467 j ≠ -1 → V' 467 j = V 467 j) ∧ (∀ j, V 467 j = -1 → V' 467 j ≠ -1 → V' 467 j / 100 = V 480 46) ∧ x = lSm (lFn V V') 0 (V 480 52).toNat ∧ ∀ i, 0 ≤ i → i < 5760 → V' 47 i ≤ c + x := by
  obtain ⟨b1, b2, b3, b4, b5, b6, b7, b8⟩ := h.2.2.2.2.2.2.1
  have h37 := h.2.2.2.1
  obtain ⟨x, V1, J1, U', I', i1, i2, i3, i4, i5, i6, i7, i8, i9, i10, i11⟩ := c_planL (N := N) d (V 480 52).toNat 0 0 c V V J J h hB (by omega) (by omega) pC_r hD (fun j j0 j1 => by omega)
  have hm : ∀ o : Nat, ¬(7 ≤ o ∧ o ≤ 36) → mixV V1 U' o = U' o := fun o ho => by
    by_cases e : o < 432
    · rw [mixV_l e]
      by_cases e2 : 430 ≤ o
      · rw [(i3 o e2).1]
        exact (i5.1 o (by omega) (by omega) (by omega) (by omega) ho (by omega) (by omega) (by omega) (by omega)).symm
      · exact i2.1 o (by omega)
    · exact mixV_r (by omega)
  have hf2 : lFp U' (mixV V1 U') := ⟨fun o _ _ _ _ h5 _ _ _ _ => hm o h5, ⟨fun x hx => by rw [hm 461 (by omega)]; exact hx, fun x hx => by rw [hm 461 (by omega)] at hx; exact hx⟩, fun x hx => by rw [hm 462 (by omega)]; exact hx⟩
  have m467 := hm 467 (by omega)
  have e480 := i5.1 480 (by omega) (by omega) (by omega) (by omega) (by omega) (by omega) (by omega) (by omega) (by omega)
  have lf : ∀ j, lFn V (mixV V1 U') j = lFn V U' j := fun j => by
    show (if V 467 j = -1 ∧ mixV V1 U' 467 j ≠ -1 then (1 : Int) else 0) = _
    rw [m467]
  have ls : lSm (lFn V (mixV V1 U')) 0 (V 480 52).toNat = lSm (lFn V U') ((0 : Nat) : Int) (V 480 52).toNat := lSm_cg _ _ (fun j _ _ => lf j)
  refine ⟨x, mixV V1 U', mixJ J1 I', ?_, zInv_mix i4 i2, lFp_t i5 hf2, ?_, fun j j0 j1 j2 => ?_, fun j hj => ?_, fun j j0 j1 => ?_, by rw [ls, i10, Int.zero_add], fun i i0 i1' => ?_⟩
  · rw [← zm_mix]
    exact ws_v (L := [.ref 0, .null, .null]) rfl (by rw [ze_91_0]; exact i1)
  · unfold lDs
    rw [m467, hm 461 (by omega), hm 480 (by omega)]
    exact i6
  · rw [m467] at j2
    exact oBl_fr hf2 (by rw [e480]; exact h37.1.2) (i7 j j0 j1 j2)
  · rw [m467]
    exact i8 j (Or.inr hj)
  · rw [m467] at j1 ⊢
    exact i9 j j0 j1
  · rw [hm 47 (by omega)]
    have := i11 i i0 i1'
    omega
end
