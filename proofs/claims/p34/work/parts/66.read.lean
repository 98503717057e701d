/-! part 66: reading on demand; music of the class against music of the reference -/
theorem aP_ext {T : Int → Int} {len n : Int} {H q m v H2 q2 m2 v2 : Int → Int} {cnt cnt2 : Int} (h : ∀ k lo hi b, foi H q m v k lo hi b cnt = foi H2 q2 m2 v2 k lo hi b cnt2) : aP T len n H q m v cnt = aP T len n H2 q2 m2 v2 cnt2 := by
  have eK : aK T H q m v cnt = aK T H2 q2 m2 v2 cnt2 := by
    funext k
    show (if foi H q m v k 4 4 0 cnt = 1 then 4 else tK T k) = if foi H2 q2 m2 v2 k 4 4 0 cnt2 = 1 then 4 else tK T k
    rw [h]
  have eN : aN T H q m v cnt = aN T H2 q2 m2 v2 cnt2 := by
    funext k
    exact h _ _ _ _
  funext o k
  unfold aP
  rw [eK, eN, h, h]
/-- without corrections -/
theorem aP_0 {T : Int → Int} {len n : Int} {H q m v : Int → Int} {cnt : Int} (hc : 0 ≤ cnt) (h : ∀ c, 0 ≤ c → c < cnt → H c = 0) : aP T len n H q m v cnt = aP T len n (fun _ => 0) q m v cnt := aP_ext (fun k lo hi b => by
  rw [foi_more (Int.le_refl 0) hc (fun c c0 c1 => h c c0 c1), foi_more (Int.le_refl 0) hc (fun _ _ _ => rfl)]
  rfl)
theorem aGood_0 {T : Int → Int} {H q m v : Int → Int} {cnt n : Int} (hc : 0 ≤ cnt ∧ cnt ≤ 200) (h : ∀ c, 0 ≤ c → c < 200 → H c = 0) : aGood T H q m v cnt n := ⟨hc, fun c c0 c1 => Or.inl (h c c0 c1), fun c c0 c1 w => absurd (h c c0 (by omega)) w⟩
/-- the end of singing without a fault -/
theorem yAll_cnt {P : zVt} {D : Int → Int} {O : Int → Int → Int} (hP : yTok P D O) (h : yAll P 0 7 = 0) : yCnt P (yAll P) := by
  unfold yAll at h ⊢
  by_cases hs : ySong P 0 7 = 0
  · rw [if_pos hs] at h ⊢
    have hinv : yInv P D (ySong P) := by
      rcases yRun_inv hP 3904 yBeg (Or.inl (yBeg_inv hP)) with w | w
      · exact w
      · exact absurd hs w
    exact yFin_inv hinv hP.2.1.1 h
  · rw [if_neg hs] at h
    exact absurd h hs
/-- what holds of any music of the class -/
def cMok (V : zVt) (M : Nat) : Prop := (0 ≤ V M 0 ∧ V M 0 ≤ 10) ∧ (-1 ≤ V M 1 ∧ V M 1 ≤ 160) ∧ (0 ≤ V M 2 ∧ V M 2 ≤ 40) ∧ (V M 0 ≠ 0 → V M 2 = 0) ∧ (0 ≤ V M 3 ∧ V M 3 ≤ 16) ∧ (V M 0 = 0 → 2 ≤ V M 3)
/-- music M of the class is music s of the reference -/
def rMus (V : zVt) (J : zJt) (M : Nat) (W : zVt) (K : zJt) (s : Int) : Prop := W 448 s = V M 0 ∧ W 449 s = V M 2 ∧ (V M 0 = 0 → W 450 s = V M 3) ∧ ∃ B : Int → Int, (∀ j, 0 ≤ j → j < 16 * V M 2 → yByte (B j)) ∧ ∀ b, 0 ≤ b → b < V M 2 → (∀ r, 0 ≤ r → r < 8 → zby (J (M + 1) (2 * b)) r = B (16 * b + r) ∧ zby (J (M + 1) (2 * b + 1)) r = B (16 * b + r + 8)) ∧ mBar W K (40 * s + b) (fun t => B (16 * b + t))
theorem iMs_ok {V : zVt} {J : zJt} {M w : Nat} {H : Int → Int} (ht : tOk (yTt V w) (V 432 w)) (h : iMs V J M w H) : cMok V M := by
  obtain ⟨n, b, F, A, fa, hx, hg, m1, m2, m3, m4, m5⟩ := h
  obtain ⟨u1, u2, u3, u4, u5, u6, u7⟩ := yTx_rng hx ht
  unfold cMok
  rw [m1, m2, m3, m4]
  by_cases hF : F = 0
  · have hP := aP_ok ht hx hF (hg hF)
    have h8 := yAll_8 hP
    have hc := yAll_cnt hP
    have p7 : ∀ k, aP (yTt V w) (V 432 w) n H (V 4) (V 5) (V 6) (V 3 0) 7 k = yP (yTt V w) k := fun _ => rfl
    have p8 : aP (yTt V w) (V 432 w) n H (V 4) (V 5) (V 6) (V 3 0) 8 3 = V 432 w := rfl
    have p80 : aP (yTt V w) (V 432 w) n H (V 4) (V 5) (V 6) (V 3 0) 8 0 = n := rfl
    generalize aP (yTt V w) (V 432 w) n H (V 4) (V 5) (V 6) (V 3 0) = P at *
    have h7 := yAll_7 P
    have hmt := hP.2.1
    have eF : sF P F = yAll P 0 7 := if_neg (fun w' => w' hF)
    have eA : sA P F fa = if yAll P 0 7 = 0 then -1 else cPl P (yAll P 0 8) := if_neg (fun w' => w' hF)
    have eM : sM P F = P 8 1 := if_neg (fun w' => w' hF)
    rw [eF, eA, eM]
    have hn := ht.1
    by_cases w7 : yAll P 0 7 = 0
    · have eN : sN P F = yAll P 0 3 := if_neg (by omega)
      have c := (hc w7).2.2.2.1
      rw [if_pos w7, eN]
      exact ⟨by omega, by omega, c, fun q => absurd w7 q, by omega, fun _ => hmt.1⟩
    · have eN : sN P F = 0 := if_pos (Or.inr w7)
      have w8 := (h8 w7).2
      rw [if_neg w7, eN]
      refine ⟨by omega, ?_, by omega, fun _ => rfl, by omega, fun q => absurd q w7⟩
      unfold cPl
      split
      · rw [p8]; omega
      · rename_i w9
        rw [p7]
        have := yP_rng hx.1 ht (k := yAll P 0 8) (by omega) (by omega)
        omega
  · have eF : sF (aP (yTt V w) (V 432 w) n H (V 4) (V 5) (V 6) (V 3 0)) F = F := if_pos hF
    have eA : sA (aP (yTt V w) (V 432 w) n H (V 4) (V 5) (V 6) (V 3 0)) F fa = fa := if_pos hF
    have eM : sM (aP (yTt V w) (V 432 w) n H (V 4) (V 5) (V 6) (V 3 0)) F = 0 := if_pos hF
    have eN : sN (aP (yTt V w) (V 432 w) n H (V 4) (V 5) (V 6) (V 3 0)) F = 0 := if_pos (Or.inl hF)
    rw [eF, eA, eM, eN]
    have hn := ht.1
    exact ⟨by omega, by omega, by omega, fun _ => rfl, by omega, fun q => absurd q hF⟩
section
variable {d : Nat → Nat → UInt64}
theorem mFm_pM {s : Int} {V V' : zVt} {J J' : zJt} (h : mFm s V J V' J') : pM V V' J J' := ⟨fun o ho => h.1 o (by omega), ⟨h.2.1 37 (by omega), h.2.1 42 (by omega), h.2.1 46 (by omega), h.2.1 52 (by omega), h.2.1 59 (by omega)⟩, h.2.2.2.2.1 468 (by decide) (by decide), h.2.2.2.2.1 469 (by decide) (by decide)⟩
theorem mFm_pC {s : Int} {V V' : zVt} {J J' : zJt} (h : mFm s V J V' J') : pC V V' J J' := ⟨fun o ho => h.1 o (by omega), fun o ho => h.2.2.2.2.1 o (by omega) (by omega)⟩
theorem cp97 {V : zVt} {J : zJt} {a b : Int} (ha : -2147483648 ≤ a ∧ a < 2147483648) (hb : -2147483648 ≤ b ∧ b < 2147483648) : zGo false 97 0 [.ref 0, .int (zi a), .int (zi b)] [] (zm V J d) = if (0 ≤ a ∧ a < 3) ∧ (0 ≤ b ∧ b < 4) then zR1 (50 + 15 * (4 * a + b).toNat) V J d else zE1 0 V J d := by
  by_cases h1 : a < 0
  · rw [if_neg (by omega)]
    simp (disch := first | omega | assumption | (simp (disch := omega) only [vup_fn, vup_o, vup_k, vup_at]; first | done | omega | assumption)) only [ze_97_0, ze_97_18, Int.add_zero, ↓reduceIte, qw_id, zck_T, zck_t, zGor_v, zGor_n, zGor_e, zbs, vup_at, vup_vup, vup_self, vup_o, vup_k, vup_fn, ne_eq, not_true_eq_false, not_false_eq_true, and_true, true_and, and_self, and_false, false_and, or_true, true_or, or_self, or_false, false_or, xlt_t, xlt_f, xle_t, xle_f, xeq_t, xeq_f, xand_f, xor_t]
  · by_cases h2 : 3 ≤ a
    · rw [if_neg (by omega)]
      simp (disch := first | omega | assumption | (simp (disch := omega) only [vup_fn, vup_o, vup_k, vup_at]; first | done | omega | assumption)) only [ze_97_0, ze_97_18, Int.add_zero, ↓reduceIte, qw_id, zck_T, zck_t, zGor_v, zGor_n, zGor_e, zbs, vup_at, vup_vup, vup_self, vup_o, vup_k, vup_fn, ne_eq, not_true_eq_false, not_false_eq_true, and_true, true_and, and_self, and_false, false_and, or_true, true_or, or_self, or_false, false_or, xlt_t, xlt_f, xle_t, xle_f, xeq_t, xeq_f, xand_f, xor_t]
    · by_cases h3 : b < 0
      · rw [if_neg (by omega)]
        simp (disch := first | omega | assumption | (simp (disch := omega) only [vup_fn, vup_o, vup_k, vup_at]; first | done | omega | assumption)) only [ze_97_0, ze_97_18, Int.add_zero, ↓reduceIte, qw_id, zck_T, zck_t, zGor_v, zGor_n, zGor_e, zbs, vup_at, vup_vup, vup_self, vup_o, vup_k, vup_fn, ne_eq, not_true_eq_false, not_false_eq_true, and_true, true_and, and_self, and_false, false_and, or_true, true_or, or_self, or_false, false_or, xlt_t, xlt_f, xle_t, xle_f, xeq_t, xeq_f, xand_f, xor_t]
      · by_cases h4 : b < 4
        · rw [if_pos (by omega), show 4 * a + b = a * 4 + b by omega]
          simp (disch := first | omega | assumption | (simp (disch := omega) only [vup_fn, vup_o, vup_k, vup_at]; first | done | omega | assumption)) only [ze_97_0, ze_97_18, Int.add_zero, ↓reduceIte, qw_id, zck_T, zck_t, zGor_v, zGor_n, zGor_e, zbs, vup_at, vup_vup, vup_self, vup_o, vup_k, vup_fn, ne_eq, not_true_eq_false, not_false_eq_true, and_true, true_and, and_self, and_false, false_and, or_true, true_or, or_self, or_false, false_or, xlt_t, xlt_f, xle_t, xle_f, xeq_t, xeq_f, xand_f, xor_t]
        · rw [if_neg (by omega)]
          simp (disch := first | omega | assumption | (simp (disch := omega) only [vup_fn, vup_o, vup_k, vup_at]; first | done | omega | assumption)) only [ze_97_0, ze_97_18, Int.add_zero, ↓reduceIte, qw_id, zck_T, zck_t, zGor_v, zGor_n, zGor_e, zbs, vup_at, vup_vup, vup_self, vup_o, vup_k, vup_fn, ne_eq, not_true_eq_false, not_false_eq_true, and_true, true_and, and_self, and_false, false_and, or_true, true_or, or_self, or_false, false_or, xlt_t, xlt_f, xle_t, xle_f, xeq_t, xeq_f, xand_f, xor_t]
/-- nothing of the reference has changed -/
def pK (V V' : zVt) (J J' : zJt) : Prop := (∀ o : Nat, 430 ≤ o → V' o = V o) ∧ ∀ o : Nat, 430 ≤ o → J' o = J o
theorem pK_pM {V V' : zVt} {J J' : zJt} (h : pK V V' J J') : pM V V' J J' := ⟨fun o ho => h.1 o (by omega), ⟨by rw [h.1 480 (by decide)], by rw [h.1 480 (by decide)], by rw [h.1 480 (by decide)], by rw [h.1 480 (by decide)], by rw [h.1 480 (by decide)]⟩, h.2 468 (by decide), h.2 469 (by decide)⟩
theorem cp100 {N : Int} {V : zVt} {J : zJt} (hi : zInv N V J) {a b : Int} (h : (0 ≤ a ∧ a < 3) ∧ (0 ≤ b ∧ b < 4)) :
    ∃ V' J', zGo false 100 0 [.ref 0, .int (zi a), .int (zi b), .null] [] (zm V J d) = zR1 (50 + 15 * (4 * a + b).toNat) V' J' d ∧ zInv N V' J' ∧ pK V V' J J' ∧ V' (50 + 15 * (4 * a + b).toNat) 2 = 1 ∧ pCw (4 * a + b).toNat V V' J J' := by
  have e97 := cp97 (V := V) (J := J) (d := d) (a := a) (b := b) (by omega) (by omega)
  rw [if_pos h] at e97
  generalize hw : (4 * a + b).toNat = w at *
  have hw12 : w < 12 := by omega
  have hB := zBk_part hw12
  have hp := hi.2.2.1 w hw12
  have hpc := hp
  obtain ⟨a1, a2, a3, a4, a5, a6, a7⟩ := hp
  by_cases hr : V (50 + 15 * w) 2 = 1
  · refine ⟨V, J, ?_, hi, ⟨fun _ _ => rfl, fun _ _ => rfl⟩, hr, ⟨fun _ _ _ => rfl, fun _ _ _ => rfl, rfl, rfl, rfl, rfl, rfl⟩⟩
    rw [ze_100_0]
    simp (disch := first | omega | assumption | (simp (disch := omega) only [vup_fn, vup_o, vup_k, vup_at]; first | done | omega | assumption)) only [e97, ze_100_6, hr, ze_100_73, Int.add_zero, ↓reduceIte, qw_id, zck_T, zck_t, zGor_v, zGor_n, zGor_e, zbs, vup_at, vup_vup, vup_self, vup_o, vup_k, vup_fn, ne_eq, not_true_eq_false, not_false_eq_true, and_true, true_and, and_self, and_false, false_and, or_true, true_or, or_self, or_false, false_or, xlt_t, xlt_f, xle_t, xle_f, xeq_t, xeq_f, xand_f, xor_t]
  · have hr0 : V (50 + 15 * w) 2 = 0 := by omega
    have hpr : V (50 + 15 * w) 3 = 0 := by
      rcases a2 with q | q
      · exact q
      · exact absurd (a7 q).1 hr
    have hH := a5 hpr
    have htx := hi.1.2 w hw12
    have hco := hi.2.1
    have ht := zt_ok hi.1.1 (w := (w : Int)) (by omega)
    have hB10 := zBk_6row hB
    have hB4 := zBk_6marks hB
    have hB5 := zBk_6music hB
    obtain ⟨V1, c, b', F, A, fa, p1, p2, p3⟩ := sp101 (V := V) (J := J) (d := d) (T := yTt V w) (x := 50 + 15 * w + 2) (P := 50 + 15 * w) (n := V 432 w) hB (by omega) hB10 (by omega) htx.1 ht (fun q q0 q1 => by rw [show 50 + 15 * w + 1 = 51 + 15 * w by omega]; exact (htx.2 q q0 q1).trans (if_pos ⟨q0, q1⟩).symm)
    have f62 : V1 (50 + 15 * w + 11 + 1) = V (62 + 15 * w) := by rw [show 50 + 15 * w + 11 + 1 = 62 + 15 * w by omega]; exact p3 _ (by omega)
    have hg : aGood (yTt V w) (V1 (50 + 15 * w + 11 + 1)) (V1 4) (V1 5) (V1 6) (V 3 0) c := by
      rw [f62]
      exact aGood_0 (by rw [hco.2.1]; exact hco.1) hH
    obtain ⟨V2, J2, s1, s2, s3, s4⟩ := sn68 (d := d) (V := V1) (J := J) (T := yTt V w) (x := 50 + 15 * w + 2) (Mk := 50 + 15 * w + 11) (M := 50 + 15 * w + 13) (cnt := V 3 0) hB10 (by omega) hB4 (by omega) hB5 (by omega) p2 ht (by rw [p3 3 (by omega)]) hg
    rw [f62, p3 4 (by omega), p3 5 (by omega), p3 6 (by omega)] at s4
    have hz : aP (yTt V w) (V 432 w) c (V (62 + 15 * w)) (V 4) (V 5) (V 6) (V 3 0) = aP (yTt V w) (V 432 w) c (fun _ => 0) (V 4) (V 5) (V 6) (V 3 0) := aP_0 (by rw [hco.2.1]; exact hco.1.1) (fun c c0 c1 => hH c c0 (by have := hco.1; have := hco.2.1; omega))
    have rd : ∀ o : Nat, o ≠ 50 + 15 * w → vup (vup (vup V2 (50 + 15 * w) 4 (V2 (50 + 15 * w + 13) 0)) (50 + 15 * w) 5 (V2 (50 + 15 * w + 13) 1)) (50 + 15 * w) 2 1 o = V2 o := fun o ho => by
      rw [vup_fn ho, vup_fn ho, vup_fn ho]
    have rf : ∀ o : Nat, ¬((7 ≤ o ∧ o ≤ 25) ∨ o = 50 + 15 * w ∨ (52 + 15 * w ≤ o ∧ o ≤ 60 + 15 * w) ∨ o = 50 + 15 * w + 13) → vup (vup (vup V2 (50 + 15 * w) 4 (V2 (50 + 15 * w + 13) 0)) (50 + 15 * w) 5 (V2 (50 + 15 * w + 13) 1)) (50 + 15 * w) 2 1 o = V o := fun o ho => by
      rw [rd o (by omega), s2 o (by omega), p3 o (by omega)]
    have rp : ∀ k, k ≠ 2 → k ≠ 4 → k ≠ 5 → vup (vup (vup V2 (50 + 15 * w) 4 (V2 (50 + 15 * w + 13) 0)) (50 + 15 * w) 5 (V2 (50 + 15 * w + 13) 1)) (50 + 15 * w) 2 1 (50 + 15 * w) k = V (50 + 15 * w) k := fun k k1 k2 k3 => by
      rw [vup_k k1, vup_k k3, vup_k k2, s2 _ (by omega), p3 _ (by omega)]
    have hk : pK V (vup (vup (vup V2 (50 + 15 * w) 4 (V2 (50 + 15 * w + 13) 0)) (50 + 15 * w) 5 (V2 (50 + 15 * w + 13) 1)) (50 + 15 * w) 2 1) J J2 := ⟨fun o ho => rf o (by omega), fun o ho => s3 o (by omega)⟩
    have hcw : pCw w V (vup (vup (vup V2 (50 + 15 * w) 4 (V2 (50 + 15 * w + 13) 0)) (50 + 15 * w) 5 (V2 (50 + 15 * w + 13) 1)) (50 + 15 * w) 2 1) J J2 := ⟨fun o h1 h2 => rf o (by omega), fun o h1 h2 => s3 o (by omega), rf _ (by omega), rf _ (by omega), rf _ (by omega), rp 1 (by decide) (by decide) (by decide), rp 3 (by decide) (by decide) (by decide)⟩
    refine ⟨vup (vup (vup V2 (50 + 15 * w) 4 (V2 (50 + 15 * w + 13) 0)) (50 + 15 * w) 5 (V2 (50 + 15 * w + 13) 1)) (50 + 15 * w) 2 1, J2, ?_, ?_, hk, vup_at _ _ _ _, hcw⟩
    · rw [ze_100_0]
      simp (disch := first | omega | assumption | (simp (disch := omega) only [vup_fn, vup_o, vup_k, vup_at]; first | done | omega | assumption)) only [e97, ze_100_6, hr0, p1, ze_100_23, s1, ze_100_46, ze_100_73, Int.add_zero, ↓reduceIte, qw_id, zck_T, zck_t, zGor_v, zGor_n, zGor_e, zbs, vup_at, vup_vup, vup_self, vup_o, vup_k, vup_fn, ne_eq, not_true_eq_false, not_false_eq_true, and_true, true_and, and_self, and_false, false_and, or_true, true_or, or_self, or_false, false_or, xlt_t, xlt_f, xle_t, xle_f, xeq_t, xeq_f, xand_f, xor_t]
    · refine zInv_w hw12 (pK_pM hk) hcw hi ?_
      unfold iPart
      rw [rp 3 (by decide) (by decide) (by decide), hcw.2.2.2.2.1, hk.1 480 (by decide), hk.1 454 (by decide), vup_at]
      refine ⟨Or.inr rfl, a2, a3, iMk_fr hcw.2.2.2.1 (by rw [show 61 + 15 * w + 1 = 62 + 15 * w by omega]; exact hcw.2.2.2.2.1) (hk.1 456 (by decide)) (by rw [hk.1 480 (by decide)]) a4, a5, fun _ => ?_, fun q => by omega⟩
      have hrow : ∀ o : Nat, 52 + 15 * w ≤ o → o ≤ 60 + 15 * w → vup (vup (vup V2 (50 + 15 * w) 4 (V2 (50 + 15 * w + 13) 0)) (50 + 15 * w) 5 (V2 (50 + 15 * w + 13) 1)) (50 + 15 * w) 2 1 o = V1 o := fun o h1 h2 => by
        rw [rd o (by omega), s2 o (by omega)]
      have e52 : 50 + 15 * w + 2 = 52 + 15 * w := by omega
      have e63 : 50 + 15 * w + 13 = 63 + 15 * w := by omega
      rw [e52] at p2
      rw [e63] at s4
      have m0 := s4.1
      have m1 := s4.2.1
      rw [hz] at m0 m1
      refine ⟨⟨c, b', F, A, fa, ?_, ?_, ?_⟩, ?_⟩
      · unfold cRow cTok7 yTt at *
        rw [hk.1 481 (by decide), hk.1 432 (by decide), hrow (52 + 15 * w) (by omega) (by omega), hrow (52 + 15 * w + 1) (by omega) (by omega), hrow (52 + 15 * w + 2) (by omega) (by omega), hrow (52 + 15 * w + 3) (by omega) (by omega), hrow (52 + 15 * w + 4) (by omega) (by omega), hrow (52 + 15 * w + 5) (by omega) (by omega), hrow (52 + 15 * w + 6) (by omega) (by omega), hrow (52 + 15 * w + 7) (by omega) (by omega), hrow (52 + 15 * w + 8) (by omega) (by omega)]
        exact p2
      · unfold yTt at *
        rw [hk.1 481 (by decide), hk.1 432 (by decide), rf 3 (by omega), rf 4 (by omega), rf 5 (by omega), rf 6 (by omega), vup_k (by decide), vup_k (by decide), vup_at, e63]
        exact m0
      · unfold yTt at *
        rw [hk.1 481 (by decide), hk.1 432 (by decide), rf 3 (by omega), rf 4 (by omega), rf 5 (by omega), rf 6 (by omega), vup_k (by decide), vup_at, e63]
        exact m1
      · unfold iMs yTt cMus at *
        rw [hk.1 481 (by decide), hk.1 432 (by decide), rf 3 (by omega), rf 4 (by omega), rf 5 (by omega), rf 6 (by omega), hcw.2.2.2.2.1, rd (63 + 15 * w) (by omega)]
        refine ⟨c, b', F, A, fa, p2.1, fun _ => ?_, s4⟩
        exact aGood_0 (by rw [hco.2.1]; exact hco.1) hH
end
