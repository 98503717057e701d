/-! part 99o: what the class answers to the law: more questions -/
def fchk (n : Nat) : Bool := (decide (FP.fmul (FP.i2f (zi n)) (UInt32.ofNat 1097859072) &&& 0x7fffffff ≤ 0x7f800000)) && (decide (FP.fdiv (FP.fmul (FP.i2f (zi n)) (UInt32.ofNat 1097859072)) (FP.i2f (zi 60)) &&& 0x7fffffff ≤ 0x7f800000) && decide (-1 ≤ (FP.f2i (FP.fdiv (FP.fmul (FP.i2f (zi n)) (UInt32.ofNat 1097859072)) (FP.i2f (zi 60)))).toInt))
theorem fchk_all : (List.range 641).all fchk = true := by decide +kernel
theorem fchk_n : (decide (-1 ≤ (FP.f2i (UInt32.ofNat 3212836864)).toInt)) = true := by decide +kernel
theorem oS_01 {f : Int → Int} (h : ∀ b, 0 ≤ f b ∧ f b ≤ 1) : ∀ n : Nat, 0 ≤ oS f n ∧ oS f n ≤ n
  | 0 => ⟨Int.le_refl 0, Int.le_refl 0⟩
  | n + 1 => by
    have e1 := oS_01 h n
    have e2 := h (n : Int)
    show 0 ≤ oS f n + f n ∧ oS f n + f n ≤ ((n + 1 : Nat) : Int)
    omega
section
variable {V V' : zVt} {J J' : zJt} {d : Nat → Nat → UInt64}
theorem ws_f {xs : List Int32} {L : List Value} {x : UInt32} (hL : zent (wC 7) (.ref 0 :: wvals (warg 7 xs)) = L) (h : zGo false 108 0 L [] (zm V J d) = some (.inl (some (.float x)), zm V' J' d)) : wstub 7 xs (zm V J d) = some (FP.f2i x, zm V' J' d) := by
  unfold wstub
  rw [hL, show wC 7 = 108 from rfl, h]
  show (if (zm V' J' d).2.2.1 = (zm V J d).2.2.1 then (wans 7 (.float x)).map _ else none) = _
  rw [if_pos (show (zm V' J' d).2.2.1 = (zm V J d).2.2.1 from rfl)]
  rfl
end
section
variable {V : zVt} {J : zJt} {N a b c t p k s : Int} {d : Nat → Nat → UInt64} {w : Nat}
theorem c_seconds (h : zInv N V J) (hp : (0 ≤ a ∧ a < 3) ∧ (0 ≤ b ∧ b < 4)) (hw : 4 * a + b = w) (hr : V (50 + 15 * w) 2 = 1) : ∃ x : Int, wstub 7 [zi a, zi b, zi 60] (zm V J d) = some (zi x, zm V J d) ∧ -1 ≤ x ∧ x < 2147483648 := by
  have e := cp100r (J := J) (d := d) hp hw hr
  have hB := zBk_part (i := w) (by omega)
  have hB5 := zBk_6music hB
  have hM := cMu_ok h (w := w) (by omega) hr
  unfold cMok at hM
  rw [show 63 + 15 * w = 50 + 15 * w + 13 by omega] at hM
  by_cases f0 : V (50 + 15 * w + 13) 0 = 0
  · obtain ⟨n, hn⟩ : ∃ n : Nat, V (50 + 15 * w + 13) 2 * V (50 + 15 * w + 13) 3 = n := ⟨(V (50 + 15 * w + 13) 2 * V (50 + 15 * w + 13) 3).toNat, by
      have := Int.mul_nonneg hM.2.2.1.1 hM.2.2.2.2.1.1
      omega⟩
    have hn2 : n < 641 := by
      have h1 := Int.mul_le_mul hM.2.2.1.2 hM.2.2.2.2.1.2 hM.2.2.2.2.1.1 (by decide)
      omega
    have hc := List.all_eq_true.mp fchk_all n (List.mem_range.mpr hn2)
    unfold fchk at hc
    simp only [Bool.and_eq_true, decide_eq_true_eq] at hc
    obtain ⟨c1, c2, c3⟩ := hc
    refine ⟨(FP.f2i (FP.fdiv (FP.fmul (FP.i2f (zi n)) (UInt32.ofNat 1097859072)) (FP.i2f (zi 60)))).toInt, ?_, c3, Int32.toInt_lt _⟩
    rw [zi_to]
    refine ws_f (L := [.ref 0, .int (zi a), .int (zi b), .int (zi 60), .null]) rfl ?_
    rw [← hn] at c1 c2 ⊢
    simp (disch := first | omega | assumption | (simp (disch := omega) only [vup_fn, vup_o, vup_k, vup_at]; first | done | omega | assumption)) only [ze_108_0, ze_108_6, ze_108_24, e, c1, c2, Int.add_zero, ↓reduceIte, qw_id, zck_T, zck_t, zGor_v, zGor_n, zGor_e, zbs, vup_at, vup_vup, vup_self, vup_o, vup_k, vup_fn, ne_eq, not_true_eq_false, not_false_eq_true, and_true, true_and, and_self, and_false, false_and, or_true, true_or, or_self, or_false, false_or, xlt_t, xlt_f, xle_t, xle_f, xeq_t, xeq_f, xand_f, xor_t]
  · refine ⟨(FP.f2i (UInt32.ofNat 3212836864)).toInt, ?_, of_decide_eq_true fchk_n, Int32.toInt_lt _⟩
    rw [zi_to]
    refine ws_f (L := [.ref 0, .int (zi a), .int (zi b), .int (zi 60), .null]) rfl ?_
    simp (disch := first | omega | assumption | (simp (disch := omega) only [vup_fn, vup_o, vup_k, vup_at]; first | done | omega | assumption)) only [ze_108_0, ze_108_6, ze_108_24, e, Int.add_zero, ↓reduceIte, qw_id, zck_T, zck_t, zGor_v, zGor_n, zGor_e, zbs, vup_at, vup_vup, vup_self, vup_o, vup_k, vup_fn, ne_eq, not_true_eq_false, not_false_eq_true, and_true, true_and, and_self, and_false, false_and, or_true, true_or, or_self, or_false, false_or, xlt_t, xlt_f, xle_t, xle_f, xeq_t, xeq_f, xand_f, xor_t]
theorem cDf_sym (M1 M2 : Nat) (b : Int) : cDf V J M1 M2 b = cDf V J M2 M1 b := by
  unfold cDf
  by_cases q : (b < V M1 2 ∧ b < V M2 2) ∧ J (M1 + 1) (2 * b) = J (M2 + 1) (2 * b) ∧ J (M1 + 1) (2 * b + 1) = J (M2 + 1) (2 * b + 1)
  · rw [if_pos q, if_pos ⟨⟨q.1.2, q.1.1⟩, q.2.1.symm, q.2.2.symm⟩]
  · rw [if_neg q, if_neg (fun r => q ⟨⟨r.1.2, r.1.1⟩, r.2.1.symm, r.2.2.symm⟩)]
theorem cUn_sym (M1 M2 : Nat) : ∀ n : Nat, cUn V J M1 M2 n = cUn V J M2 M1 n
  | 0 => rfl
  | n + 1 => by
    show cUn V J M1 M2 n + cDf V J M1 M2 n = cUn V J M2 M1 n + cDf V J M2 M1 n
    rw [cUn_sym M1 M2 n, cDf_sym]
theorem cUn_self (M : Nat) : ∀ n : Nat, (n : Int) ≤ V M 2 → cUn V J M M n = 0
  | 0, _ => rfl
  | n + 1, h => by
    show cUn V J M M n + cDf V J M M n = 0
    rw [cUn_self M n (by omega)]
    unfold cDf
    rw [if_pos ⟨⟨by omega, by omega⟩, rfl, rfl⟩]
    rfl
/-- in how many bars copies a and b are not alike, as differ tells it -/
def cDif (V : zVt) (J : zJt) (a b : Int) : Int := if V (233 + 5 * a.toNat) 0 = 0 ∧ V (233 + 5 * b.toNat) 0 = 0 then cUn V J (233 + 5 * a.toNat) (233 + 5 * b.toNat) (cMx (V (233 + 5 * a.toNat) 2) (V (233 + 5 * b.toNat) 2)).toNat else -103
theorem cDif_sym (a b : Int) : cDif V J a b = cDif V J b a := by
  unfold cDif
  by_cases q : V (233 + 5 * a.toNat) 0 = 0 ∧ V (233 + 5 * b.toNat) 0 = 0
  · rw [if_pos q, if_pos ⟨q.2, q.1⟩, cUn_sym]
    congr 2
    unfold cMx
    split <;> split <;> omega
  · rw [if_neg q, if_neg (fun r => q ⟨r.2, r.1⟩)]
theorem cDif_self (h : 0 ≤ V (233 + 5 * a.toNat) 2) : cDif V J a a = if V (233 + 5 * a.toNat) 0 = 0 then 0 else -103 := by
  unfold cDif
  by_cases q : V (233 + 5 * a.toNat) 0 = 0
  · rw [if_pos ⟨q, q⟩, if_pos q]
    refine cUn_self _ _ ?_
    unfold cMx
    split <;> omega
  · rw [if_neg (fun r => q r.1), if_neg q]
theorem c_differ (h : zInv N V J) (hpa : 0 ≤ a ∧ a < V 480 37) (hpb : 0 ≤ b ∧ b < V 480 37) (hw : V 454 a = V 454 b) : wstub 17 [zi a, zi b] (zm V J d) = some (zi (cDif V J a b), zm V J d) := by
  have h37 := h.2.2.2.1
  have ea := cp112 (d := d) h (c := a) (by omega)
  have eb := cp112 (d := d) h (c := b) (by omega)
  rw [if_pos hpa] at ea
  rw [if_pos hpb] at eb
  have hBa := zBk_copy (i := a.toNat) (by omega)
  have hBb := zBk_copy (i := b.toNat) (by omega)
  have hMa := zBk_0music hBa
  have hMb := zBk_0music hBb
  have fa : 230 + 5 * a.toNat + 3 = 233 + 5 * a.toNat := by omega
  have fb : 230 + 5 * b.toNat + 3 = 233 + 5 * b.toNat := by omega
  rw [fa] at hMa
  rw [fb] at hMb
  obtain ⟨a1, a2, a3, a4, a5⟩ := iCp_ms h hpa
  obtain ⟨b1, b2, b3, b4, b5⟩ := iCp_ms h hpb
  have ka := iMs_mok h (by omega) a1
  have kb := iMs_mok h (by omega) b1
  unfold cMok at ka kb
  have e39 := sp39 (V := V) (J := J) (d := d) hMa hMb (by omega) (by omega)
  unfold cDif
  by_cases hf : V (233 + 5 * a.toNat) 0 = 0
  · by_cases hg : V (233 + 5 * b.toNat) 0 = 0
    · rw [if_pos ⟨hf, hg⟩]
      refine ws_i (C := 122) (L := [.ref 0, .int (zi a), .int (zi b), .null, .null]) rfl rfl (by decide) ?_
      simp (disch := first | omega | assumption | (simp (disch := omega) only [vup_fn, vup_o, vup_k, vup_at]; first | done | omega | assumption)) only [ze_122_0, ze_122_5, ze_122_11, ze_122_56, ze_122_78, ea, eb, fa, fb, e39, Int.add_zero, ↓reduceIte, qw_id, zck_T, zck_t, zGor_v, zGor_n, zGor_e, zbs, vup_at, vup_vup, vup_self, vup_o, vup_k, vup_fn, ne_eq, not_true_eq_false, not_false_eq_true, and_true, true_and, and_self, and_false, false_and, or_true, true_or, or_self, or_false, false_or, xlt_t, xlt_f, xle_t, xle_f, xeq_t, xeq_f, xand_f, xor_t]
    · rw [if_neg (fun r => hg r.2)]
      refine (ws_e (s := 17) (e := 2) (C := 122) (L := [.ref 0, .int (zi a), .int (zi b), .null, .null]) rfl rfl (by decide) ?_).trans (by rw [wz101.2.2])
      simp (disch := first | omega | assumption | (simp (disch := omega) only [vup_fn, vup_o, vup_k, vup_at]; first | done | omega | assumption)) only [ze_122_0, ze_122_5, ze_122_11, ze_122_56, ze_122_78, ea, eb, fa, fb, Int.add_zero, ↓reduceIte, qw_id, zck_T, zck_t, zGor_v, zGor_n, zGor_e, zbs, vup_at, vup_vup, vup_self, vup_o, vup_k, vup_fn, ne_eq, not_true_eq_false, not_false_eq_true, and_true, true_and, and_self, and_false, false_and, or_true, true_or, or_self, or_false, false_or, xlt_t, xlt_f, xle_t, xle_f, xeq_t, xeq_f, xand_f, xor_t]
  · rw [if_neg (fun r => hf r.1)]
    refine (ws_e (s := 17) (e := 2) (C := 122) (L := [.ref 0, .int (zi a), .int (zi b), .null, .null]) rfl rfl (by decide) ?_).trans (by rw [wz101.2.2])
    simp (disch := first | omega | assumption | (simp (disch := omega) only [vup_fn, vup_o, vup_k, vup_at]; first | done | omega | assumption)) only [ze_122_0, ze_122_5, ze_122_11, ze_122_56, ze_122_78, ea, eb, fa, fb, Int.add_zero, ↓reduceIte, qw_id, zck_T, zck_t, zGor_v, zGor_n, zGor_e, zbs, vup_at, vup_vup, vup_self, vup_o, vup_k, vup_fn, ne_eq, not_true_eq_false, not_false_eq_true, and_true, true_and, and_self, and_false, false_and, or_true, true_or, or_self, or_false, false_or, xlt_t, xlt_f, xle_t, xle_f, xeq_t, xeq_f, xand_f, xor_t]
theorem c_clashes (h : zInv N V J) (hp : 0 ≤ p ∧ p < 3) (hb : 0 ≤ b ∧ b < 40) {Y : Int → Int} (hY : ∀ b, (Y b = 0 ∨ Y b = 1) ∧ (Y b = 1 ↔ qU V p b)) : wstub 18 [zi p, zi b] (zm V J d) = some (zi (oS (fun k => qC V J p b k (Y b)) 4), zm V J d) := by
  have e124 := sp124 (V := V) (J := J) (d := d) (a := p) (by omega)
  rw [if_pos hp] at e124
  have e := sl123 h hp hb (hY b) d 4 0 (by omega) (by omega)
  rw [show oS (fun k => qC V J p b k (Y b)) (0 : Int).toNat = 0 from rfl] at e
  refine ws_i (C := 123) (L := [.ref 0, .int (zi p), .int (zi b), .null, .null]) rfl rfl (by decide) ?_
  simp (disch := first | omega | assumption | (simp (disch := omega) only [vup_fn, vup_o, vup_k, vup_at]; first | done | omega | assumption)) only [ze_123_0, ze_123_5, ze_123_15, e124, e, Int.add_zero, ↓reduceIte, qw_id, zck_T, zck_t, zGor_v, zGor_n, zGor_e, zbs, vup_at, vup_vup, vup_self, vup_o, vup_k, vup_fn, ne_eq, not_true_eq_false, not_false_eq_true, and_true, true_and, and_self, and_false, false_and, or_true, true_or, or_self, or_false, false_or, xlt_t, xlt_f, xle_t, xle_f, xeq_t, xeq_f, xand_f, xor_t]
theorem c_clashesOf (h : zInv N V J) (hp : 0 ≤ p ∧ p < 3) (hk : 0 ≤ k ∧ k ≤ 3) {Y : Int → Int} (hY : ∀ b, (Y b = 0 ∨ Y b = 1) ∧ (Y b = 1 ↔ qU V p b)) : wstub 19 [zi p, zi k] (zm V J d) = some (zi (oS (fun b => qC V J p b k (Y b)) 40), zm V J d) := by
  have e124 := sp124 (V := V) (J := J) (d := d) (a := p) (by omega)
  rw [if_pos hp] at e124
  have c := sl128 h hp hk hY d 40 0 (by omega) (by omega)
  rw [show oS (fun b => qC V J p b k (Y b)) (0 : Int).toNat = 0 from rfl] at c
  refine ws_i (C := 128) (L := [.ref 0, .int (zi p), .int (zi k), .null, .null]) rfl rfl (by decide) ?_
  simp (disch := first | omega | assumption | (simp (disch := omega) only [vup_fn, vup_o, vup_k, vup_at]; first | done | omega | assumption)) only [ze_128_0, ze_128_5, ze_128_14, e124, c, Int.add_zero, ↓reduceIte, qw_id, zck_T, zck_t, zGor_v, zGor_n, zGor_e, zbs, vup_at, vup_vup, vup_self, vup_o, vup_k, vup_fn, ne_eq, not_true_eq_false, not_false_eq_true, and_true, true_and, and_self, and_false, false_and, or_true, true_or, or_self, or_false, false_or, xlt_t, xlt_f, xle_t, xle_f, xeq_t, xeq_f, xand_f, xor_t]
theorem c_learned (h : zInv N V J) (hs : 0 ≤ s ∧ s < 12) (hp : (0 ≤ a ∧ a < 3) ∧ 0 ≤ c ∧ c < 4) (hb : 0 ≤ b ∧ b < 40) : wstub 23 [zi s, zi a, zi c, zi b] (zm V J d) = some (zi (V 47 ((s * 12 + (a * 4 + c)) * 40 + b)), zm V J d) := by
  have e133 := sp133 (V := V) (J := J) (d := d) (s := s) (a := a) (c := c) (by omega) (by omega) (by omega)
  rw [if_pos ⟨hs, hp⟩] at e133
  have e22 := sp22 (V := V) (J := J) (d := d) hs (w := a * 4 + c) (by omega) hb
  refine ws_i (C := 132) (L := [.ref 0, .int (zi s), .int (zi a), .int (zi c), .int (zi b)]) rfl rfl (by decide) ?_
  simp (disch := first | omega | assumption | (simp (disch := omega) only [vup_fn, vup_o, vup_k, vup_at]; first | done | omega | assumption)) only [ze_132_0, ze_132_7, ze_132_19, ze_132_45, e133, e22, Int.add_zero, ↓reduceIte, qw_id, zck_T, zck_t, zGor_v, zGor_n, zGor_e, zbs, vup_at, vup_vup, vup_self, vup_o, vup_k, vup_fn, ne_eq, not_true_eq_false, not_false_eq_true, and_true, true_and, and_self, and_false, false_and, or_true, true_or, or_self, or_false, false_or, xlt_t, xlt_f, xle_t, xle_f, xeq_t, xeq_f, xand_f, xor_t]
theorem c_misled (h : zInv N V J) (hs : 0 ≤ s ∧ s < 12) (hp : (0 ≤ a ∧ a < 3) ∧ 0 ≤ c ∧ c < 4) : ∃ x : Int, wstub 24 [zi s, zi a, zi c] (zm V J d) = some (zi x, zm V J d) ∧ 0 ≤ x ∧ x ≤ 40 := by
  have e133 := sp133 (V := V) (J := J) (d := d) (s := s) (a := a) (c := c) (by omega) (by omega) (by omega)
  rw [if_pos ⟨hs, hp⟩] at e133
  obtain ⟨w, hw⟩ : ∃ w : Nat, a * 4 + c = w := ⟨(a * 4 + c).toNat, by omega⟩
  have hw12 : w < 12 := by omega
  have hwt : ((w : Nat) : Int).toNat = w := by omega
  have hBM := zBk_6music (zBk_part hw12)
  have e23 := sl23 (d := d) h hs hw12 40 0 (by omega) (by omega)
  rw [show oS (oMi V J s w (50 + 15 * w + 13)) (0 : Int).toNat = 0 from rfl] at e23
  have hr := oS_01 (f := oMi V J s w (50 + 15 * w + 13)) (fun b => by unfold oMi; split <;> omega) 40
  refine ⟨oS (oMi V J s w (50 + 15 * w + 13)) 40, ?_, hr.1, hr.2⟩
  refine ws_i (C := 134) (L := [.ref 0, .int (zi s), .int (zi a), .int (zi c), .null]) rfl rfl (by decide) ?_
  simp (disch := first | omega | assumption | (simp (disch := omega) only [vup_fn, vup_o, vup_k, vup_at]; first | done | omega | assumption)) only [ze_134_0, ze_134_7, ze_134_34, ze_23_0, e133, hw, hwt, e23, Int.add_zero, ↓reduceIte, qw_id, zck_T, zck_t, zGor_v, zGor_n, zGor_e, zbs, vup_at, vup_vup, vup_self, vup_o, vup_k, vup_fn, ne_eq, not_true_eq_false, not_false_eq_true, and_true, true_and, and_self, and_false, false_and, or_true, true_or, or_self, or_false, false_or, xlt_t, xlt_f, xle_t, xle_f, xeq_t, xeq_f, xand_f, xor_t]
theorem c_judge (h : zInv N V J) (hp : 0 ≤ p ∧ p < 3) : ∃ x : Int, oVd V J p x ∧ wstub 25 [zi p] (zm V J d) = some (zi x, zm V J d) := by
  have e124 := sp124 (V := V) (J := J) (d := d) (a := p) (by omega)
  rw [if_pos hp] at e124
  obtain ⟨x, x1, x2⟩ := sp136 (d := d) h (p := p) (by omega)
  refine ⟨x, x1, ?_⟩
  refine ws_i (C := 135) (L := [.ref 0, .int (zi p)]) rfl rfl (by decide) ?_
  simp (disch := first | omega | assumption | (simp (disch := omega) only [vup_fn, vup_o, vup_k, vup_at]; first | done | omega | assumption)) only [ze_135_0, ze_135_5, ze_135_10, e124, x2, Int.add_zero, ↓reduceIte, qw_id, zck_T, zck_t, zGor_v, zGor_n, zGor_e, zbs, vup_at, vup_vup, vup_self, vup_o, vup_k, vup_fn, ne_eq, not_true_eq_false, not_false_eq_true, and_true, true_and, and_self, and_false, false_and, or_true, true_or, or_self, or_false, false_or, xlt_t, xlt_f, xle_t, xle_f, xeq_t, xeq_f, xand_f, xor_t]
theorem c_done (h : zInv N V J) (hp : 0 ≤ a ∧ a < V 480 52) : wstub 22 [zi a] (zm V J d) = some (zi (V 467 a), zm V J d) := by
  obtain ⟨b1, b2, b3, b4, b5, b6, b7, b8⟩ := h.2.2.2.2.2.2.1
  obtain ⟨c1, c2, c3, c4, c5, c6, c7, c8, c9⟩ := b8 a hp.1 hp.2
  refine ws_i (C := 131) (L := [.ref 0, .int (zi a)]) rfl rfl (by decide) ?_
  rw [← c5]
  simp (disch := first | omega | assumption | (simp (disch := omega) only [vup_fn, vup_o, vup_k, vup_at]; first | done | omega | assumption)) only [ze_131_0, ze_131_15, b6, Int.add_zero, ↓reduceIte, qw_id, zck_T, zck_t, zGor_v, zGor_n, zGor_e, zbs, vup_at, vup_vup, vup_self, vup_o, vup_k, vup_fn, ne_eq, not_true_eq_false, not_false_eq_true, and_true, true_and, and_self, and_false, false_and, or_true, true_or, or_self, or_false, false_or, xlt_t, xlt_f, xle_t, xle_f, xeq_t, xeq_f, xand_f, xor_t]
theorem c_concerts (h : zInv N V J) : wvirt 95 (zm V J d) = some (zi (V 480 59), zm V J d) := by
  rw [← h.2.2.2.2.2.2.2.2.1.1]
  exact ws_v rfl ze_95_0
end
