/-! part 99b: learns of the reference -/
/-- the reference but what a rehearsal changes -/
abbrev pMp (U W : zVt) : Prop := (∀ o : Nat, (o = 431 ∨ o = 432 ∨ (454 ≤ o ∧ o ≤ 460) ∨ (463 ≤ o ∧ o ≤ 466) ∨ o = 468 ∨ o = 469) → W o = U o) ∧ (W 430 37 = U 430 37 ∧ W 430 42 = U 430 42 ∧ W 430 46 = U 430 46 ∧ W 430 52 = U 430 52 ∧ W 430 59 = U 430 59)
section
variable {V W : zVt} {J K : zJt} {N s w b : Int} {d : Nat → Nat → UInt64}
theorem mMus3 (ht : iTxt V) (hc : iCor V) {M w : Nat} {H : Int → Int} (hw : w < 12) (h : iMs V J M w H) (hm : pMp V W) {s e : Int} (hs : 0 ≤ s ∧ s < 5) (he : 0 ≤ e ∧ e < 52) (hH : ∀ c, 0 ≤ c → c < 200 → V 456 (200 * e + c) = H c) :
    ∃ W' K', zGo false 153 0 [.ref 430, .int (zi s), .int (zi w), .int (zi e)] [] (zm W K d) = zI1 (V M 0) W' K' d ∧ mFm s W K W' K' ∧ rMus V J M W' K' s := by
  obtain ⟨n, b, F, A, fa, hx, hg, m1, m2, m3, m4, m5⟩ := h
  obtain ⟨c1, c2, c3, c4, c5⟩ := hc
  rw [c3, c4, c5, c2] at hg m1 m2 m3 m4 m5
  have w431 := hm.1 431 (by omega)
  have w432 := hm.1 432 (by omega)
  have w456 := hm.1 456 (by omega)
  have w457 := hm.1 457 (by omega)
  have w458 := hm.1 458 (by omega)
  have w459 := hm.1 459 (by omega)
  have ht1 := ht.1
  have hx1 := hx
  have hg1 := hg
  unfold yTt at hx1 hg1
  rw [← w431, ← w432] at ht1 hx1
  rw [← w431, ← w432, ← w457, ← w458, ← w459] at hg1
  obtain ⟨V', J', q1, q2, q3, q4, q5, q6, q7, q8⟩ := sm153 (V := W) (J := K) (d := d) ht1 (w := w) (s := s) (e := e) (cnt := V 430 42) (by omega) hs (Or.inr ⟨he, fun c c0 c1 => by rw [w456]; exact hH c c0 c1⟩) hm.2.2.1 hx1 hg1
  rw [w431, w432, w457, w458, w459] at q1 q3 q4 q6
  rw [w431, w432] at q5
  have htk := zt_ok ht.1 (w := (w : Int)) (by omega)
  refine ⟨V', J', by rw [m1]; exact q1, q2, by rw [m1]; exact q3, by rw [m3]; exact q4, ?_, ?_⟩
  · intro w0
    rw [m1] at w0
    rw [m4]
    have hF : F = 0 := by
      by_cases hF : F = 0
      · exact hF
      · exact absurd ((if_pos hF).symm.trans w0) hF
    rw [q5 hF]
    exact (if_neg (fun w' => w' hF)).symm
  · refine ⟨yAll (aP (yTt V w) (V 432 w) n H (V 457) (V 458) (V 459) (V 430 42)) 4, ?_, ?_⟩
    · rw [m3]
      intro j j0 j1
      by_cases hF : F = 0
      · have hP := aP_ok htk hx hF (hg hF)
        generalize aP (yTt V w) (V 432 w) n H (V 457) (V 458) (V 459) (V 430 42) = P at *
        by_cases w7 : yAll P 0 7 = 0
        · have eN : sN P F = yAll P 0 3 := if_neg (by omega)
          rw [eN] at j1
          exact (yAll_cnt hP w7).2.2.2.2.2.1 j j0 j1
        · have eN : sN P F = 0 := if_pos (Or.inr w7)
          omega
      · have eN : sN (aP (yTt V w) (V 432 w) n H (V 457) (V 458) (V 459) (V 430 42)) F = 0 := if_pos (Or.inl hF)
        omega
    · rw [m3]
      intro b' b0 b1
      exact ⟨m5 b' b0 b1, q6 b' b0 b1⟩
theorem m198p (hi : zInv N V J) (hm : pMp V W) {k : Nat} (hk : (k : Int) < V 430 37) {s : Int} (hs : 0 ≤ s ∧ s < 5) : ∃ W' K', zGo false 198 0 [.ref 430, .int (zi s), .int (zi k)] [] (zm W K d) = zI1 (V (233 + 5 * k) 0) W' K' d ∧ mFm s W K W' K' ∧ (∀ o : Nat, o < 430 → W' o = W o ∧ K' o = K o) ∧ K' 474 = K 474 ∧ W' 430 60 = W 430 60 ∧ rMus V J (233 + 5 * k) W' K' s := by
  have h37 := hi.2.2.2.1
  have hmk := (hi.2.2.2.2.1 k (by omega)).1
  obtain ⟨hms, c2, _⟩ := iCp_ms hi (c := k) ⟨by omega, hk⟩
  rw [Int.toNat_natCast] at hms
  obtain ⟨W', K', q1, q2, q3⟩ := mMus3 (d := d) (w := (V 454 k).toNat) (e := k) hi.1 hi.2.1 (by omega) hms hm hs (by omega) (fun x x0 x1 => by rw [(hmk.1 x x0 x1).1, show 231 + 5 * k + 1 = 232 + 5 * k by omega])
  rw [show (((V 454 k).toNat : Nat) : Int) = V 454 k by omega] at q1
  have a454 : W 454 k = V 454 k := by rw [hm.1 454 (by omega)]
  refine ⟨W', K', ?_, q2, fun o ho => ⟨q2.1 o (by omega), q2.2.2.2.2.1 o (by omega) (by omega)⟩, mN5 q2, q2.2.1 60 (by omega), q3⟩
  simp (disch := first | omega | assumption | (simp (disch := omega) only [vup_fn, vup_o, vup_k, vup_at]; first | done | omega | assumption)) only [ze_198_0, ze_198_12, a454, q1, Int.add_zero, ↓reduceIte, qw_id, zck_T, zck_t, zGor_v, zGor_n, zGor_e, zbs, vup_at, vup_vup, vup_self, vup_o, vup_k, vup_fn, ne_eq, not_true_eq_false, not_false_eq_true, and_true, true_and, and_self, and_false, false_and, or_true, true_or, or_self, or_false, false_or, xlt_t, xlt_f, xle_t, xle_f, xeq_t, xeq_f, xand_f, xor_t]
/-- isKnown of the reference -/
theorem m220p (h : zInv N V J) {w : Nat} (hs : 0 ≤ s ∧ s < 12) (hw : w < 12) (hb : 0 ≤ b) (hm : W 472 ((s * 12 + w) * 40 + b) = V 472 ((s * 12 + w) * 40 + b) ∧ W 471 ((s * 12 + w) * 40 + b) = V 471 ((s * 12 + w) * 40 + b) ∧ W 470 ((s * 12 + w) * 40 + b) = V 470 ((s * 12 + w) * 40 + b) ∧ K 468 ((s * 12 + w) * 40 + b) = J 468 ((s * 12 + w) * 40 + b) ∧ K 469 ((s * 12 + w) * 40 + b) = J 469 ((s * 12 + w) * 40 + b)) {M : Nat} {sl : Int} (hsl : 0 ≤ sl ∧ sl < 5) (hM : rMus V J M W K sl) (hb2 : b < V M 2) (h40 : V M 2 ≤ 40) (h0 : V M 0 = 0) (hmt : V M 3 = tN (yTt V w) 2) (h16 : 0 ≤ V M 3 ∧ V M 3 ≤ 16) : zGo false 220 0 [.ref 430, .int (zi s), .int (zi w), .int (zi b), .int (zi sl), .null, .null] [] (zm W K d) = zI1 (oKi V J ((s * 12 + w) * 40 + b) M b) W K d := by
  obtain ⟨k1, k2, k3⟩ := iLrn_f h hs hw (b := b) (by omega)
  have hN := h.2.2.2.2.2.2.2.2.2
  have hix : 40 * (12 * s + (w : Int)) + b = (s * 12 + w) * 40 + b := by omega
  have hir : 0 ≤ (s * 12 + (w : Int)) * 40 + b ∧ (s * 12 + (w : Int)) * 40 + b < 5760 := by omega
  obtain ⟨a472, a471, a470, a468, a469⟩ := hm
  have h450 : W 450 sl = V M 3 := hM.2.2.1 h0
  unfold oKi
  generalize hgi : (s * 12 + (w : Int)) * 40 + b = i at *
  have b472 : W 472 i = V 47 i := by rw [a472]; exact k1.symm
  by_cases c1 : 0 < V 47 i
  · obtain ⟨l1, l2, l3⟩ := k3 c1
    have b471 : W 471 i = V M 3 := by rw [a471, l2, hmt]
    have hq := iLb_eq l3 hM ⟨hb, hb2⟩
    rw [← a468, ← a469, ← a470] at hq
    have y1 : 0 ≤ W 470 i ∧ W 470 i < 65536 := by
      obtain ⟨B, hB, h8, h470⟩ := l3
      rw [a470, h470]
      exact yHr_rng (yBg_b01 B) 16 (by omega)
    have y2 : 0 ≤ W 453 (40 * sl + b) ∧ W 453 (40 * sl + b) < 65536 := by
      rw [rMus_bg hM ⟨hb, hb2⟩]
      exact yHr_rng (yBg_b01 (fun t => cSd J M b t)) 16 (by omega)
    by_cases c2 : K 468 i = K 451 (40 * sl + b)
    · have e2 := lcmp_e c2
      by_cases c3 : K 469 i = K 452 (40 * sl + b)
      · have e3 := lcmp_e c3
        by_cases c4 : W 470 i = W 453 (40 * sl + b)
        · rw [if_pos ⟨⟨c1, hb2⟩, hq.1 ⟨c2, c3, c4⟩⟩]
          simp (disch := first | omega | assumption | (simp (disch := omega) only [vup_fn, vup_o, vup_k, vup_at]; first | done | omega | assumption)) only [ze_220_0, ze_220_106, ze_220_107, hix, b472, b471, h450, e2, e3, Int.add_zero, ↓reduceIte, qw_id, zck_T, zck_t, zGor_v, zGor_n, zGor_e, zbs, vup_at, vup_vup, vup_self, vup_o, vup_k, vup_fn, ne_eq, not_true_eq_false, not_false_eq_true, and_true, true_and, and_self, and_false, false_and, or_true, true_or, or_self, or_false, false_or, xlt_t, xlt_f, xle_t, xle_f, xeq_t, xeq_f, xand_f, xor_t]
        · rw [if_neg (fun q => c4 (hq.2 q.2).2.2)]
          simp (disch := first | omega | assumption | (simp (disch := omega) only [vup_fn, vup_o, vup_k, vup_at]; first | done | omega | assumption)) only [ze_220_0, ze_220_106, ze_220_107, hix, b472, b471, h450, e2, e3, Int.add_zero, ↓reduceIte, qw_id, zck_T, zck_t, zGor_v, zGor_n, zGor_e, zbs, vup_at, vup_vup, vup_self, vup_o, vup_k, vup_fn, ne_eq, not_true_eq_false, not_false_eq_true, and_true, true_and, and_self, and_false, false_and, or_true, true_or, or_self, or_false, false_or, xlt_t, xlt_f, xle_t, xle_f, xeq_t, xeq_f, xand_f, xor_t]
      · rw [if_neg (fun q => c3 (hq.2 q.2).2.1)]
        rcases lcmp_n c3 with e3 | e3
        · simp (disch := first | omega | assumption | (simp (disch := omega) only [vup_fn, vup_o, vup_k, vup_at]; first | done | omega | assumption)) only [ze_220_0, ze_220_106, ze_220_107, hix, b472, b471, h450, e2, e3, Int.add_zero, ↓reduceIte, qw_id, zck_T, zck_t, zGor_v, zGor_n, zGor_e, zbs, vup_at, vup_vup, vup_self, vup_o, vup_k, vup_fn, ne_eq, not_true_eq_false, not_false_eq_true, and_true, true_and, and_self, and_false, false_and, or_true, true_or, or_self, or_false, false_or, xlt_t, xlt_f, xle_t, xle_f, xeq_t, xeq_f, xand_f, xor_t]
        · simp (disch := first | omega | assumption | (simp (disch := omega) only [vup_fn, vup_o, vup_k, vup_at]; first | done | omega | assumption)) only [ze_220_0, ze_220_106, ze_220_107, hix, b472, b471, h450, e2, e3, Int.add_zero, ↓reduceIte, qw_id, zck_T, zck_t, zGor_v, zGor_n, zGor_e, zbs, vup_at, vup_vup, vup_self, vup_o, vup_k, vup_fn, ne_eq, not_true_eq_false, not_false_eq_true, and_true, true_and, and_self, and_false, false_and, or_true, true_or, or_self, or_false, false_or, xlt_t, xlt_f, xle_t, xle_f, xeq_t, xeq_f, xand_f, xor_t]
    · rw [if_neg (fun q => c2 (hq.2 q.2).1)]
      rcases lcmp_n c2 with e2 | e2
      · simp (disch := first | omega | assumption | (simp (disch := omega) only [vup_fn, vup_o, vup_k, vup_at]; first | done | omega | assumption)) only [ze_220_0, ze_220_106, ze_220_107, hix, b472, b471, h450, e2, Int.add_zero, ↓reduceIte, qw_id, zck_T, zck_t, zGor_v, zGor_n, zGor_e, zbs, vup_at, vup_vup, vup_self, vup_o, vup_k, vup_fn, ne_eq, not_true_eq_false, not_false_eq_true, and_true, true_and, and_self, and_false, false_and, or_true, true_or, or_self, or_false, false_or, xlt_t, xlt_f, xle_t, xle_f, xeq_t, xeq_f, xand_f, xor_t]
      · simp (disch := first | omega | assumption | (simp (disch := omega) only [vup_fn, vup_o, vup_k, vup_at]; first | done | omega | assumption)) only [ze_220_0, ze_220_106, ze_220_107, hix, b472, b471, h450, e2, Int.add_zero, ↓reduceIte, qw_id, zck_T, zck_t, zGor_v, zGor_n, zGor_e, zbs, vup_at, vup_vup, vup_self, vup_o, vup_k, vup_fn, ne_eq, not_true_eq_false, not_false_eq_true, and_true, true_and, and_self, and_false, false_and, or_true, true_or, or_self, or_false, false_or, xlt_t, xlt_f, xle_t, xle_f, xeq_t, xeq_f, xand_f, xor_t]
  · rw [if_neg (fun q => c1 q.1.1)]
    simp (disch := first | omega | assumption | (simp (disch := omega) only [vup_fn, vup_o, vup_k, vup_at]; first | done | omega | assumption)) only [ze_220_0, ze_220_106, ze_220_107, hix, b472, Int.add_zero, ↓reduceIte, qw_id, zck_T, zck_t, zGor_v, zGor_n, zGor_e, zbs, vup_at, vup_vup, vup_self, vup_o, vup_k, vup_fn, ne_eq, not_true_eq_false, not_false_eq_true, and_true, true_and, and_self, and_false, false_and, or_true, true_or, or_self, or_false, false_or, xlt_t, xlt_f, xle_t, xle_f, xeq_t, xeq_f, xand_f, xor_t]
end
