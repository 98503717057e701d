/-! part 90: days, rooms, requests, concerts counted -/
section
variable {V V' : zVt} {J : zJt}
theorem zInv_rh {N : Int} (h : zInv N V J) (hN : N < 600) (hf : ∀ o : Nat, ¬(37 ≤ o ∧ o ≤ 45) → o ≠ 430 → ¬(460 ≤ o ∧ o ≤ 467) → V' o = V o) (h430 : V' 430 37 = V 430 37 ∧ V' 430 42 = V 430 42 ∧ V' 430 59 = V 430 59) (hr : iReh (N + 1) V') : zInv (N + 1) V' J := by
  obtain ⟨a1, a2, a3, a4, a5, a6, a7, a8, a9, a10⟩ := zInv_up h hN
  have fs : ∀ o : Nat, o ≤ 6 → V' o = V o := fun o _ => hf o (by omega) (by omega) (by omega)
  have fp : ∀ o : Nat, 46 ≤ o → o ≤ 429 → V' o = V o := fun o _ _ => hf o (by omega) (by omega) (by omega)
  have fm : ∀ o : Nat, 431 ≤ o → o ≤ 459 → V' o = V o := fun o _ _ => hf o (by omega) (by omega) (by omega)
  have fh : ∀ o : Nat, 468 ≤ o → V' o = V o := fun o _ => hf o (by omega) (by omega) (by omega)
  have f431 := fm 431 (by omega) (by omega)
  have f432 := fm 432 (by omega) (by omega)
  have h4 : V' 4 = V 4 ∧ V' 5 = V 5 ∧ V' 6 = V 6 := ⟨fs 4 (by omega), fs 5 (by omega), fs 6 (by omega)⟩
  have h3 := fs 3 (by omega)
  refine ⟨?_, ?_, ?_, ?_, ?_, ?_, hr, ?_, ?_, a10⟩
  · unfold iTxt at *
    rw [f431, f432]
    refine ⟨a1.1, fun w w1 => ?_⟩
    rw [fp (50 + 15 * w) (by omega) (by omega), fp (51 + 15 * w) (by omega) (by omega)]
    exact a1.2 w w1
  · unfold iCor at *
    rw [h430.2.1, h3, h4.1, h4.2.1, h4.2.2, fm 457 (by omega) (by omega), fm 458 (by omega) (by omega), fm 459 (by omega) (by omega)]
    exact a2
  · intro w w1
    obtain ⟨b1, b2, b3, b4, b5, b6, b7⟩ := a3 w w1
    unfold iPart
    rw [fp (50 + 15 * w) (by omega) (by omega), fp (62 + 15 * w) (by omega) (by omega), h430.1, fm 454 (by omega) (by omega)]
    exact ⟨b1, b2, b3, iMk_fr (fp _ (by omega) (by omega)) (fp _ (by omega) (by omega)) (fm 456 (by omega) (by omega)) h430.2.1 b4, b5, fun q => iRd_fr (fun o h1 h2 => fp o (by omega) (by omega)) rfl f431 f432 h3 h4 (b6 q), b7⟩
  · rw [h430.1, fs 0 (by omega)]
    exact a4
  · intro j j1
    obtain ⟨b1, b2, b3⟩ := a5 j j1
    unfold iCopy
    rw [fm 454 (by omega) (by omega), fm 455 (by omega) (by omega), h430.1, fp (230 + 5 * j) (by omega) (by omega), fp (232 + 5 * j) (by omega) (by omega)]
    refine ⟨iMk_fr (fp _ (by omega) (by omega)) (fp _ (by omega) (by omega)) (fm 456 (by omega) (by omega)) h430.2.1 b1, fun q => ?_, b3⟩
    obtain ⟨c1, c2, c3, c4, c5⟩ := b2 q
    exact ⟨c1, c2, c3, c4, iMs_fr (fp _ (by omega) (by omega)) rfl f431 f432 h3 h4 c5⟩
  · unfold iOne at *
    rw [h430.1, fm 454 (by omega) (by omega), fm 455 (by omega) (by omega)]
    exact a6
  · intro i i0 i1
    obtain ⟨b1, b2, b3⟩ := a8 i i0 i1
    rw [fp 47 (by omega) (by omega), fh 472 (by omega)]
    refine ⟨b1, b2, fun q => ?_⟩
    obtain ⟨c1, c2, c3⟩ := b3 q
    rw [yTt_fr f431 f432]
    unfold iLb at *
    rw [fh 471 (by omega), fh 470 (by omega), fp (50 + 15 * (i / 40 % 12).toNat) (by omega) (by omega)]
    exact ⟨c1, c2, c3⟩
  · rw [fs 0 (by omega), h430.2.2]
    exact a9
end
section
variable {V : zVt} {J : zJt} {N a b c e : Int}
theorem sl64r {d : Nat → Nat → UInt64} {t : Int} (ht : 0 ≤ t ∧ t < 4) (n : Nat) : ∀ (V : zVt) (r : Int), 0 ≤ r → 4 = r + n → ∃ V', zGo false 64 26 [.ref 37, .int (zi t), .int (zi r)] [] (zm V J d) = zGo false 64 12 [.ref 37, .int (zi (t + 1)), .int (zi 4)] [] (zm V' J d) ∧ (∀ x, V' 44 x = if t * 4 + r ≤ x ∧ x < t * 4 + 4 then 0 else V 44 x) ∧ ∀ o : Nat, o ≠ 44 → V' o = V o := by
  induction n with
  | zero =>
    intro V r r0 hr
    obtain rfl : r = 4 := by omega
    refine ⟨V, ?_, fun x => by rw [if_neg (by omega)], fun _ _ => rfl⟩
    rw [ze_64_26]
    simp (disch := first | omega | assumption | (simp (disch := omega) only [vup_fn, vup_o, vup_k, vup_at]; first | done | omega | assumption)) only [Int.add_zero, ↓reduceIte, qw_id, zck_T, zck_t, zGor_v, zGor_n, zGor_e, zbs, vup_at, vup_vup, vup_self, vup_o, vup_k, vup_fn, ne_eq, not_true_eq_false, not_false_eq_true, and_true, true_and, and_self, and_false, false_and, or_true, true_or, or_self, or_false, false_or, xlt_t, xlt_f, xle_t, xle_f, xeq_t, xeq_f, xand_f, xor_t]
  | succ n ih =>
    intro V r r0 hr
    obtain ⟨V', e1, e2, e3⟩ := ih (vup V 44 (t * 4 + r) 0) (r + 1) (by omega) (by omega)
    refine ⟨V', ?_, fun x => ?_, fun o ho => by rw [e3 o ho, vup_fn ho]⟩
    · rw [ze_64_26]
      simp (disch := first | omega | assumption | (simp (disch := omega) only [vup_fn, vup_o, vup_k, vup_at]; first | done | omega | assumption)) only [e1, Int.add_zero, ↓reduceIte, qw_id, zck_T, zck_t, zGor_v, zGor_n, zGor_e, zbs, vup_at, vup_vup, vup_self, vup_o, vup_k, vup_fn, ne_eq, not_true_eq_false, not_false_eq_true, and_true, true_and, and_self, and_false, false_and, or_true, true_or, or_self, or_false, false_or, xlt_t, xlt_f, xle_t, xle_f, xeq_t, xeq_f, xand_f, xor_t]
    · rw [e2]
      by_cases q : x = t * 4 + r
      · rw [if_neg (by omega), if_pos (by omega), q, vup_at]
      · rw [vup_k q]
        by_cases q2 : t * 4 + (r + 1) ≤ x ∧ x < t * 4 + 4
        · rw [if_pos q2, if_pos (by omega)]
        · rw [if_neg q2, if_neg (by omega)]
theorem sl64t {d : Nat → Nat → UInt64} (n : Nat) : ∀ (V : zVt) (t : Int) (x2 : Value), 0 ≤ t → 4 = t + n → ∃ V', zGo false 64 12 [.ref 37, .int (zi t), x2] [] (zm V J d) = zI1 (V 37 7) V' J d ∧ (∀ x, V' 44 x = if t * 4 ≤ x ∧ x < 16 then 0 else V 44 x) ∧ (∀ x, V' 45 x = if t ≤ x ∧ x < 4 then 0 else V 45 x) ∧ ∀ o : Nat, o ≠ 44 → o ≠ 45 → V' o = V o := by
  induction n with
  | zero =>
    intro V t x2 t0 ht
    obtain rfl : t = 4 := by omega
    refine ⟨V, ?_, fun x => by rw [if_neg (by omega)], fun x => by rw [if_neg (by omega)], fun _ _ _ => rfl⟩
    rw [ze_64_12]
    simp (disch := first | omega | assumption | (simp (disch := omega) only [vup_fn, vup_o, vup_k, vup_at]; first | done | omega | assumption)) only [Int.add_zero, ↓reduceIte, qw_id, zck_T, zck_t, zGor_v, zGor_n, zGor_e, zbs, vup_at, vup_vup, vup_self, vup_o, vup_k, vup_fn, ne_eq, not_true_eq_false, not_false_eq_true, and_true, true_and, and_self, and_false, false_and, or_true, true_or, or_self, or_false, false_or, xlt_t, xlt_f, xle_t, xle_f, xeq_t, xeq_f, xand_f, xor_t]
  | succ n ih =>
    intro V t x2 t0 ht
    obtain ⟨V1, g1, g2, g3⟩ := sl64r (J := J) (d := d) (t := t) (by omega) 4 (vup V 45 t 0) 0 (by omega) (by omega)
    obtain ⟨V', e1, e2, e3, e4⟩ := ih V1 (t + 1) (.int (zi 4)) (by omega) (by omega)
    rw [g3 37 (by omega), vup_o (by omega)] at e1
    refine ⟨V', ?_, fun x => ?_, fun x => ?_, fun o h1 h2 => by rw [e4 o h1 h2, g3 o h1, vup_fn h2]⟩
    · rw [ze_64_12]
      simp (disch := first | omega | assumption | (simp (disch := omega) only [vup_fn, vup_o, vup_k, vup_at]; first | done | omega | assumption)) only [g1, e1, Int.add_zero, ↓reduceIte, qw_id, zck_T, zck_t, zGor_v, zGor_n, zGor_e, zbs, vup_at, vup_vup, vup_self, vup_o, vup_k, vup_fn, ne_eq, not_true_eq_false, not_false_eq_true, and_true, true_and, and_self, and_false, false_and, or_true, true_or, or_self, or_false, false_or, xlt_t, xlt_f, xle_t, xle_f, xeq_t, xeq_f, xand_f, xor_t]
    · rw [e2, g2, vup_o (by omega)]
      by_cases q : (t + 1) * 4 ≤ x ∧ x < 16
      · rw [if_pos q, if_pos (by omega)]
      · rw [if_neg q]
        by_cases q2 : t * 4 + 0 ≤ x ∧ x < t * 4 + 4
        · rw [if_pos q2, if_pos (by omega)]
        · rw [if_neg q2, if_neg (by omega)]
    · rw [e3, g3 45 (by omega)]
      by_cases q : x = t
      · rw [if_neg (by omega), if_pos (by omega), q, vup_at]
      · rw [vup_k q]
        by_cases q2 : t + 1 ≤ x ∧ x < 4
        · rw [if_pos q2, if_pos (by omega)]
        · rw [if_neg q2, if_neg (by omega)]
theorem ml212a {d : Nat → Nat → UInt64} (n : Nat) : ∀ (V : zVt) (k : Int), 0 ≤ k → 16 = k + n → ∃ V', zGo false 212 17 [.ref 430, .int (zi k)] [] (zm V J d) = zGo false 212 38 [.ref 430, .int (zi 0)] [] (zm V' J d) ∧ (∀ x, V' 461 x = if k ≤ x ∧ x < 16 then 0 else V 461 x) ∧ ∀ o : Nat, o ≠ 461 → V' o = V o := by
  induction n with
  | zero =>
    intro V k k0 hk
    obtain rfl : k = 16 := by omega
    refine ⟨V, ?_, fun x => by rw [if_neg (by omega)], fun _ _ => rfl⟩
    rw [ze_212_17]
    simp (disch := first | omega | assumption | (simp (disch := omega) only [vup_fn, vup_o, vup_k, vup_at]; first | done | omega | assumption)) only [Int.add_zero, ↓reduceIte, qw_id, zck_T, zck_t, zGor_v, zGor_n, zGor_e, zbs, vup_at, vup_vup, vup_self, vup_o, vup_k, vup_fn, ne_eq, not_true_eq_false, not_false_eq_true, and_true, true_and, and_self, and_false, false_and, or_true, true_or, or_self, or_false, false_or, xlt_t, xlt_f, xle_t, xle_f, xeq_t, xeq_f, xand_f, xor_t]
  | succ n ih =>
    intro V k k0 hk
    obtain ⟨V', e1, e2, e3⟩ := ih (vup V 461 k 0) (k + 1) (by omega) (by omega)
    refine ⟨V', ?_, fun x => ?_, fun o ho => by rw [e3 o ho, vup_fn ho]⟩
    · rw [ze_212_17]
      simp (disch := first | omega | assumption | (simp (disch := omega) only [vup_fn, vup_o, vup_k, vup_at]; first | done | omega | assumption)) only [e1, Int.add_zero, ↓reduceIte, qw_id, zck_T, zck_t, zGor_v, zGor_n, zGor_e, zbs, vup_at, vup_vup, vup_self, vup_o, vup_k, vup_fn, ne_eq, not_true_eq_false, not_false_eq_true, and_true, true_and, and_self, and_false, false_and, or_true, true_or, or_self, or_false, false_or, xlt_t, xlt_f, xle_t, xle_f, xeq_t, xeq_f, xand_f, xor_t]
    · rw [e2]
      by_cases q : x = k
      · rw [if_neg (by omega), if_pos (by omega), q, vup_at]
      · rw [vup_k q]
        by_cases q2 : k + 1 ≤ x ∧ x < 16
        · rw [if_pos q2, if_pos (by omega)]
        · rw [if_neg q2, if_neg (by omega)]
theorem ml212b {d : Nat → Nat → UInt64} (n : Nat) : ∀ (V : zVt) (k : Int), 0 ≤ k → 48 = k + n → ∃ V', zGo false 212 38 [.ref 430, .int (zi k)] [] (zm V J d) = zI1 (V 430 46) V' J d ∧ (∀ x, V' 462 x = if k ≤ x ∧ x < 48 then 0 else V 462 x) ∧ ∀ o : Nat, o ≠ 462 → V' o = V o := by
  induction n with
  | zero =>
    intro V k k0 hk
    obtain rfl : k = 48 := by omega
    refine ⟨V, ?_, fun x => by rw [if_neg (by omega)], fun _ _ => rfl⟩
    rw [ze_212_38]
    simp (disch := first | omega | assumption | (simp (disch := omega) only [vup_fn, vup_o, vup_k, vup_at]; first | done | omega | assumption)) only [Int.add_zero, ↓reduceIte, qw_id, zck_T, zck_t, zGor_v, zGor_n, zGor_e, zbs, vup_at, vup_vup, vup_self, vup_o, vup_k, vup_fn, ne_eq, not_true_eq_false, not_false_eq_true, and_true, true_and, and_self, and_false, false_and, or_true, true_or, or_self, or_false, false_or, xlt_t, xlt_f, xle_t, xle_f, xeq_t, xeq_f, xand_f, xor_t]
  | succ n ih =>
    intro V k k0 hk
    obtain ⟨V', e1, e2, e3⟩ := ih (vup V 462 k 0) (k + 1) (by omega) (by omega)
    rw [vup_o (by omega)] at e1
    refine ⟨V', ?_, fun x => ?_, fun o ho => by rw [e3 o ho, vup_fn ho]⟩
    · rw [ze_212_38]
      simp (disch := first | omega | assumption | (simp (disch := omega) only [vup_fn, vup_o, vup_k, vup_at]; first | done | omega | assumption)) only [e1, Int.add_zero, ↓reduceIte, qw_id, zck_T, zck_t, zGor_v, zGor_n, zGor_e, zbs, vup_at, vup_vup, vup_self, vup_o, vup_k, vup_fn, ne_eq, not_true_eq_false, not_false_eq_true, and_true, true_and, and_self, and_false, false_and, or_true, true_or, or_self, or_false, false_or, xlt_t, xlt_f, xle_t, xle_f, xeq_t, xeq_f, xand_f, xor_t]
    · rw [e2]
      by_cases q : x = k
      · rw [if_neg (by omega), if_pos (by omega), q, vup_at]
      · rw [vup_k q]
        by_cases q2 : k + 1 ≤ x ∧ x < 48
        · rw [if_pos q2, if_pos (by omega)]
        · rw [if_neg q2, if_neg (by omega)]
theorem x90 (h : zInv N V J) (hN : N < 600) : zTw N V J 90 [.ref 0] 212 [.ref 430, .null] [] := by
  intro d
  left
  obtain ⟨V1, g1, g2, g3, g4⟩ := sl64t (J := J) (d := d) 4 (vup V 37 7 (V 37 7 + 1)) 0 .null (by omega) (by omega)
  rw [vup_at] at g1
  refine ⟨V 37 7 + 1, V1, J, ?_, ?_⟩
  · rw [ze_90_0, ze_64_0]
    simp (disch := first | omega | assumption | (simp (disch := omega) only [vup_fn, vup_o, vup_k, vup_at]; first | done | omega | assumption)) only [g1, ze_90_7, Int.add_zero, ↓reduceIte, qw_id, zck_T, zck_t, zGor_v, zGor_n, zGor_e, zbs, vup_at, vup_vup, vup_self, vup_o, vup_k, vup_fn, ne_eq, not_true_eq_false, not_false_eq_true, and_true, true_and, and_self, and_false, false_and, or_true, true_or, or_self, or_false, false_or, xlt_t, xlt_f, xle_t, xle_f, xeq_t, xeq_f, xand_f, xor_t]
  intro J2 d2 hj
  have hi := zInv_fr (pM_j hj) (pC_j hj) h
  obtain ⟨b1, b2, b3, b4, b5, b6, b7, b8⟩ := h.2.2.2.2.2.2.1
  have q1 : ∀ o : Nat, o ≠ 37 → o ≠ 44 → o ≠ 45 → V1 o = V o := fun o o1 o2 o3 => by rw [g4 o o2 o3, vup_fn o1]
  have q37 : ∀ x, V1 37 x = if x = 7 then V 37 7 + 1 else V 37 x := fun x => by
    rw [g4 37 (by omega) (by omega)]
    by_cases q : x = 7
    · rw [if_pos q, q, vup_at]
    · rw [if_neg q, vup_k q]
  obtain ⟨V2, m1, m2, m3⟩ := ml212a (J := J2) (d := d2) 16 (vup (vup V1 430 60 0) 430 46 (V 37 7 + 1)) 0 (by omega) (by omega)
  obtain ⟨V3, n1, n2, n3⟩ := ml212b (J := J2) (d := d2) 48 V2 0 (by omega) (by omega)
  rw [m3 430 (by omega), vup_at] at n1
  have hd : V1 430 46 = V 37 7 := by rw [q1 430 (by omega) (by omega) (by omega)]; exact b4.symm
  have r1 : ∀ o : Nat, o ≠ 37 → o ≠ 44 → o ≠ 45 → o ≠ 430 → o ≠ 461 → o ≠ 462 → V3 o = V o := fun o o1 o2 o3 o4 o5 o6 => by rw [n3 o o6, m3 o o5, vup_fn o4, vup_fn o4, q1 o o1 o2 o3]
  have r430 : ∀ x, x ≠ 60 → x ≠ 46 → V3 430 x = V 430 x := fun x x1 x2 => by rw [n3 430 (by omega), m3 430 (by omega), vup_k x2, vup_k x1, q1 430 (by omega) (by omega) (by omega)]
  have r46 : V3 430 46 = V 37 7 + 1 := by rw [n3 430 (by omega), m3 430 (by omega), vup_at]
  have rc : ∀ o : Nat, o < 430 → V3 o = V1 o := fun o ho => by rw [n3 o (by omega), m3 o (by omega), vup_fn (by omega), vup_fn (by omega)]
  have r461 : ∀ x, V3 461 x = if 0 ≤ x ∧ x < 16 then 0 else V 461 x := fun x => by rw [n3 461 (by omega), m2, vup_o (by omega), vup_o (by omega), q1 461 (by omega) (by omega) (by omega)]
  have r462 : ∀ x, V3 462 x = if 0 ≤ x ∧ x < 48 then 0 else V 462 x := fun x => by rw [n2, m3 462 (by omega), vup_o (by omega), vup_o (by omega), q1 462 (by omega) (by omega) (by omega)]
  have r44 : ∀ x, V3 44 x = if 0 ≤ x ∧ x < 16 then 0 else V 44 x := fun x => by rw [rc 44 (by omega), g2, vup_o (by omega), Int.zero_mul]
  have r45 : ∀ x, V3 45 x = if 0 ≤ x ∧ x < 4 then 0 else V 45 x := fun x => by rw [rc 45 (by omega), g3, vup_o (by omega)]
  have h60 : vup V1 430 60 0 430 46 + 1 = V 37 7 + 1 := by rw [vup_k (by omega), hd]
  refine ⟨V 37 7 + 1, V3, J2, ?_, by rw [n3 430 (by omega), m3 430 (by omega), vup_k (by omega), vup_at], ?_, rfl, fun _ => rfl⟩
  · rw [ze_212_0, h60, m1, n1]
  refine zInv_rh hi hN (fun o h1 h2 h3 => r1 o (by omega) (by omega) (by omega) h2 (by omega) (by omega)) ⟨r430 37 (by omega) (by omega), r430 42 (by omega) (by omega), r430 59 (by omega) (by omega)⟩ ?_
  unfold iReh
  rw [r1 43 (by omega) (by omega) (by omega) (by omega) (by omega) (by omega), r1 460 (by omega) (by omega) (by omega) (by omega) (by omega) (by omega), r1 38 (by omega) (by omega) (by omega) (by omega) (by omega) (by omega), r1 39 (by omega) (by omega) (by omega) (by omega) (by omega) (by omega), r1 40 (by omega) (by omega) (by omega) (by omega) (by omega) (by omega), r1 41 (by omega) (by omega) (by omega) (by omega) (by omega) (by omega), r1 42 (by omega) (by omega) (by omega) (by omega) (by omega) (by omega), r1 463 (by omega) (by omega) (by omega) (by omega) (by omega) (by omega), r1 464 (by omega) (by omega) (by omega) (by omega) (by omega) (by omega), r1 465 (by omega) (by omega) (by omega) (by omega) (by omega) (by omega), r1 466 (by omega) (by omega) (by omega) (by omega) (by omega) (by omega), r1 467 (by omega) (by omega) (by omega) (by omega) (by omega) (by omega), r46, r430 52 (by omega) (by omega), rc 37 (by omega), q37 7, q37 5, if_pos rfl, if_neg (by omega)]
  refine ⟨b1, fun k k0 k1 => ?_, fun t t0 t1 => ⟨?_, fun s s0 s1 => Or.inl ?_⟩, rfl, by omega, b6, b7, fun k k0 k1 => ?_⟩
  · rw [r44, r461, if_pos (by omega), if_pos (by omega)]
    exact ⟨rfl, Or.inl rfl⟩
  · rw [r45, if_pos (by omega), yHr_cong (g := fun s => if s < 12 then V3 462 (12 * t + s) else 0) (h := fun _ => 0) 16 (by omega) (fun s s0 s1 => by
      show (if s < 12 then V3 462 (12 * t + s) else 0) = 0
      by_cases q : s < 12
      · rw [if_pos q, r462, if_pos (by omega)]
      · rw [if_neg q])]
    rfl
  · rw [r462, if_pos (by omega)]
  · obtain ⟨c1, c2, c3, c4, c5, c6, c7, c8, c9⟩ := b8 k k0 k1
    exact ⟨c1, c2, c3, c4, c5, c6, c7, c8, by omega⟩
theorem x95 (h : zInv N V J) (hN : N < 600) : zTw N V J 95 [.ref 0] 230 [.ref 430] [] := by
  intro d
  left
  refine ⟨V 0 11, V, J, ze_95_0, zRn_of h hN ?_⟩
  intro J2 d2 hj hi
  have e1 : vup V 430 60 0 430 59 = V 0 11 := by rw [vup_k (by omega)]; exact h.2.2.2.2.2.2.2.2.1.1.symm
  refine ⟨V 0 11, vup V 430 60 0, J2, ?_, vup_at _ _ _ _, pM_60, pC_60, rfl, fun _ => rfl⟩
  rw [ze_230_0, e1]
theorem x131 (h : zInv N V J) (hN : N < 600) (ha : -2147483648 ≤ a ∧ a < 2147483648) : zTw N V J 131 [.ref 0, .int (zi a)] 221 [.ref 430, .int (zi a)] [0] := by
  intro d
  obtain ⟨b1, b2, b3, b4, b5, b6, b7, b8⟩ := h.2.2.2.2.2.2.1
  by_cases hp : 0 ≤ a ∧ a < V 430 52
  · left
    obtain ⟨c1, c2, c3, c4, c5, c6, c7, c8, c9⟩ := b8 a hp.1 hp.2
    refine ⟨V 42 a, V, J, ?_, zRn_of h hN ?_⟩
    · simp (disch := first | omega | assumption | (simp (disch := omega) only [vup_fn, vup_o, vup_k, vup_at]; first | done | omega | assumption)) only [ze_131_0, ze_131_15, b6, Int.add_zero, ↓reduceIte, qw_id, zck_T, zck_t, zGor_v, zGor_n, zGor_e, zbs, vup_at, vup_vup, vup_self, vup_o, vup_k, vup_fn, ne_eq, not_true_eq_false, not_false_eq_true, and_true, true_and, and_self, and_false, false_and, or_true, true_or, or_self, or_false, false_or, xlt_t, xlt_f, xle_t, xle_f, xeq_t, xeq_f, xand_f, xor_t]
    intro J2 d2 hj hi
    have e1 := sp147 (V := V) (J := J2) (d := d2) (a := a) (b := V 430 52) ha (by omega)
    rw [if_pos hp] at e1
    have e2 := sm150 (V := V) (J := J2) (d := d2) (p := 1) (q := 1) (r := 1) (by omega) (by omega) (by omega)
    rw [if_pos (show gC 1 1 1 = 0 from rfl)] at e2
    refine ⟨V 42 a, vup V 430 60 (gC 1 1 1), J2, ?_, vup_at _ _ _ _, pM_60, pC_60, rfl, fun _ => rfl⟩
    rw [c5]
    simp (disch := first | omega | assumption | (simp (disch := omega) only [vup_fn, vup_o, vup_k, vup_at]; first | done | omega | assumption)) only [ze_221_0, ze_221_9, ze_221_14, ze_221_27, e1, e2, Int.add_zero, ↓reduceIte, qw_id, zck_T, zck_t, zGor_v, zGor_n, zGor_e, zbs, vup_at, vup_vup, vup_self, vup_o, vup_k, vup_fn, ne_eq, not_true_eq_false, not_false_eq_true, and_true, true_and, and_self, and_false, false_and, or_true, true_or, or_self, or_false, false_or, xlt_t, xlt_f, xle_t, xle_f, xeq_t, xeq_f, xand_f, xor_t]
  · right
    refine ⟨0, 0, V, J, rfl, ?_, zRn_of h hN ?_⟩
    · by_cases a0 : a < 0
      · simp (disch := first | omega | assumption | (simp (disch := omega) only [vup_fn, vup_o, vup_k, vup_at]; first | done | omega | assumption)) only [ze_131_0, ze_131_15, Int.add_zero, ↓reduceIte, qw_id, zck_T, zck_t, zGor_v, zGor_n, zGor_e, zbs, vup_at, vup_vup, vup_self, vup_o, vup_k, vup_fn, ne_eq, not_true_eq_false, not_false_eq_true, and_true, true_and, and_self, and_false, false_and, or_true, true_or, or_self, or_false, false_or, xlt_t, xlt_f, xle_t, xle_f, xeq_t, xeq_f, xand_f, xor_t]
      · simp (disch := first | omega | assumption | (simp (disch := omega) only [vup_fn, vup_o, vup_k, vup_at]; first | done | omega | assumption)) only [ze_131_0, ze_131_15, b6, Int.add_zero, ↓reduceIte, qw_id, zck_T, zck_t, zGor_v, zGor_n, zGor_e, zbs, vup_at, vup_vup, vup_self, vup_o, vup_k, vup_fn, ne_eq, not_true_eq_false, not_false_eq_true, and_true, true_and, and_self, and_false, false_and, or_true, true_or, or_self, or_false, false_or, xlt_t, xlt_f, xle_t, xle_f, xeq_t, xeq_f, xand_f, xor_t]
    intro J2 d2 hj hi
    have e1 := sp147 (V := V) (J := J2) (d := d2) (a := a) (b := V 430 52) ha (by omega)
    rw [if_neg hp] at e1
    have e2 := sm150 (V := V) (J := J2) (d := d2) (p := 0) (q := 1) (r := 1) (by omega) (by omega) (by omega)
    rw [if_neg (show ¬ gC 0 1 1 = 0 by decide)] at e2
    refine ⟨0, vup V 430 60 (gC 0 1 1), J2, ?_, vup_at _ _ _ _, pM_60, pC_60, rfl, fun w => by omega⟩
    simp (disch := first | omega | assumption | (simp (disch := omega) only [vup_fn, vup_o, vup_k, vup_at]; first | done | omega | assumption)) only [ze_221_0, ze_221_9, ze_221_14, ze_221_27, e1, e2, Int.add_zero, ↓reduceIte, qw_id, zck_T, zck_t, zGor_v, zGor_n, zGor_e, zbs, vup_at, vup_vup, vup_self, vup_o, vup_k, vup_fn, ne_eq, not_true_eq_false, not_false_eq_true, and_true, true_and, and_self, and_false, false_and, or_true, true_or, or_self, or_false, false_or, xlt_t, xlt_f, xle_t, xle_f, xeq_t, xeq_f, xand_f, xor_t]
theorem x129 (h : zInv N V J) (hN : N < 600) (ha : -2147483648 ≤ a ∧ a < 2147483648) (hb : -2147483648 ≤ b ∧ b < 2147483648) : zTw N V J 129 [.ref 0, .int (zi a), .int (zi b), .null] 213 [.ref 430, .int (zi a), .int (zi b), .null] [0, 1] := by
  intro d
  obtain ⟨b1, b2, b3, b4, b5, b6, b7, b8⟩ := h.2.2.2.2.2.2.1
  by_cases h1 : 0 ≤ a ∧ a < 4
  · obtain ⟨k1, k2, k3⟩ := b1 a h1.1 h1.2
    by_cases h2 : 0 ≤ b ∧ b ≤ 12
    · left
      refine ⟨V 43 a, vup V 43 a b, J, ?_, ?_⟩
      · simp (disch := first | omega | assumption | (simp (disch := omega) only [vup_fn, vup_o, vup_k, vup_at]; first | done | omega | assumption)) only [ze_129_0, ze_129_9, ze_129_30, Int.add_zero, ↓reduceIte, qw_id, zck_T, zck_t, zGor_v, zGor_n, zGor_e, zbs, vup_at, vup_vup, vup_self, vup_o, vup_k, vup_fn, ne_eq, not_true_eq_false, not_false_eq_true, and_true, true_and, and_self, and_false, false_and, or_true, true_or, or_self, or_false, false_or, xlt_t, xlt_f, xle_t, xle_f, xeq_t, xeq_f, xand_f, xor_t]
      intro J2 d2 hj
      have hi := zInv_fr (pM_j hj) (pC_j hj) h
      have e1 := sp147 (V := vup V 43 a b) (J := J2) (d := d2) (a := a) (b := 4) ha (by omega)
      rw [if_pos h1] at e1
      have e3 := sp148 (V := vup V 43 a b) (J := J2) (d := d2) (a := b) (b := 0) (c := 12) hb (by omega) (by omega)
      rw [if_pos h2] at e3
      have e2 := sm150 (V := vup V 43 a b) (J := J2) (d := d2) (p := 1) (q := 1) (r := 1) (by omega) (by omega) (by omega)
      rw [if_pos (show gC 1 1 1 = 0 from rfl)] at e2
      refine ⟨V 43 a, vup (vup (vup V 43 a b) 430 60 (gC 1 1 1)) 460 a b, J2, ?_, by rw [vup_o (by omega), vup_at]; rfl, ?_, rfl, fun _ => rfl⟩
      · rw [k1]
        simp (disch := first | omega | assumption | (simp (disch := omega) only [vup_fn, vup_o, vup_k, vup_at]; first | done | omega | assumption)) only [ze_213_0, ze_213_6, ze_213_13, ze_213_17, e1, e2, e3, Int.add_zero, ↓reduceIte, qw_id, zck_T, zck_t, zGor_v, zGor_n, zGor_e, zbs, vup_at, vup_vup, vup_self, vup_o, vup_k, vup_fn, ne_eq, not_true_eq_false, not_false_eq_true, and_true, true_and, and_self, and_false, false_and, or_true, true_or, or_self, or_false, false_or, xlt_t, xlt_f, xle_t, xle_f, xeq_t, xeq_f, xand_f, xor_t]
      refine zInv_rh hi hN (fun o o1 o2 o3 => by rw [vup_fn (by omega), vup_fn (by omega), vup_fn (by omega)]) ⟨by rw [vup_o (by omega), vup_k (by omega), vup_o (by omega)], by rw [vup_o (by omega), vup_k (by omega), vup_o (by omega)], by rw [vup_o (by omega), vup_k (by omega), vup_o (by omega)]⟩ ?_
      have fo : ∀ o : Nat, o ≠ 43 → o ≠ 430 → o ≠ 460 → vup (vup (vup V 43 a b) 430 60 (gC 1 1 1)) 460 a b o = V o := fun o o1 o2 o3 => by rw [vup_fn o3, vup_fn o2, vup_fn o1]
      have f46 : vup (vup (vup V 43 a b) 430 60 (gC 1 1 1)) 460 a b 430 46 = V 430 46 := by rw [vup_o (by omega), vup_k (by omega), vup_o (by omega)]
      have f52 : vup (vup (vup V 43 a b) 430 60 (gC 1 1 1)) 460 a b 430 52 = V 430 52 := by rw [vup_o (by omega), vup_k (by omega), vup_o (by omega)]
      have f43 : ∀ r, vup (vup (vup V 43 a b) 430 60 (gC 1 1 1)) 460 a b 43 r = if r = a then b else V 43 r := fun r => by
        rw [vup_o (by omega), vup_o (by omega)]
        by_cases q : r = a
        · rw [if_pos q, q, vup_at]
        · rw [if_neg q, vup_k q]
      have f460 : ∀ r, vup (vup (vup V 43 a b) 430 60 (gC 1 1 1)) 460 a b 460 r = if r = a then b else V 460 r := fun r => by
        by_cases q : r = a
        · rw [if_pos q, q, vup_at]
        · rw [if_neg q, vup_k q, vup_o (by omega), vup_o (by omega)]
      unfold iReh
      rw [fo 44 (by omega) (by omega) (by omega), fo 45 (by omega) (by omega) (by omega), fo 461 (by omega) (by omega) (by omega), fo 462 (by omega) (by omega) (by omega), fo 37 (by omega) (by omega) (by omega), fo 38 (by omega) (by omega) (by omega), fo 39 (by omega) (by omega) (by omega), fo 40 (by omega) (by omega) (by omega), fo 41 (by omega) (by omega) (by omega), fo 42 (by omega) (by omega) (by omega), fo 463 (by omega) (by omega) (by omega), fo 464 (by omega) (by omega) (by omega), fo 465 (by omega) (by omega) (by omega), fo 466 (by omega) (by omega) (by omega), fo 467 (by omega) (by omega) (by omega), f46, f52]
      refine ⟨fun r r0 r1 => ?_, b2, b3, b4, by omega, b6, b7, fun k k0 k1 => ?_⟩
      · rw [f43, f460]
        by_cases q : r = a
        · rw [if_pos q, if_pos q]
          exact ⟨rfl, h2⟩
        · rw [if_neg q, if_neg q]
          exact b1 r r0 r1
      · obtain ⟨c1, c2, c3, c4, c5, c6, c7, c8, c9⟩ := b8 k k0 k1
        exact ⟨c1, c2, c3, c4, c5, c6, c7, c8, by omega⟩
    · right
      refine ⟨1, 1, V, J, rfl, ?_, zRn_of h hN ?_⟩
      · by_cases b0 : b < 0
        · simp (disch := first | omega | assumption | (simp (disch := omega) only [vup_fn, vup_o, vup_k, vup_at]; first | done | omega | assumption)) only [ze_129_0, ze_129_9, ze_129_30, Int.add_zero, ↓reduceIte, qw_id, zck_T, zck_t, zGor_v, zGor_n, zGor_e, zbs, vup_at, vup_vup, vup_self, vup_o, vup_k, vup_fn, ne_eq, not_true_eq_false, not_false_eq_true, and_true, true_and, and_self, and_false, false_and, or_true, true_or, or_self, or_false, false_or, xlt_t, xlt_f, xle_t, xle_f, xeq_t, xeq_f, xand_f, xor_t]
        · simp (disch := first | omega | assumption | (simp (disch := omega) only [vup_fn, vup_o, vup_k, vup_at]; first | done | omega | assumption)) only [ze_129_0, ze_129_9, ze_129_30, Int.add_zero, ↓reduceIte, qw_id, zck_T, zck_t, zGor_v, zGor_n, zGor_e, zbs, vup_at, vup_vup, vup_self, vup_o, vup_k, vup_fn, ne_eq, not_true_eq_false, not_false_eq_true, and_true, true_and, and_self, and_false, false_and, or_true, true_or, or_self, or_false, false_or, xlt_t, xlt_f, xle_t, xle_f, xeq_t, xeq_f, xand_f, xor_t]
      intro J2 d2 hj hi
      have e1 := sp147 (V := V) (J := J2) (d := d2) (a := a) (b := 4) ha (by omega)
      rw [if_pos h1] at e1
      have e3 := sp148 (V := V) (J := J2) (d := d2) (a := b) (b := 0) (c := 12) hb (by omega) (by omega)
      rw [if_neg h2] at e3
      have e2 := sm150 (V := V) (J := J2) (d := d2) (p := 1) (q := 0) (r := 1) (by omega) (by omega) (by omega)
      rw [if_neg (show ¬ gC 1 0 1 = 0 by decide)] at e2
      refine ⟨0, vup V 430 60 (gC 1 0 1), J2, ?_, vup_at _ _ _ _, pM_60, pC_60, rfl, fun w => by omega⟩
      simp (disch := first | omega | assumption | (simp (disch := omega) only [vup_fn, vup_o, vup_k, vup_at]; first | done | omega | assumption)) only [ze_213_0, ze_213_6, ze_213_13, ze_213_17, e1, e2, e3, Int.add_zero, ↓reduceIte, qw_id, zck_T, zck_t, zGor_v, zGor_n, zGor_e, zbs, vup_at, vup_vup, vup_self, vup_o, vup_k, vup_fn, ne_eq, not_true_eq_false, not_false_eq_true, and_true, true_and, and_self, and_false, false_and, or_true, true_or, or_self, or_false, false_or, xlt_t, xlt_f, xle_t, xle_f, xeq_t, xeq_f, xand_f, xor_t]
  · right
    refine ⟨0, 0, V, J, rfl, ?_, zRn_of h hN ?_⟩
    · by_cases a0 : a < 0
      · simp (disch := first | omega | assumption | (simp (disch := omega) only [vup_fn, vup_o, vup_k, vup_at]; first | done | omega | assumption)) only [ze_129_0, ze_129_9, ze_129_30, Int.add_zero, ↓reduceIte, qw_id, zck_T, zck_t, zGor_v, zGor_n, zGor_e, zbs, vup_at, vup_vup, vup_self, vup_o, vup_k, vup_fn, ne_eq, not_true_eq_false, not_false_eq_true, and_true, true_and, and_self, and_false, false_and, or_true, true_or, or_self, or_false, false_or, xlt_t, xlt_f, xle_t, xle_f, xeq_t, xeq_f, xand_f, xor_t]
      · simp (disch := first | omega | assumption | (simp (disch := omega) only [vup_fn, vup_o, vup_k, vup_at]; first | done | omega | assumption)) only [ze_129_0, ze_129_9, ze_129_30, Int.add_zero, ↓reduceIte, qw_id, zck_T, zck_t, zGor_v, zGor_n, zGor_e, zbs, vup_at, vup_vup, vup_self, vup_o, vup_k, vup_fn, ne_eq, not_true_eq_false, not_false_eq_true, and_true, true_and, and_self, and_false, false_and, or_true, true_or, or_self, or_false, false_or, xlt_t, xlt_f, xle_t, xle_f, xeq_t, xeq_f, xand_f, xor_t]
    intro J2 d2 hj hi
    have e1 := sp147 (V := V) (J := J2) (d := d2) (a := a) (b := 4) ha (by omega)
    rw [if_neg h1] at e1
    have e3 := sp148 (V := V) (J := J2) (d := d2) (a := b) (b := 0) (c := 12) hb (by omega) (by omega)
    have hg : ∃ g : Int, (g = 0 ∨ g = 1) ∧ (if 0 ≤ b ∧ b ≤ 12 then (1 : Int) else 0) = g := ⟨_, by split <;> simp, rfl⟩
    obtain ⟨g, g0, g1⟩ := hg
    rw [g1] at e3
    have e2 := sm150 (V := V) (J := J2) (d := d2) (p := 0) (q := g) (r := 1) (by omega) g0 (by omega)
    rw [if_neg (show ¬ gC 0 g 1 = 0 from fun w => absurd (show (1 : Int) = 0 from w) (by decide))] at e2
    refine ⟨0, vup V 430 60 (gC 0 g 1), J2, ?_, vup_at _ _ _ _, pM_60, pC_60, rfl, fun w => by omega⟩
    simp (disch := first | omega | assumption | (simp (disch := omega) only [vup_fn, vup_o, vup_k, vup_at]; first | done | omega | assumption)) only [ze_213_0, ze_213_6, ze_213_13, ze_213_17, e1, e2, e3, Int.add_zero, ↓reduceIte, qw_id, zck_T, zck_t, zGor_v, zGor_n, zGor_e, zbs, vup_at, vup_vup, vup_self, vup_o, vup_k, vup_fn, ne_eq, not_true_eq_false, not_false_eq_true, and_true, true_and, and_self, and_false, false_and, or_true, true_or, or_self, or_false, false_or, xlt_t, xlt_f, xle_t, xle_f, xeq_t, xeq_f, xand_f, xor_t]
/-- the reference looks at a request's form -/
theorem m214 {d : Nat → Nat → UInt64} (ha : -2147483648 ≤ a ∧ a < 2147483648) (hb : -2147483648 ≤ b ∧ b < 2147483648) (hc : -2147483648 ≤ c ∧ c < 2147483648) (he : -2147483648 ≤ e ∧ e < 2147483648) (h52 : 0 ≤ V 430 52 ∧ V 430 52 ≤ 40) : zGo false 214 0 [.ref 430, .int (zi a), .int (zi b), .int (zi c), .int (zi e), .null] [] (zm V J d) = (zGo false 150 0 [.ref 430, .int (zi (if 0 ≤ a ∧ a < 3 then 1 else 0)), .int (zi (if (1 ≤ b ∧ b ≤ 15) ∧ 0 ≤ c ∧ c ≤ e ∧ e < 40 then 1 else 0)), .int (zi (if V 430 52 < 40 then 1 else 0))] [] (zm V J d)).bind (zGor false 214 62 [.ref 430, .int (zi a), .int (zi b), .int (zi c), .int (zi e), .int (zi (if (1 ≤ b ∧ b ≤ 15) ∧ 0 ≤ c ∧ c ≤ e ∧ e < 40 then 1 else 0))] []) := by
  have e1 := sp148 (V := V) (J := J) (d := d) (a := b) (b := 1) (c := 15) hb (by omega) (by omega)
  have e2 := sp147 (V := V) (J := J) (d := d) (a := c) (b := 40) hc (by omega)
  have e3 := sp148 (V := V) (J := J) (d := d) (a := e) (b := c) (c := 39) he hc (by omega)
  have e4 := sp147 (V := V) (J := J) (d := d) (a := a) (b := 3) ha (by omega)
  have h35 : zGo false 214 0 [.ref 430, .int (zi a), .int (zi b), .int (zi c), .int (zi e), .null] [] (zm V J d) = zGo false 214 35 [.ref 430, .int (zi a), .int (zi b), .int (zi c), .int (zi e), .null] [.int (zi (if (1 ≤ b ∧ b ≤ 15) ∧ 0 ≤ c ∧ c ≤ e ∧ e < 40 then 1 else 0))] (zm V J d) := by
    by_cases q1 : 1 ≤ b ∧ b ≤ 15
    · rw [if_pos q1] at e1
      by_cases q2 : 0 ≤ c ∧ c < 40
      · rw [if_pos q2] at e2
        by_cases q3 : c ≤ e ∧ e ≤ 39
        · rw [if_pos q3] at e3
          rw [if_pos (show (1 ≤ b ∧ b ≤ 15) ∧ 0 ≤ c ∧ c ≤ e ∧ e < 40 by omega)]
          simp (disch := first | omega | assumption | (simp (disch := omega) only [vup_fn, vup_o, vup_k, vup_at]; first | done | omega | assumption)) only [ze_214_0, ze_214_7, ze_214_16, ze_214_27, ze_214_34, e1, e2, e3, Int.add_zero, ↓reduceIte, qw_id, zck_T, zck_t, zGor_v, zGor_n, zGor_e, zbs, vup_at, vup_vup, vup_self, vup_o, vup_k, vup_fn, ne_eq, not_true_eq_false, not_false_eq_true, and_true, true_and, and_self, and_false, false_and, or_true, true_or, or_self, or_false, false_or, xlt_t, xlt_f, xle_t, xle_f, xeq_t, xeq_f, xand_f, xor_t]
        · rw [if_neg q3] at e3
          rw [if_neg (show ¬((1 ≤ b ∧ b ≤ 15) ∧ 0 ≤ c ∧ c ≤ e ∧ e < 40) by omega)]
          simp (disch := first | omega | assumption | (simp (disch := omega) only [vup_fn, vup_o, vup_k, vup_at]; first | done | omega | assumption)) only [ze_214_0, ze_214_7, ze_214_16, ze_214_27, ze_214_34, e1, e2, e3, Int.add_zero, ↓reduceIte, qw_id, zck_T, zck_t, zGor_v, zGor_n, zGor_e, zbs, vup_at, vup_vup, vup_self, vup_o, vup_k, vup_fn, ne_eq, not_true_eq_false, not_false_eq_true, and_true, true_and, and_self, and_false, false_and, or_true, true_or, or_self, or_false, false_or, xlt_t, xlt_f, xle_t, xle_f, xeq_t, xeq_f, xand_f, xor_t]
      · rw [if_neg q2] at e2
        rw [if_neg (show ¬((1 ≤ b ∧ b ≤ 15) ∧ 0 ≤ c ∧ c ≤ e ∧ e < 40) by omega)]
        simp (disch := first | omega | assumption | (simp (disch := omega) only [vup_fn, vup_o, vup_k, vup_at]; first | done | omega | assumption)) only [ze_214_0, ze_214_7, ze_214_16, ze_214_27, ze_214_34, e1, e2, Int.add_zero, ↓reduceIte, qw_id, zck_T, zck_t, zGor_v, zGor_n, zGor_e, zbs, vup_at, vup_vup, vup_self, vup_o, vup_k, vup_fn, ne_eq, not_true_eq_false, not_false_eq_true, and_true, true_and, and_self, and_false, false_and, or_true, true_or, or_self, or_false, false_or, xlt_t, xlt_f, xle_t, xle_f, xeq_t, xeq_f, xand_f, xor_t]
    · rw [if_neg q1] at e1
      rw [if_neg (show ¬((1 ≤ b ∧ b ≤ 15) ∧ 0 ≤ c ∧ c ≤ e ∧ e < 40) by omega)]
      simp (disch := first | omega | assumption | (simp (disch := omega) only [vup_fn, vup_o, vup_k, vup_at]; first | done | omega | assumption)) only [ze_214_0, ze_214_7, ze_214_16, ze_214_27, ze_214_34, e1, Int.add_zero, ↓reduceIte, qw_id, zck_T, zck_t, zGor_v, zGor_n, zGor_e, zbs, vup_at, vup_vup, vup_self, vup_o, vup_k, vup_fn, ne_eq, not_true_eq_false, not_false_eq_true, and_true, true_and, and_self, and_false, false_and, or_true, true_or, or_self, or_false, false_or, xlt_t, xlt_f, xle_t, xle_f, xeq_t, xeq_f, xand_f, xor_t]
  rw [h35]
  generalize (if (1 ≤ b ∧ b ≤ 15) ∧ 0 ≤ c ∧ c ≤ e ∧ e < 40 then (1 : Int) else 0) = f
  generalize (if 0 ≤ a ∧ a < 3 then (1 : Int) else 0) = g at *
  by_cases q : V 430 52 < 40
  · rw [if_pos q]
    simp (disch := first | omega | assumption | (simp (disch := omega) only [vup_fn, vup_o, vup_k, vup_at]; first | done | omega | assumption)) only [ze_214_35, ze_214_43, ze_214_59, e4, Int.add_zero, ↓reduceIte, qw_id, zck_T, zck_t, zGor_v, zGor_n, zGor_e, zbs, vup_at, vup_vup, vup_self, vup_o, vup_k, vup_fn, ne_eq, not_true_eq_false, not_false_eq_true, and_true, true_and, and_self, and_false, false_and, or_true, true_or, or_self, or_false, false_or, xlt_t, xlt_f, xle_t, xle_f, xeq_t, xeq_f, xand_f, xor_t]
  · rw [if_neg q]
    simp (disch := first | omega | assumption | (simp (disch := omega) only [vup_fn, vup_o, vup_k, vup_at]; first | done | omega | assumption)) only [ze_214_35, ze_214_43, ze_214_59, e4, Int.add_zero, ↓reduceIte, qw_id, zck_T, zck_t, zGor_v, zGor_n, zGor_e, zbs, vup_at, vup_vup, vup_self, vup_o, vup_k, vup_fn, ne_eq, not_true_eq_false, not_false_eq_true, and_true, true_and, and_self, and_false, false_and, or_true, true_or, or_self, or_false, false_or, xlt_t, xlt_f, xle_t, xle_f, xeq_t, xeq_f, xand_f, xor_t]
theorem x130 (h : zInv N V J) (hN : N < 600) (ha : -2147483648 ≤ a ∧ a < 2147483648) (hb : -2147483648 ≤ b ∧ b < 2147483648) (hc : -2147483648 ≤ c ∧ c < 2147483648) (he : -2147483648 ≤ e ∧ e < 2147483648) : zTw N V J 130 [.ref 0, .int (zi a), .int (zi b), .int (zi c), .int (zi e)] 214 [.ref 430, .int (zi a), .int (zi b), .int (zi c), .int (zi e), .null] [0, 1, 2] := by
  intro d
  obtain ⟨b1, b2, b3, b4, b5, b6, b7, b8⟩ := h.2.2.2.2.2.2.1
  have e124 := sp124 (V := V) (J := J) (d := d) ha
  have hg01 : ∀ p : Prop, [Decidable p] → ∃ g : Int, (g = 0 ∨ g = 1) ∧ (if p then (1 : Int) else 0) = g := fun p _ => ⟨_, by split <;> simp, rfl⟩
  by_cases h1 : 0 ≤ a ∧ a < 3
  · rw [if_pos h1] at e124
    by_cases h2 : (1 ≤ b ∧ b ≤ 15) ∧ 0 ≤ c ∧ c ≤ e ∧ e < 40
    · by_cases h3 : V 430 52 < 40
      · left
        obtain ⟨n, hn⟩ : ∃ n, V 430 52 = n := ⟨_, rfl⟩
        rw [hn] at b6 b7 h3
        have e66 : zGo false 66 0 [.ref 37, .int (zi a), .int (zi b), .int (zi c), .int (zi e)] [] (zm V J d) = zI1 n (vup (vup (vup (vup (vup (vup V 38 n a) 39 n b) 40 n c) 41 n e) 42 n (-1)) 37 5 (n + 1)) J d := by
          have ec : n + 1 - 1 = n := by omega
          simp (disch := first | omega | assumption | (simp (disch := omega) only [vup_fn, vup_o, vup_k, vup_at]; first | done | omega | assumption)) only [ze_66_0, b6, ec, Int.add_zero, ↓reduceIte, qw_id, zck_T, zck_t, zGor_v, zGor_n, zGor_e, zbs, vup_at, vup_vup, vup_self, vup_o, vup_k, vup_fn, ne_eq, not_true_eq_false, not_false_eq_true, and_true, true_and, and_self, and_false, false_and, or_true, true_or, or_self, or_false, false_or, xlt_t, xlt_f, xle_t, xle_f, xeq_t, xeq_f, xand_f, xor_t]
        refine ⟨n, vup (vup (vup (vup (vup (vup V 38 n a) 39 n b) 40 n c) 41 n e) 42 n (-1)) 37 5 (n + 1), J, ?_, ?_⟩
        · simp (disch := first | omega | assumption | (simp (disch := omega) only [vup_fn, vup_o, vup_k, vup_at]; first | done | omega | assumption)) only [ze_130_0, ze_130_5, ze_130_39, ze_130_85, e124, b6, e66, Int.add_zero, ↓reduceIte, qw_id, zck_T, zck_t, zGor_v, zGor_n, zGor_e, zbs, vup_at, vup_vup, vup_self, vup_o, vup_k, vup_fn, ne_eq, not_true_eq_false, not_false_eq_true, and_true, true_and, and_self, and_false, false_and, or_true, true_or, or_self, or_false, false_or, xlt_t, xlt_f, xle_t, xle_f, xeq_t, xeq_f, xand_f, xor_t]
        intro J2 d2 hj
        have hi := zInv_fr (pM_j hj) (pC_j hj) h
        have fo : ∀ o : Nat, ¬(37 ≤ o ∧ o ≤ 42) → vup (vup (vup (vup (vup (vup V 38 n a) 39 n b) 40 n c) 41 n e) 42 n (-1)) 37 5 (n + 1) o = V o := fun o ho => by rw [vup_fn (by omega), vup_fn (by omega), vup_fn (by omega), vup_fn (by omega), vup_fn (by omega), vup_fn (by omega)]
        have f37 : ∀ x, vup (vup (vup (vup (vup (vup V 38 n a) 39 n b) 40 n c) 41 n e) 42 n (-1)) 37 5 (n + 1) 37 x = if x = 5 then n + 1 else V 37 x := fun x => by
          by_cases q : x = 5
          · rw [if_pos q, q, vup_at]
          · rw [if_neg q, vup_k q, vup_o (by omega), vup_o (by omega), vup_o (by omega), vup_o (by omega), vup_o (by omega)]
        have f38 : ∀ x, vup (vup (vup (vup (vup (vup V 38 n a) 39 n b) 40 n c) 41 n e) 42 n (-1)) 37 5 (n + 1) 38 x = if x = n then a else V 38 x := fun x => by
          rw [vup_o (by omega), vup_o (by omega), vup_o (by omega), vup_o (by omega), vup_o (by omega)]
          by_cases q : x = n
          · rw [if_pos q, q, vup_at]
          · rw [if_neg q, vup_k q]
        have f39 : ∀ x, vup (vup (vup (vup (vup (vup V 38 n a) 39 n b) 40 n c) 41 n e) 42 n (-1)) 37 5 (n + 1) 39 x = if x = n then b else V 39 x := fun x => by
          rw [vup_o (by omega), vup_o (by omega), vup_o (by omega), vup_o (by omega)]
          by_cases q : x = n
          · rw [if_pos q, q, vup_at]
          · rw [if_neg q, vup_k q, vup_o (by omega)]
        have f40 : ∀ x, vup (vup (vup (vup (vup (vup V 38 n a) 39 n b) 40 n c) 41 n e) 42 n (-1)) 37 5 (n + 1) 40 x = if x = n then c else V 40 x := fun x => by
          rw [vup_o (by omega), vup_o (by omega), vup_o (by omega)]
          by_cases q : x = n
          · rw [if_pos q, q, vup_at]
          · rw [if_neg q, vup_k q, vup_o (by omega), vup_o (by omega)]
        have f41 : ∀ x, vup (vup (vup (vup (vup (vup V 38 n a) 39 n b) 40 n c) 41 n e) 42 n (-1)) 37 5 (n + 1) 41 x = if x = n then e else V 41 x := fun x => by
          rw [vup_o (by omega), vup_o (by omega)]
          by_cases q : x = n
          · rw [if_pos q, q, vup_at]
          · rw [if_neg q, vup_k q, vup_o (by omega), vup_o (by omega), vup_o (by omega)]
        have f42 : ∀ x, vup (vup (vup (vup (vup (vup V 38 n a) 39 n b) 40 n c) 41 n e) 42 n (-1)) 37 5 (n + 1) 42 x = if x = n then -1 else V 42 x := fun x => by
          rw [vup_o (by omega)]
          by_cases q : x = n
          · rw [if_pos q, q, vup_at]
          · rw [if_neg q, vup_k q, vup_o (by omega), vup_o (by omega), vup_o (by omega), vup_o (by omega)]
        generalize vup (vup (vup (vup (vup (vup V 38 n a) 39 n b) 40 n c) 41 n e) 42 n (-1)) 37 5 (n + 1) = V1 at *
        have g52 : V1 430 52 = n := by rw [fo 430 (by omega)]; exact hn
        have er := m214 (V := V1) (J := J2) (d := d2) ha hb hc he (by rw [g52]; exact b7)
        rw [g52, if_pos h1, if_pos h2, if_pos h3] at er
        have e2 := sm150 (V := V1) (J := J2) (d := d2) (p := 1) (q := 1) (r := 1) (by omega) (by omega) (by omega)
        rw [if_pos (show gC 1 1 1 = 0 from rfl)] at e2
        refine ⟨n, vup (vup (vup (vup (vup (vup (vup V1 430 60 (gC 1 1 1)) 463 n a) 464 n b) 465 n c) 466 n e) 467 n (-1)) 430 52 (n + 1), J2, ?_, by rw [vup_k (by omega), vup_o (by omega), vup_o (by omega), vup_o (by omega), vup_o (by omega), vup_o (by omega), vup_at]; rfl, ?_, rfl, fun _ => rfl⟩
        · have ec : n + 1 - 1 = n := by omega
          rw [er]
          simp (disch := first | omega | assumption | (simp (disch := omega) only [vup_fn, vup_o, vup_k, vup_at]; first | done | omega | assumption)) only [ze_214_62, e2, g52, ec, Int.add_zero, ↓reduceIte, qw_id, zck_T, zck_t, zGor_v, zGor_n, zGor_e, zbs, vup_at, vup_vup, vup_self, vup_o, vup_k, vup_fn, ne_eq, not_true_eq_false, not_false_eq_true, and_true, true_and, and_self, and_false, false_and, or_true, true_or, or_self, or_false, false_or, xlt_t, xlt_f, xle_t, xle_f, xeq_t, xeq_f, xand_f, xor_t]
        have go : ∀ o : Nat, o ≠ 430 → ¬(463 ≤ o ∧ o ≤ 467) → vup (vup (vup (vup (vup (vup (vup V1 430 60 (gC 1 1 1)) 463 n a) 464 n b) 465 n c) 466 n e) 467 n (-1)) 430 52 (n + 1) o = V1 o := fun o o1 o2 => by rw [vup_fn o1, vup_fn (by omega), vup_fn (by omega), vup_fn (by omega), vup_fn (by omega), vup_fn (by omega), vup_fn o1]
        have g430 : ∀ x, x ≠ 52 → x ≠ 60 → vup (vup (vup (vup (vup (vup (vup V1 430 60 (gC 1 1 1)) 463 n a) 464 n b) 465 n c) 466 n e) 467 n (-1)) 430 52 (n + 1) 430 x = V 430 x := fun x x1 x2 => by rw [vup_k x1, vup_o (by omega), vup_o (by omega), vup_o (by omega), vup_o (by omega), vup_o (by omega), vup_k x2, fo 430 (by omega)]
        have g52' : vup (vup (vup (vup (vup (vup (vup V1 430 60 (gC 1 1 1)) 463 n a) 464 n b) 465 n c) 466 n e) 467 n (-1)) 430 52 (n + 1) 430 52 = n + 1 := vup_at _ _ _ _
        have g463 : ∀ x, vup (vup (vup (vup (vup (vup (vup V1 430 60 (gC 1 1 1)) 463 n a) 464 n b) 465 n c) 466 n e) 467 n (-1)) 430 52 (n + 1) 463 x = if x = n then a else V 463 x := fun x => by
          rw [vup_o (by omega), vup_o (by omega), vup_o (by omega), vup_o (by omega), vup_o (by omega)]
          by_cases q : x = n
          · rw [if_pos q, q, vup_at]
          · rw [if_neg q, vup_k q, vup_o (by omega), fo 463 (by omega)]
        have g464 : ∀ x, vup (vup (vup (vup (vup (vup (vup V1 430 60 (gC 1 1 1)) 463 n a) 464 n b) 465 n c) 466 n e) 467 n (-1)) 430 52 (n + 1) 464 x = if x = n then b else V 464 x := fun x => by
          rw [vup_o (by omega), vup_o (by omega), vup_o (by omega), vup_o (by omega)]
          by_cases q : x = n
          · rw [if_pos q, q, vup_at]
          · rw [if_neg q, vup_k q, vup_o (by omega), vup_o (by omega), fo 464 (by omega)]
        have g465 : ∀ x, vup (vup (vup (vup (vup (vup (vup V1 430 60 (gC 1 1 1)) 463 n a) 464 n b) 465 n c) 466 n e) 467 n (-1)) 430 52 (n + 1) 465 x = if x = n then c else V 465 x := fun x => by
          rw [vup_o (by omega), vup_o (by omega), vup_o (by omega)]
          by_cases q : x = n
          · rw [if_pos q, q, vup_at]
          · rw [if_neg q, vup_k q, vup_o (by omega), vup_o (by omega), vup_o (by omega), fo 465 (by omega)]
        have g466 : ∀ x, vup (vup (vup (vup (vup (vup (vup V1 430 60 (gC 1 1 1)) 463 n a) 464 n b) 465 n c) 466 n e) 467 n (-1)) 430 52 (n + 1) 466 x = if x = n then e else V 466 x := fun x => by
          rw [vup_o (by omega), vup_o (by omega)]
          by_cases q : x = n
          · rw [if_pos q, q, vup_at]
          · rw [if_neg q, vup_k q, vup_o (by omega), vup_o (by omega), vup_o (by omega), vup_o (by omega), fo 466 (by omega)]
        have g467 : ∀ x, vup (vup (vup (vup (vup (vup (vup V1 430 60 (gC 1 1 1)) 463 n a) 464 n b) 465 n c) 466 n e) 467 n (-1)) 430 52 (n + 1) 467 x = if x = n then -1 else V 467 x := fun x => by
          rw [vup_o (by omega)]
          by_cases q : x = n
          · rw [if_pos q, q, vup_at]
          · rw [if_neg q, vup_k q, vup_o (by omega), vup_o (by omega), vup_o (by omega), vup_o (by omega), vup_o (by omega), fo 467 (by omega)]
        generalize vup (vup (vup (vup (vup (vup (vup V1 430 60 (gC 1 1 1)) 463 n a) 464 n b) 465 n c) 466 n e) 467 n (-1)) 430 52 (n + 1) = V2 at *
        refine zInv_rh hi hN (fun o o1 o2 o3 => by rw [go o o2 (by omega), fo o (by omega)]) ⟨g430 37 (by omega) (by omega), g430 42 (by omega) (by omega), g430 59 (by omega) (by omega)⟩ ?_
        unfold iReh
        rw [go 43 (by omega) (by omega), fo 43 (by omega), go 44 (by omega) (by omega), fo 44 (by omega), go 45 (by omega) (by omega), fo 45 (by omega), go 460 (by omega) (by omega), fo 460 (by omega), go 461 (by omega) (by omega), fo 461 (by omega), go 462 (by omega) (by omega), fo 462 (by omega), go 37 (by omega) (by omega), f37, f37, if_neg (by omega), if_pos rfl, g430 46 (by omega) (by omega), g52', go 38 (by omega) (by omega), go 39 (by omega) (by omega), go 40 (by omega) (by omega), go 41 (by omega) (by omega), go 42 (by omega) (by omega)]
        refine ⟨b1, b2, b3, b4, by omega, rfl, by omega, fun k k0 k1 => ?_⟩
        rw [f38, f39, f40, f41, f42, g463, g464, g465, g466, g467]
        by_cases q : k = n
        · rw [if_pos q, if_pos q, if_pos q, if_pos q, if_pos q, if_pos q, if_pos q, if_pos q, if_pos q, if_pos q]
          exact ⟨rfl, rfl, rfl, rfl, rfl, h1, h2.1, ⟨h2.2.1, h2.2.2.1, h2.2.2.2⟩, by omega⟩
        · rw [if_neg q, if_neg q, if_neg q, if_neg q, if_neg q, if_neg q, if_neg q, if_neg q, if_neg q, if_neg q]
          obtain ⟨c1, c2, c3, c4, c5, c6, c7, c8, c9⟩ := b8 k k0 (by omega)
          exact ⟨c1, c2, c3, c4, c5, c6, c7, c8, by omega⟩
      · right
        refine ⟨2, 2, V, J, rfl, ?_, zRn_of h hN ?_⟩
        · simp (disch := first | omega | assumption | (simp (disch := omega) only [vup_fn, vup_o, vup_k, vup_at]; first | done | omega | assumption)) only [ze_130_0, ze_130_5, ze_130_39, ze_130_85, e124, b6, Int.add_zero, ↓reduceIte, qw_id, zck_T, zck_t, zGor_v, zGor_n, zGor_e, zbs, vup_at, vup_vup, vup_self, vup_o, vup_k, vup_fn, ne_eq, not_true_eq_false, not_false_eq_true, and_true, true_and, and_self, and_false, false_and, or_true, true_or, or_self, or_false, false_or, xlt_t, xlt_f, xle_t, xle_f, xeq_t, xeq_f, xand_f, xor_t]
        intro J2 d2 hj hi
        have er := m214 (V := V) (J := J2) (d := d2) ha hb hc he b7
        rw [if_pos h1, if_pos h2, if_neg h3] at er
        have e2 := sm150 (V := V) (J := J2) (d := d2) (p := 1) (q := 1) (r := 0) (by omega) (by omega) (by omega)
        rw [if_neg (show ¬ gC 1 1 0 = 0 by decide)] at e2
        refine ⟨0, vup V 430 60 (gC 1 1 0), J2, ?_, vup_at _ _ _ _, pM_60, pC_60, rfl, fun w => by omega⟩
        rw [er]
        simp (disch := first | omega | assumption | (simp (disch := omega) only [vup_fn, vup_o, vup_k, vup_at]; first | done | omega | assumption)) only [ze_214_62, e2, Int.add_zero, ↓reduceIte, qw_id, zck_T, zck_t, zGor_v, zGor_n, zGor_e, zbs, vup_at, vup_vup, vup_self, vup_o, vup_k, vup_fn, ne_eq, not_true_eq_false, not_false_eq_true, and_true, true_and, and_self, and_false, false_and, or_true, true_or, or_self, or_false, false_or, xlt_t, xlt_f, xle_t, xle_f, xeq_t, xeq_f, xand_f, xor_t]
    · right
      refine ⟨1, 1, V, J, rfl, ?_, zRn_of h hN ?_⟩
      · by_cases q1 : b < 1
        · simp (disch := first | omega | assumption | (simp (disch := omega) only [vup_fn, vup_o, vup_k, vup_at]; first | done | omega | assumption)) only [ze_130_0, ze_130_5, ze_130_39, ze_130_85, e124, Int.add_zero, ↓reduceIte, qw_id, zck_T, zck_t, zGor_v, zGor_n, zGor_e, zbs, vup_at, vup_vup, vup_self, vup_o, vup_k, vup_fn, ne_eq, not_true_eq_false, not_false_eq_true, and_true, true_and, and_self, and_false, false_and, or_true, true_or, or_self, or_false, false_or, xlt_t, xlt_f, xle_t, xle_f, xeq_t, xeq_f, xand_f, xor_t]
        · by_cases q2 : 15 < b
          · simp (disch := first | omega | assumption | (simp (disch := omega) only [vup_fn, vup_o, vup_k, vup_at]; first | done | omega | assumption)) only [ze_130_0, ze_130_5, ze_130_39, ze_130_85, e124, Int.add_zero, ↓reduceIte, qw_id, zck_T, zck_t, zGor_v, zGor_n, zGor_e, zbs, vup_at, vup_vup, vup_self, vup_o, vup_k, vup_fn, ne_eq, not_true_eq_false, not_false_eq_true, and_true, true_and, and_self, and_false, false_and, or_true, true_or, or_self, or_false, false_or, xlt_t, xlt_f, xle_t, xle_f, xeq_t, xeq_f, xand_f, xor_t]
          · by_cases q3 : c < 0
            · simp (disch := first | omega | assumption | (simp (disch := omega) only [vup_fn, vup_o, vup_k, vup_at]; first | done | omega | assumption)) only [ze_130_0, ze_130_5, ze_130_39, ze_130_85, e124, Int.add_zero, ↓reduceIte, qw_id, zck_T, zck_t, zGor_v, zGor_n, zGor_e, zbs, vup_at, vup_vup, vup_self, vup_o, vup_k, vup_fn, ne_eq, not_true_eq_false, not_false_eq_true, and_true, true_and, and_self, and_false, false_and, or_true, true_or, or_self, or_false, false_or, xlt_t, xlt_f, xle_t, xle_f, xeq_t, xeq_f, xand_f, xor_t]
            · by_cases q4 : 40 ≤ c
              · simp (disch := first | omega | assumption | (simp (disch := omega) only [vup_fn, vup_o, vup_k, vup_at]; first | done | omega | assumption)) only [ze_130_0, ze_130_5, ze_130_39, ze_130_85, e124, Int.add_zero, ↓reduceIte, qw_id, zck_T, zck_t, zGor_v, zGor_n, zGor_e, zbs, vup_at, vup_vup, vup_self, vup_o, vup_k, vup_fn, ne_eq, not_true_eq_false, not_false_eq_true, and_true, true_and, and_self, and_false, false_and, or_true, true_or, or_self, or_false, false_or, xlt_t, xlt_f, xle_t, xle_f, xeq_t, xeq_f, xand_f, xor_t]
              · by_cases q5 : e < c
                · simp (disch := first | omega | assumption | (simp (disch := omega) only [vup_fn, vup_o, vup_k, vup_at]; first | done | omega | assumption)) only [ze_130_0, ze_130_5, ze_130_39, ze_130_85, e124, Int.add_zero, ↓reduceIte, qw_id, zck_T, zck_t, zGor_v, zGor_n, zGor_e, zbs, vup_at, vup_vup, vup_self, vup_o, vup_k, vup_fn, ne_eq, not_true_eq_false, not_false_eq_true, and_true, true_and, and_self, and_false, false_and, or_true, true_or, or_self, or_false, false_or, xlt_t, xlt_f, xle_t, xle_f, xeq_t, xeq_f, xand_f, xor_t]
                · simp (disch := first | omega | assumption | (simp (disch := omega) only [vup_fn, vup_o, vup_k, vup_at]; first | done | omega | assumption)) only [ze_130_0, ze_130_5, ze_130_39, ze_130_85, e124, Int.add_zero, ↓reduceIte, qw_id, zck_T, zck_t, zGor_v, zGor_n, zGor_e, zbs, vup_at, vup_vup, vup_self, vup_o, vup_k, vup_fn, ne_eq, not_true_eq_false, not_false_eq_true, and_true, true_and, and_self, and_false, false_and, or_true, true_or, or_self, or_false, false_or, xlt_t, xlt_f, xle_t, xle_f, xeq_t, xeq_f, xand_f, xor_t]
      intro J2 d2 hj hi
      have er := m214 (V := V) (J := J2) (d := d2) ha hb hc he b7
      obtain ⟨g, g0, g1⟩ := hg01 (V 430 52 < 40)
      rw [if_pos h1, if_neg h2, g1] at er
      have e2 := sm150 (V := V) (J := J2) (d := d2) (p := 1) (q := 0) (r := g) (by omega) (by omega) g0
      rw [if_neg (show ¬ gC 1 0 g = 0 from fun w => absurd (show (2 : Int) = 0 from w) (by decide))] at e2
      refine ⟨0, vup V 430 60 (gC 1 0 g), J2, ?_, vup_at _ _ _ _, pM_60, pC_60, rfl, fun w => by omega⟩
      rw [er]
      simp (disch := first | omega | assumption | (simp (disch := omega) only [vup_fn, vup_o, vup_k, vup_at]; first | done | omega | assumption)) only [ze_214_62, e2, Int.add_zero, ↓reduceIte, qw_id, zck_T, zck_t, zGor_v, zGor_n, zGor_e, zbs, vup_at, vup_vup, vup_self, vup_o, vup_k, vup_fn, ne_eq, not_true_eq_false, not_false_eq_true, and_true, true_and, and_self, and_false, false_and, or_true, true_or, or_self, or_false, false_or, xlt_t, xlt_f, xle_t, xle_f, xeq_t, xeq_f, xand_f, xor_t]
  · right
    rw [if_neg h1] at e124
    refine ⟨0, 0, V, J, rfl, ?_, zRn_of h hN ?_⟩
    · simp (disch := first | omega | assumption | (simp (disch := omega) only [vup_fn, vup_o, vup_k, vup_at]; first | done | omega | assumption)) only [ze_130_0, ze_130_5, ze_130_39, ze_130_85, e124, Int.add_zero, ↓reduceIte, qw_id, zck_T, zck_t, zGor_v, zGor_n, zGor_e, zbs, vup_at, vup_vup, vup_self, vup_o, vup_k, vup_fn, ne_eq, not_true_eq_false, not_false_eq_true, and_true, true_and, and_self, and_false, false_and, or_true, true_or, or_self, or_false, false_or, xlt_t, xlt_f, xle_t, xle_f, xeq_t, xeq_f, xand_f, xor_t]
    intro J2 d2 hj hi
    have er := m214 (V := V) (J := J2) (d := d2) ha hb hc he b7
    obtain ⟨g, g0, g1⟩ := hg01 (V 430 52 < 40)
    obtain ⟨f, f0, f1⟩ := hg01 ((1 ≤ b ∧ b ≤ 15) ∧ 0 ≤ c ∧ c ≤ e ∧ e < 40)
    rw [if_neg h1, f1, g1] at er
    have e2 := sm150 (V := V) (J := J2) (d := d2) (p := 0) (q := f) (r := g) (by omega) f0 g0
    rw [if_neg (show ¬ gC 0 f g = 0 from fun w => absurd (show (1 : Int) = 0 from w) (by decide))] at e2
    refine ⟨0, vup V 430 60 (gC 0 f g), J2, ?_, vup_at _ _ _ _, pM_60, pC_60, rfl, fun w => by omega⟩
    rw [er]
    simp (disch := first | omega | assumption | (simp (disch := omega) only [vup_fn, vup_o, vup_k, vup_at]; first | done | omega | assumption)) only [ze_214_62, e2, Int.add_zero, ↓reduceIte, qw_id, zck_T, zck_t, zGor_v, zGor_n, zGor_e, zbs, vup_at, vup_vup, vup_self, vup_o, vup_k, vup_fn, ne_eq, not_true_eq_false, not_false_eq_true, and_true, true_and, and_self, and_false, false_and, or_true, true_or, or_self, or_false, false_or, xlt_t, xlt_f, xle_t, xle_f, xeq_t, xeq_f, xand_f, xor_t]
end
