/-! part 99x2: pencilling; clashes -/
theorem oS_B {f : Int → Int} {B : Int} : ∀ n : Nat, (∀ k : Int, 0 ≤ k → k < n → 0 ≤ f k ∧ f k ≤ B) → 0 ≤ oS f n ∧ oS f n ≤ B * (n : Int)
  | 0, _ => by
    show (0 : Int) ≤ 0 ∧ (0 : Int) ≤ B * 0
    omega
  | n + 1, h => by
    have e1 := oS_B n (fun k k0 k1 => h k k0 (by omega))
    have e2 := h n (by omega) (by omega)
    have e3 : B * ((n + 1 : Nat) : Int) = B * (n : Int) + B := by
      rw [show ((n + 1 : Nat) : Int) = (n : Int) + 1 by omega, Int.mul_add, Int.mul_one]
    rw [e3]
    show 0 ≤ oS f n + f n ∧ oS f n + f n ≤ B * (n : Int) + B
    omega
theorem oS_sw (q : Int → Int → Int) (m : Nat) : ∀ n : Nat, oS (fun k => oS (fun b => q b k) m) n = oS (fun b => oS (fun k => q b k) n) m
  | 0 => by
    show 0 = oS (fun _ => 0) m
    induction m with
    | zero => rfl
    | succ m ih =>
      show 0 = oS (fun _ => 0) m + 0
      rw [← ih]
      rfl
  | n + 1 => by
    show oS (fun k => oS (fun b => q b k) m) n + oS (fun b => q b n) m = oS (fun b => oS (fun k => q b k) n + q b n) m
    rw [oS_sw q m n]
    exact (oS_add (f := fun b => oS (fun k => q b k) n + q b n) (g := fun b => oS (fun k => q b k) n) (h := fun b => q b n) m (fun _ _ _ => rfl)).symm
section
variable {cf : Int32 → Int32} {d : Nat → Nat → UInt64} {V V' : zVt} {J J' : zJt} {N c k r D G i n : Int} {v11 v12 v13 v14 v15 v16 v17 v18 v19 v20 v21 v22 v23 : Value} {kk : Nat}
theorem qW_rng (h : zInv N V J) {p b k l u : Int} (hp : 0 ≤ p ∧ p < 3) (hb : 0 ≤ b) (hl : 0 ≤ l ∧ l < 4) : 0 ≤ qW V J p b k l u ∧ qW V J p b k l u ≤ 16 := by
  unfold qW
  split
  · rename_i q
    have qn := q.2
    unfold qN at qn
    have hH : qH V p l = 1 := by
      by_cases w : qH V p l = 1
      · exact w
      · rw [if_neg w] at qn
        omega
    unfold qH at hH
    have h3 : V (50 + 15 * (p * 4 + l).toNat) 3 = 1 := by
      by_cases w : V (50 + 15 * (p * 4 + l).toNat) 3 = 1 ∧ V (50 + 15 * (p * 4 + l).toNat + 13) 0 = 0
      · exact w.1
      · rw [if_neg w] at hH
        omega
    have hw : (p * 4 + l).toNat < 12 := by omega
    have hm := ((h.2.2.1 _ hw).2.2.2.2.2.1 ((h.2.2.1 _ hw).2.2.2.2.2.2 h3).1).2
    have hok := iMs_ok (zt_ok h.1.1 (w := ((p * 4 + l).toNat : Int)) (by omega)) hm
    have h16 := hok.2.2.2.2.1
    rw [show 63 + 15 * (p * 4 + l).toNat = 50 + 15 * (p * 4 + l).toNat + 13 by omega] at h16
    have r := oS_B (f := qX J (50 + 15 * (p * 4 + u).toNat + 13) (50 + 15 * (p * 4 + l).toNat + 13) b k) (B := 1) (V (50 + 15 * (p * 4 + l).toNat + 13) 3).toNat (fun t _ _ => by
      rcases qX_01 J (50 + 15 * (p * 4 + u).toNat + 13) (50 + 15 * (p * 4 + l).toNat + 13) b k t with w | w <;> omega)
    omega
  · omega
theorem qC_rng (h : zInv N V J) {p b k y : Int} (hp : 0 ≤ p ∧ p < 3) (hb : 0 ≤ b) (hy : y = 0 ∨ y = 1) : 0 ≤ qC V J p b k y ∧ qC V J p b k y ≤ 256 := by
  unfold qC
  split
  · split <;> omega
  · split
    · omega
    · split
      · omega
      · have r := oS_B (f := fun l => oS (qW V J p b k l) l.toNat) (B := 64) 4 (fun l l0 l1 => by
          have r2 := oS_B (f := qW V J p b k l) (B := 16) l.toNat (fun u _ _ => qW_rng h hp hb (by omega))
          show 0 ≤ oS (qW V J p b k l) l.toNat ∧ oS (qW V J p b k l) l.toNat ≤ 64
          omega)
        unfold qZ
        omega
theorem lB_clash (h : lM V J N c k r D G) (hN : N ≤ 200) (hn : 0 ≤ n ∧ n < 2147483648) (h13 : n % 20 = 19) : lB cf d V J N c k r D G i n v11 v12 v13 v14 v15 v16 v17 v18 v19 v20 v21 v22 v23 kk := by
  obtain ⟨k0, r0, D0, G0, N0⟩ := lM_rg h
  have hz := h.1
  have hc := h.2.2.2.1
  obtain ⟨a, ha⟩ : ∃ a, n / 20 % c = a := ⟨_, rfl⟩
  obtain ⟨s, hs⟩ : ∃ s, n / 20 / 7 % 6 = s := ⟨_, rfl⟩
  obtain ⟨p, hp⟩ : ∃ p, n / 20 % 2 = p := ⟨_, rfl⟩
  obtain ⟨x, hx⟩ : ∃ x, n % 20 = x := ⟨_, rfl⟩
  rw [hx] at h13
  have rp : 0 ≤ p ∧ p < 3 := by omega
  obtain ⟨Y, hY⟩ := qY_ex V p
  obtain ⟨A, hA⟩ : ∃ A : Int → Int, A = fun k => oS (fun b => qC V J p b k (Y b)) 40 := ⟨_, rfl⟩
  obtain ⟨B, hB⟩ : ∃ B : Int → Int, B = fun b => oS (fun k => qC V J p b k (Y b)) 4 := ⟨_, rfl⟩
  have hAB : oS A 4 = oS B 40 := by rw [hA, hB]; exact oS_sw (fun b k => qC V J p b k (Y b)) 40 4
  have hAr : 0 ≤ oS A 4 ∧ oS A 4 ≤ 100000 := by
    have r := oS_B (f := A) (B := 12000) 4 (fun k _ _ => by
      rw [hA]
      have r2 := oS_B (f := fun b => qC V J p b k (Y b)) (B := 256) 40 (fun b b0 _ => qC_rng hz rp b0 (hY b).1)
      show 0 ≤ oS (fun b => qC V J p b k (Y b)) 40 ∧ oS (fun b => qC V J p b k (Y b)) 40 ≤ 12000
      omega)
    omega
  have l1 : ∀ (m : Nat) (t : Int) (kk : Nat), 0 ≤ t → t + m = 4 → wGo cf 237 1293 (wLm c k r D G i n (n / 20) x a s p (.int (zi (oS A t.toNat))) (.int (zi 0)) (.int (zi t)) v20 v21 v22 v23) [] (zm V J d) kk = wGo cf 237 1293 (wLm c k r D G i n (n / 20) x a s p (.int (zi (oS A 4))) (.int (zi 0)) (.int (zi 4)) v20 v21 v22 v23) [] (zm V J d) (kk + m) := by
    intro m
    induction m with
    | zero =>
      intro t kk h0 ht
      rw [show t = 4 by omega]
      rfl
    | succ m ih =>
      intro t kk h0 ht
      have e := c_clashesOf (d := d) hz rp (k := t) (by omega) hY
      have e : wstub 19 [zi p, zi t] (zm V J d) = some (zi (A t), zm V J d) := by rw [hA]; exact e
      have e2 : oS A t.toNat + A t = oS A (t + 1).toNat := (oS_s h0).symm
      have e3 := ih (t + 1) (kk + 1) (by omega) (by omega)
      rw [show kk + (m + 1) = kk + 1 + m by omega, ← e3]
      rw [lw_237_1293]
      simp (disch := first | omega | assumption) only [lw_237_1309, e, e2, wck_t, wck_T, wbS, wbV, wbR, qdiv_p, qrem_p, Int.add_zero, ↓reduceIte, qw_id, ne_eq, not_true_eq_false, not_false_eq_true, and_true, true_and, and_self, and_false, false_and, or_true, true_or, or_self, or_false, false_or, xlt_t, xlt_f, xle_t, xle_f, xeq_t, xeq_f, xand_f, xor_t]
  have l2 : ∀ (m : Nat) (t : Int) (kk : Nat), 0 ≤ t → t + m = 40 → wGo cf 237 1321 (wLm c k r D G i n (n / 20) x a s p (.int (zi (oS A 4))) (.int (zi (oS B t.toNat))) (.int (zi t)) v20 v21 v22 v23) [] (zm V J d) kk = wGo cf 237 1321 (wLm c k r D G i n (n / 20) x a s p (.int (zi (oS A 4))) (.int (zi (oS B 40))) (.int (zi 40)) v20 v21 v22 v23) [] (zm V J d) (kk + m) := by
    intro m
    induction m with
    | zero =>
      intro t kk h0 ht
      rw [show t = 40 by omega]
      rfl
    | succ m ih =>
      intro t kk h0 ht
      have e := c_clashes (d := d) hz rp (b := t) (by omega) hY
      have e : wstub 18 [zi p, zi t] (zm V J d) = some (zi (B t), zm V J d) := by rw [hB]; exact e
      have e2 : oS B t.toNat + B t = oS B (t + 1).toNat := (oS_s h0).symm
      have e3 := ih (t + 1) (kk + 1) (by omega) (by omega)
      rw [show kk + (m + 1) = kk + 1 + m by omega, ← e3]
      rw [lw_237_1321]
      simp (disch := first | omega | assumption) only [lw_237_1338, e, e2, wck_t, wck_T, wbS, wbV, wbR, qdiv_p, qrem_p, Int.add_zero, ↓reduceIte, qw_id, ne_eq, not_true_eq_false, not_false_eq_true, and_true, true_and, and_self, and_false, false_and, or_true, true_or, or_self, or_false, false_or, xlt_t, xlt_f, xle_t, xle_f, xeq_t, xeq_f, xand_f, xor_t]
  have m1 := l1 4 0 kk (by omega) (by omega)
  have m2 := l2 40 0 (kk + 4) (by omega) (by omega)
  rw [← hAB] at m2
  have z1 : oS A (0 : Int).toNat = 0 := rfl
  have z2 : oS B (0 : Int).toNat = 0 := rfl
  rw [z1] at m1
  rw [z2] at m2
  unfold lB
  rw [ha, hs, hp, hx]
  refine ⟨V, J, 44, c, k, r, D, G, .int (zi (oS A 4)), .int (zi (oS A 4)), .int (zi 40), v20, v21, v22, v23, by omega, lM_up h (by omega), Int.le_refl _, ?_⟩
  simp (disch := first | omega | assumption) only [lw_237_191, lw_237_754, lw_237_839, hx, ha, hs, hp, wck_t, wck_T, wbS, wbV, wbR, qdiv_p, qrem_p, Int.add_zero, ↓reduceIte, qw_id, ne_eq, not_true_eq_false, not_false_eq_true, and_true, true_and, and_self, and_false, false_and, or_true, true_or, or_self, or_false, false_or, xlt_t, xlt_f, xle_t, xle_f, xeq_t, xeq_f, xand_f, xor_t]
  rw [m1, lw_237_1293]
  simp (disch := first | omega | assumption) only [lw_237_1309, wck_t, wck_T, wbS, wbV, wbR, qdiv_p, qrem_p, Int.add_zero, ↓reduceIte, qw_id, ne_eq, not_true_eq_false, not_false_eq_true, and_true, true_and, and_self, and_false, false_and, or_true, true_or, or_self, or_false, false_or, xlt_t, xlt_f, xle_t, xle_f, xeq_t, xeq_f, xand_f, xor_t]
  rw [m2, lw_237_1321]
  simp (disch := first | omega | assumption) only [lw_237_1364, wck_t, wck_T, wbS, wbV, wbR, qdiv_p, qrem_p, Int.add_zero, ↓reduceIte, qw_id, ne_eq, not_true_eq_false, not_false_eq_true, and_true, true_and, and_self, and_false, false_and, or_true, true_or, or_self, or_false, false_or, xlt_t, xlt_f, xle_t, xle_f, xeq_t, xeq_f, xand_f, xor_t]
end
