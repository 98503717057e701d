/-! part 47: corrections: the class's loop; the reference's loops -/
/-- a good set of corrections: n tokens with kinds K -/
def cGood (H q m v K : Int → Int) (cnt n : Int) : Prop := (0 ≤ cnt ∧ cnt ≤ 200) ∧ (∀ c, 0 ≤ c → c < 200 → H c = 0 ∨ H c = 1) ∧ ∀ c, 0 ≤ c → c < cnt → H c ≠ 0 → (0 ≤ q c ∧ q c < n) ∧ (0 ≤ m c ∧ m c ≤ 4) ∧ (-9 ≤ v c ∧ v c ≤ 100) ∧ (m c = 4 → K (q c) = 3 ∧ (v c = 0 ∨ v c = 1 ∨ v c = 100))
section
variable {J : zJt} {d : Nat → Nat → UInt64}
/-- the class's row 13 behind c corrections -/
def cApd (V V0 : zVt) (x : Nat) (H q m v : Int → Int) (n c : Int) : Prop := (V 13 0 = n ∧ V 13 1 = V0 x 1 ∧ V 13 2 = V0 x 2 ∧ V 13 3 = V0 x 3) ∧ ∀ k, 0 ≤ k → k < n →
  V 14 k = (if foi H q m v k 4 4 0 c = 1 then 4 else V0 (x + 1) k) ∧ V 15 k = V0 (x + 2) k ∧ V 16 k = foi H q m v k 0 0 (V0 (x + 3) k) c ∧ V 17 k = foi H q m v k 1 1 (V0 (x + 4) k) c ∧ V 18 k = foi H q m v k 2 2 (V0 (x + 5) k) c ∧ V 19 k = foi H q m v k 3 3 (V0 (x + 6) k) c ∧ V 20 k = V0 (x + 7) k ∧ V 21 k = V0 (x + 8) k
theorem cAp_fr {V : zVt} {x : Nat} {a m v : Int} {o : Nat} (h : ¬(14 ≤ o ∧ o ≤ 19)) : cAp V x a m v o = V o := by
  unfold cAp
  repeat' split
  all_goals exact vup_fn (by omega)
theorem cAp_k {V : zVt} {x : Nat} {a m v k : Int} {o : Nat} (h : k ≠ a) : cAp V x a m v o k = V o k := by
  unfold cAp
  repeat' split
  all_goals exact vup_k h
theorem cApd_s {V V0 : zVt} {x : Nat} (hx : 26 ≤ x) {H q m v : Int → Int} {n c cnt : Int} (hg : cGood H q m v (V0 (x + 1)) cnt n) (hc : 0 ≤ c ∧ c < cnt) (h : cApd V V0 x H q m v n c) (hV : ∀ o : Nat, ¬(13 ≤ o ∧ o ≤ 21) → V o = V0 o) : cApd (if H c ≠ 0 then cAp V x (q c) (m c) (v c) else V) V0 x H q m v n (c + 1) := by
  by_cases hH : H c ≠ 0
  · rw [if_pos hH]
    obtain ⟨g1, g2, g3⟩ := hg
    have g := g3 c hc.1 hc.2 hH
    refine ⟨?_, ?_⟩
    · rw [cAp_fr (by omega)]
      exact h.1
    · intro k k1 k2
      have hk := h.2 k k1 k2
      simp only [foi_s hc.1]
      by_cases hkq : k = q c
      · have f1 := hV (x + 3) (by omega)
        have f2 := hV (x + 4) (by omega)
        have f3 := hV (x + 5) (by omega)
        have f4 := hV (x + 6) (by omega)
        rw [hkq] at hk ⊢
        unfold cAp
        rw [f1, f2, f3, f4]
        rcases (show m c = 0 ∨ m c = 1 ∨ m c = 2 ∨ m c = 3 ∨ m c = 4 by omega) with e | e | e | e | e
        · simp (disch := omega) only [e, hH, ne_eq, not_false_eq_true, true_and, and_true, ↓reduceIte, Int.reduceLE, Int.reduceEq, vup_o, vup_at, and_false, and_self]
          refine ⟨hk.1, hk.2.1, hk.2.2.2.1, hk.2.2.2.2.1, hk.2.2.2.2.2.1, hk.2.2.2.2.2.2.1, hk.2.2.2.2.2.2.2⟩
        · simp (disch := omega) only [e, hH, ne_eq, not_false_eq_true, true_and, and_true, ↓reduceIte, Int.reduceLE, Int.reduceEq, vup_o, vup_at, and_false, and_self, false_and]
          refine ⟨hk.1, hk.2.1, hk.2.2.1, hk.2.2.2.2.1, hk.2.2.2.2.2.1, hk.2.2.2.2.2.2.1, hk.2.2.2.2.2.2.2⟩
        · simp (disch := omega) only [e, hH, ne_eq, not_false_eq_true, true_and, and_true, ↓reduceIte, Int.reduceLE, Int.reduceEq, vup_o, vup_at, and_false, and_self, false_and]
          refine ⟨hk.1, hk.2.1, hk.2.2.1, hk.2.2.2.1, hk.2.2.2.2.2.1, hk.2.2.2.2.2.2.1, hk.2.2.2.2.2.2.2⟩
        · simp (disch := omega) only [e, hH, ne_eq, not_false_eq_true, true_and, and_true, ↓reduceIte, Int.reduceLE, Int.reduceEq, vup_o, vup_at, and_false, and_self, false_and]
          refine ⟨hk.1, hk.2.1, hk.2.2.1, hk.2.2.2.1, hk.2.2.2.2.1, hk.2.2.2.2.2.2.1, hk.2.2.2.2.2.2.2⟩
        · have g4 := g.2.2.2 e
          simp (disch := omega) only [e, hH, ne_eq, not_false_eq_true, true_and, and_true, ↓reduceIte, Int.reduceLE, Int.reduceEq, vup_o, vup_at, and_false, and_self, false_and]
          refine ⟨?_, hk.2.1, hk.2.2.1, hk.2.2.2.1, hk.2.2.2.2.1, hk.2.2.2.2.2.1, hk.2.2.2.2.2.2.1, hk.2.2.2.2.2.2.2⟩
          rw [g4.1]
          rcases g4.2 with e1 | e1 | e1
          · rw [e1]; rfl
          · rw [e1]; rfl
          · rw [e1]; rfl
      · have hkq2 : ¬ q c = k := fun w => hkq w.symm
        simp only [cAp_k hkq, hkq2, false_and, and_false, ↓reduceIte]
        exact hk
  · rw [if_neg hH]
    refine ⟨h.1, ?_⟩
    intro k k1 k2
    have hk := h.2 k k1 k2
    simp only [foi_s hc.1, hH, false_and, ↓reduceIte]
    exact hk
theorem sl3 {V0 : zVt} {x M : Nat} (hb : zBk 10 x) (hx : 26 ≤ x) (hM : zBk 4 M) (hM2 : 26 ≤ M) {n cnt : Int} (hn : 0 ≤ n ∧ n ≤ 60) (hcn : V0 3 0 = cnt) (hg : cGood (V0 (M + 1)) (V0 4) (V0 5) (V0 6) (V0 (x + 1)) cnt n) (j : Nat) : ∀ (V : zVt) (c : Int), (0 ≤ c ∧ c ≤ cnt) → cnt - c < j → (∀ o : Nat, ¬(13 ≤ o ∧ o ≤ 21) → V o = V0 o) → cApd V V0 x (V0 (M + 1)) (V0 4) (V0 5) (V0 6) n c →
    ∃ V', zGo false 3 8 [.ref 3, .ref x, .ref M, .ref 13, .int (zi c)] [] (zm V J d) = zN1 V' J d ∧ cApd V' V0 x (V0 (M + 1)) (V0 4) (V0 5) (V0 6) n cnt ∧ ∀ o : Nat, ¬(13 ≤ o ∧ o ≤ 21) → V' o = V0 o := by
  induction j with
  | zero => intro V c hc hj; omega
  | succ j ih =>
    intro V c hc hj hV h
    have g1 := hg.1
    have e3 : V 3 0 = cnt := by rw [hV 3 (by omega), hcn]
    by_cases hcc : c = cnt
    · subst hcc
      have h13 := zBk_13
      refine ⟨V, ?_, h, hV⟩
      rw [ze_3_8 _ _ _ _ hb hM zBk_13]
      simp (disch := first | omega | assumption | (simp (disch := omega) only [vup_fn, vup_o, vup_k, vup_at]; first | done | omega | assumption)) only [e3, Int.add_zero, ↓reduceIte, qw_id, zck_T, zck_t, zGor_v, zGor_n, zGor_e, zbs, vup_at, vup_vup, vup_self, vup_o, vup_k, vup_fn, ne_eq, not_true_eq_false, not_false_eq_true, and_true, true_and, and_self, and_false, false_and, or_true, true_or, or_self, or_false, false_or, xlt_t, xlt_f, xle_t, xle_f, xeq_t, xeq_f, xand_f, xor_t]
    · have hs := cApd_s hx hg (show 0 ≤ c ∧ c < cnt by omega) h hV
      have hH := hg.2.1 c hc.1 (by omega)
      have eH : V (M + 1) c = V0 (M + 1) c := by rw [hV (M + 1) (by omega)]
      by_cases hh : V0 (M + 1) c = 0
      · rw [if_neg (fun w => w hh)] at hs
        obtain ⟨V', q1, q2⟩ := ih V (c + 1) (by omega) (by omega) hV hs
        refine ⟨V', ?_, q2⟩
        rw [← q1, ze_3_8 _ _ _ _ hb hM zBk_13]
        have h13 := zBk_13
        simp (disch := first | omega | assumption | (simp (disch := omega) only [vup_fn, vup_o, vup_k, vup_at]; first | done | omega | assumption)) only [e3, eH, hh, ze_3_49, Int.add_zero, ↓reduceIte, qw_id, zck_T, zck_t, zGor_v, zGor_n, zGor_e, zbs, vup_at, vup_vup, vup_self, vup_o, vup_k, vup_fn, ne_eq, not_true_eq_false, not_false_eq_true, and_true, true_and, and_self, and_false, false_and, or_true, true_or, or_self, or_false, false_or, xlt_t, xlt_f, xle_t, xle_f, xeq_t, xeq_f, xand_f, xor_t]
      · have g := hg.2.2 c hc.1 (by omega) hh
        rw [if_pos hh] at hs
        have e86 := sp86 (V := V) (J := J) (d := d) (x := 13) (k := V0 4 c) zBk_13 (by omega) (by rw [h.1.1]; omega)
        rw [h.1.1, if_pos (by omega)] at e86
        have e4 := sp4 (V := V) (J := J) (d := d) (x := x) hb (c := c) (a := V0 4 c) (m := V0 5 c) (v := V0 6 c) (by omega) (by rw [hV 4 (by omega)]) (by rw [hV 5 (by omega)]) (by rw [hV 6 (by omega)]) (by omega) g.2.1 g.2.2.1
        have e44 : V 4 c = V0 4 c := by rw [hV 4 (by omega)]
        obtain ⟨V', q1, q2⟩ := ih (cAp V x (V0 4 c) (V0 5 c) (V0 6 c)) (c + 1) (by omega) (by omega) (fun o ho => by rw [cAp_fr (by omega)]; exact hV o ho) hs
        refine ⟨V', ?_, q2⟩
        rw [← q1, ze_3_8 _ _ _ _ hb hM zBk_13]
        have hm := hM
        have h13 := zBk_13
        simp (disch := first | omega | assumption | (simp (disch := omega) only [vup_fn, vup_o, vup_k, vup_at]; first | done | omega | assumption)) only [e3, eH, hh, e44, e86, ze_3_38, e4, ze_3_49, Int.add_zero, ↓reduceIte, qw_id, zck_T, zck_t, zGor_v, zGor_n, zGor_e, zbs, vup_at, vup_vup, vup_self, vup_o, vup_k, vup_fn, ne_eq, not_true_eq_false, not_false_eq_true, and_true, true_and, and_self, and_false, false_and, or_true, true_or, or_self, or_false, false_or, xlt_t, xlt_f, xle_t, xle_f, xeq_t, xeq_f, xand_f, xor_t]
theorem sp3 {V : zVt} {x M : Nat} (hb : zBk 10 x) (hx : 26 ≤ x) (hM : zBk 4 M) (hM2 : 26 ≤ M) {n cnt : Int} (hn : 0 ≤ n ∧ n ≤ 60) (h0 : V x 0 = n) (h7 : ∀ k, 0 ≤ k → k < n → V (x + 7) k = 0 ∨ V (x + 7) k = 1) (hcn : V 3 0 = cnt) (hg : cGood (V (M + 1)) (V 4) (V 5) (V 6) (V (x + 1)) cnt n) :
    ∃ V', zGo false 3 0 [.ref 3, .ref x, .ref M, .ref 13, .null] [] (zm V J d) = zN1 V' J d ∧ cApd V' V x (V (M + 1)) (V 4) (V 5) (V 6) n cnt ∧ ∀ o : Nat, ¬(13 ≤ o ∧ o ≤ 21) → V' o = V o := by
  obtain ⟨V1, q1, q2, q3, q4⟩ := sp88 (V := V) (J := J) (d := d) hb hx hn h0 h7
  obtain ⟨V', p1, p2, p3⟩ := sl3 (J := J) (d := d) (V0 := V) hb hx hM hM2 hn hcn hg 300 V1 0 (by have := hg.1; omega) (by have := hg.1; omega) q4 (by
    refine ⟨q2, fun k k1 k2 => ?_⟩
    have e := fun i i1 i2 => q3 i i1 i2 k k1 k2
    refine ⟨?_, e 2 (by omega) (by omega), e 3 (by omega) (by omega), e 4 (by omega) (by omega), e 5 (by omega) (by omega), e 6 (by omega) (by omega), e 7 (by omega) (by omega), e 8 (by omega) (by omega)⟩
    rw [foi_0, if_neg (by decide)]
    exact e 1 (by omega) (by omega))
  refine ⟨V', ?_, p2, p3⟩
  rw [← p1, ze_3_0 _ _ _ hb hM zBk_13]
  have hm := hM
  have h13 := zBk_13
  simp (disch := first | omega | assumption | (simp (disch := omega) only [vup_fn, vup_o, vup_k, vup_at]; first | done | omega | assumption)) only [q1, ze_3_5, Int.add_zero, ↓reduceIte, qw_id, zck_T, zck_t, zGor_v, zGor_n, zGor_e, zbs, vup_at, vup_vup, vup_self, vup_o, vup_k, vup_fn, ne_eq, not_true_eq_false, not_false_eq_true, and_true, true_and, and_self, and_false, false_and, or_true, true_or, or_self, or_false, false_or, xlt_t, xlt_f, xle_t, xle_f, xeq_t, xeq_f, xand_f, xor_t]
end
