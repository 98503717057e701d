/-! part 48: the reference's corrections -/
section
variable {J : zJt} {d : Nat → Nat → UInt64}
theorem sl166i {V : zVt} {set k cnt : Int} {H : Int → Int} {n : Int} (hs : 0 ≤ set ∧ set < 52) (hk : 0 ≤ k ∧ k < 60) (hn : n ≤ 60) (hcn : V 430 42 = cnt) (hH : ∀ c, 0 ≤ c → c < 200 → V 456 (200 * set + c) = H c) {K : Int → Int} (hg : cGood H (V 457) (V 458) (V 459) K cnt n) (j : Nat) : ∀ (c : Int) (x8 : Value), (0 ≤ c ∧ c ≤ cnt) → cnt - c < j →
    ∃ y8, zGo false 166 43 [.ref 430, .int (zi set), .int (zi k), .int (zi (foi H (V 457) (V 458) (V 459) k 0 1 (V 435 k) c)), .int (zi (foi H (V 457) (V 458) (V 459) k 2 2 (V 436 k) c)), .int (zi (foi H (V 457) (V 458) (V 459) k 3 3 (V 437 k) c)), .int (zi (foi H (V 457) (V 458) (V 459) k 4 4 0 c)), .int (zi c), x8] [] (zm V J d) =
      zGo false 166 43 [.ref 430, .int (zi set), .int (zi k), .int (zi (foi H (V 457) (V 458) (V 459) k 0 1 (V 435 k) cnt)), .int (zi (foi H (V 457) (V 458) (V 459) k 2 2 (V 436 k) cnt)), .int (zi (foi H (V 457) (V 458) (V 459) k 3 3 (V 437 k) cnt)), .int (zi (foi H (V 457) (V 458) (V 459) k 4 4 0 cnt)), .int (zi cnt), y8] [] (zm V J d) := by
  induction j with
  | zero => intro c x8 hc hj; omega
  | succ j ih =>
    intro c x8 hc hj
    have g1 := hg.1
    by_cases hcc : c = cnt
    · subst hcc
      exact ⟨x8, rfl⟩
    · have h01 := hg.2.1 c hc.1 (by omega)
      have eH := hH c hc.1 (by omega)
      have s1 := foi_s (H := H) (q := V 457) (m := V 458) (v := V 459) (k := k) (lo := 0) (hi := 1) (b := V 435 k) hc.1
      have s2 := foi_s (H := H) (q := V 457) (m := V 458) (v := V 459) (k := k) (lo := 2) (hi := 2) (b := V 436 k) hc.1
      have s3 := foi_s (H := H) (q := V 457) (m := V 458) (v := V 459) (k := k) (lo := 3) (hi := 3) (b := V 437 k) hc.1
      have s4 := foi_s (H := H) (q := V 457) (m := V 458) (v := V 459) (k := k) (lo := 4) (hi := 4) (b := 0) hc.1
      by_cases hh : H c = 0
      · rw [if_neg (fun w => w.1 hh)] at s1 s2 s3 s4
        obtain ⟨y8, q⟩ := ih (c + 1) x8 (by omega) (by omega)
        refine ⟨y8, ?_⟩
        rw [← q, s1, s2, s3, s4]
        clear q ih s1 s2 s3 s4
        generalize foi H (V 457) (V 458) (V 459) k 0 1 (V 435 k) c = a1
        generalize foi H (V 457) (V 458) (V 459) k 2 2 (V 436 k) c = a2
        generalize foi H (V 457) (V 458) (V 459) k 3 3 (V 437 k) c = a3
        generalize foi H (V 457) (V 458) (V 459) k 4 4 0 c = a4
        rw [ze_166_43]
        simp (disch := first | omega | assumption | (simp (disch := omega) only [vup_fn, vup_o, vup_k, vup_at]; first | done | omega | assumption)) only [hcn, eH, hh, ze_166_247, Int.add_zero, ↓reduceIte, qw_id, zck_T, zck_t, zGor_v, zGor_n, zGor_e, zbs, vup_at, vup_vup, vup_self, vup_o, vup_k, vup_fn, ne_eq, not_true_eq_false, not_false_eq_true, and_true, true_and, and_self, and_false, false_and, or_true, true_or, or_self, or_false, false_or, xlt_t, xlt_f, xle_t, xle_f, xeq_t, xeq_f, xand_f, xor_t]
      · have g := hg.2.2 c hc.1 (by omega) hh
        have h1 : H c = 1 := by omega
        by_cases hq : V 457 c = k
        · obtain ⟨y8, q⟩ := ih (c + 1) (.int (zi (if V 459 c = 100 then 1 else 0))) (by omega) (by omega)
          refine ⟨y8, ?_⟩
          rw [← q, s1, s2, s3, s4]
          clear q ih s1 s2 s3 s4
          generalize foi H (V 457) (V 458) (V 459) k 0 1 (V 435 k) c = a1
          generalize foi H (V 457) (V 458) (V 459) k 2 2 (V 436 k) c = a2
          generalize foi H (V 457) (V 458) (V 459) k 3 3 (V 437 k) c = a3
          generalize foi H (V 457) (V 458) (V 459) k 4 4 0 c = a4
          rw [ze_166_43]
          by_cases hv : V 459 c = 100
          · rcases (show V 458 c = 0 ∨ V 458 c = 1 ∨ V 458 c = 2 ∨ V 458 c = 3 ∨ V 458 c = 4 by omega) with e | e | e | e | e
            · simp (disch := first | omega | assumption | (simp (disch := omega) only [vup_fn, vup_o, vup_k, vup_at]; first | done | omega | assumption)) only [hcn, eH, h1, hq, hv, e, ze_166_96, ze_166_134, ze_166_172, ze_166_211, ze_166_245, ze_166_247, Int.add_zero, ↓reduceIte, qw_id, zck_T, zck_t, zGor_v, zGor_n, zGor_e, zbs, vup_at, vup_vup, vup_self, vup_o, vup_k, vup_fn, ne_eq, not_true_eq_false, not_false_eq_true, and_true, true_and, and_self, and_false, false_and, or_true, true_or, or_self, or_false, false_or, xlt_t, xlt_f, xle_t, xle_f, xeq_t, xeq_f, xand_f, xor_t]
            · simp (disch := first | omega | assumption | (simp (disch := omega) only [vup_fn, vup_o, vup_k, vup_at]; first | done | omega | assumption)) only [hcn, eH, h1, hq, hv, e, ze_166_96, ze_166_134, ze_166_172, ze_166_211, ze_166_245, ze_166_247, Int.add_zero, ↓reduceIte, qw_id, zck_T, zck_t, zGor_v, zGor_n, zGor_e, zbs, vup_at, vup_vup, vup_self, vup_o, vup_k, vup_fn, ne_eq, not_true_eq_false, not_false_eq_true, and_true, true_and, and_self, and_false, false_and, or_true, true_or, or_self, or_false, false_or, xlt_t, xlt_f, xle_t, xle_f, xeq_t, xeq_f, xand_f, xor_t]
            · simp (disch := first | omega | assumption | (simp (disch := omega) only [vup_fn, vup_o, vup_k, vup_at]; first | done | omega | assumption)) only [hcn, eH, h1, hq, hv, e, ze_166_96, ze_166_134, ze_166_172, ze_166_211, ze_166_245, ze_166_247, Int.add_zero, ↓reduceIte, qw_id, zck_T, zck_t, zGor_v, zGor_n, zGor_e, zbs, vup_at, vup_vup, vup_self, vup_o, vup_k, vup_fn, ne_eq, not_true_eq_false, not_false_eq_true, and_true, true_and, and_self, and_false, false_and, or_true, true_or, or_self, or_false, false_or, xlt_t, xlt_f, xle_t, xle_f, xeq_t, xeq_f, xand_f, xor_t]
            · simp (disch := first | omega | assumption | (simp (disch := omega) only [vup_fn, vup_o, vup_k, vup_at]; first | done | omega | assumption)) only [hcn, eH, h1, hq, hv, e, ze_166_96, ze_166_134, ze_166_172, ze_166_211, ze_166_245, ze_166_247, Int.add_zero, ↓reduceIte, qw_id, zck_T, zck_t, zGor_v, zGor_n, zGor_e, zbs, vup_at, vup_vup, vup_self, vup_o, vup_k, vup_fn, ne_eq, not_true_eq_false, not_false_eq_true, and_true, true_and, and_self, and_false, false_and, or_true, true_or, or_self, or_false, false_or, xlt_t, xlt_f, xle_t, xle_f, xeq_t, xeq_f, xand_f, xor_t]
            · simp (disch := first | omega | assumption | (simp (disch := omega) only [vup_fn, vup_o, vup_k, vup_at]; first | done | omega | assumption)) only [hcn, eH, h1, hq, hv, e, ze_166_96, ze_166_134, ze_166_172, ze_166_211, ze_166_245, ze_166_247, Int.add_zero, ↓reduceIte, qw_id, zck_T, zck_t, zGor_v, zGor_n, zGor_e, zbs, vup_at, vup_vup, vup_self, vup_o, vup_k, vup_fn, ne_eq, not_true_eq_false, not_false_eq_true, and_true, true_and, and_self, and_false, false_and, or_true, true_or, or_self, or_false, false_or, xlt_t, xlt_f, xle_t, xle_f, xeq_t, xeq_f, xand_f, xor_t]
          · rcases (show V 458 c = 0 ∨ V 458 c = 1 ∨ V 458 c = 2 ∨ V 458 c = 3 ∨ V 458 c = 4 by omega) with e | e | e | e | e
            · simp (disch := first | omega | assumption | (simp (disch := omega) only [vup_fn, vup_o, vup_k, vup_at]; first | done | omega | assumption)) only [hcn, eH, h1, hq, e, ze_166_96, ze_166_134, ze_166_172, ze_166_211, ze_166_245, ze_166_247, Int.add_zero, ↓reduceIte, qw_id, zck_T, zck_t, zGor_v, zGor_n, zGor_e, zbs, vup_at, vup_vup, vup_self, vup_o, vup_k, vup_fn, ne_eq, not_true_eq_false, not_false_eq_true, and_true, true_and, and_self, and_false, false_and, or_true, true_or, or_self, or_false, false_or, xlt_t, xlt_f, xle_t, xle_f, xeq_t, xeq_f, xand_f, xor_t]
            · simp (disch := first | omega | assumption | (simp (disch := omega) only [vup_fn, vup_o, vup_k, vup_at]; first | done | omega | assumption)) only [hcn, eH, h1, hq, e, ze_166_96, ze_166_134, ze_166_172, ze_166_211, ze_166_245, ze_166_247, Int.add_zero, ↓reduceIte, qw_id, zck_T, zck_t, zGor_v, zGor_n, zGor_e, zbs, vup_at, vup_vup, vup_self, vup_o, vup_k, vup_fn, ne_eq, not_true_eq_false, not_false_eq_true, and_true, true_and, and_self, and_false, false_and, or_true, true_or, or_self, or_false, false_or, xlt_t, xlt_f, xle_t, xle_f, xeq_t, xeq_f, xand_f, xor_t]
            · simp (disch := first | omega | assumption | (simp (disch := omega) only [vup_fn, vup_o, vup_k, vup_at]; first | done | omega | assumption)) only [hcn, eH, h1, hq, e, ze_166_96, ze_166_134, ze_166_172, ze_166_211, ze_166_245, ze_166_247, Int.add_zero, ↓reduceIte, qw_id, zck_T, zck_t, zGor_v, zGor_n, zGor_e, zbs, vup_at, vup_vup, vup_self, vup_o, vup_k, vup_fn, ne_eq, not_true_eq_false, not_false_eq_true, and_true, true_and, and_self, and_false, false_and, or_true, true_or, or_self, or_false, false_or, xlt_t, xlt_f, xle_t, xle_f, xeq_t, xeq_f, xand_f, xor_t]
            · simp (disch := first | omega | assumption | (simp (disch := omega) only [vup_fn, vup_o, vup_k, vup_at]; first | done | omega | assumption)) only [hcn, eH, h1, hq, e, ze_166_96, ze_166_134, ze_166_172, ze_166_211, ze_166_245, ze_166_247, Int.add_zero, ↓reduceIte, qw_id, zck_T, zck_t, zGor_v, zGor_n, zGor_e, zbs, vup_at, vup_vup, vup_self, vup_o, vup_k, vup_fn, ne_eq, not_true_eq_false, not_false_eq_true, and_true, true_and, and_self, and_false, false_and, or_true, true_or, or_self, or_false, false_or, xlt_t, xlt_f, xle_t, xle_f, xeq_t, xeq_f, xand_f, xor_t]
            · have g4 := (g.2.2.2 e).2
              rcases g4 with e1 | e1 | e1
              · simp (disch := first | omega | assumption | (simp (disch := omega) only [vup_fn, vup_o, vup_k, vup_at]; first | done | omega | assumption)) only [hcn, eH, h1, hq, e, e1, ze_166_96, ze_166_134, ze_166_172, ze_166_211, ze_166_245, ze_166_247, Int.add_zero, ↓reduceIte, qw_id, zck_T, zck_t, zGor_v, zGor_n, zGor_e, zbs, vup_at, vup_vup, vup_self, vup_o, vup_k, vup_fn, ne_eq, not_true_eq_false, not_false_eq_true, and_true, true_and, and_self, and_false, false_and, or_true, true_or, or_self, or_false, false_or, xlt_t, xlt_f, xle_t, xle_f, xeq_t, xeq_f, xand_f, xor_t]
              · simp (disch := first | omega | assumption | (simp (disch := omega) only [vup_fn, vup_o, vup_k, vup_at]; first | done | omega | assumption)) only [hcn, eH, h1, hq, e, e1, ze_166_96, ze_166_134, ze_166_172, ze_166_211, ze_166_245, ze_166_247, Int.add_zero, ↓reduceIte, qw_id, zck_T, zck_t, zGor_v, zGor_n, zGor_e, zbs, vup_at, vup_vup, vup_self, vup_o, vup_k, vup_fn, ne_eq, not_true_eq_false, not_false_eq_true, and_true, true_and, and_self, and_false, false_and, or_true, true_or, or_self, or_false, false_or, xlt_t, xlt_f, xle_t, xle_f, xeq_t, xeq_f, xand_f, xor_t]
              · exact absurd e1 hv
        · rw [if_neg (fun w => hq w.2.1)] at s1 s2 s3 s4
          obtain ⟨y8, q⟩ := ih (c + 1) x8 (by omega) (by omega)
          refine ⟨y8, ?_⟩
          rw [← q, s1, s2, s3, s4]
          clear q ih s1 s2 s3 s4
          generalize foi H (V 457) (V 458) (V 459) k 0 1 (V 435 k) c = a1
          generalize foi H (V 457) (V 458) (V 459) k 2 2 (V 436 k) c = a2
          generalize foi H (V 457) (V 458) (V 459) k 3 3 (V 437 k) c = a3
          generalize foi H (V 457) (V 458) (V 459) k 4 4 0 c = a4
          rw [ze_166_43]
          simp (disch := first | omega | assumption | (simp (disch := omega) only [vup_fn, vup_o, vup_k, vup_at]; first | done | omega | assumption)) only [hcn, eH, h1, ze_166_247, Int.add_zero, ↓reduceIte, qw_id, zck_T, zck_t, zGor_v, zGor_n, zGor_e, zbs, vup_at, vup_vup, vup_self, vup_o, vup_k, vup_fn, ne_eq, not_true_eq_false, not_false_eq_true, and_true, true_and, and_self, and_false, false_and, or_true, true_or, or_self, or_false, false_or, xlt_t, xlt_f, xle_t, xle_f, xeq_t, xeq_f, xand_f, xor_t]
/-- the reference's tokens when the first p of them are corrected -/
def mApd (V V0 : zVt) (H : Int → Int) (cnt p : Int) : Prop := ∀ k, 0 ≤ k →
  (k < p → V 433 k = (if foi H (V0 457) (V0 458) (V0 459) k 4 4 0 cnt = 1 then 4 else V0 433 k) ∧ V 435 k = foi H (V0 457) (V0 458) (V0 459) k 0 1 (V0 435 k) cnt ∧ V 436 k = foi H (V0 457) (V0 458) (V0 459) k 2 2 (V0 436 k) cnt ∧ V 437 k = foi H (V0 457) (V0 458) (V0 459) k 3 3 (V0 437 k) cnt ∧ V 438 k = (if foi H (V0 457) (V0 458) (V0 459) k 4 4 0 cnt = 1 then 0 else V0 438 k)) ∧
  (p ≤ k → V 433 k = V0 433 k ∧ V 435 k = V0 435 k ∧ V 436 k = V0 436 k ∧ V 437 k = V0 437 k ∧ V 438 k = V0 438 k)
/-- what correcting leaves -/
def mFc (V V' : zVt) : Prop := ∀ o : Nat, ¬(o = 433 ∨ (435 ≤ o ∧ o ≤ 438)) → V' o = V o
theorem sl166 {V0 : zVt} {set cnt : Int} {H : Int → Int} {n : Int} (hs : 0 ≤ set ∧ set < 52) (hn : 0 ≤ n ∧ n ≤ 60) (h10 : V0 430 10 = n) (hcn : V0 430 42 = cnt) (hH : ∀ c, 0 ≤ c → c < 200 → V0 456 (200 * set + c) = H c) {K : Int → Int} (hg : cGood H (V0 457) (V0 458) (V0 459) K cnt n) (h8 : ∀ k, 0 ≤ k → k < n → (V0 438 k = 0 ∨ V0 438 k = 1) ∧ (0 ≤ V0 433 k ∧ V0 433 k ≤ 9)) (j : Nat) : ∀ (V : zVt) (p : Int) (x3 x4 x5 x6 x7 x8 : Value), (0 ≤ p ∧ p ≤ n) → n - p < j → mFc V0 V → mApd V V0 H cnt p →
    ∃ V', zGo false 166 2 [.ref 430, .int (zi set), .int (zi p), x3, x4, x5, x6, x7, x8] [] (zm V J d) = zN1 V' J d ∧ mApd V' V0 H cnt n ∧ mFc V0 V' := by
  induction j with
  | zero => intro V p x3 x4 x5 x6 x7 x8 hp hj; omega
  | succ j ih =>
    intro V p x3 x4 x5 x6 x7 x8 hp hj hf ha
    have e10 : V 430 10 = n := by rw [hf 430 (by omega), h10]
    have e42 : V 430 42 = cnt := by rw [hf 430 (by omega), hcn]
    by_cases hpn : p = n
    · subst hpn
      refine ⟨V, ?_, ha, hf⟩
      rw [ze_166_2]
      simp (disch := first | omega | assumption | (simp (disch := omega) only [vup_fn, vup_o, vup_k, vup_at]; first | done | omega | assumption)) only [e10, ze_166_328, Int.add_zero, ↓reduceIte, qw_id, zck_T, zck_t, zGor_v, zGor_n, zGor_e, zbs, vup_at, vup_vup, vup_self, vup_o, vup_k, vup_fn, ne_eq, not_true_eq_false, not_false_eq_true, and_true, true_and, and_self, and_false, false_and, or_true, true_or, or_self, or_false, false_or, xlt_t, xlt_f, xle_t, xle_f, xeq_t, xeq_f, xand_f, xor_t]
    · have hap := (ha p hp.1).2 (Int.le_refl p)
      have f7 := hf 457 (by omega)
      have f8 := hf 458 (by omega)
      have f9 := hf 459 (by omega)
      have g1 := hg.1
      obtain ⟨y8, q⟩ := sl166i (V := V) (J := J) (d := d) (set := set) (k := p) (cnt := cnt) (H := H) (n := n) hs (by omega) hn.2 e42 (by rw [hf 456 (by omega)]; exact hH) (K := K) (by rw [f7, f8, f9]; exact hg) 300 0 x8 (by omega) (by omega)
      rw [f7, f8, f9, hap.2.1, hap.2.2.1, hap.2.2.2.1] at q
      simp only [foi_0] at q
      have h8p := h8 p hp.1 (by omega)
      have hr4 : foi H (V0 457) (V0 458) (V0 459) p 4 4 0 cnt = 0 ∨ foi H (V0 457) (V0 458) (V0 459) p 4 4 0 cnt = 1 := by
        rcases foi_cs (H := H) (q := V0 457) (m := V0 458) (v := V0 459) (k := p) (lo := 4) (hi := 4) (b := 0) (n := cnt) g1.1 with e | ⟨c, c1, c2, c3, c4, c5, c6⟩
        · exact Or.inl e
        · have := (hg.2.2 c c1.1 c1.2 c2).2.2.2 (by omega)
          rw [c6]
          omega
      have hstep : ∃ W, zGo false 166 2 [.ref 430, .int (zi set), .int (zi p), x3, x4, x5, x6, x7, x8] [] (zm V J d) = zGo false 166 2 [.ref 430, .int (zi set), .int (zi (p + 1)), .int (zi (foi H (V0 457) (V0 458) (V0 459) p 0 1 (V0 435 p) cnt)), .int (zi (foi H (V0 457) (V0 458) (V0 459) p 2 2 (V0 436 p) cnt)), .int (zi (foi H (V0 457) (V0 458) (V0 459) p 3 3 (V0 437 p) cnt)), .int (zi (foi H (V0 457) (V0 458) (V0 459) p 4 4 0 cnt)), .int (zi cnt), y8] [] (zm W J d) ∧ W = vup (vup (vup (vup (vup V 435 p (foi H (V0 457) (V0 458) (V0 459) p 0 1 (V0 435 p) cnt)) 436 p (foi H (V0 457) (V0 458) (V0 459) p 2 2 (V0 436 p) cnt)) 437 p (foi H (V0 457) (V0 458) (V0 459) p 3 3 (V0 437 p) cnt)) 433 p (if foi H (V0 457) (V0 458) (V0 459) p 4 4 0 cnt = 1 then 4 else V0 433 p)) 438 p (if foi H (V0 457) (V0 458) (V0 459) p 4 4 0 cnt = 1 then 0 else V0 438 p) := by
        refine ⟨_, ?_, rfl⟩
        have s0 : zGo false 166 2 [.ref 430, .int (zi set), .int (zi p), x3, x4, x5, x6, x7, x8] [] (zm V J d) = zGo false 166 43 [.ref 430, .int (zi set), .int (zi p), .int (zi (V0 435 p)), .int (zi (V0 436 p)), .int (zi (V0 437 p)), .int (zi 0), .int (zi 0), x8] [] (zm V J d) := by
          rw [ze_166_2]
          simp (disch := first | omega | assumption | (simp (disch := omega) only [vup_fn, vup_o, vup_k, vup_at]; first | done | omega | assumption)) only [e10, hap.2.1, hap.2.2.1, hap.2.2.2.1, Int.add_zero, ↓reduceIte, qw_id, zck_T, zck_t, zGor_v, zGor_n, zGor_e, zbs, vup_at, vup_vup, vup_self, vup_o, vup_k, vup_fn, ne_eq, not_true_eq_false, not_false_eq_true, and_true, true_and, and_self, and_false, false_and, or_true, true_or, or_self, or_false, false_or, xlt_t, xlt_f, xle_t, xle_f, xeq_t, xeq_f, xand_f, xor_t]
        rw [s0, q]
        generalize foi H (V0 457) (V0 458) (V0 459) p 0 1 (V0 435 p) cnt = a1
        generalize foi H (V0 457) (V0 458) (V0 459) p 2 2 (V0 436 p) cnt = a2
        generalize foi H (V0 457) (V0 458) (V0 459) p 3 3 (V0 437 p) cnt = a3
        generalize foi H (V0 457) (V0 458) (V0 459) p 4 4 0 cnt = a4 at *
        have e33 := hap.1
        have e38 := hap.2.2.2.2
        rw [ze_166_43]
        rcases hr4 with h4 | h4
        · rcases h8p.1 with h80 | h80
          · simp (disch := first | omega | assumption | (simp (disch := omega) only [vup_fn, vup_o, vup_k, vup_at]; first | done | omega | assumption)) only [e42, h4, e33, e38, h80, ze_166_296, ze_166_320, ze_166_321, Int.add_zero, ↓reduceIte, qw_id, zck_T, zck_t, zGor_v, zGor_n, zGor_e, zbs, vup_at, vup_vup, vup_self, vup_o, vup_k, vup_fn, ne_eq, not_true_eq_false, not_false_eq_true, and_true, true_and, and_self, and_false, false_and, or_true, true_or, or_self, or_false, false_or, xlt_t, xlt_f, xle_t, xle_f, xeq_t, xeq_f, xand_f, xor_t]
          · simp (disch := first | omega | assumption | (simp (disch := omega) only [vup_fn, vup_o, vup_k, vup_at]; first | done | omega | assumption)) only [e42, h4, e33, e38, h80, ze_166_296, ze_166_320, ze_166_321, Int.add_zero, ↓reduceIte, qw_id, zck_T, zck_t, zGor_v, zGor_n, zGor_e, zbs, vup_at, vup_vup, vup_self, vup_o, vup_k, vup_fn, ne_eq, not_true_eq_false, not_false_eq_true, and_true, true_and, and_self, and_false, false_and, or_true, true_or, or_self, or_false, false_or, xlt_t, xlt_f, xle_t, xle_f, xeq_t, xeq_f, xand_f, xor_t]
        · rcases h8p.1 with h80 | h80
          · simp (disch := first | omega | assumption | (simp (disch := omega) only [vup_fn, vup_o, vup_k, vup_at]; first | done | omega | assumption)) only [e42, h4, e33, e38, h80, ze_166_296, ze_166_320, ze_166_321, Int.add_zero, ↓reduceIte, qw_id, zck_T, zck_t, zGor_v, zGor_n, zGor_e, zbs, vup_at, vup_vup, vup_self, vup_o, vup_k, vup_fn, ne_eq, not_true_eq_false, not_false_eq_true, and_true, true_and, and_self, and_false, false_and, or_true, true_or, or_self, or_false, false_or, xlt_t, xlt_f, xle_t, xle_f, xeq_t, xeq_f, xand_f, xor_t]
          · simp (disch := first | omega | assumption | (simp (disch := omega) only [vup_fn, vup_o, vup_k, vup_at]; first | done | omega | assumption)) only [e42, h4, e33, e38, h80, ze_166_296, ze_166_320, ze_166_321, Int.add_zero, ↓reduceIte, qw_id, zck_T, zck_t, zGor_v, zGor_n, zGor_e, zbs, vup_at, vup_vup, vup_self, vup_o, vup_k, vup_fn, ne_eq, not_true_eq_false, not_false_eq_true, and_true, true_and, and_self, and_false, false_and, or_true, true_or, or_self, or_false, false_or, xlt_t, xlt_f, xle_t, xle_f, xeq_t, xeq_f, xand_f, xor_t]
      obtain ⟨W, w1, w2⟩ := hstep
      obtain ⟨V', p1, p2, p3⟩ := ih W (p + 1) _ _ _ _ _ y8 (by omega) (by omega) (by
        intro o ho
        rw [w2]
        simp (disch := omega) only [vup_fn]
        exact hf o ho) (by
        intro k k0
        rw [w2]
        constructor
        · intro k1
          by_cases hkp : k = p
          · subst hkp
            simp (disch := omega) only [vup_o, vup_at]
            exact ⟨trivial, trivial, trivial, trivial, trivial⟩
          · simp only [vup_k hkp]
            exact (ha k k0).1 (by omega)
        · intro k1
          have hkp : k ≠ p := by omega
          simp only [vup_k hkp]
          exact (ha k k0).2 (by omega))
      exact ⟨V', w1.trans p1, p2, p3⟩
theorem sp166 {V : zVt} {set cnt : Int} {H : Int → Int} {n : Int} (hs : 0 ≤ set ∧ set < 52) (hn : 0 ≤ n ∧ n ≤ 60) (h10 : V 430 10 = n) (hcn : V 430 42 = cnt) (hH : ∀ c, 0 ≤ c → c < 200 → V 456 (200 * set + c) = H c) {K : Int → Int} (hg : cGood H (V 457) (V 458) (V 459) K cnt n) (h8 : ∀ k, 0 ≤ k → k < n → (V 438 k = 0 ∨ V 438 k = 1) ∧ (0 ≤ V 433 k ∧ V 433 k ≤ 9)) :
    ∃ V', zGo false 166 0 [.ref 430, .int (zi set), .null, .null, .null, .null, .null, .null, .null] [] (zm V J d) = zN1 V' J d ∧ mApd V' V H cnt n ∧ mFc V V' := by
  obtain ⟨V', p1, p2⟩ := sl166 (J := J) (d := d) hs hn h10 hcn hH hg h8 100 V 0 .null .null .null .null .null .null (by omega) (by omega) (fun _ _ => rfl) (fun k k0 => ⟨fun k1 => by omega, fun _ => ⟨rfl, rfl, rfl, rfl, rfl⟩⟩)
  refine ⟨V', ?_, p2⟩
  rw [← p1, ze_166_0]
/-- without a set nothing is corrected -/
theorem sp166n {V : zVt} {n : Int} (hn : 0 ≤ n ∧ n ≤ 60) (h10 : V 430 10 = n) : zGo false 166 0 [.ref 430, .int (zi (-1)), .null, .null, .null, .null, .null, .null, .null] [] (zm V J d) = zN1 V J d := by
  rw [ze_166_0, ze_166_2]
  by_cases h : n ≤ 0
  · simp (disch := first | omega | assumption | (simp (disch := omega) only [vup_fn, vup_o, vup_k, vup_at]; first | done | omega | assumption)) only [h10, ze_166_328, Int.add_zero, ↓reduceIte, qw_id, zck_T, zck_t, zGor_v, zGor_n, zGor_e, zbs, vup_at, vup_vup, vup_self, vup_o, vup_k, vup_fn, ne_eq, not_true_eq_false, not_false_eq_true, and_true, true_and, and_self, and_false, false_and, or_true, true_or, or_self, or_false, false_or, xlt_t, xlt_f, xle_t, xle_f, xeq_t, xeq_f, xand_f, xor_t]
  · simp (disch := first | omega | assumption | (simp (disch := omega) only [vup_fn, vup_o, vup_k, vup_at]; first | done | omega | assumption)) only [h10, ze_166_328, Int.add_zero, ↓reduceIte, qw_id, zck_T, zck_t, zGor_v, zGor_n, zGor_e, zbs, vup_at, vup_vup, vup_self, vup_o, vup_k, vup_fn, ne_eq, not_true_eq_false, not_false_eq_true, and_true, true_and, and_self, and_false, false_and, or_true, true_or, or_self, or_false, false_or, xlt_t, xlt_f, xle_t, xle_f, xeq_t, xeq_f, xand_f, xor_t]
end
