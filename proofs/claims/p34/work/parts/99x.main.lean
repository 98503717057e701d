/-! part 99x: the law's second loop: what holds at each turn; lending and giving back -/
/-- the requests that are done -/
abbrev lDn (V : zVt) : Int := lSm (fun j => if V 467 j ≠ -1 then 1 else 0) 0 (V 480 52).toNat
def lM (V : zVt) (J : zJt) (N c k r D G : Int) : Prop := zInv N V J ∧ (2 ≤ N ∧ k ≤ N) ∧ (V 480 37 = c ∧ V 480 42 = k ∧ V 480 52 = r ∧ V 480 46 = D ∧ V 480 59 = G) ∧ (8 ≤ c ∧ c ≤ 16) ∧ (∀ j, 0 ≤ j → j < c → V 454 j = j % 8 ∧ V 430 j = V 455 j) ∧ (∀ j, 0 ≤ j → j < r → V 431 j = V 467 j) ∧ lDs V ∧ ∀ i, 0 ≤ i → i < 5760 → V 47 i ≤ lDn V
theorem lDn_fr {V V' : zVt} (h1 : V' 467 = V 467) (h2 : V' 480 52 = V 480 52) : lDn V' = lDn V := by
  show lSm (fun j => if V' 467 j ≠ -1 then 1 else 0) 0 (V' 480 52).toNat = lSm (fun j => if V 467 j ≠ -1 then 1 else 0) 0 (V 480 52).toNat
  rw [h1, h2]
theorem lDs_fr {V V' : zVt} (h1 : V' 467 = V 467) (h2 : V' 480 52 = V 480 52) (h3 : V' 461 = V 461) (h4 : V' 480 46 = V 480 46) (h : lDs V) : lDs V' := by
  unfold lDs at *
  rw [h1, h2, h3, h4]
  exact h
theorem zInv_up2 {N : Int} {V : zVt} {J : zJt} (h : zInv N V J) (hN : N ≤ 500) : zInv (N + 2) V J := by
  have h1 := zInv_up h (by omega)
  have h2 := zInv_up h1 (by omega)
  rw [show N + 1 + 1 = N + 2 by omega] at h2
  exact h2
section
variable {V V' : zVt} {J J' : zJt} {N c k r D G : Int}
theorem lM_rg (h : lM V J N c k r D G) : (0 ≤ k ∧ k ≤ 200) ∧ (0 ≤ r ∧ r ≤ 40) ∧ (0 ≤ D ∧ D ≤ N) ∧ (0 ≤ G ∧ G ≤ N) ∧ N ≤ 600 := by
  obtain ⟨hz, hN, ⟨e1, e2, e3, e4, e5⟩, _⟩ := h
  have a := hz.2.1.1
  obtain ⟨_, _, _, _, b5, _, b7, _⟩ := hz.2.2.2.2.2.2.1
  have c9 := hz.2.2.2.2.2.2.2.2.1
  have d10 := hz.2.2.2.2.2.2.2.2.2
  omega
theorem lM_cp (h : lM V J N c k r D G) {j : Int} (h0 : 0 ≤ j) (h1 : j < c) : (-1 ≤ V 430 j ∧ V 430 j < 12) ∧ V 454 j = j % 8 ∧ V 430 j = V 455 j ∧ j < V 480 37 := by
  obtain ⟨hz, hN, ⟨e1, e2, e3, e4, e5⟩, hc, hl, _⟩ := h
  obtain ⟨_, _, _, _, q⟩ := iCp_ms hz (c := j) ⟨h0, by omega⟩
  obtain ⟨a, b⟩ := hl j h0 h1
  exact ⟨by omega, a, b, by omega⟩
theorem lM_up (h : lM V J N c k r D G) (hN : N ≤ 500) : lM V J (N + 2) c k r D G := ⟨zInv_up2 h.1 hN, ⟨by have := h.2.1; omega, by have := h.2.1; omega⟩, h.2.2⟩
/-- only who has which copy has changed -/
theorem lM_fr (h : lM V J N c k r D G) {k' : Int} (hz : zInv (N + 2) V' J') (hk : k' ≤ N + 2) (h42 : V' 480 42 = k') (hf : lFr V V') (hl : ∀ j, 0 ≤ j → j < c → V' 430 j = V' 455 j) : lM V' J' (N + 2) c k' r D G := by
  obtain ⟨_, hN, ⟨e1, e2, e3, e4, e5⟩, hc, hl0, h431, hD, h47⟩ := h
  obtain ⟨f1, f0, f37, f46, f52, f59⟩ := hf
  have f467 := f1 467 (by omega)
  refine ⟨hz, ⟨by omega, hk⟩, ⟨f37.trans e1, h42, f52.trans e3, f46.trans e4, f59.trans e5⟩, hc, fun j j0 j1 => ⟨?_, hl j j0 j1⟩, ?_, lDs_fr f467 f52 (f1 461 (by omega)) f46 hD, ?_⟩
  · rw [f1 454 (by omega)]
    exact (hl0 j j0 j1).1
  · rw [f1 431 (by omega), f467]
    exact h431
  · rw [lDn_fr f467 f52, f1 47 (by omega)]
    exact h47
theorem lM_fr2 (h : lM V J N c k r D G) {k' a y : Int} (hz : zInv (N + 2) V' J') (hk : k' ≤ N + 2) (h42 : V' 480 42 = k') (hf : lFr V V') (h455 : ∀ j, V' 455 j = if j = a then y else V 455 j) : lM (vup V' 430 a y) J' (N + 2) c k' r D G := by
  have e : ∀ o : Nat, o ≠ 430 → vup V' 430 a y o = V' o := fun o ho => vup_fn ho
  have h1 : V' 430 = V 430 := hf.1 430 (by omega)
  obtain ⟨_, hN, ⟨e1, e2, e3, e4, e5⟩, hc, hl0, h431, hD, h47⟩ := h
  obtain ⟨f1, f0, f37, f46, f52, f59⟩ := hf
  have f467 := f1 467 (by omega)
  refine ⟨zInv_430 hz _ _, ⟨by omega, hk⟩, ?_, hc, fun j j0 j1 => ?_, ?_, lDs_fr (V := V) (by rw [e 467 (by omega), f467]) (by rw [e 480 (by omega), f52]) (by rw [e 461 (by omega), f1 461 (by omega)]) (by rw [e 480 (by omega), f46]) hD, ?_⟩
  · rw [e 480 (by omega)]
    exact ⟨f37.trans e1, h42, f52.trans e3, f46.trans e4, f59.trans e5⟩
  · rw [e 454 (by omega), e 455 (by omega), f1 454 (by omega), h455]
    refine ⟨(hl0 j j0 j1).1, ?_⟩
    by_cases q : j = a
    · rw [if_pos q, q, vup_at]
    · rw [if_neg q, vup_k q, h1]
      exact (hl0 j j0 j1).2
  · rw [e 431 (by omega), e 467 (by omega), f1 431 (by omega), f467]
    exact h431
  · rw [lDn_fr (V := V) (by rw [e 467 (by omega), f467]) (by rw [e 480 (by omega), f52]), e 47 (by omega), f1 47 (by omega)]
    exact h47
theorem lM_430 (h : lM V J N c k r D G) {i x : Int} (hx : V 455 i = x) : lM (vup V 430 i x) J N c k r D G := by
  obtain ⟨hz, hN, ⟨e1, e2, e3, e4, e5⟩, hc, hl0, h431, hD, h47⟩ := h
  refine ⟨zInv_430 hz _ _, hN, ?_, hc, fun j j0 j1 => ?_, ?_, lDs_fr (vup_fn (by omega)) (by rw [vup_fn (by omega)]) (vup_fn (by omega)) (by rw [vup_fn (by omega)]) hD, ?_⟩
  · rw [vup_fn (by omega)]
    exact ⟨e1, e2, e3, e4, e5⟩
  · rw [vup_fn (by omega : (454 : Nat) ≠ 430), vup_fn (by omega : (455 : Nat) ≠ 430)]
    refine ⟨(hl0 j j0 j1).1, ?_⟩
    by_cases q : j = i
    · rw [q, vup_at, hx]
    · rw [vup_k q]
      exact (hl0 j j0 j1).2
  · rw [vup_fn (by omega : (431 : Nat) ≠ 430), vup_fn (by omega : (467 : Nat) ≠ 430)]
    exact h431
  · rw [lDn_fr (V := V) (vup_fn (by omega)) (by rw [vup_fn (by omega)]), vup_fn (by omega)]
    exact h47
end
abbrev wLm (c k r D G i n x12 x13 x14 x15 x16 : Int) (v17 v18 v19 v20 v21 v22 v23 : Value) : List Value := [.ref 1048578, .ref 0, .ref 430, .ref 431, .int (zi 1), .int (zi c), .int (zi k), .int (zi r), .int (zi D), .int (zi G), .int (zi i), .int (zi n), .int (zi x12), .int (zi x13), .int (zi x14), .int (zi x15), .int (zi x16), v17, v18, v19, v20, v21, v22, v23]
abbrev wLs (c k r D G i : Int) (v11 v12 v13 v14 v15 v16 v17 v18 v19 v20 v21 v22 v23 : Value) : List Value := [.ref 1048578, .ref 0, .ref 430, .ref 431, .int (zi 1), .int (zi c), .int (zi k), .int (zi r), .int (zi D), .int (zi G), .int (zi i), v11, v12, v13, v14, v15, v16, v17, v18, v19, v20, v21, v22, v23]
/-- the law's turn up to its last checks -/
def lB (cf : Int32 → Int32) (d : Nat → Nat → UInt64) (V : zVt) (J : zJt) (N c k r D G i n : Int) (v11 v12 v13 v14 v15 v16 v17 v18 v19 v20 v21 v22 v23 : Value) (kk : Nat) : Prop := ∃ (V' : zVt) (J' : zJt) (j : Nat) (c' k' r' D' G' : Int) (w17 w18 w19 w20 w21 w22 w23 : Value), j ≤ 2000 ∧ lM V' J' (N + 2) c' k' r' D' G' ∧ c ≤ c' ∧ wGo cf 237 191 (wLs c k r D G i v11 v12 v13 v14 v15 v16 v17 v18 v19 v20 v21 v22 v23) [.int (zi n)] (zm V J d) kk = wGo cf 237 1366 (wLm c' k' r' D' G' i n (n / 20) (n % 20) (n / 20 % c) (n / 20 / 7 % 6) (n / 20 % 2) w17 w18 w19 w20 w21 w22 w23) [] (zm V' J' d) (kk + j)
section
variable {cf : Int32 → Int32} {d : Nat → Nat → UInt64} {V : zVt} {J : zJt} {N c k r D G i n : Int} {v11 v12 v13 v14 v15 v16 v17 v18 v19 v20 v21 v22 v23 : Value} {kk : Nat}
/-- does the singer hold a copy of the piece? -/
theorem lB_who (h : lM V J N c k r D G) {x12 x13 a s p x : Int} (ha : 0 ≤ a ∧ a < c) (hs : 0 ≤ s ∧ s < 12) (m : Nat) : ∀ (t y : Int), 0 ≤ t → t + m = c → (y = 0 ∨ y = 1) → ∃ y', (y' = 0 ∨ y' = 1) ∧ (y' = 1 ↔ y = 1 ∨ ∃ j, (t ≤ j ∧ j < c) ∧ V 455 j = s ∧ V 454 j / 4 = V 454 a / 4) ∧ wGo cf 237 252 (wLm c k r D G i n x12 x13 a s p (.int (zi x)) (.int (zi y)) (.int (zi t)) v20 v21 v22 v23) [] (zm V J d) kk = wGo cf 237 252 (wLm c k r D G i n x12 x13 a s p (.int (zi x)) (.int (zi y')) (.int (zi c)) v20 v21 v22 v23) [] (zm V J d) kk := by
  have hc := h.2.2.2.1
  obtain ⟨_, a2, _⟩ := lM_cp h ha.1 ha.2
  induction m with
  | zero =>
    intro t y h0 ht hy
    have e : t = c := by omega
    subst e
    exact ⟨y, hy, ⟨fun w => Or.inl w, fun w => by
      rcases w with w | ⟨j, j1, _⟩
      · exact w
      · omega⟩, rfl⟩
  | succ m ih =>
    intro t y h0 ht hy
    obtain ⟨t1, t2, t3, _⟩ := lM_cp h h0 (by omega)
    have step : ∃ y1, (y1 = 0 ∨ y1 = 1) ∧ (y1 = 1 ↔ y = 1 ∨ (V 455 t = s ∧ V 454 t / 4 = V 454 a / 4)) ∧ wGo cf 237 252 (wLm c k r D G i n x12 x13 a s p (.int (zi x)) (.int (zi y)) (.int (zi t)) v20 v21 v22 v23) [] (zm V J d) kk = wGo cf 237 252 (wLm c k r D G i n x12 x13 a s p (.int (zi x)) (.int (zi y1)) (.int (zi (t + 1))) v20 v21 v22 v23) [] (zm V J d) kk := by
      rcases hy with hy | hy
      · subst hy
        by_cases q : V 430 t = s
        · by_cases q2 : t % 8 / 4 = a % 8 / 4
          · refine ⟨1, Or.inr rfl, ⟨fun _ => Or.inr ⟨by omega, by rw [t2, a2]; exact q2⟩, fun _ => rfl⟩, ?_⟩
            rw [lw_237_252]
            simp (disch := first | omega | assumption) only [lw_237_290, lw_237_295, q, wck_t, wck_T, wbS, wbV, wbR, qdiv_p, qrem_p, Int.add_zero, ↓reduceIte, qw_id, ne_eq, not_true_eq_false, not_false_eq_true, and_true, true_and, and_self, and_false, false_and, or_true, true_or, or_self, or_false, false_or, xlt_t, xlt_f, xle_t, xle_f, xeq_t, xeq_f, xand_f, xor_t]
          · refine ⟨0, Or.inl rfl, ⟨fun w => by omega, fun w => ?_⟩, ?_⟩
            · rcases w with w | w
              · omega
              · rw [t2, a2] at w
                exact absurd w.2 q2
            rw [lw_237_252]
            simp (disch := first | omega | assumption) only [lw_237_294, lw_237_295, q, wck_t, wck_T, wbS, wbV, wbR, qdiv_p, qrem_p, Int.add_zero, ↓reduceIte, qw_id, ne_eq, not_true_eq_false, not_false_eq_true, and_true, true_and, and_self, and_false, false_and, or_true, true_or, or_self, or_false, false_or, xlt_t, xlt_f, xle_t, xle_f, xeq_t, xeq_f, xand_f, xor_t]
        · refine ⟨0, Or.inl rfl, ⟨fun w => by omega, fun w => ?_⟩, ?_⟩
          · omega
          rw [lw_237_252]
          simp (disch := first | omega | assumption) only [lw_237_294, lw_237_295, wck_t, wck_T, wbS, wbV, wbR, qdiv_p, qrem_p, Int.add_zero, ↓reduceIte, qw_id, ne_eq, not_true_eq_false, not_false_eq_true, and_true, true_and, and_self, and_false, false_and, or_true, true_or, or_self, or_false, false_or, xlt_t, xlt_f, xle_t, xle_f, xeq_t, xeq_f, xand_f, xor_t]
      · subst hy
        refine ⟨1, Or.inr rfl, ⟨fun _ => Or.inl rfl, fun _ => rfl⟩, ?_⟩
        rw [lw_237_252]
        simp (disch := first | omega | assumption) only [lw_237_290, lw_237_295, wck_t, wck_T, wbS, wbV, wbR, qdiv_p, qrem_p, Int.add_zero, ↓reduceIte, qw_id, ne_eq, not_true_eq_false, not_false_eq_true, and_true, true_and, and_self, and_false, false_and, or_true, true_or, or_self, or_false, false_or, xlt_t, xlt_f, xle_t, xle_f, xeq_t, xeq_f, xand_f, xor_t]
    obtain ⟨y1, b1, b2, b3⟩ := step
    obtain ⟨y2, c1, c2, c3⟩ := ih (t + 1) y1 (by omega) (by omega) b1
    refine ⟨y2, c1, c2.trans ?_, b3.trans c3⟩
    rw [b2]
    constructor
    · rintro ((w | w) | ⟨j, j1, j2⟩)
      · exact Or.inl w
      · exact Or.inr ⟨t, ⟨Int.le_refl _, by omega⟩, w⟩
      · exact Or.inr ⟨j, ⟨by omega, j1.2⟩, j2⟩
    · rintro (w | ⟨j, j1, j2⟩)
      · exact Or.inl (Or.inl w)
      · by_cases e : j = t
        · rw [e] at j2
          exact Or.inl (Or.inr j2)
        · exact Or.inr ⟨j, ⟨by omega, j1.2⟩, j2⟩
theorem lB_lend (h : lM V J N c k r D G) (hN : N ≤ 200) (hn : 0 ≤ n ∧ n < 2147483648) (h13 : n % 20 < 5) : lB cf d V J N c k r D G i n v11 v12 v13 v14 v15 v16 v17 v18 v19 v20 v21 v22 v23 kk := by
  obtain ⟨k0, r0, D0, G0, N0⟩ := lM_rg h
  have hc := h.2.2.2.1
  have e480 := h.2.2.1
  obtain ⟨a, ha⟩ : ∃ a, n / 20 % c = a := ⟨_, rfl⟩
  obtain ⟨s, hs⟩ : ∃ s, n / 20 / 7 % 6 = s := ⟨_, rfl⟩
  have ra : 0 ≤ a ∧ a < c := by
    rw [← ha]
    exact ⟨Int.emod_nonneg _ (by omega), Int.emod_lt_of_pos _ (by omega)⟩
  have rs : 0 ≤ s ∧ s < 12 := by omega
  obtain ⟨a1, a2, a3, a4⟩ := lM_cp h ra.1 ra.2
  have hz := h.1
  have hkN := h.2.1
  unfold lB
  rw [ha, hs]
  rcases c_lend (d := d) hz (a := a) (b := s) ⟨ra.1, a4⟩ rs with ⟨⟨l1, l2⟩, x, V', J', q1, q2, q3, q4, q5, q6⟩ | ⟨l1, q1⟩
  · have hM := lM_fr2 h (a := a) (y := s) (zInv_up2 q2 (by omega)) (by omega) (q5.trans e480.2.1) q4 q6
    have e430 : V' 430 = V 430 := q4.1 430 (by omega)
    -- nobody else: the law's loop over V' sees what V's saw ahead of the call
    have who : ∀ (m : Nat) (t : Int), 0 ≤ t → t + m = c → wGo cf 237 252 (wLm c k r D G i n (n / 20) (n % 20) a s (n / 20 % 2) (.int (zi x)) (.int (zi 0)) (.int (zi t)) v20 v21 v22 v23) [] (zm V' J' d) (kk + 1) = wGo cf 237 252 (wLm c k r D G i n (n / 20) (n % 20) a s (n / 20 % 2) (.int (zi x)) (.int (zi 0)) (.int (zi c)) v20 v21 v22 v23) [] (zm V' J' d) (kk + 1) := by
      intro m
      induction m with
      | zero =>
        intro t h0 ht
        rw [show t = c by omega]
      | succ m ih =>
        intro t h0 ht
        obtain ⟨t1, t2, t3, _⟩ := lM_cp h h0 (by omega : t < c)
        have no : ¬(V 430 t = s ∧ t % 8 / 4 = a % 8 / 4) := fun w => l2 ⟨t, ⟨h0, by omega⟩, by rw [← t3]; exact w.1, by rw [t2, a2]; exact w.2⟩
        rw [← ih (t + 1) (by omega) (by omega)]
        rw [lw_237_252]
        by_cases q : V 430 t = s
        · have q2 : ¬ t % 8 / 4 = a % 8 / 4 := fun w => no ⟨q, w⟩
          simp (disch := first | omega | assumption) only [lw_237_294, lw_237_295, e430, q, wck_t, wck_T, wbS, wbV, wbR, qdiv_p, qrem_p, Int.add_zero, ↓reduceIte, qw_id, ne_eq, not_true_eq_false, not_false_eq_true, and_true, true_and, and_self, and_false, false_and, or_true, true_or, or_self, or_false, false_or, xlt_t, xlt_f, xle_t, xle_f, xeq_t, xeq_f, xand_f, xor_t]
        · simp (disch := first | omega | assumption) only [lw_237_294, lw_237_295, e430, wck_t, wck_T, wbS, wbV, wbR, qdiv_p, qrem_p, Int.add_zero, ↓reduceIte, qw_id, ne_eq, not_true_eq_false, not_false_eq_true, and_true, true_and, and_self, and_false, false_and, or_true, true_or, or_self, or_false, false_or, xlt_t, xlt_f, xle_t, xle_f, xeq_t, xeq_f, xand_f, xor_t]
    have hw := who c.toNat 0 (by omega) (by omega)
    have hv : V 430 a = -1 := by omega
    refine ⟨vup V' 430 a s, J', 1, c, k, r, D, G, .int (zi x), .int (zi 0), .int (zi c), v20, v21, v22, v23, by omega, hM, Int.le_refl _, ?_⟩
    simp (disch := first | omega | assumption) only [lw_237_191, lw_237_244, ha, hs, q1, wck_t, wck_T, wbS, wbV, wbR, qdiv_p, qrem_p, Int.add_zero, ↓reduceIte, qw_id, ne_eq, not_true_eq_false, not_false_eq_true, and_true, true_and, and_self, and_false, false_and, or_true, true_or, or_self, or_false, false_or, xlt_t, xlt_f, xle_t, xle_f, xeq_t, xeq_f, xand_f, xor_t]
    rw [hw, lw_237_252]
    simp (disch := first | omega | assumption) only [lw_237_359, lw_237_378, e430, hv, wck_t, wck_T, wbS, wbV, wbR, qdiv_p, qrem_p, Int.add_zero, ↓reduceIte, qw_id, ne_eq, not_true_eq_false, not_false_eq_true, and_true, true_and, and_self, and_false, false_and, or_true, true_or, or_self, or_false, false_or, xlt_t, xlt_f, xle_t, xle_f, xeq_t, xeq_f, xand_f, xor_t]
  · have hM0 := lM_up h (by omega)
    obtain ⟨y, y1, y2, y3⟩ := lB_who (cf := cf) (d := d) (i := i) (n := n) (v20 := v20) (v21 := v21) (v22 := v22) (v23 := v23) (kk := kk + 1) (x12 := n / 20) (x13 := n % 20) (p := n / 20 % 2) (x := -103) h ra rs c.toNat 0 0 (by omega) (by omega) (Or.inl rfl)
    have hno : ¬(V 430 a = -1 ∧ y = 0) := fun w => l1 ⟨by omega, fun ⟨j, j1, j2⟩ => by
      have := y2.2 (Or.inr ⟨j, ⟨j1.1, by omega⟩, j2⟩)
      omega⟩
    have hv : vup V 430 a (V 430 a) = V := vup_self _ _ _
    refine ⟨V, J, 1, c, k, r, D, G, .int (zi (-103)), .int (zi y), .int (zi c), v20, v21, v22, v23, by omega, hM0, Int.le_refl _, ?_⟩
    simp (disch := first | omega | assumption) only [lw_237_191, lw_237_244, ha, hs, q1, wck_t, wck_T, wbS, wbV, wbR, qdiv_p, qrem_p, Int.add_zero, ↓reduceIte, qw_id, ne_eq, not_true_eq_false, not_false_eq_true, and_true, true_and, and_self, and_false, false_and, or_true, true_or, or_self, or_false, false_or, xlt_t, xlt_f, xle_t, xle_f, xeq_t, xeq_f, xand_f, xor_t]
    rw [y3, lw_237_252]
    by_cases q : V 430 a = -1
    · have y1' : y = 1 := by omega
      subst y1'
      simp (disch := first | omega | assumption) only [lw_237_322, lw_237_359, lw_237_378, hv, wck_t, wck_T, wbS, wbV, wbR, qdiv_p, qrem_p, Int.add_zero, ↓reduceIte, qw_id, ne_eq, not_true_eq_false, not_false_eq_true, and_true, true_and, and_self, and_false, false_and, or_true, true_or, or_self, or_false, false_or, xlt_t, xlt_f, xle_t, xle_f, xeq_t, xeq_f, xand_f, xor_t]
    · simp (disch := first | omega | assumption) only [lw_237_322, lw_237_359, lw_237_378, hv, wck_t, wck_T, wbS, wbV, wbR, qdiv_p, qrem_p, Int.add_zero, ↓reduceIte, qw_id, ne_eq, not_true_eq_false, not_false_eq_true, and_true, true_and, and_self, and_false, false_and, or_true, true_or, or_self, or_false, false_or, xlt_t, xlt_f, xle_t, xle_f, xeq_t, xeq_f, xand_f, xor_t]
end
