/-! part 99u1: the song's bars, one behind the other -/
theorem lIs_app : ∀ a b : List (Int × List (List lTk)), lIs (a ++ b) = lIs a ++ lIs b
  | [], _ => rfl
  | i :: a, b => by
    show lIt i ++ lIs (a ++ b) = (lIt i ++ lIs a) ++ lIs b
    rw [lIs_app a b, List.append_assoc]
theorem lBs_app : ∀ a b : List (List lTk), lBs (a ++ b) = lBs a ++ lBs b
  | [], _ => rfl
  | i :: a, b => by
    show i ++ lBa :: lBs (a ++ b) = (i ++ lBa :: lBs a) ++ lBs b
    rw [lBs_app a b, List.append_assoc]
    rfl
theorem lBn_app : ∀ a b : List (Int × List (List lTk)), lBn (a ++ b) = lBn a + lBn b
  | [], b => (Nat.zero_add (lBn b)).symm
  | i :: a, b => by
    show i.2.length + lBn (a ++ b) = (i.2.length + lBn a) + lBn b
    rw [lBn_app a b, Nat.add_assoc]
/-- the body's tokens behind i bars, a repeat open (x6 = 1) or not -/
def lBd (m : Int) (i : Nat) (x6 : Int) (toks : List lTk) : Prop := x6 = 0 ∧ (∃ its, toks = lIs its ∧ (∀ t ∈ its, lIk m t) ∧ lBn its = i) ∨ x6 = 1 ∧ ∃ its bs, toks = lIs its ++ lOp :: lBs bs ∧ (∀ t ∈ its, lIk m t) ∧ (∀ b ∈ bs, lBk m b) ∧ lBn its + bs.length = i
theorem lBd_o {m : Int} {i : Nat} {toks : List lTk} (h : lBd m i 0 toks) : lBd m i 1 (toks ++ [lOp]) := by
  rcases h with ⟨_, its, h1, h2, h3⟩ | ⟨h, _⟩
  · exact Or.inr ⟨rfl, its, [], by rw [h1]; rfl, h2, fun b hb => (by cases hb), h3⟩
  · exact absurd h (by decide)
theorem lBd_b {m : Int} {i : Nat} {x6 : Int} {toks b : List lTk} (h : lBd m i x6 toks) (hb : lBk m b) : lBd m (i + 1) x6 (toks ++ (b ++ [lBa])) := by
  rcases h with ⟨e, its, h1, h2, h3⟩ | ⟨e, its, bs, h1, h2, h3, h4⟩
  · refine Or.inl ⟨e, its ++ [(0, [b])], ?_, fun t ht => ?_, by rw [lBn_app, h3]; rfl⟩
    · rw [h1, lIs_app]
      show lIs its ++ (b ++ [lBa]) = lIs its ++ (lIt (0, [b]) ++ [])
      rw [List.append_nil, show lIt (0, [b]) = lBs [b] from if_pos rfl]
      rfl
    · rcases List.mem_append.mp ht with q | q
      · exact h2 t q
      · rw [List.mem_singleton.mp q]
        exact ⟨Or.inl rfl, fun c hc => by rw [List.mem_singleton.mp hc]; exact hb⟩
  · refine Or.inr ⟨e, its, bs ++ [b], ?_, h2, fun c hc => ?_, by rw [List.length_append, List.length_cons, List.length_nil]; omega⟩
    · rw [h1, lBs_app, List.append_assoc]
      rfl
    · rcases List.mem_append.mp hc with q | q
      · exact h3 c q
      · rw [List.mem_singleton.mp q]
        exact hb
theorem lBd_c {m : Int} {i : Nat} {q : Int} {toks : List lTk} (h : lBd m i 1 toks) (hq : q = 2 ∨ q = 3) : lBd m i 0 (toks ++ [lCe q]) := by
  rcases h with ⟨h, _⟩ | ⟨_, its, bs, h1, h2, h3, h4⟩
  · exact absurd h (by decide)
  · refine Or.inl ⟨rfl, its ++ [(q, bs)], ?_, fun t ht => ?_, by rw [lBn_app]; exact h4⟩
    · rw [h1, lIs_app, List.append_assoc]
      show lIs its ++ (lOp :: lBs bs ++ [lCe q]) = lIs its ++ (lIt (q, bs) ++ [])
      rw [List.append_nil, show lIt (q, bs) = lOp :: (lBs bs ++ [lCe q]) from if_neg (by show ¬ q = 0; omega)]
      rfl
    · rcases List.mem_append.mp ht with w | w
      · exact h2 t w
      · rw [List.mem_singleton.mp w]
        exact ⟨Or.inr hq, h3⟩
theorem lFl_len : ∀ ts : List lTk, (∀ t ∈ ts, lWf t) → (lFl ts).length ≤ 4 * ts.length
  | [], _ => Nat.zero_le _
  | t :: ts, h => by
    have a := lFl_len ts (fun s hs => h s (List.mem_cons_of_mem _ hs))
    have b : t.2.2.2.length ≤ 4 := by
      rcases h t List.mem_cons_self with ⟨b, hb, rfl⟩ | ⟨s, k, hs, hk, rfl⟩ | ⟨c, hc, rfl⟩ | ⟨a, l, ha, hl, rfl⟩ | ⟨g2, a, hg, ha, rfl⟩ | rfl | rfl | rfl | ⟨n, h2, rfl⟩ <;> exact Nat.le_of_ble_eq_true rfl
    show (t.2.2.2 ++ lFl ts).length ≤ 4 * (ts.length + 1)
    rw [List.length_append]
    omega
theorem lFl_s (A B C : List lTk) : lFl (A ++ B) ++ lFl C = lFl (A ++ (B ++ C)) := by
  rw [← List.append_assoc, lFl_app (A ++ B) C]
/-- behind i bars -/
def lSn5 (V : zVt) (J : zJt) (N : Int) (w : Nat) (hd : List lTk) (m : Int) (i : Nat) (x6 : Int) : Prop := ∃ toks, lBd m i x6 toks ∧ (∀ t ∈ hd ++ toks, lWf t) ∧ (hd ++ toks).length ≤ 3 + 6 * i ∧ lW V J N w (lFl (hd ++ toks))
section
variable {cf : Int32 → Int32} {V : zVt} {J : zJt} {N a b : Int} {d : Nat → Nat → UInt64} {w kk : Nat} {hd : List lTk}
theorem lWf_ba : lWf lBa := Or.inr (Or.inr (Or.inr (Or.inr (Or.inr (Or.inr (Or.inl rfl))))))
theorem lWf_op : lWf lOp := Or.inr (Or.inr (Or.inr (Or.inr (Or.inr (Or.inr (Or.inr (Or.inl rfl)))))))
theorem lWf_ce {q : Int} (h : q = 2 ∨ q = 3) : lWf (lCe q) := Or.inr (Or.inr (Or.inr (Or.inr (Or.inr (Or.inr (Or.inr (Or.inr ⟨q, by omega, rfl⟩)))))))
theorem mem_ap {A B : List lTk} {p : lTk → Prop} (h1 : ∀ t ∈ A, p t) (h2 : ∀ t ∈ B, p t) : ∀ t ∈ A ++ B, p t := fun t ht => by
  rcases List.mem_append.mp ht with q | q
  · exact h1 t q
  · exact h2 t q
theorem lS5 {n x5 x6 : Int} {i : Nat} {x8 x9 x10 : Value} {c : Int} (hp : (0 ≤ a ∧ a < 3) ∧ (0 ≤ b ∧ b < 4)) (hw : 4 * a + b = w) (hn : 0 ≤ n ∧ n < 2147483648) (hc : c = 49 ∧ n / 24 % 5 ≠ 4 ∨ c = 50 ∧ n / 24 % 5 = 4) (h : lSn5 V J N w hd (4 * (c - 48)) i x6) (hi : i < 5) (h5 : 0 ≤ x5 ∧ x5 < 100000000) (h6 : x6 = 0 ∨ x6 = 1) : ∃ V' y5 y6 y8 y9 y10 j, (0 ≤ y5 ∧ y5 < 100000000) ∧ (y6 = 0 ∨ y6 = 1) ∧ j ≤ 10 ∧ lSn5 V' J N w hd (4 * (c - 48)) (i + 1) y6 ∧ lWr w V V' ∧ wGo cf 143 157 [.ref 0, .int (zi a), .int (zi b), .int (zi n), .int (zi 1), .int (zi x5), .int (zi x6), .int (zi i), x8, x9, x10] [] (zm V J d) kk = wGo cf 143 157 [.ref 0, .int (zi a), .int (zi b), .int (zi n), .int (zi 1), .int (zi y5), .int (zi y6), .int (zi ((i + 1 : Nat) : Int)), y8, y9, y10] [] (zm V' J d) (kk + j) := by
  obtain ⟨toks, t1, t2, t3, t4⟩ := h
  have l0 := lFl_len _ t2
  -- perhaps a repeat opens
  obtain ⟨V1, y6, j1, s1, e1, w1⟩ := lS1 (cf := cf) (d := d) (kk := kk) (n := n) (x5 := x5) (x6 := x6) (x7 := i) (x8 := x8) (x9 := x9) (x10 := x10) t4 hp hw (by omega) (by omega) h6 (by omega)
  obtain ⟨tk1, a1, a2, a3, a4, a5, a6⟩ : ∃ tk1, lBd (4 * (c - 48)) i y6 tk1 ∧ (∀ t ∈ hd ++ tk1, lWf t) ∧ (hd ++ tk1).length ≤ 4 + 6 * i ∧ lW V1 J N w (lFl (hd ++ tk1)) ∧ (y6 = 0 ∨ y6 = 1) ∧ j1 ≤ 1 := by
    rcases s1 with ⟨q1, q2, q3, q4⟩ | ⟨q1, q2, q3, q4⟩ | ⟨q1, q2, q3, q4⟩
    · rw [q2, q4]
      rw [q1] at t1
      exact ⟨toks, t1, t2, by omega, t4, Or.inr rfl, by omega⟩
    · rw [q2, q4]
      rw [q1] at t1
      exact ⟨toks, t1, t2, by omega, t4, Or.inl rfl, by omega⟩
    · rw [q2]
      rw [q1] at t1
      refine ⟨toks ++ [lOp], lBd_o t1, ?_, ?_, ?_, Or.inr rfl, by omega⟩
      · rw [← List.append_assoc]
        exact mem_ap t2 (fun t ht => by rw [List.mem_singleton.mp ht]; exact lWf_op)
      · rw [← List.append_assoc, List.length_append, List.length_cons, List.length_nil]
        omega
      · rw [← lFl_s]
        exact q4
  have l1 := lFl_len _ a2
  -- the bar
  obtain ⟨V2, j2, s2, e2, w2⟩ := lS2 (cf := cf) (d := d) (kk := kk + j1) (n := n) (x5 := x5) (x6 := y6) (x7 := i) (x8 := x8) (x9 := x9) (x10 := x10) a4 hp hw (by omega) hn (by omega)
  obtain ⟨n0, b1, b2, b3, b4, b5⟩ : ∃ n0 : List lTk, (∀ t ∈ n0, lWf t ∧ (t.1 = 3 ∨ t.1 = 4) ∧ 0 ≤ t.2.2.1) ∧ lSu n0 + 4 = 4 * (c - 48) ∧ n0.length ≤ 1 ∧ lW V2 J N w (lFl (hd ++ tk1) ++ lFl n0) ∧ j2 ≤ 2 := by
    rcases s2 with ⟨q1, q2, q3⟩ | ⟨q1, q2, q3⟩
    · refine ⟨[], fun t ht => (by cases ht), ?_, Nat.zero_le _, ?_, by omega⟩
      · show (0 : Int) + 4 = _
        omega
      · rw [q3]
        show lW V1 J N w (lFl (hd ++ tk1) ++ [])
        rw [List.append_nil]
        exact a4
    · refine ⟨[lNo (x5 % 10) 113], fun t ht => ?_, ?_, Nat.le_refl _, ?_, by omega⟩
      · rw [List.mem_singleton.mp ht]
        exact ⟨Or.inr (Or.inr (Or.inr (Or.inl ⟨x5 % 10, 113, by omega, Or.inl rfl, rfl⟩))), Or.inl rfl, (by decide : (0 : Int) ≤ 4)⟩
      · show (4 : Int) + 0 + 4 = _
        omega
      · rw [List.append_assoc] at q3
        exact q3
  have l2 := lFl_len n0 (fun t ht => (b1 t ht).1)
  obtain ⟨V3, j3, ns, c1, c2, c3, c4, c5, c6, e3, w3⟩ := lS3 (cf := cf) (d := d) (kk := kk + j1 + j2) (n := n) (x5 := x5) (x6 := y6) (x7 := i) (x8 := x5 % 10) (x9 := (x5 % 10 + x5 / 10 % 4) % 10) (x10 := x5 / 40 % 6) b4 hp hw (by rw [List.length_append]; omega) (by omega) (by omega) (by omega)
  obtain ⟨V4, z6, j4, s4, e4, w4⟩ := lS4 (cf := cf) (d := d) (kk := kk + j1 + j2 + j3) (n := n) (x5 := x5) (x6 := y6) (x7 := i) (x8 := x5 % 10) (x9 := (x5 % 10 + x5 / 10 % 4) % 10) (x10 := x5 / 40 % 6) c6 hp hw (by rw [List.length_append, List.length_append]; omega) h5 a5 (by omega)
  have hsu : ∀ A B : List lTk, lSu (A ++ B) = lSu A + lSu B := fun A B => by
    induction A with
    | nil => exact (Int.zero_add _).symm
    | cons t A ih =>
      show t.2.2.1 + lSu (A ++ B) = t.2.2.1 + lSu A + lSu B
      rw [ih, Int.add_assoc]
  have hbk : lBk (4 * (c - 48)) (n0 ++ ns) := ⟨mem_ap (fun t ht => (b1 t ht).2) (fun t ht => (c2 t ht).2), by rw [hsu, c3]; exact b2⟩
  have hd4 := lBd_b a1 hbk
  have txt : lFl (hd ++ tk1) ++ lFl n0 ++ lFl ns ++ [124] = lFl (hd ++ (tk1 ++ ((n0 ++ ns) ++ [lBa]))) := by
    rw [← lFl_s, lFl_app (n0 ++ ns) [lBa], lFl_app n0 ns, List.append_assoc, List.append_assoc, List.append_assoc]
    rfl
  have wf4 : ∀ t ∈ hd ++ (tk1 ++ ((n0 ++ ns) ++ [lBa])), lWf t := by
    rw [← List.append_assoc]
    exact mem_ap a2 (mem_ap (mem_ap (fun t ht => (b1 t ht).1) (fun t ht => (c2 t ht).1)) (fun t ht => by rw [List.mem_singleton.mp ht]; exact lWf_ba))
  have ln4 : (hd ++ (tk1 ++ ((n0 ++ ns) ++ [lBa]))).length ≤ 8 + 6 * i := by
    have el : ((hd ++ tk1) ++ ((n0 ++ ns) ++ [lBa])).length = (hd ++ tk1).length + (n0.length + ns.length + 1) := by simp only [List.length_append, List.length_cons, List.length_nil]
    rw [← List.append_assoc, el]
    omega
  have run : wGo cf 143 157 [.ref 0, .int (zi a), .int (zi b), .int (zi n), .int (zi 1), .int (zi x5), .int (zi x6), .int (zi i), x8, x9, x10] [] (zm V J d) kk = wGo cf 143 157 [.ref 0, .int (zi a), .int (zi b), .int (zi n), .int (zi 1), .int (zi (x5 / 11 + 3 * i)), .int (zi z6), .int (zi ((i + 1 : Nat) : Int)), .int (zi (x5 % 10)), .int (zi ((x5 % 10 + x5 / 10 % 4) % 10)), .int (zi (x5 / 40 % 6))] [] (zm V4 J d) (kk + (j1 + j2 + j3 + j4)) := by
    rw [e1, e2, e3, e4, show ((i : Nat) : Int) + 1 = ((i + 1 : Nat) : Int) by omega]
    exact congrArg _ (by omega)
  rcases s4 with ⟨q1, q2, q3⟩ | ⟨q1, q2, q3, q4⟩
  · rw [q1] at run
    rw [txt] at q3
    exact ⟨V4, _, y6, _, _, _, j1 + j2 + j3 + j4, by omega, a5, by omega, ⟨_, hd4, wf4, by omega, q3⟩, lWr_t w1 (lWr_t w2 (lWr_t w3 w4)), run⟩
  · rw [q2] at run
    rw [txt, List.append_assoc] at q4
    rw [q1] at hd4
    refine ⟨V4, _, 0, _, _, _, j1 + j2 + j3 + j4, by omega, Or.inl rfl, by omega, ⟨_, lBd_c hd4 (Or.inl rfl), ?_, ?_, ?_⟩, lWr_t w1 (lWr_t w2 (lWr_t w3 w4)), run⟩
    · rw [← List.append_assoc]
      exact mem_ap wf4 (fun t ht => by rw [List.mem_singleton.mp ht]; exact lWf_ce (Or.inl rfl))
    · rw [← List.append_assoc, List.length_append, List.length_cons, List.length_nil]
      omega
    · rw [← lFl_s]
      exact q4
theorem lS6 {n c : Int} (hp : (0 ≤ a ∧ a < 3) ∧ (0 ≤ b ∧ b < 4)) (hw : 4 * a + b = w) (hn : 0 ≤ n ∧ n < 2147483648) (hc : c = 49 ∧ n / 24 % 5 ≠ 4 ∨ c = 50 ∧ n / 24 % 5 = 4) (r : Nat) : ∀ (i kk : Nat) (V : zVt) (x5 x6 : Int) (x8 x9 x10 : Value), i + r = 5 → lSn5 V J N w hd (4 * (c - 48)) i x6 → (0 ≤ x5 ∧ x5 < 100000000) → (x6 = 0 ∨ x6 = 1) → ∃ V' y5 y6 y8 y9 y10 j, (y6 = 0 ∨ y6 = 1) ∧ j ≤ 10 * r ∧ lSn5 V' J N w hd (4 * (c - 48)) 5 y6 ∧ lWr w V V' ∧ wGo cf 143 157 [.ref 0, .int (zi a), .int (zi b), .int (zi n), .int (zi 1), .int (zi x5), .int (zi x6), .int (zi i), x8, x9, x10] [] (zm V J d) kk = wGo cf 143 558 [.ref 0, .int (zi a), .int (zi b), .int (zi n), .int (zi 1), .int (zi y5), .int (zi y6), .int (zi 5), y8, y9, y10] [] (zm V' J d) (kk + j) := by
  induction r with
  | zero =>
    intro i kk V x5 x6 x8 x9 x10 hi h h5 h6
    have e : i = 5 := by omega
    subst e
    refine ⟨V, x5, x6, x8, x9, x10, 0, h6, by omega, h, lWr_r, ?_⟩
    have e5 : (((5 : Nat)) : Int) = 5 := rfl
    rw [e5]
    simp (disch := first | omega | assumption) only [lw_143_157, wck_t, wck_T, wbS, wbV, wbR, qdiv_p, qrem_p, Int.add_zero, ↓reduceIte, qw_id, ne_eq, not_true_eq_false, not_false_eq_true, and_true, true_and, and_self, and_false, false_and, or_true, true_or, or_self, or_false, false_or, xlt_t, xlt_f, xle_t, xle_f, xeq_t, xeq_f, xand_f, xor_t]
    rfl
  | succ r ih =>
    intro i kk V x5 x6 x8 x9 x10 hi h h5 h6
    obtain ⟨V1, y5, y6, y8, y9, y10, j1, q1, q2, q3, q4, q5, q6⟩ := lS5 (cf := cf) (d := d) (kk := kk) (x8 := x8) (x9 := x9) (x10 := x10) hp hw hn hc h (by omega) h5 h6
    obtain ⟨V2, z5, z6, z8, z9, z10, j2, p1, p2, p3, p4, p5⟩ := ih (i + 1) (kk + j1) V1 y5 y6 y8 y9 y10 (by omega) q4 q1 q2
    exact ⟨V2, z5, z6, z8, z9, z10, j1 + j2, p1, by omega, p3, lWr_t q5 p4, by rw [q6, p5, Nat.add_assoc]⟩
theorem c_sings {n : Int} (h : lW V J N w []) (hp : (0 ≤ a ∧ a < 3) ∧ (0 ≤ b ∧ b < 4)) (hw : 4 * a + b = w) (hn : 0 ≤ n ∧ n < 2147483648) : ∃ V' e s k c its j, (c = 49 ∨ c = 50) ∧ (∀ i ∈ its, lIk (4 * (c - 48)) i) ∧ (∀ t ∈ lTs e s k c its, lWf t) ∧ (lIs its).length ≤ 57 ∧ lBn its = 5 ∧ j ≤ 60 ∧ wGo cf 143 0 [.ref 0, .int (zi a), .int (zi b), .int (zi n), .null, .null, .null, .null, .null, .null, .null] [] (zm V J d) kk = some (zi 1, zm V' J d, kk + j) ∧ lW V' J N w (lFl (lTs e s k c its)) ∧ lWr w V V' := by
  obtain ⟨V1, e, s, k, c, a1, a2, a3, a4, a5, a6, a7⟩ := lS0 (cf := cf) (d := d) (kk := kk) h hp hw hn
  have h0 : lSn5 V1 J N w [lCl e, lKy s k, lMt c] (4 * (c - 48)) 0 0 := by
    refine ⟨[], Or.inl ⟨rfl, [], rfl, fun t ht => (by cases ht), rfl⟩, fun t ht => ?_, Nat.le_of_ble_eq_true rfl, a6⟩
    rcases List.mem_cons.mp ht with q | q
    · rw [q]; exact Or.inl ⟨e, a1, rfl⟩
    · rcases List.mem_cons.mp q with q | q
      · rw [q]; exact Or.inr (Or.inl ⟨s, k, a2, a3, rfl⟩)
      · rw [List.mem_singleton.mp q]; exact Or.inr (Or.inr (Or.inl ⟨c, by omega, rfl⟩))
  obtain ⟨V2, y5, y6, y8, y9, y10, j, b1, b2, ⟨toks, t1, t2, t3, t4⟩, b4, b5⟩ := lS6 (cf := cf) (d := d) hp hw hn a4 5 0 (kk + 8) V1 (n / 48) 0 .null .null .null rfl h0 (by omega) (Or.inl rfl)
  have b5 : wGo cf 143 157 [.ref 0, .int (zi a), .int (zi b), .int (zi n), .int (zi 1), .int (zi (n / 48)), .int (zi 0), .int (zi 0), .null, .null, .null] [] (zm V1 J d) (kk + 8) = _ := b5
  have l0 := lFl_len _ t2
  rcases b1 with e6 | e6
  · subst e6
    rcases t1 with ⟨_, its, q1, q2, q3⟩ | ⟨q, _⟩
    · subst q1
      refine ⟨V2, e, s, k, c, its, 8 + j, by omega, q2, t2, ?_, q3, by omega, ?_, t4, lWr_t a7 b4⟩
      · rw [List.length_append] at t3
        have : ([lCl e, lKy s k, lMt c] : List lTk).length = 3 := rfl
        omega
      · rw [a5, b5]
        simp (disch := first | omega | assumption) only [lw_143_558, lw_143_590, lw_143_595, wck_t, wck_T, wbS, wbV, wbR, qdiv_p, qrem_p, Int.add_zero, ↓reduceIte, qw_id, ne_eq, not_true_eq_false, not_false_eq_true, and_true, true_and, and_self, and_false, false_and, or_true, true_or, or_self, or_false, false_or, xlt_t, xlt_f, xle_t, xle_f, xeq_t, xeq_f, xand_f, xor_t]
        rw [Nat.add_assoc]
    · exact absurd q (by decide)
  · subst e6
    obtain ⟨x1, V3, f1, f2, f3, f4⟩ := lW1 (d := d) t4 hp hw (by omega) 93 (by omega)
    obtain ⟨x2, V4, g1, g2, g3, g4⟩ := lW1 (d := d) f3 hp hw (by rw [List.length_append, List.length_cons, List.length_nil]; omega) 51 (by omega)
    have t5 := lBd_c t1 (q := 3) (Or.inr rfl)
    rcases t5 with ⟨_, its, q1, q2, q3⟩ | ⟨q, _⟩
    · rw [List.append_assoc] at g3
      have txt : lFl ([lCl e, lKy s k, lMt c] ++ toks) ++ ([93] ++ [51]) = lFl ([lCl e, lKy s k, lMt c] ++ lIs its) := by
        rw [← q1, ← lFl_s]
        rfl
      rw [txt] at g3
      have wf : ∀ t ∈ [lCl e, lKy s k, lMt c] ++ lIs its, lWf t := by
        rw [← q1, ← List.append_assoc]
        exact mem_ap t2 (fun t ht => by rw [List.mem_singleton.mp ht]; exact lWf_ce (Or.inr rfl))
      refine ⟨V4, e, s, k, c, its, 8 + j + 2, by omega, q2, wf, ?_, q3, by omega, ?_, g3, lWr_t a7 (lWr_t b4 (lWr_t f4 g4))⟩
      · have := congrArg List.length q1
        rw [List.length_append, List.length_cons, List.length_nil] at this
        rw [List.length_append] at t3
        have : ([lCl e, lKy s k, lMt c] : List lTk).length = 3 := rfl
        omega
      · rw [a5, b5]
        simp (disch := first | omega | assumption) only [lw_143_558, lw_143_576, lw_143_587, lw_143_590, lw_143_595, f1, g1, wck_t, wck_T, wbS, wbV, wbR, qdiv_p, qrem_p, Int.add_zero, ↓reduceIte, qw_id, ne_eq, not_true_eq_false, not_false_eq_true, and_true, true_and, and_self, and_false, false_and, or_true, true_or, or_self, or_false, false_or, xlt_t, xlt_f, xle_t, xle_f, xeq_t, xeq_f, xand_f, xor_t]
        rw [Nat.add_assoc kk 8 j]
        rfl
    · exact absurd q (by decide)
end
