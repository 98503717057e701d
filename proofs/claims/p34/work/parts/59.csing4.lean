/-! part 59: the class's sing -/
def sF (P : zVt) (F : Int) : Int := if F ≠ 0 then F else yAll P 0 7
def sA (P : zVt) (F fa : Int) : Int := if F ≠ 0 then fa else if yAll P 0 7 = 0 then -1 else cPl P (yAll P 0 8)
def sN (P : zVt) (F : Int) : Int := if F ≠ 0 ∨ yAll P 0 7 ≠ 0 then 0 else yAll P 0 3
def sM (P : zVt) (F : Int) : Int := if F ≠ 0 then 0 else P 8 1
/-- music of the class: fault, its place, bars, ticks a bar, sounds -/
def cMus (V : zVt) (J : zJt) (M : Nat) (f p nb mt : Int) (B : Int → Int) : Prop := V M 0 = f ∧ V M 1 = p ∧ V M 2 = nb ∧ V M 3 = mt ∧ ∀ b, 0 ≤ b → b < nb → ∀ r, 0 ≤ r → r < 8 → zby (J (M + 1) (2 * b)) r = B (16 * b + r) ∧ zby (J (M + 1) (2 * b + 1)) r = B (16 * b + r + 8)
theorem yFin_inv {P S : zVt} {D : Int → Int} (h : yInv P D S) (hm : 2 ≤ P 8 1) (h0 : yFin P S 0 7 = 0) : yCnt P (yFin P S) := by
  unfold yFin at h0 ⊢
  split at h0
  · rw [yFl_7] at h0
    omega
  · rename_i hb
    rw [if_neg hb]
    split at h0
    · rename_i hl
      rw [if_pos hl]
      exact (yBar_inv h hm h0).1
    · rename_i hl
      rw [if_neg hl]
      exact (yInv_iff.mp h).2
/-- faults of singing -/
theorem yFin_rng {P S : zVt} (h : S 0 7 = 0) : 0 ≤ yFin P S 0 7 ∧ yFin P S 0 7 ≤ 10 := by
  unfold yFin
  split
  · rw [yFl_7]; decide
  · split
    · unfold yBar
      split
      · rw [yFl_7]; decide
      · split
        · rw [yFl_7]; decide
        · simp (disch := decide) only [vst_o, vup_k]
          rw [h]; decide
    · rw [h]; decide
theorem yStep_7 {P S : zVt} (h : S 0 7 = 0) : 0 ≤ yStep P S 0 7 ∧ yStep P S 0 7 ≤ 10 := by
  have w : ∀ a, (0 ≤ yNote P S a 0 7 ∧ yNote P S a 0 7 ≤ 10) ∧ (0 ≤ yRest P S a 0 7 ∧ yRest P S a 0 7 ≤ 10) ∧ (0 ≤ yBar P S a 0 7 ∧ yBar P S a 0 7 ≤ 10) := by
    intro a
    refine ⟨?_, ?_, ?_⟩
    · unfold yNote
      split
      · rw [yFl_7]; decide
      · split
        · rw [yFl_7]; decide
        · rw [vup_k (by decide), vup_k (by decide), vup_k (by decide)]
          split
          · rw [vup_o (by decide), yFil_0 (by decide), h]; decide
          · rw [yFil_0 (by decide), h]; decide
    · unfold yRest
      split
      · rw [yFl_7]; decide
      · split
        · rw [yFl_7]; decide
        · rw [yFil_0 (by decide), h]; decide
    · unfold yBar
      split
      · rw [yFl_7]; decide
      · split
        · rw [yFl_7]; decide
        · simp (disch := decide) only [vst_o, vup_k]
          rw [h]; decide
  unfold yStep
  split
  · rw [vup_k (by decide)]; exact (w _).1
  · split
    · rw [vup_k (by decide)]; exact (w _).2.1
    · split
      · rw [vup_k (by decide)]; exact (w _).2.2
      · split
        · rw [vup_k (by decide), vup_k (by decide), vup_o (by decide), h]; decide
        · split
          · split
            · rw [vup_k (by decide), vup_o (by decide), h]; decide
            · rw [vup_k (by decide), vup_k (by decide), h]; decide
          · split
            · rw [vup_k (by decide), h]; decide
            · rw [vup_k (by decide), h]; decide
theorem yRun_7 (P : zVt) : ∀ (j : Nat) (S : zVt), (0 ≤ S 0 7 ∧ S 0 7 ≤ 10) → 0 ≤ yRun P j S 0 7 ∧ yRun P j S 0 7 ≤ 10
  | 0, S, h => h
  | j + 1, S, h => by
    unfold yRun
    split
    · rename_i hc
      exact yRun_7 P j _ (yStep_7 hc.2)
    · exact h
theorem ySong_7 (P : zVt) : 0 ≤ ySong P 0 7 ∧ ySong P 0 7 ≤ 10 := yRun_7 P 3904 yBeg (by show 0 ≤ (0 : Int) ∧ (0 : Int) ≤ 10; decide)
theorem yAll_7 (P : zVt) : 0 ≤ yAll P 0 7 ∧ yAll P 0 7 ≤ 10 := by
  unfold yAll
  split
  · rename_i h
    exact yFin_rng h
  · exact ySong_7 P
section
variable {d : Nat → Nat → UInt64} {M : Nat}
theorem sn69 {V : zVt} {J : zJt} {K N : Int → Int} {n : Int} (hn : 3 ≤ n ∧ n ≤ 60) (h13 : V 13 0 = n) (hr : ∀ k, 0 ≤ k → k < n → V 14 k = K k ∧ (0 ≤ K k ∧ K k ≤ 9) ∧ (K k = 0 → V 16 k = N k ∧ -100 ≤ N k ∧ N k ≤ 100)) :
    ∃ V', zGo false 69 0 [.ref 12] [] (zm V J d) = zN1 V' J d ∧ (∀ o, o ≠ 12 → o ≠ 22 → o ≠ 23 → V' o = V o) ∧ (V' 12 8 = V 16 1 ∧ V' 12 4 = 0 ∧ V' 12 6 = 0 ∧ V' 12 9 = -1 ∧ V' 12 7 = 3) ∧ (∀ s, 0 ≤ s → s < 50 → V' 23 s = 9) ∧ ∀ k, 0 ≤ k → k < n → V' 22 k = hL K N (k + 1) + V 17 k := by
  have rd : ∀ o : Nat, o ≠ 12 → o ≠ 23 → cNs (vup (vup (vup (vup (vup V 12 8 (V 16 1)) 12 4 0) 12 6 0) 12 9 (-1)) 12 7 3) 50 o = V o := fun o h1 h2 => by
    unfold cNs
    rw [vst_o h2]
    simp (disch := omega) only [vup_fn]
  obtain ⟨V', q1, q2, q3⟩ := sl70 (J := J) (d := d) (V0 := cNs (vup (vup (vup (vup (vup V 12 8 (V 16 1)) 12 4 0) 12 6 0) 12 9 (-1)) 12 7 3) 50) (K := K) (N := N) (n := n) (by omega) (by rw [rd 13 (by decide) (by decide), h13]) (by rw [rd 14 (by decide) (by decide), rd 16 (by decide) (by decide)]; exact hr) 100 _ 0 .null (by omega) (by omega) (fun _ _ => rfl) (by intro k k0 k1; omega)
  rw [rd 17 (by decide) (by decide)] at q3
  have e236 := sp236 (V := vup (vup (vup (vup (vup V 12 8 (V 16 1)) 12 4 0) 12 6 0) 12 9 (-1)) 12 7 3) (J := J) (d := d)
  refine ⟨V', ?_, fun o h1 h2 h3 => by rw [q2 o h2, rd o h1 h3], ?_, ?_, q3⟩
  · have q1' : zGo false 70 0 [.ref 12, .null, .null, .null] [] (zm (cNs (vup (vup (vup (vup (vup V 12 8 (V 16 1)) 12 4 0) 12 6 0) 12 9 (-1)) 12 7 3) 50) J d) = zN1 V' J d := by
      rw [← q1, ze_70_0]
      rfl
    rw [ze_69_0]
    simp (disch := first | omega | assumption | (simp (disch := omega) only [vup_fn, vup_o, vup_k, vup_at]; first | done | omega | assumption)) only [Nat.reduceAdd, e236, ze_69_42, q1', ze_69_46, Int.add_zero, ↓reduceIte, qw_id, zck_T, zck_t, zGor_v, zGor_n, zGor_e, zbs, vup_at, vup_vup, vup_self, vup_o, vup_k, vup_fn, ne_eq, not_true_eq_false, not_false_eq_true, and_true, true_and, and_self, and_false, false_and, or_true, true_or, or_self, or_false, false_or, xlt_t, xlt_f, xle_t, xle_f, xeq_t, xeq_f, xand_f, xor_t]
  · rw [q2 12 (by decide)]
    unfold cNs
    rw [vst_o (by decide)]
    simp (disch := decide) only [vup_k, vup_at]
    exact ⟨trivial, trivial, trivial, trivial, trivial⟩
  · intro s s0 s1
    rw [q2 23 (by decide)]
    unfold cNs
    rw [vst_at]
    exact if_pos ⟨s0, s1⟩
theorem sn68 {V : zVt} {J : zJt} {T : Int → Int} {x Mk : Nat} {len n b F A fa cnt : Int} (hb : zBk 10 x) (hx : 26 ≤ x) (hMk : zBk 4 Mk) (hMk2 : 26 ≤ Mk) (hMb : zBk 5 M) (hM : 26 ≤ M) (hrow : cRow V x T len n b F A fa) (ht : tOk T len) (hcn : V 3 0 = cnt) (hg : aGood T (V (Mk + 1)) (V 4) (V 5) (V 6) cnt n) :
    ∃ V' J', zGo false 68 0 [.ref 12, .ref x, .ref Mk, .ref 3, .ref M, .null] [] (zm V J d) = zN1 V' J' d ∧ (∀ o : Nat, ¬(12 ≤ o ∧ o ≤ 25 ∨ o = M) → V' o = V o) ∧ (∀ o, o ≠ M + 1 → J' o = J o) ∧ cMus V' J' M (sF (aP T len n (V (Mk + 1)) (V 4) (V 5) (V 6) cnt) F) (sA (aP T len n (V (Mk + 1)) (V 4) (V 5) (V 6) cnt) F fa) (sN (aP T len n (V (Mk + 1)) (V 4) (V 5) (V 6) cnt) F) (sM (aP T len n (V (Mk + 1)) (V 4) (V 5) (V 6) cnt) F) (yAll (aP T len n (V (Mk + 1)) (V 4) (V 5) (V 6) cnt) 4) := by
  obtain ⟨hx0, r0, r1, r2, r3, r4, r5⟩ := hrow
  obtain ⟨u1, u2, u3, u4, u5, u6, u7⟩ := yTx_rng hx0 ht
  by_cases hF : F = 0
  · obtain ⟨f1, f2, f3, f4, f5⟩ := u7 hF
    have hP := aP_ok ht hx0 hF hg
    have hc := aGood_c (K := V (x + 1)) hg (fun k k0 k1 => (r4 k k0 k1).1)
    obtain ⟨V1, q1, q2, q3⟩ := sp3 (V := V) (J := J) (d := d) hb hx hMk hMk2 (n := n) (cnt := cnt) u1 r0 (fun k k0 k1 => by rw [(r4 k k0 k1).2.2.2.2.2.2]; exact yI_rng _ _) hcn hc
    have hm6 := r5 hF
    generalize hPd : aP T len n (V (Mk + 1)) (V 4) (V 5) (V 6) cnt = P at *
    have p80 : P 8 0 = n := by rw [← hPd]; rfl
    have p81 : P 8 1 = tN T 2 := by rw [← hPd]; rfl
    have p82 : P 8 2 = tN T 1 := by rw [← hPd]; rfl
    have p83 : P 8 3 = len := by rw [← hPd]; rfl
    have hU := fun k (k0 : 0 ≤ k) (k1 : k < n) => yU_rng (yP_rng hx0.1 ht k0 k1).1 (fun q hq => ht.2.1 q (by have := (yP_rng hx0.1 ht k0 k1).1; omega)) (hx0.1.2.1 k k0 k1).2
    have hk0 : ∀ k, 0 ≤ k → k < 3 → tK T k = k := by
      intro k k0 k1
      have := f4 k k0 (by omega)
      unfold gX at this
      rw [if_pos k1] at this
      split at this
      · assumption
      · omega
    have hrest : ∀ k, foi (V (Mk + 1)) (V 4) (V 5) (V 6) k 4 4 0 cnt = 1 → tK T k = 3 := by
      intro k hk
      rcases foi_cs (H := V (Mk + 1)) (q := V 4) (m := V 5) (v := V 6) (k := k) (lo := 4) (hi := 4) (b := 0) (n := cnt) hg.1.1 with e | ⟨c, c1, c2, c3, c4, c5, c6⟩
      · omega
      · have := hg.2.2 c c1.1 c1.2 c2
        rw [c3] at this
        omega
    -- row 13 as P has it
    have hrow13 : ∀ k, 0 ≤ k → k < n → V1 14 k = P 0 k ∧ V1 15 k = P 7 k ∧ (P 0 k = 7 ∨ P 0 k = 8 → V1 16 k = P 1 k ∧ V1 21 k = P 6 k) ∧ (P 0 k = 3 → V1 18 k = P 3 k ∧ V1 20 k = P 5 k ∧ V1 17 k = aN T (V (Mk + 1)) (V 4) (V 5) (V 6) cnt k) ∧ (P 0 k = 3 ∨ P 0 k = 4 → V1 19 k = P 4 k) ∧ (P 0 k = 0 → V1 16 k = aN T (V (Mk + 1)) (V 4) (V 5) (V 6) cnt k) ∧ (tK T k ≠ 3 → P 0 k = tK T k) ∧ (tK T k = 3 → P 0 k = 3 ∨ P 0 k = 4) := by
      intro k k0 k1
      have a := q2.2 k k0 k1
      have r := r4 k k0 k1
      have e0 : P 0 k = if foi (V (Mk + 1)) (V 4) (V 5) (V 6) k 4 4 0 cnt = 1 then 4 else tK T k := by rw [← hPd]; rfl
      have hPK : (foi (V (Mk + 1)) (V 4) (V 5) (V 6) k 4 4 0 cnt = 1 ∧ P 0 k = 4 ∧ tK T k = 3) ∨ P 0 k = tK T k := by
        by_cases w : foi (V (Mk + 1)) (V 4) (V 5) (V 6) k 4 4 0 cnt = 1
        · exact Or.inl ⟨w, by rw [e0, if_pos w], hrest k w⟩
        · exact Or.inr (by rw [e0, if_neg w])
      have hcu : tK T k ≠ 3 → V (x + 3) k = tN T k := fun w => by rw [r.2.2.1]; exact if_neg w
      have hcl : tK T k = 3 → V (x + 4) k = tN T k := fun w => by rw [r.2.2.2.1]; exact if_pos w
      refine ⟨?_, ?_, ?_, ?_, ?_, ?_, ?_, ?_⟩
      · rw [a.1, r.1, e0]
      · rw [a.2.1, r.2.1, ← hPd]; rfl
      · intro w
        have hk : tK T k = 7 ∨ tK T k = 8 := by omega
        constructor
        · rw [a.2.2.1, aGood_no hg (by
            intro c c0 c1 c2 c3 c4
            have := hg.2.2 c c0 c1 c2
            rw [c3] at this
            omega), hcu (by omega), ← hPd]; rfl
        · rw [a.2.2.2.2.2.2.2]
          have e6 : P 6 k = if tK T k = 8 then gMt (tK T) n k else hO (tK T) k (hD (tK T) k - 1) := by rw [← hPd]; rfl
          rw [e6]
          have k3 : 3 ≤ k := by
            by_cases w3 : k < 3
            · have := hk0 k k0 w3
              omega
            · omega
          rcases hk with hk | hk
          · rw [if_neg (by omega)]
            exact hm6.1 k k3 k1 hk
          · rw [if_pos hk]
            have g := gMt_ok f4 f5 k3 k1 hk
            have := hm6.2 (gMt (tK T) n k) (by omega) g.1.2 g.2.1
            rw [g.2.2.1] at this
            exact this
      · intro w
        have hk : tK T k = 3 := by omega
        refine ⟨?_, ?_, ?_⟩
        · rw [a.2.2.2.2.1, r.2.2.2.2.1, ← hPd]; rfl
        · rw [a.2.2.2.2.2.2.1, r.2.2.2.2.2.2, ← hPd]; rfl
        · rw [a.2.2.2.1, hcl hk]
          refine foi_eq hg.1.1 (fun c c0 c1 => ⟨⟨fun w => ⟨w.1, w.2.1, by omega, by omega⟩, fun w => ?_⟩, fun _ => rfl⟩)
          have := hg.2.2 c c0 c1 w.1
          rw [w.2.1] at this
          exact ⟨w.1, w.2.1, by omega, by omega⟩
      · intro w
        rw [a.2.2.2.2.2.1, r.2.2.2.2.2.1, ← hPd]; rfl
      · intro w
        have hk : tK T k = 0 := by omega
        rw [a.2.2.1, hcu (by omega)]
        refine foi_eq hg.1.1 (fun c c0 c1 => ⟨⟨fun w => ⟨w.1, w.2.1, by omega, by omega⟩, fun w => ?_⟩, fun _ => rfl⟩)
        have := hg.2.2 c c0 c1 w.1
        rw [w.2.1] at this
        exact ⟨w.1, w.2.1, by omega, by omega⟩
      · intro w
        omega
      · intro w
        omega
    have hNr : ∀ k, 0 ≤ k → k < n → P 0 k = 0 → -100 ≤ aN T (V (Mk + 1)) (V 4) (V 5) (V 6) cnt k ∧ aN T (V (Mk + 1)) (V 4) (V 5) (V 6) cnt k ≤ 100 := by
      intro k k0 k1 _
      show -100 ≤ foi _ _ _ _ k 0 1 (tN T k) cnt ∧ foi _ _ _ _ k 0 1 (tN T k) cnt ≤ 100
      rcases foi_cs (H := V (Mk + 1)) (q := V 4) (m := V 5) (v := V 6) (k := k) (lo := 0) (hi := 1) (b := tN T k) (n := cnt) hg.1.1 with e | ⟨c, c1, c2, c3, c4, c5, c6⟩
      · rw [e]; exact (hU k k0 k1).2.2.2.2.2.2.2
      · have := hg.2.2 c c1.1 c1.2 c2
        rw [c6]
        omega
    have hPr : ∀ k, 0 ≤ k → k < n → 0 ≤ P 0 k ∧ P 0 k ≤ 9 := by
      intro k k0 k1
      have w := hrow13 k k0 k1
      have := yK_rng T (yP T k)
      have h7 := w.2.2.2.2.2.2.1
      have h8 := w.2.2.2.2.2.2.2
      by_cases e : tK T k = 3
      · have := h8 e
        omega
      · rw [h7 e]
        exact this
    obtain ⟨V2, s1, s2, s3, s4, s5⟩ := sn69 (V := V1) (J := J) (d := d) (K := P 0) (N := aN T (V (Mk + 1)) (V 4) (V 5) (V 6) cnt) (n := n) ⟨f1, u1.2⟩ q2.1.1 (fun k k0 k1 => ⟨(hrow13 k k0 k1).1, hPr k k0 k1, fun w => ⟨(hrow13 k k0 k1).2.2.2.2.2.1 w, hNr k k0 k1 w⟩⟩)
    -- the beginning
    have e162 : V1 16 2 = P 8 1 := by
      have a := q2.2 2 (by omega) (by omega)
      have hk2 := hk0 2 (by omega) (by omega)
      rw [a.2.2.1, aGood_no hg (by
        intro c c0 c1 c2 c3 c4
        have := hg.2.2 c c0 c1 c2
        rw [c3] at this
        omega), (r4 2 (by omega) (by omega)).2.2.1, p81]
      exact if_neg (by have : yK T (yP T 2) = 2 := hk2; omega)
    have e161 : V1 16 1 = P 8 2 := by
      have a := q2.2 1 (by omega) (by omega)
      have hk2 := hk0 1 (by omega) (by omega)
      rw [a.2.2.1, aGood_no hg (by
        intro c c0 c1 c2 c3 c4
        have := hg.2.2 c c0 c1 c2
        rw [c3] at this
        omega), (r4 1 (by omega) (by omega)).2.2.1, p82]
      exact if_neg (by have : yK T (yP T 1) = 1 := hk2; omega)
    have c0 : cSg (vup (vup (vup (vup V2 M 0 0) M 1 (-1)) M 2 0) M 3 (P 8 1)) J M P yBeg := by
      refine ⟨⟨?_, ?_, ?_, ?_⟩, ?_, vup_at _ _ _ _, fun w => absurd rfl w, fun _ => ?_⟩
      · simp (disch := omega) only [vup_o]
        rw [s2 13 (by decide) (by decide) (by decide), q2.1.1, p80]
      · simp (disch := omega) only [vup_o]
        rw [s2 13 (by decide) (by decide) (by decide), q2.1.2.1, r1, p83]
      · simp (disch := omega) only [vup_o]
        rw [s3.1, e161]
      · rw [p80]
        intro k k0 k1
        have w := hrow13 k k0 k1
        simp (disch := omega) only [vup_o]
        rw [s2 14 (by decide) (by decide) (by decide), s2 15 (by decide) (by decide) (by decide), s2 16 (by decide) (by decide) (by decide), s2 18 (by decide) (by decide) (by decide), s2 19 (by decide) (by decide) (by decide), s2 20 (by decide) (by decide) (by decide), s2 21 (by decide) (by decide) (by decide)]
        refine ⟨w.1, w.2.1, w.2.2.1, fun h3 => ⟨?_, (w.2.2.2.1 h3).1, (w.2.2.2.1 h3).2.1⟩, w.2.2.2.2.1⟩
        rw [s5 k k0 k1, (w.2.2.2.1 h3).2.2]
        have e2 : P 2 k = hL (aK T (V (Mk + 1)) (V 4) (V 5) (V 6) cnt) (aN T (V (Mk + 1)) (V 4) (V 5) (V 6) cnt) (k + 1) + aN T (V (Mk + 1)) (V 4) (V 5) (V 6) cnt k := by rw [← hPd]; rfl
        have e0 : P 0 = aK T (V (Mk + 1)) (V 4) (V 5) (V 6) cnt := by rw [← hPd]; rfl
        rw [e2, e0]
      · simp (disch := omega) only [vup_k, vup_at]
        rfl
      · unfold cSc
        simp (disch := omega) only [vup_k, vup_o, vup_at]
        refine ⟨trivial, s3.2.2.2.2, s3.2.2.1, ?_, s3.2.1, ?_, s4, rfl, s3.2.2.2.1, fun w => absurd rfl w, ?_⟩
        · intro i i0 i1
          have : (yBeg 0 1 : Int) = 0 := rfl
          omega
        · intro t t0 t1
          have : (yBeg 0 2 : Int) = 0 := rfl
          omega
        · intro b' b0 b1
          have : (yBeg 0 3 : Int) = 0 := rfl
          omega
    obtain ⟨V3, J3, t', v1, v2, v3, v4⟩ := sl68 (d := d) hMb hM hP hb hMk 3904 _ J yBeg 0 c0 (Or.inl (yBeg_inv hP)) (by
      show 3 ≤ (3 : Int) ∧ (3 : Int) ≤ P 8 0
      omega) (by show -100 ≤ (0 : Int) ∧ (0 : Int) ≤ 100; decide) (ySong_end hP) (by omega) (by omega)
    have start : zGo false 68 0 [.ref 12, .ref x, .ref Mk, .ref 3, .ref M, .null] [] (zm V J d) = zGo false 68 107 [.ref 12, .ref x, .ref Mk, .ref 3, .ref M, .int (zi t')] [] (zm V3 J3 d) := by
      have e16 : V2 16 2 = P 8 1 := by rw [s2 16 (by decide) (by decide) (by decide), e162]
      rw [← v1, ze_68_0 _ _ _ hb hMk hMb]
      simp (disch := first | omega | assumption | (simp (disch := omega) only [vup_fn, vup_o, vup_k, vup_at]; first | done | omega | assumption)) only [r2, hF, r0, q1, ze_68_45, s1, ze_68_49, Nat.reduceAdd, e16, ze_33_0, ze_68_63, Int.add_zero, ↓reduceIte, qw_id, zck_T, zck_t, zGor_v, zGor_n, zGor_e, zbs, vup_at, vup_vup, vup_self, vup_o, vup_k, vup_fn, ne_eq, not_true_eq_false, not_false_eq_true, and_true, true_and, and_self, and_false, false_and, or_true, true_or, or_self, or_false, false_or, xlt_t, xlt_f, xle_t, xle_f, xeq_t, xeq_f, xand_f, xor_t]
    rw [start]
    have fr3 : ∀ o : Nat, ¬(12 ≤ o ∧ o ≤ 25 ∨ o = M) → V3 o = V o := by
      intro o ho
      rw [v3.1 o (by omega)]
      simp (disch := omega) only [vup_fn]
      rw [s2 o (by omega) (by omega) (by omega), q3 o (by omega)]
    have hsF : sF P F = yAll P 0 7 := if_neg (fun w => w hF)
    have hsA : sA P F fa = if yAll P 0 7 = 0 then -1 else cPl P (yAll P 0 8) := if_neg (fun w => w hF)
    have hsM : sM P F = P 8 1 := if_neg (fun w => w hF)
    have hsN : sN P F = if yAll P 0 7 ≠ 0 then 0 else yAll P 0 3 := by
      unfold sN
      by_cases w : yAll P 0 7 = 0
      · rw [if_neg (by omega), if_neg (by omega)]
      · rw [if_pos (Or.inr w), if_pos w]
    have mus : ∀ (W : zVt) (JW : zJt), cSg W JW M P (yAll P) → cMus W JW M (sF P F) (sA P F fa) (sN P F) (sM P F) (yAll P 4) := by
      intro W JW hW
      refine ⟨by rw [hsF]; exact hW.2.1, ?_, ?_, by rw [hsM]; exact hW.2.2.1, ?_⟩
      · rw [hsA]
        by_cases w : yAll P 0 7 = 0
        · rw [if_pos w]; exact (hW.2.2.2.2 w).1
        · rw [if_neg w]; exact (hW.2.2.2.1 w).1
      · rw [hsN]
        by_cases w : yAll P 0 7 = 0
        · rw [if_neg (by omega)]; exact (hW.2.2.2.2 w).2.2.2.2.2.2.2.1
        · rw [if_pos w]; exact (hW.2.2.2.1 w).2.1
      · rw [hsN]
        intro b' b0 b1 r rr0 rr1
        by_cases w : yAll P 0 7 = 0
        · rw [if_neg (by omega)] at b1
          exact (hW.2.2.2.2 w).2.2.2.2.2.2.2.2.2.2 b' b0 b1 r rr0 rr1
        · rw [if_pos w] at b1
          omega
    have h77 := ySong_7 P
    have hv2 : cSg V3 J3 M P (ySong P) := v2
    by_cases hs : ySong P 0 7 = 0
    · have hinv : yInv P (hD (tK T)) (ySong P) := by
        rcases yRun_inv hP 3904 yBeg (Or.inl (yBeg_inv hP)) with w | w
        · exact w
        · exact absurd hs w
      obtain ⟨V4, J4, w1, w2, w3, w4⟩ := sn82 (d := d) hMb hM hP hv2 hinv
      have hall : yAll P = yFin P (ySong P) := if_pos hs
      have em : V3 M 0 = 0 := by rw [hv2.2.1, hs]
      refine ⟨V4, J4, ?_, fun o ho => by rw [w3.1 o (by omega), fr3 o ho], fun o ho => by rw [w4 o ho, v4 o ho], mus V4 J4 (by rw [hall]; exact w2)⟩
      rw [ze_68_107 _ _ _ _ hb hMk hMb]
      simp (disch := first | omega | assumption | (simp (disch := omega) only [vup_fn, vup_o, vup_k, vup_at]; first | done | omega | assumption)) only [em, w1, ze_68_121, Int.add_zero, ↓reduceIte, qw_id, zck_T, zck_t, zGor_v, zGor_n, zGor_e, zbs, vup_at, vup_vup, vup_self, vup_o, vup_k, vup_fn, ne_eq, not_true_eq_false, not_false_eq_true, and_true, true_and, and_self, and_false, false_and, or_true, true_or, or_self, or_false, false_or, xlt_t, xlt_f, xle_t, xle_f, xeq_t, xeq_f, xand_f, xor_t]
    · have hall : yAll P = ySong P := if_neg hs
      have em : V3 M 0 = ySong P 0 7 := hv2.2.1
      refine ⟨V3, J3, ?_, fr3, v4, mus V3 J3 (by rw [hall]; exact hv2)⟩
      rw [ze_68_107 _ _ _ _ hb hMk hMb]
      simp (disch := first | omega | assumption | (simp (disch := omega) only [vup_fn, vup_o, vup_k, vup_at]; first | done | omega | assumption)) only [em, ze_68_121, Int.add_zero, ↓reduceIte, qw_id, zck_T, zck_t, zGor_v, zGor_n, zGor_e, zbs, vup_at, vup_vup, vup_self, vup_o, vup_k, vup_fn, ne_eq, not_true_eq_false, not_false_eq_true, and_true, true_and, and_self, and_false, false_and, or_true, true_or, or_self, or_false, false_or, xlt_t, xlt_f, xle_t, xle_f, xeq_t, xeq_f, xand_f, xor_t]
  · refine ⟨vup (vup (vup (vup (vup (vup (vup V M 0 0) M 1 (-1)) M 2 0) M 3 0) M 0 F) M 1 fa) M 2 0, J, ?_, ?_, fun _ _ => rfl, ?_, ?_, ?_, ?_, ?_⟩
    · have hne : x ≠ M := fun w => by
        have a1 := zb10_0 hb
        rw [w, zb5_0 hMb] at a1
        exact absurd a1 (by decide)
      rw [ze_68_0 _ _ _ hb hMk hMb]
      simp (disch := first | omega | assumption | (simp (disch := omega) only [vup_fn, vup_o, vup_k, vup_at]; first | done | omega | assumption)) only [r2, r3, ze_68_15, ze_33_0, ze_68_21, ze_34_0, ze_68_34, Int.add_zero, ↓reduceIte, qw_id, zck_T, zck_t, zGor_v, zGor_n, zGor_e, zbs, vup_at, vup_vup, vup_self, vup_o, vup_k, vup_fn, ne_eq, not_true_eq_false, not_false_eq_true, and_true, true_and, and_self, and_false, false_and, or_true, true_or, or_self, or_false, false_or, xlt_t, xlt_f, xle_t, xle_f, xeq_t, xeq_f, xand_f, xor_t]
    · intro o ho
      simp (disch := omega) only [vup_fn]
    · simp (disch := decide) only [vup_k, vup_at]
      exact (if_pos hF).symm
    · simp (disch := decide) only [vup_k, vup_at]
      exact (if_pos hF).symm
    · simp (disch := decide) only [vup_at]
      exact (if_pos (Or.inl hF)).symm
    · simp (disch := decide) only [vup_k, vup_at]
      exact (if_pos hF).symm
    · intro b' b0 b1
      have : sN (aP T len n (V (Mk + 1)) (V 4) (V 5) (V 6) cnt) F = 0 := if_pos (Or.inl hF)
      omega
end
