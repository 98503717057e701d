/-! part 99s: plan: what the class answers and does; the ghosts are chosen -/
theorem zby_ex : ∀ (n : Nat) (B : Int → Int), n ≤ 8 → (∀ r, 0 ≤ r → r < 8 → 0 ≤ B r ∧ B r < 256) → ∃ L : Int64, ∀ r : Int, 0 ≤ r → r < n → zby L r = B r
  | 0, _ => fun _ _ => ⟨Int64.ofNat 0, fun r r0 r1 => by omega⟩
  | n + 1, B => fun hn hB => by
    obtain ⟨L, hL⟩ := zby_ex n (fun r => if r < 7 then B (r + 1) else 0) (by omega) (fun r r0 r1 => by
      show 0 ≤ (if r < 7 then B (r + 1) else 0) ∧ (if r < 7 then B (r + 1) else 0) < 256
      by_cases q : r < 7
      · rw [if_pos q]
        exact hB (r + 1) (by omega) (by omega)
      · rw [if_neg q]
        decide)
    refine ⟨L * Int64.ofNat 256 + (zi (B 0)).toInt64, fun r r0 r1 => ?_⟩
    rw [zby_mul (hB 0 (by omega) (by omega)) ⟨r0, by omega⟩]
    by_cases q : r = 0
    · rw [if_pos q, q]
    · rw [if_neg q, hL (r - 1) (by omega) (by omega)]
      show (if r - 1 < 7 then B (r - 1 + 1) else 0) = B r
      rw [if_pos (by omega), Int.sub_add_cancel]
theorem yMb_rng {b : Int} (h : yByte b) : 0 ≤ yMb b ∧ yMb b < 256 := by
  unfold yByte at h
  unfold yMb
  split
  · decide
  · split <;> omega
theorem iMs_by {V : zVt} {J : zJt} {M w : Nat} {H : Int → Int} (ht : tOk (yTt V w) (V 432 w)) (h : iMs V J M w H) {b t : Int} (hb : 0 ≤ b ∧ b < V M 2) (h16 : 0 ≤ t ∧ t < 16) : yByte (cSd J M b t) := by
  obtain ⟨n, b0, F, A, fa, hx, hg, m1, m2, m3, m4, m5⟩ := h
  rw [m3] at hb
  have q := m5 b hb.1 hb.2
  have e : cSd J M b t = yAll (aP (yTt V w) (V 432 w) n H (V 4) (V 5) (V 6) (V 3 0)) 4 (16 * b + t) := by
    unfold cSd
    by_cases h8 : t < 8
    · rw [if_pos h8, (q t h16.1 h8).1]
    · rw [if_neg h8, (q (t - 8) (by omega) (by omega)).2, show 16 * b + (t - 8) + 8 = 16 * b + t by omega]
  rw [e]
  by_cases hF : F = 0
  · have hP := aP_ok ht hx hF (hg hF)
    generalize aP (yTt V w) (V 432 w) n H (V 4) (V 5) (V 6) (V 3 0) = P at *
    by_cases w7 : yAll P 0 7 = 0
    · have eN : sN P F = yAll P 0 3 := if_neg (by omega)
      rw [eN] at hb
      exact (yAll_cnt hP w7).2.2.2.2.2.1 _ (by omega) (by omega)
    · have eN : sN P F = 0 := if_pos (Or.inr w7)
      omega
  · have eN : sN (aP (yTt V w) (V 432 w) n H (V 4) (V 5) (V 6) (V 3 0)) F = 0 := if_pos (Or.inl hF)
    omega
/-- what a plan leaves as it was -/
def lFp (U U' : zVt) : Prop := (∀ o : Nat, o ≠ 42 → o ≠ 44 → o ≠ 45 → o ≠ 47 → ¬(7 ≤ o ∧ o ≤ 36) → o ≠ 461 → o ≠ 462 → o ≠ 467 → ¬(470 ≤ o ∧ o ≤ 472) → U' o = U o) ∧ ((∀ x, U 461 x = 1 → U' 461 x = 1) ∧ ∀ x, U' 461 x = 0 → U 461 x = 0) ∧ ∀ x, U 462 x = 1 → U' 462 x = 1
theorem lFp_r {U : zVt} : lFp U U := ⟨fun _ _ _ _ _ _ _ _ _ _ => rfl, ⟨fun _ h => h, fun _ h => h⟩, fun _ h => h⟩
theorem lFp_t {U U1 U2 : zVt} (h : lFp U U1) (h2 : lFp U1 U2) : lFp U U2 := ⟨fun o a b c d e f g i j => (h2.1 o a b c d e f g i j).trans (h.1 o a b c d e f g i j), ⟨fun x hx => h2.2.1.1 x (h.2.1.1 x hx), fun x hx => h.2.1.2 x (h2.2.1.2 x hx)⟩, fun x hx => h2.2.2 x (h.2.2 x hx)⟩
/-- request r finds no room -/
def oBl (U : zVt) (r : Int) : Prop := ∀ g, oGs U r (U 480 37) g → (∀ s, 0 ≤ s → s < 12 → g s = 0) ∨ ∀ t q, 0 ≤ t → t < 4 → 0 ≤ q → q < 4 → ¬ oFr U g t q
/-- the rooms of the day that are taken, and the requests' times -/
def lDs (U : zVt) : Prop := (∀ i, 0 ≤ i → i < U 480 52 → U 467 i ≠ -1 → ∃ D t q : Int, U 467 i = 100 * D + 10 * t + q ∧ (0 ≤ D ∧ D ≤ U 480 46) ∧ (0 ≤ t ∧ t < 4) ∧ (0 ≤ q ∧ q < 4) ∧ (D = U 480 46 → U 461 (4 * t + q) = 1)) ∧ ∀ i j, 0 ≤ i → i < j → j < U 480 52 → U 467 i ≠ -1 → U 467 i ≠ U 467 j
theorem oGs_un {U : zVt} {r k : Int} {g g' : Int → Int} (h : oGs U r k g) (h2 : oGs U r k g') {s : Int} (hs : 0 ≤ s ∧ s < 12) : g s = g' s := by
  have a := h.1 s hs.1 (by omega)
  have b := h2.1 s hs.1 (by omega)
  have c := h.2.1 s hs.1 hs.2
  have d := h2.2.1 s hs.1 hs.2
  have e : g s = 1 ↔ g' s = 1 := c.trans d.symm
  omega
section
variable {U V : zVt} {I J : zJt} {N r : Int}
theorem oSg_fr {U U' : zVt} {r k : Int} (h : lFp U U') (hk : oLe U (U 463 r) k ∨ oLe U' (U' 463 r) k) (h37 : U 480 37 ≤ 40) : oSg U' r k ↔ oSg U r k := by
  have f : ∀ o : Nat, (o = 454 ∨ o = 455 ∨ o = 463 ∨ o = 464 ∨ o = 465 ∨ o = 466 ∨ o = 480 ∨ o = 460) → U' o = U o := fun o ho => h.1 o (by omega) (by omega) (by omega) (by omega) (by omega) (by omega) (by omega) (by omega) (by omega)
  have e480 := f 480 (by omega)
  have hk2 : 0 ≤ k ∧ k < U 480 37 := by
    rcases hk with q | q
    · exact q.1
    · have := q.1
      rw [e480] at this
      exact this
  have em := h.1 (233 + 5 * k.toNat) (by omega) (by omega) (by omega) (by omega) (by omega) (by omega) (by omega) (by omega) (by omega)
  unfold oSg oLe
  rw [em, f 454 (by omega), f 455 (by omega), f 463 (by omega), f 464 (by omega), f 466 (by omega), e480]
theorem oBl_fr {U U' : zVt} {r : Int} (h : lFp U U') (h37 : U 480 37 ≤ 40) (hb : oBl U r) : oBl U' r := by
  intro g hg
  have f : ∀ o : Nat, (o = 454 ∨ o = 455 ∨ o = 463 ∨ o = 464 ∨ o = 465 ∨ o = 466 ∨ o = 480 ∨ o = 460) → U' o = U o := fun o ho => h.1 o (by omega) (by omega) (by omega) (by omega) (by omega) (by omega) (by omega) (by omega) (by omega)
  have hs : ∀ k, oSg U' r k ↔ oSg U r k := fun k => by
    by_cases q : oLe U (U 463 r) k ∨ oLe U' (U' 463 r) k
    · exact oSg_fr h q h37
    · exact ⟨fun w => absurd (Or.inr w.1) q, fun w => absurd (Or.inl w.1) q⟩
  have hg2 : oGs U r (U 480 37) g := by
    refine ⟨hg.1, fun s s0 s1 => ?_, hg.2.2⟩
    rw [hg.2.1 s s0 s1, f 480 (by omega), f 455 (by omega)]
    constructor
    · rintro ⟨j, j1, j2, j3⟩
      exact ⟨j, j1, (hs j).1 j2, j3⟩
    · rintro ⟨j, j1, j2, j3⟩
      exact ⟨j, j1, (hs j).2 j2, j3⟩
  rcases hb g hg2 with q | q
  · exact Or.inl q
  · refine Or.inr fun t v t0 t1 v0 v1 w => q t v t0 t1 v0 v1 ⟨fun s s0 s1 e => w.1 s s0 s1 ⟨h.2.2 _ e.1, e.2⟩, ?_, ?_⟩
    · exact h.2.1.2 _ w.2.1
    · have := w.2.2
      rw [f 460 (by omega)] at this
      exact this
/-- one learned bar, as the ghosts keep it -/
def lGh (U : zVt) (I : zJt) (r : Int) (f : Int → Int × Int × Int × Int64 × Int64) : Prop := ∀ i, (∀ j, oCn U r j i → (f i).1 = oNv U I j i ∧ (f i).2.1 = U (233 + 5 * j.toNat) 3 ∧ (f i).2.2.1 = yHr (fun t => yBg (cSd I (233 + 5 * j.toNat) (i % 40) t)) 16 ∧ ∀ q, 0 ≤ q → q < 8 → zby (f i).2.2.2.1 q = yMb (cSd I (233 + 5 * j.toNat) (i % 40) q) ∧ zby (f i).2.2.2.2 q = yMb (cSd I (233 + 5 * j.toNat) (i % 40) (q + 8))) ∧ ((∀ j, ¬ oCn U r j i) → f i = (U 472 i, U 471 i, U 470 i, I 468 i, I 469 i))
theorem oCn_by (h : zInv N U I) {j i : Int} (jc : oCn U r j i) (hr : 0 ≤ r ∧ r < U 480 52) : (0 ≤ i % 40 ∧ i % 40 < U (233 + 5 * j.toNat) 2) ∧ iMs U I (233 + 5 * j.toNat) (U 454 j).toNat (U (232 + 5 * j.toNat)) ∧ (∀ t, 0 ≤ t → t < 16 → yByte (cSd I (233 + 5 * j.toNat) (i % 40) t)) := by
  obtain ⟨k, hk⟩ : ∃ k : Nat, j = k := ⟨j.toNat, by have := jc.1.1.1.1; omega⟩
  subst hk
  have hkn : ((k : Nat) : Int).toNat = k := by omega
  rw [hkn]
  obtain ⟨b5k, mk, c3, c4, c2, c5, c1, hBk, k40⟩ := iCp_mk h jc.1.1.1.2
  have hto : U 466 r < U (233 + 5 * k) 2 := by have := jc.1.2.2.2; rw [hkn] at this; exact this
  have hbi : 0 ≤ i % 40 ∧ i % 40 < U (233 + 5 * k) 2 := by
    have := jc.2.2
    omega
  exact ⟨hbi, c1, fun t t0 t1 => iMs_by (zt_ok h.1.1 (w := ((U 454 k).toNat : Int)) (by omega)) c1 hbi ⟨t0, t1⟩⟩
theorem lGh_ex (h : zInv N U I) (hr : 0 ≤ r ∧ r < U 480 52) : ∃ f, lGh U I r f := by
  have hex : ∀ i : Int, ∃ y : Int × Int × Int × Int64 × Int64, (∀ j, oCn U r j i → y.1 = oNv U I j i ∧ y.2.1 = U (233 + 5 * j.toNat) 3 ∧ y.2.2.1 = yHr (fun t => yBg (cSd I (233 + 5 * j.toNat) (i % 40) t)) 16 ∧ ∀ q, 0 ≤ q → q < 8 → zby y.2.2.2.1 q = yMb (cSd I (233 + 5 * j.toNat) (i % 40) q) ∧ zby y.2.2.2.2 q = yMb (cSd I (233 + 5 * j.toNat) (i % 40) (q + 8))) ∧ ((∀ j, ¬ oCn U r j i) → y = (U 472 i, U 471 i, U 470 i, I 468 i, I 469 i)) := fun i => by
    by_cases q : ∃ j, oCn U r j i
    · obtain ⟨j, jc⟩ := q
      obtain ⟨_, _, hb⟩ := oCn_by h jc hr
      obtain ⟨L1, hL1⟩ := zby_ex 8 (fun q => yMb (cSd I (233 + 5 * j.toNat) (i % 40) (q % 8))) (by omega) (fun r r0 r1 => yMb_rng (hb _ (by omega) (by omega)))
      obtain ⟨L2, hL2⟩ := zby_ex 8 (fun q => yMb (cSd I (233 + 5 * j.toNat) (i % 40) (q % 8 + 8))) (by omega) (fun r r0 r1 => yMb_rng (hb _ (by omega) (by omega)))
      refine ⟨(oNv U I j i, U (233 + 5 * j.toNat) 3, yHr (fun t => yBg (cSd I (233 + 5 * j.toNat) (i % 40) t)) 16, L1, L2), fun j2 jc2 => ?_, fun w => absurd jc (w j)⟩
      have e := oCn_un h jc2 jc
      subst e
      refine ⟨rfl, rfl, rfl, fun q q0 q1 => ⟨?_, ?_⟩⟩
      · have := hL1 q q0 (by omega)
        rw [show q % 8 = q by omega] at this
        exact this
      · have := hL2 q q0 (by omega)
        rw [show q % 8 = q by omega] at this
        exact this
    · exact ⟨(U 472 i, U 471 i, U 470 i, I 468 i, I 469 i), fun j jc => absurd ⟨j, jc⟩ q, fun _ => rfl⟩
  obtain ⟨f, hf⟩ := Classical.axiomOfChoice hex
  exact ⟨f, hf⟩
/-- the class at request r, which has no room yet -/
theorem c_plan1 (h : zInv N U I) {c : Int} (hB : ∀ i, 0 ≤ i → i < 5760 → U 47 i ≤ c) (hc : 0 ≤ c ∧ c + 1 ≤ 40 * N) (hr : 0 ≤ r ∧ r < U 480 52) (hV : pC U V I J) (d : Nat → Nat → UInt64) :
    (oBl U r ∧ zGo false 92 0 [.ref 0, .int (zi r), .null, .null] [] (zm V J d) = zI1 0 V J d) ∨
    ∃ (V' : zVt) (J' : zJt) (U' : zVt) (I' : zJt), zGo false 92 0 [.ref 0, .int (zi r), .null, .null] [] (zm V J d) = zI1 1 V' J' d ∧ pC U' V' I' J' ∧ (∀ o : Nat, 430 ≤ o → V' o = V o ∧ J' o = J o) ∧ zInv N U' I' ∧ (∀ i, 0 ≤ i → i < 5760 → U' 47 i ≤ c + 1) ∧ lFp U U' ∧ ∃ t q : Int, ((0 ≤ t ∧ t < 4) ∧ 0 ≤ q ∧ q < 4) ∧ U 461 (4 * t + q) = 0 ∧ U' 461 (4 * t + q) = 1 ∧ ∀ x, U' 467 x = if x = r then 100 * U 480 46 + 10 * t + q else U 467 x := by
  obtain ⟨g, hg, hcase⟩ := cp92 (d := d) h hV hr
  have h37 := h.2.2.2.1
  rcases hcase with ⟨e1, e2⟩ | ⟨e1, t, q, V', J', htq, hf, hfirst, e2, eL, e45, e44, e42, eo, ej⟩
  · refine Or.inl ⟨fun g2 hg2 => ?_, e2⟩
    have hgg : ∀ s, 0 ≤ s → s < 12 → g2 s = g s := fun s s0 s1 => oGs_un hg2 hg ⟨s0, s1⟩
    rcases e1 with e1 | e1
    · exact Or.inl fun s s0 s1 => (hgg s s0 s1).trans (e1 s s0 s1)
    · refine Or.inr fun t q t0 t1 q0 q1 w => e1 t q t0 t1 q0 q1 ⟨fun s s0 s1 e => w.1 s s0 s1 ⟨e.1, (hgg s s0 s1).trans e.2⟩, w.2.1, ?_⟩
      have := w.2.2
      have e : oCt g2 = oCt g := by
        show g2 0 + g2 1 + g2 2 + g2 3 + g2 4 + g2 5 + g2 6 + g2 7 + g2 8 + g2 9 + g2 10 + g2 11 = g 0 + g 1 + g 2 + g 3 + g 4 + g 5 + g 6 + g 7 + g 8 + g 9 + g 10 + g 11
        rw [hgg 0 (by omega) (by omega), hgg 1 (by omega) (by omega), hgg 2 (by omega) (by omega), hgg 3 (by omega) (by omega), hgg 4 (by omega) (by omega), hgg 5 (by omega) (by omega), hgg 6 (by omega) (by omega), hgg 7 (by omega) (by omega), hgg 8 (by omega) (by omega), hgg 9 (by omega) (by omega), hgg 10 (by omega) (by omega), hgg 11 (by omega) (by omega)]
      rw [e] at this
      exact this
  · right
    obtain ⟨⟨t0, t1⟩, q0, q1⟩ := htq
    obtain ⟨f, hL⟩ := lGh_ex h hr
    obtain ⟨b1, b2, b3, b4, b5, b6, b7, b8⟩ := h.2.2.2.2.2.2.1
    have hN := h.2.2.2.2.2.2.2.2.2
    obtain ⟨U', u1, u461, u462, u467, u470, u471, u472, uo⟩ : ∃ U' : zVt, (∀ o : Nat, o < 430 → U' o = V' o) ∧ (∀ x, U' 461 x = if x = 4 * t + q then 1 else U 461 x) ∧ (∀ x, U' 462 x = if (12 * t ≤ x ∧ x < 12 * t + 12) ∧ g (x - 12 * t) = 1 then 1 else U 462 x) ∧ (∀ x, U' 467 x = if x = r then 100 * U 480 46 + 10 * t + q else U 467 x) ∧ (∀ x, U' 470 x = (f x).2.2.1) ∧ (∀ x, U' 471 x = (f x).2.1) ∧ (∀ x, U' 472 x = (f x).1) ∧ ∀ o : Nat, 430 ≤ o → o ≠ 461 → o ≠ 462 → o ≠ 467 → o ≠ 470 → o ≠ 471 → o ≠ 472 → U' o = U o := by
      refine ⟨fun o => if o < 430 then V' o else if o = 461 then (fun x => if x = 4 * t + q then 1 else U 461 x) else if o = 462 then (fun x => if (12 * t ≤ x ∧ x < 12 * t + 12) ∧ g (x - 12 * t) = 1 then 1 else U 462 x) else if o = 467 then (fun x => if x = r then 100 * U 480 46 + 10 * t + q else U 467 x) else if o = 470 then (fun x => (f x).2.2.1) else if o = 471 then (fun x => (f x).2.1) else if o = 472 then (fun x => (f x).1) else U o, fun o ho => if_pos ho, fun x => rfl, fun x => rfl, fun x => rfl, fun x => rfl, fun x => rfl, fun x => rfl, fun o h1 h2 h3 h4 h5 h6 h7 => ?_⟩
      show (if o < 430 then V' o else if o = 461 then _ else if o = 462 then _ else if o = 467 then _ else if o = 470 then _ else if o = 471 then _ else if o = 472 then _ else U o) = U o
      rw [if_neg (by omega), if_neg h2, if_neg h3, if_neg h4, if_neg h5, if_neg h6, if_neg h7]
    obtain ⟨I', i1, i468, i469, io⟩ : ∃ I' : zJt, (∀ o : Nat, o < 430 → I' o = J' o) ∧ (∀ x, I' 468 x = (f x).2.2.2.1) ∧ (∀ x, I' 469 x = (f x).2.2.2.2) ∧ ∀ o : Nat, 430 ≤ o → o ≠ 468 → o ≠ 469 → I' o = I o := by
      refine ⟨fun o => if o < 430 then J' o else if o = 468 then (fun x => (f x).2.2.2.1) else if o = 469 then (fun x => (f x).2.2.2.2) else I o, fun o ho => if_pos ho, fun x => rfl, fun x => rfl, fun o h1 h2 h3 => ?_⟩
      show (if o < 430 then J' o else if o = 468 then _ else if o = 469 then _ else I o) = I o
      rw [if_neg (by omega), if_neg h2, if_neg h3]
    have vo : ∀ o : Nat, (o ≤ 6 ∨ (37 ≤ o ∧ o ≤ 429)) → o ≠ 42 → o ≠ 44 → o ≠ 45 → o ≠ 47 → U' o = U o := fun o o1 o2 o3 o4 o5 => by rw [u1 o (by omega), eo o o2 o3 o4 o5]; exact hV.1 o o1
    have wo : ∀ o : Nat, (430 ≤ o ∧ o ≤ 460) ∨ (463 ≤ o ∧ o ≤ 466) ∨ o = 468 ∨ o = 469 ∨ 473 ≤ o → U' o = U o := fun o ho => uo o (by omega) (by omega) (by omega) (by omega) (by omega) (by omega) (by omega)
    have jo : ∀ o : Nat, 37 ≤ o → o ≠ 48 → o ≠ 49 → o < 430 → I' o = I o := fun o o1 o2 o3 o4 => by rw [i1 o o4, ej o o2 o3]; exact hV.2 o (by omega)
    have u47 : U' 47 = V' 47 := u1 47 (by omega)
    have hnew : ∀ i, (∀ j, oCn U r j i → U' 47 i = oNv U I j i ∧ U' 472 i = oNv U I j i ∧ U' 471 i = U (233 + 5 * j.toNat) 3 ∧ U' 470 i = yHr (fun t => yBg (cSd I (233 + 5 * j.toNat) (i % 40) t)) 16 ∧ I' 48 i = I (234 + 5 * j.toNat) (2 * (i % 40)) ∧ I' 49 i = I (234 + 5 * j.toNat) (2 * (i % 40) + 1) ∧ ∀ q, 0 ≤ q → q < 8 → zby (I' 468 i) q = yMb (cSd I (233 + 5 * j.toNat) (i % 40) q) ∧ zby (I' 469 i) q = yMb (cSd I (233 + 5 * j.toNat) (i % 40) (q + 8))) ∧ ((∀ j, ¬ oCn U r j i) → U' 47 i = U 47 i ∧ U' 472 i = U 472 i ∧ U' 471 i = U 471 i ∧ U' 470 i = U 470 i ∧ I' 48 i = I 48 i ∧ I' 49 i = I 49 i ∧ I' 468 i = I 468 i ∧ I' 469 i = I 469 i) := fun i => by
      obtain ⟨l1, l2⟩ := eL i
      obtain ⟨m1, m2⟩ := hL i
      rw [u47, u472, u471, u470, i1 48 (by omega), i1 49 (by omega), i468, i469]
      refine ⟨fun j jc => ?_, fun w => ?_⟩
      · obtain ⟨c1, c2, c3⟩ := l1 j jc.1.1.1.2 jc
        obtain ⟨d1, d2, d3, d4⟩ := m1 j jc
        exact ⟨c1, d1, d2, d3, c2, c3, d4⟩
      · obtain ⟨c1, c2, c3⟩ := l2 (fun j _ => w j)
        have d1 := m2 w
        rw [d1]
        exact ⟨c1, rfl, rfl, rfl, c2, c3, rfl, rfl⟩
    have hnr : ∀ i j, 0 ≤ i → i < 5760 → 1 ≤ oNv U I j i ∧ oNv U I j i ≤ c + 1 := fun i j i0 i1 => by
      have := hB i i0 i1
      have k2 := (h.2.2.2.2.2.2.2.1 i i0 i1).2.1
      unfold oNv
      split <;> omega
    refine ⟨V', J', U', I', e2, ⟨fun o ho => (u1 o (by omega)).symm, fun o ho => (i1 o (by omega)).symm⟩, fun o ho => ⟨eo o (by omega) (by omega) (by omega) (by omega), ej o (by omega) (by omega)⟩, ?_, fun i i0 i1' => ?_, ⟨fun o h1 h2 h3 h4 h5 h6 h7 h8 h9 => ?_, ⟨fun x hx => ?_, fun x hx => ?_⟩, fun x hx => ?_⟩, t, q, ⟨⟨t0, t1⟩, q0, q1⟩, hf.2.1, by rw [u461, if_pos rfl], u467⟩
    · refine zInv_pl h (fun o h1 h2 h3 h4 h5 h6 h7 h8 h9 h10 h11 => ?_) jo ⟨?_, ?_, ?_⟩ ?_ ?_
      · by_cases c : o < 430
        · exact vo o (by omega) h1 h2 h3 h4
        · exact wo o (by omega)
      · rw [wo 480 (by omega)]
      · rw [wo 480 (by omega)]
      · rw [wo 480 (by omega)]
      · unfold iReh
        rw [vo 43 (by omega) (by omega) (by omega) (by omega) (by omega), wo 460 (by omega), vo 37 (by omega) (by omega) (by omega) (by omega) (by omega), vo 38 (by omega) (by omega) (by omega) (by omega) (by omega), vo 39 (by omega) (by omega) (by omega) (by omega) (by omega), vo 40 (by omega) (by omega) (by omega) (by omega) (by omega), vo 41 (by omega) (by omega) (by omega) (by omega) (by omega), wo 463 (by omega), wo 464 (by omega), wo 465 (by omega), wo 466 (by omega), wo 480 (by omega), u1 44 (by omega), u1 45 (by omega), u1 42 (by omega)]
        refine ⟨b1, fun k k0 k1 => ?_, fun u v0 v1 => ⟨?_, fun s s0 s1 => ?_⟩, b4, b5, b6, b7, fun k k0 k1 => ?_⟩
        · rw [e44, u461]
          by_cases c : k = 4 * t + q
          · rw [if_pos c, if_pos c]
            exact ⟨rfl, Or.inr rfl⟩
          · rw [if_neg c, if_neg c]
            exact b2 k k0 k1
        · rw [e45]
          by_cases c : u = t
          · rw [if_pos c]
            refine yHr_cong 16 (by omega) (fun s s0 s1 => ?_)
            show (if g s = 1 then 1 else oUs U t s) = if s < 12 then U' 462 (12 * u + s) else 0
            by_cases c2 : s < 12
            · rw [if_pos c2, u462, c, show 12 * t + s - 12 * t = s by omega]
              by_cases c3 : g s = 1
              · rw [if_pos c3, if_pos ⟨by omega, c3⟩]
              · rw [if_neg c3, if_neg (fun w => c3 w.2)]
                unfold oUs
                rw [if_pos c2]
            · rw [if_neg c2, if_neg (by rw [hg.2.2 s (by omega)]; decide)]
              unfold oUs
              rw [if_neg c2]
          · rw [if_neg c, (b3 u v0 v1).1]
            refine yHr_cong 16 (by omega) (fun s s0 s1 => ?_)
            show (if s < 12 then U 462 (12 * u + s) else 0) = if s < 12 then U' 462 (12 * u + s) else 0
            by_cases c2 : s < 12
            · rw [if_pos c2, if_pos c2, u462, if_neg (fun w => by omega)]
            · rw [if_neg c2, if_neg c2]
        · rw [u462]
          by_cases c : (12 * t ≤ 12 * u + s ∧ 12 * u + s < 12 * t + 12) ∧ g (12 * u + s - 12 * t) = 1
          · rw [if_pos c]
            exact Or.inr rfl
          · rw [if_neg c]
            exact (b3 u v0 v1).2 s s0 s1
        · obtain ⟨c1, c2, c3, c4, c5, c6, c7, c8, c9⟩ := b8 k k0 k1
          rw [e42, u467]
          refine ⟨c1, c2, c3, c4, ?_, c6, c7, c8, ?_⟩
          · by_cases c : k = r
            · rw [if_pos c, if_pos c, b4]
            · rw [if_neg c, if_neg c]
              exact c5
          · by_cases c : k = r
            · rw [if_pos c]
              omega
            · rw [if_neg c]
              exact c9
      · intro i i0 i1'
        obtain ⟨k1, k2, k3⟩ := h.2.2.2.2.2.2.2.1 i i0 i1'
        obtain ⟨n1, n2⟩ := hnew i
        rw [vo (50 + 15 * (i / 40 % 12).toNat) (by omega) (by omega) (by omega) (by omega) (by omega), yTt_fr (V := U) (wo 481 (by omega)) (wo 432 (by omega))]
        by_cases hex : ∃ j, oCn U r j i
        · obtain ⟨j, jc⟩ := hex
          obtain ⟨m1, m2, m3, m4, m5, m6, m7⟩ := n1 j jc
          have hr2 := hnr i j i0 i1'
          obtain ⟨_, _, hBy⟩ := oCn_by h jc hr
          obtain ⟨k, hk⟩ : ∃ k : Nat, j = k := ⟨j.toNat, by have := jc.1.1.1.1; omega⟩
          subst hk
          have hkn : ((k : Nat) : Int).toNat = k := by omega
          rw [hkn] at m3 m4 m5 m6 m7 hBy
          obtain ⟨b5k, mk, c3, c4, c2, c5, c1, hBk, k40⟩ := iCp_mk h jc.1.1.1.2
          have z0 : U (233 + 5 * k) 0 = 0 := by have := jc.1.2.2.1; rw [hkn] at this; exact this
          have hwp : (i / 40 % 12).toNat = (U 454 k).toNat := by
            have := jc.2.1
            omega
          rw [m1, m2]
          refine ⟨rfl, by omega, fun _ => ⟨?_, ?_, ?_⟩⟩
          · rw [hwp]
            exact (h.2.2.1 (U 454 k).toNat (by omega)).2.2.1.2 ⟨k, jc.1.1.1, by omega⟩
          · rw [m3, hwp]
            exact iMs_mt c1 z0
          · have f234 : 233 + 5 * k + 1 = 234 + 5 * k := by omega
            have hlo : ∀ x, 0 ≤ x → x < 8 → zby (I (234 + 5 * k) (2 * (i % 40))) x = cSd I (233 + 5 * k) (i % 40) x := fun x x0 x1 => by
              unfold cSd
              rw [if_pos x1, f234]
            have hhi : ∀ x, 0 ≤ x → x < 8 → zby (I (234 + 5 * k) (2 * (i % 40) + 1)) x = cSd I (233 + 5 * k) (i % 40) (x + 8) := fun x x0 x1 => by
              unfold cSd
              rw [if_neg (by omega), f234, show x + 8 - 8 = x by omega]
            refine ⟨fun x => cSd I (233 + 5 * k) (i % 40) x, fun x x0 x1 => hBy x x0 x1, fun x x0 x1 => ⟨?_, ?_, ?_, ?_⟩, m4⟩
            · rw [m5]
              exact hlo x x0 x1
            · rw [m6]
              exact hhi x x0 x1
            · exact (m7 x x0 x1).1
            · exact (m7 x x0 x1).2
        · obtain ⟨m1, m2, m3, m4, m5, m6, m7, m8⟩ := n2 (fun j jc => hex ⟨j, jc⟩)
          rw [m1, m2, m3]
          refine ⟨k1, k2, fun w => ?_⟩
          obtain ⟨a1, a2, a3⟩ := k3 w
          refine ⟨a1, a2, ?_⟩
          unfold iLb at *
          rw [m4, m5, m6, m7, m8]
          exact a3
    · obtain ⟨n1, n2⟩ := hnew i
      by_cases hex : ∃ j, oCn U r j i
      · obtain ⟨j, jc⟩ := hex
        rw [(n1 j jc).1]
        exact (hnr i j i0 i1').2
      · rw [(n2 (fun j jc => hex ⟨j, jc⟩)).1]
        have := hB i i0 i1'
        omega
    · by_cases c : o < 430
      · exact vo o (by omega) h1 h2 h3 h4
      · exact wo o (by omega)
    · rw [u461]
      split
      · rfl
      · exact hx
    · rw [u461] at hx
      by_cases c : x = 4 * t + q
      · rw [if_pos c] at hx
        omega
      · rw [if_neg c] at hx
        exact hx
    · rw [u462]
      split
      · rfl
      · exact hx
end
