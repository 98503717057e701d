/-! part 99t2: a song is right -/
theorem lA_b {Q : Int → lTk → Prop} : ∀ (ts : List lTk) (k e : Int), lA Q k ts → k + (ts.length : Nat) ≤ e → lA (fun j t => Q j t ∧ j < e) k ts
  | [], _, _ => fun _ _ => trivial
  | t :: ts, k, e => fun h he => by
    rw [List.length_cons] at he
    exact ⟨⟨h.1, by omega⟩, lA_b ts (k + 1) e h.2 (by omega)⟩
theorem lMu_0 {m : Int} {i : Int × List (List lTk)} (h : lIk m i) : (i.2.length : Nat) ≤ lMu i := by
  unfold lMu
  rcases h.1 with w | w | w
  · rw [if_pos w]; omega
  · rw [if_neg (by omega), w]; omega
  · rw [if_neg (by omega), w]; omega
theorem lMu_3 {m : Int} {i : Int × List (List lTk)} (h : lIk m i) : lMu i ≤ 3 * (i.2.length : Nat) := by
  unfold lMu
  rcases h.1 with w | w | w
  · rw [if_pos w]; omega
  · rw [if_neg (by omega), w]; omega
  · rw [if_neg (by omega), w]; omega
/-- the bars that are written -/
def lBn : List (Int × List (List lTk)) → Nat
  | [] => 0
  | i :: r => i.2.length + lBn r
theorem lCu_rng {m : Int} : ∀ its : List (Int × List (List lTk)), (∀ i ∈ its, lIk m i) → (lBn its : Nat) ≤ lCu its ∧ lCu its ≤ 3 * (lBn its : Nat)
  | [], _ => by
    show ((0 : Nat) : Int) ≤ 0 ∧ (0 : Int) ≤ 3 * ((0 : Nat) : Int)
    omega
  | i :: r, h => by
    have a := lMu_0 (h i List.mem_cons_self)
    have a2 := lMu_3 (h i List.mem_cons_self)
    have b := lCu_rng r (fun j hj => h j (List.mem_cons_of_mem _ hj))
    show ((i.2.length + lBn r : Nat) : Int) ≤ lMu i + lCu r ∧ lMu i + lCu r ≤ 3 * ((i.2.length + lBn r : Nat) : Int)
    omega
theorem lGo_is {P : zVt} {K N : Int → Int} (hm : 0 < P 8 1) (h6 : ∀ j, K j = 7 → P 6 j = hO K j (hD K j - 1)) : ∀ (its : List (Int × List (List lTk))) (k b : Int), (∀ i ∈ its, lIk (P 8 1) i) → 3 ≤ k → lA (lQs P) k (lIs its) → lA (fun j t => K j = t.1 ∧ N j = t.2.1) k (lIs its) → lGs K N k → b + lCu its ≤ 40 → ∃ j : Nat, j ≤ 3 * (lIs its).length ∧ lGo P k 0 0 b 0 (k + ((lIs its).length : Nat)) 0 0 (b + lCu its) 0 j
  | [], k, b => fun _ _ _ _ _ _ => ⟨0, Nat.zero_le _, by
    rw [show k + ((List.length (lIs []) : Nat) : Int) = k from Int.add_zero k, show b + lCu [] = b from Int.add_zero b]
    exact lGo_r⟩
  | i :: r, k, b => fun hi hk hq hg gs hb => by
    have hii := hi i List.mem_cons_self
    have hir : ∀ j ∈ r, lIk (P 8 1) j := fun j hj => hi j (List.mem_cons_of_mem _ hj)
    have hb : b + (lMu i + lCu r) ≤ 40 := hb
    have c0 := lCu_rng r hir
    obtain ⟨q1, q2⟩ := (lA_app (lIt i) (lIs r) k).mp hq
    obtain ⟨g1, g2⟩ := (lA_app (lIt i) (lIs r) k).mp hg
    obtain ⟨a1, a2, a3⟩ := lG_it hii hk g1 gs
    obtain ⟨j1, e1, r1⟩ := lGo_it hm (b := b) hii q1 (fun w => by rw [h6 _ (a3 w).1]; exact (a3 w).2) (by omega)
    obtain ⟨j2, e2, r2⟩ := lGo_is hm h6 r _ (b + lMu i) hir (by omega) q2 g2 a1 (by omega)
    have el : (lIs (i :: r)).length = (lIt i).length + (lIs r).length := List.length_append
    refine ⟨j2 + j1, by omega, ?_⟩
    rw [el, show b + lCu (i :: r) = b + lMu i + lCu r from (Int.add_assoc _ _ _).symm, show k + (((lIt i).length + (lIs r).length : Nat) : Int) = k + ((lIt i).length : Nat) + ((lIs r).length : Nat) by omega]
    exact lGo_t r1 r2
abbrev lTs (b s k c : Int) (its : List (Int × List (List lTk))) : List lTk := lCl b :: lKy s k :: lMt c :: lIs its
theorem lSong {b s k c : Int} {its : List (Int × List (List lTk))} (hc : c = 49 ∨ c = 50) (hi : ∀ i ∈ its, lIk (4 * (c - 48)) i) (hw : ∀ t ∈ lTs b s k c its, lWf t) (h60 : (lIs its).length ≤ 57) (hcu : lCu its ≤ 40) {T : Int → Int} (hT : T = lGet (lFl (lTs b s k c its))) {n b0 F A fa : Int} (hx : yTx T ((lFl (lTs b s k c its)).length : Nat) n b0 F A fa) : F = 0 ∧ fa = -1 ∧ ∀ H q m v : Int → Int, yAll (aP T ((lFl (lTs b s k c its)).length : Nat) n H q m v 0) 0 7 = 0 ∧ yAll (aP T ((lFl (lTs b s k c its)).length : Nat) n H q m v 0) 0 3 = lCu its := by
  have hlen : (lTs b s k c its).length = (lIs its).length + 3 := rfl
  obtain ⟨hA, hL⟩ := lRead0 hw (by omega) hT
  obtain ⟨u1, u2⟩ := yLx_un hx.1 hL
  obtain ⟨hp, hfa⟩ := hx.2.2 u2.symm
  rw [hlen] at u1
  obtain ⟨t0, t1, t2, hA3⟩ := hA
  have k0 : tK T 0 = 0 := t0.1
  have k1 : tK T 1 = 1 := t1.1
  have k2 : tK T 2 = 2 := t2.1
  have n2 : tN T 2 = 4 * (c - 48) := t2.2.1
  have hA3 : lA (fun j t => lTok T (yP T j) t) 3 (lIs its) := hA3
  have hG : lA (fun j t => tK T j = t.1 ∧ tN T j = t.2.1) 3 (lIs its) := lA_mono _ _ (fun i t h => ⟨h.1, h.2.1⟩) hA3
  have g3 : lGs (tK T) (tN T) 3 := h_le3 (by omega) (by omega)
  obtain ⟨⟨d1, _, _⟩, gx⟩ := lG_is its 3 hi (by omega) hG g3
  have en : 3 + (((lIs its).length : Nat) : Int) = n := by omega
  rw [en] at d1 gx
  have gx0 : ∀ j, 0 ≤ j → j < n → gX (tK T) (tN T) j = 0 := fun j j0 j1 => by
    by_cases q : j < 3
    · unfold gX
      rw [if_pos q]
      rcases (show j = 0 ∨ j = 1 ∨ j = 2 by omega) with rfl | rfl | rfl
      · exact if_pos k0
      · exact if_pos k1
      · exact if_pos k2
    · exact gx j (by omega) j1
  have hFA : F = 0 := by
    rcases hp with ⟨j, j1, j2, j3, j4, j5⟩ | ⟨_, _, j5⟩
    · exact absurd (gx0 j j1.1 j1.2) j3
    · rw [j5, if_neg (by omega), if_neg (by omega)]
  refine ⟨hFA, by rw [hfa, if_pos hFA], fun H q m v => ?_⟩
  have p0 : ∀ j, aP T ((lFl (lTs b s k c its)).length : Nat) n H q m v 0 0 j = tK T j := fun j => by
    show (if foi H q m v j 4 4 0 0 = 1 then (4 : Int) else tK T j) = tK T j
    rw [foi_0, if_neg (by decide)]
  have p1 : ∀ j, aP T ((lFl (lTs b s k c its)).length : Nat) n H q m v 0 1 j = tN T j := fun j => rfl
  have p4 : ∀ j, aP T ((lFl (lTs b s k c its)).length : Nat) n H q m v 0 4 j = yC T (yP T j) := fun j => rfl
  have p5 : ∀ j, aP T ((lFl (lTs b s k c its)).length : Nat) n H q m v 0 5 j = yI T (yP T j) := fun j => rfl
  have p6 : ∀ j, tK T j = 7 → aP T ((lFl (lTs b s k c its)).length : Nat) n H q m v 0 6 j = hO (tK T) j (hD (tK T) j - 1) := fun j hj => by
    have : tK T j ≠ 8 := by omega
    exact if_neg this
  have p80 : aP T ((lFl (lTs b s k c its)).length : Nat) n H q m v 0 8 0 = n := rfl
  have p81 : aP T ((lFl (lTs b s k c its)).length : Nat) n H q m v 0 8 1 = 4 * (c - 48) := n2
  generalize aP T ((lFl (lTs b s k c its)).length : Nat) n H q m v 0 = P at *
  have hQ : lA (lQs P) 3 (lIs its) := lA_mono _ _ (fun j t h => by
    obtain ⟨⟨x1, x2, x3, x4, x5, x6⟩, x7⟩ := h
    exact ⟨(p0 j).trans x1, (p1 j).trans x2, (p4 j).trans x3, (p5 j).trans x4, by rw [p80]; exact x7⟩) (lA_b _ _ n hA3 (by omega))
  obtain ⟨j, j1, j2⟩ := lGo_is (P := P) (K := tK T) (N := tN T) (by omega) p6 its 3 0 (by rw [p81]; exact hi) (by omega) hQ hG g3 (by omega)
  obtain ⟨S, ⟨s0, s1, s2, s3, s4, s7, _⟩, hS⟩ := j2 yBeg ⟨rfl, rfl, rfl, rfl, rfl, rfl, fun w => absurd w (by decide)⟩
  have hdone : ∀ x : Nat, yRun P x S = S := fun x => by
    cases x with
    | zero => rfl
    | succ x =>
      show (if S 0 0 < P 8 0 ∧ S 0 7 = 0 then yRun P x (yStep P S) else S) = S
      rw [if_neg (by omega)]
  have hs : ySong P = S := by
    unfold ySong
    have e := hS (3904 - j)
    rw [show 3904 - j + j = 3904 by omega, hdone] at e
    exact e
  have ha : yAll P = S := by
    unfold yAll yFin
    rw [hs, if_pos s7, if_neg (fun w => w s4), if_neg (by omega)]
  rw [ha]
  exact ⟨s7, by rw [s3]; omega⟩
