/-! part 57: the tokens of a text with a set of corrections -/
def yBs (c : Int) : Int := if c = 0 then 30 else if c = 1 then 18 else 24
/-- the lowest line's step behind k tokens -/
def gL (K N : Int → Int) : Nat → Int
  | 0 => 0
  | k + 1 => if K k = 0 then yBs (N k) else gL K N k
abbrev hL (K N : Int → Int) (k : Int) : Int := gL K N k.toNat
theorem hL_s {K N : Int → Int} {k : Int} (h : 0 ≤ k) : hL K N (k + 1) = if K k = 0 then yBs (N k) else hL K N k := by
  show gL K N (k + 1).toNat = _
  rw [toNat_s h]
  show (if K ((k.toNat : Nat) : Int) = 0 then yBs (N ((k.toNat : Nat) : Int)) else gL K N k.toNat) = _
  rw [toNat_c h]
/-- the LAST_OF of a FIRST_OF -/
noncomputable def gMt (K : Int → Int) (n k : Int) : Int := @dite _ (∃ l, (k < l ∧ l < n) ∧ K l = 9 ∧ hF K l = k ∧ hD K (l + 1) = hD K k ∧ ∀ i, hO K (l + 1) i = hO K k i) (Classical.propDecidable _) (fun h => Classical.choose h) (fun _ => 0)
theorem gMt_ok {K N : Int → Int} {n : Int} (h : ∀ j, 0 ≤ j → j < n → gX K N j = 0) (hd : hD K n = 0) {k : Int} (h3 : 3 ≤ k) (hk : k < n) (h8 : K k = 8) : (k < gMt K n k ∧ gMt K n k < n) ∧ K (gMt K n k) = 9 ∧ hF K (gMt K n k) = k ∧ hD K (gMt K n k + 1) = hD K k ∧ ∀ i, hO K (gMt K n k + 1) i = hO K k i := by
  obtain ⟨l, l1, l2, l3, _, _, l6, l7⟩ := g_last h hd h3 hk h8
  have he : ∃ l, (k < l ∧ l < n) ∧ K l = 9 ∧ hF K l = k ∧ hD K (l + 1) = hD K k ∧ ∀ i, hO K (l + 1) i = hO K k i := ⟨l, l1, l2, l3, l6, l7⟩
  unfold gMt
  rw [dif_pos he]
  exact Classical.choose_spec he
/-- corrected numbers: the clef of a CLEF, the place of a NOTE -/
abbrev aN (T : Int → Int) (H q m v : Int → Int) (cnt : Int) : Int → Int := fun k => foi H q m v k 0 1 (tN T k) cnt
abbrev aK (T : Int → Int) (H q m v : Int → Int) (cnt : Int) : Int → Int := fun k => if foi H q m v k 4 4 0 cnt = 1 then 4 else tK T k
/-- the tokens -/
noncomputable def aP (T : Int → Int) (len n : Int) (H q m v : Int → Int) (cnt : Int) : zVt := fun o k =>
  if o = 0 then aK T H q m v cnt k
  else if o = 1 then tN T k
  else if o = 2 then hL (aK T H q m v cnt) (aN T H q m v cnt) (k + 1) + aN T H q m v cnt k
  else if o = 3 then foi H q m v k 2 2 (yG T (yP T k)) cnt
  else if o = 4 then foi H q m v k 3 3 (yC T (yP T k)) cnt
  else if o = 5 then yI T (yP T k)
  else if o = 6 then (if tK T k = 8 then gMt (tK T) n k else hO (tK T) k (hD (tK T) k - 1))
  else if o = 7 then yP T k
  else if o = 8 then (if k = 0 then n else if k = 1 then tN T 2 else if k = 2 then tN T 1 else len)
  else 0
/-- a set of corrections that fits the text -/
def aGood (T : Int → Int) (H q m v : Int → Int) (cnt n : Int) : Prop := (0 ≤ cnt ∧ cnt ≤ 200) ∧ (∀ c, 0 ≤ c → c < 200 → H c = 0 ∨ H c = 1) ∧ ∀ c, 0 ≤ c → c < cnt → H c ≠ 0 → (0 ≤ q c ∧ q c < n) ∧
  (m c = 0 ∧ tK T (q c) = 0 ∧ (v c = 100 ∨ 0 ≤ v c ∧ v c ≤ 2) ∨ m c = 1 ∧ tK T (q c) = 3 ∧ (v c = 100 ∨ -9 ≤ v c ∧ v c ≤ 19) ∨ m c = 2 ∧ tK T (q c) = 3 ∧ (v c = 100 ∨ 0 ≤ v c ∧ v c ≤ 3) ∨ m c = 3 ∧ (tK T (q c) = 3 ∨ tK T (q c) = 4) ∧ (v c = 100 ∨ 1 ≤ v c ∧ v c ≤ 24) ∨ m c = 4 ∧ tK T (q c) = 3 ∧ (v c = 100 ∨ v c = 0 ∨ v c = 1))
theorem aGood_c {T : Int → Int} {H q m v K : Int → Int} {cnt n : Int} (h : aGood T H q m v cnt n) (hK : ∀ k, 0 ≤ k → k < n → K k = tK T k) : cGood H q m v K cnt n := by
  refine ⟨h.1, h.2.1, ?_⟩
  intro c c0 c1 c2
  have g := h.2.2 c c0 c1 c2
  refine ⟨g.1, by omega, by omega, ?_⟩
  intro hm
  rw [hK _ g.1.1 g.1.2]
  omega
/-- a token that is not corrected by a kind -/
theorem aGood_no {T : Int → Int} {H q m v : Int → Int} {cnt n : Int} (h : aGood T H q m v cnt n) {k lo hi b : Int} (hb : ∀ c, 0 ≤ c → c < cnt → H c ≠ 0 → q c = k → ¬(lo ≤ m c ∧ m c ≤ hi)) : foi H q m v k lo hi b cnt = b := by
  rcases foi_cs (H := H) (q := q) (m := m) (v := v) (k := k) (lo := lo) (hi := hi) (b := b) (n := cnt) h.1.1 with e | ⟨c, c1, c2, c3, c4, c5, c6⟩
  · exact e
  · exact absurd c4 (hb c c1.1 c1.2 c2 c3)
/-- opens ahead of an open -/
theorem hO_open {K N : Int → Int} {n : Int} (h : ∀ j, 0 ≤ j → j < n → gX K N j = 0) {k : Int} (h0 : 0 ≤ k) (hk : k ≤ n) : ∀ i, 0 ≤ i → i < hD K k → hD K (hO K k i) = i ∧ ∀ j, 0 ≤ j → j < i → hO K (hO K k i) j = hO K k j := by
  have key : ∀ m : Nat, (m : Int) ≤ n → ∀ i, 0 ≤ i → i < hD K m → hD K (hO K m i) = i ∧ ∀ j, 0 ≤ j → j < i → hO K (hO K m i) j = hO K m j := by
    intro m
    induction m with
    | zero =>
      intro _ i i0 i1
      have : hD K ((0 : Nat) : Int) = 0 := rfl
      omega
    | succ m ih =>
      intro hm i i0 i1
      have hc : ((m + 1 : Nat) : Int) = (m : Int) + 1 := by omega
      rw [hc] at hm i1 ⊢
      have eO := fun i => hO_s (K := K) (k := (m : Int)) (i := i) (by omega)
      by_cases h3 : (m : Int) < 3
      · rw [hD_s (by omega), if_pos h3] at i1
        omega
      · have hi := gInv_n (K := K) (N := N) (n := m) (by omega) (fun j j0 j1 => h j j0 (by omega))
        have hx := h m (by omega) (by omega)
        rw [hD_s (by omega), if_neg h3] at i1
        by_cases h6 : K m = 6
        · rw [if_pos h6] at i1
          by_cases him : i = hD K m
          · rw [eO i, if_pos ⟨by omega, h6, him⟩]
            refine ⟨him.symm, fun j j0 j1 => ?_⟩
            rw [eO j, if_neg (fun w => by omega)]
          · have q := ih (by omega) i i0 (by omega)
            rw [eO i, if_neg (fun w => him w.2.2)]
            refine ⟨q.1, fun j j0 j1 => ?_⟩
            rw [eO j, if_neg (fun w => by omega)]
            exact q.2 j j0 j1
        · rw [if_neg h6] at i1
          have hl : i < hD K m := by
            by_cases h7 : K m = 7
            · rw [if_pos h7] at i1
              omega
            · rw [if_neg h7] at i1
              exact i1
          have q := ih (by omega) i i0 hl
          rw [eO i, if_neg (fun w => h6 w.2.1)]
          refine ⟨q.1, fun j j0 j1 => ?_⟩
          rw [eO j, if_neg (fun w => h6 w.2.1)]
          exact q.2 j j0 j1
  have e := key k.toNat (by omega)
  rwa [toNat_c h0] at e
theorem yBs_rng (c : Int) : 18 ≤ yBs c ∧ yBs c ≤ 30 := by
  unfold yBs
  repeat' split
  all_goals omega
theorem hL_rng {K N : Int → Int} (h0 : K 0 = 0) {k : Int} (hk : 0 ≤ k) : 18 ≤ hL K N (k + 1) ∧ hL K N (k + 1) ≤ 30 := by
  have key : ∀ m : Nat, 18 ≤ hL K N ((m : Int) + 1) ∧ hL K N ((m : Int) + 1) ≤ 30 := by
    intro m
    induction m with
    | zero =>
      rw [hL_s (by omega), show ((0 : Nat) : Int) = 0 from rfl, if_pos h0]
      exact yBs_rng _
    | succ m ih =>
      rw [hL_s (by omega)]
      split
      · exact yBs_rng _
      · rw [show ((m + 1 : Nat) : Int) = (m : Int) + 1 by omega]
        exact ih
  have e := key k.toNat
  rwa [toNat_c hk] at e
/-- the tokens are in order -/
theorem aP_ok {T : Int → Int} {len n b F A fa : Int} {H q m v : Int → Int} {cnt : Int} (ht : tOk T len) (hx : yTx T len n b F A fa) (hF : F = 0) (hg : aGood T H q m v cnt n) : yTok (aP T len n H q m v cnt) (hD (tK T)) (hO (tK T)) := by
  have hr := yTx_rng hx ht
  obtain ⟨r1, r2, r3, r4, r5, r6, r7⟩ := hr
  obtain ⟨f1, f2, f3, f4, f5⟩ := r7 hF
  have hk0 : ∀ k, 0 ≤ k → k < 3 → tK T k = k := by
    intro k k0 k1
    have := f4 k k0 (by omega)
    unfold gX at this
    rw [if_pos k1] at this
    split at this
    · assumption
    · omega
  have hU := fun k (k0 : 0 ≤ k) (k1 : k < n) => yU_rng (yP_rng hx.1 ht k0 k1).1 (fun q hq => ht.2.1 q (by have := (yP_rng hx.1 ht k0 k1).1; omega)) (hx.1.2.1 k k0 k1).2
  have e80 : aP T len n H q m v cnt 8 0 = n := rfl
  have e81 : aP T len n H q m v cnt 8 1 = tN T 2 := rfl
  have e82 : aP T len n H q m v cnt 8 2 = tN T 1 := rfl
  have hrest : ∀ k, foi H q m v k 4 4 0 cnt = 1 → tK T k = 3 := by
    intro k hk
    rcases foi_cs (H := H) (q := q) (m := m) (v := v) (k := k) (lo := 4) (hi := 4) (b := 0) (n := cnt) hg.1.1 with e | ⟨c, c1, c2, c3, c4, c5, c6⟩
    · omega
    · have := hg.2.2 c c1.1 c1.2 c2
      rw [c3] at this
      omega
  unfold yTok
  rw [e80, e81, e82]
  refine ⟨by omega, (hU 2 (by omega) (by omega)).2.2.1 (hk0 2 (by omega) (by omega)), (hU 1 (by omega) (by omega)).2.1 (hk0 1 (by omega) (by omega)), (h_le3 (N := tN T) (by omega) (by omega)).1, ?_⟩
  intro k k3 kn
  have hK := yK_rng T (yP T k)
  have hi := gInv_n (K := tK T) (N := tN T) (n := k) (by omega) (fun j j0 j1 => f4 j j0 (by omega))
  have hxk := f4 k (by omega) kn
  unfold gX at hxk
  rw [if_neg (by omega)] at hxk
  have gc := gXf_cs hxk
  have hUk := hU k (by omega) kn
  have eD := hD_s (K := tK T) (k := k) (by omega)
  rw [if_neg (by omega)] at eD
  have eO := fun i => hO_s (K := tK T) (k := k) (i := i) (by omega)
  have e0 : aP T len n H q m v cnt 0 k = aK T H q m v cnt k := rfl
  have e1 : aP T len n H q m v cnt 1 k = tN T k := rfl
  have e2 : aP T len n H q m v cnt 2 k = hL (aK T H q m v cnt) (aN T H q m v cnt) (k + 1) + aN T H q m v cnt k := rfl
  have e3 : aP T len n H q m v cnt 3 k = foi H q m v k 2 2 (yG T (yP T k)) cnt := rfl
  have e4 : aP T len n H q m v cnt 4 k = foi H q m v k 3 3 (yC T (yP T k)) cnt := rfl
  have e5 : aP T len n H q m v cnt 5 k = yI T (yP T k) := rfl
  have e6 : aP T len n H q m v cnt 6 k = if tK T k = 8 then gMt (tK T) n k else hO (tK T) k (hD (tK T) k - 1) := rfl
  have hAK : (aK T H q m v cnt k = tK T k ∧ (tK T k = 3 → foi H q m v k 4 4 0 cnt ≠ 1)) ∨ (aK T H q m v cnt k = 4 ∧ tK T k = 3) := by
    by_cases hc : foi H q m v k 4 4 0 cnt = 1
    · exact Or.inr ⟨if_pos hc, hrest k hc⟩
    · exact Or.inl ⟨if_neg hc, fun _ => hc⟩
  have hK' : 0 ≤ tK T k ∧ tK T k ≤ 9 := hK
  have hC : ∀ b', (1 ≤ b' ∧ b' ≤ 24) → 1 ≤ foi H q m v k 3 3 b' cnt ∧ foi H q m v k 3 3 b' cnt ≤ 24 := by
    intro b' hb'
    rcases foi_cs (H := H) (q := q) (m := m) (v := v) (k := k) (lo := 3) (hi := 3) (b := b') (n := cnt) hg.1.1 with e | ⟨c, c1, c2, c3, c4, c5, c6⟩
    · rw [e]; exact hb'
    · have := hg.2.2 c c1.1 c1.2 c2
      rw [c6]
      omega
  rw [e0, e1, e2, e3, e4, e5, e6]
  refine ⟨by omega, hi.1.1, fun i i0 i1 => (hi.2.1 i i0 i1).1, ?_, ?_, ?_, ?_, ?_, ?_⟩
  · intro hk
    have hk3 : tK T k = 3 := by omega
    have hu := hUk.2.2.2.1 hk3
    refine ⟨?_, ?_, hC _ hu.2, yI_rng _ _⟩
    · have hl := hL_rng (K := aK T H q m v cnt) (N := aN T H q m v cnt) (k := k) (by
        show (if foi H q m v 0 4 4 0 cnt = 1 then 4 else tK T 0) = 0
        have := hk0 0 (by omega) (by omega)
        rw [if_neg (fun w => by have := hrest 0 w; omega)]
        exact this) (by omega)
      have hn : -9 ≤ aN T H q m v cnt k ∧ aN T H q m v cnt k ≤ 19 := by
        show -9 ≤ foi H q m v k 0 1 (tN T k) cnt ∧ foi H q m v k 0 1 (tN T k) cnt ≤ 19
        rcases foi_cs (H := H) (q := q) (m := m) (v := v) (k := k) (lo := 0) (hi := 1) (b := tN T k) (n := cnt) hg.1.1 with e | ⟨c, c1, c2, c3, c4, c5, c6⟩
        · rw [e]; exact hu.1
        · have := hg.2.2 c c1.1 c1.2 c2
          rw [c6]
          rw [c3] at this
          omega
      omega
    · have := yG_rng T (yP T k)
      rcases foi_cs (H := H) (q := q) (m := m) (v := v) (k := k) (lo := 2) (hi := 2) (b := yG T (yP T k)) (n := cnt) hg.1.1 with e | ⟨c, c1, c2, c3, c4, c5, c6⟩
      · rw [e]; exact this
      · have := hg.2.2 c c1.1 c1.2 c2
        rw [c6]
        omega
  · intro hk
    rcases hAK with hq | hq
    · exact hC _ (hUk.2.2.2.2.1 (show tK T k = 4 by omega))
    · exact hC _ (hUk.2.2.2.1 hq.2).2
  · intro hk
    have hk6 : tK T k = 6 := by omega
    rw [if_pos hk6] at eD
    have g6 := gc.2.2.2.2.2 hk6
    refine ⟨by have := hi.1.1; omega, eD, by rw [eO, if_pos ⟨k3, hk6, rfl⟩], fun i i0 i1 => by rw [eO, if_neg (fun w => by omega)]⟩
  · intro hk
    have hk7 : tK T k = 7 := by omega
    rw [if_neg (by omega), if_pos hk7] at eD
    have g7 := gc.2.2.1 hk7
    have hd1 : 1 ≤ hD (tK T) k := by have := hi.1.1; omega
    rw [if_neg (show ¬ tK T k = 8 by omega)]
    have ho := hO_open (K := tK T) (N := tN T) f4 (k := k) (by omega) (by omega) (hD (tK T) k - 1) (by omega) (by omega)
    have hb := hi.2.1 (hD (tK T) k - 1) (by omega) (by omega)
    have eDo := hD_s (K := tK T) (k := hO (tK T) k (hD (tK T) k - 1)) (by omega)
    rw [if_neg (by omega), if_pos hb.2, ho.1] at eDo
    refine ⟨hd1, hUk.2.2.2.2.2.1 hk7, eD, fun i i0 i1 => by rw [eO, if_neg (fun w => by omega)], rfl, by rw [eDo]; omega, ?_⟩
    intro i i0 i1
    rw [hO_s (by omega)]
    by_cases hii : i = hD (tK T) k - 1
    · rw [if_pos ⟨by omega, hb.2, by rw [ho.1]; exact hii⟩, hii]
    · rw [if_neg (fun w => by rw [ho.1] at w; omega)]
      exact ho.2 i i0 (by omega)
  · intro hk
    have hk8 : tK T k = 8 := by omega
    rw [if_neg (by omega), if_neg (by omega)] at eD
    have g8 := gc.2.2.2.2.1 hk8
    have hm := gMt_ok f4 f5 k3 kn hk8
    rw [if_pos hk8]
    refine ⟨by have := hi.1.1; omega, hUk.2.2.2.2.2.2.1 hk8, hm.1, ⟨hm.2.2.2.1, fun i _ _ => hm.2.2.2.2 i⟩, eD, fun i i0 i1 => by rw [eO, if_neg (fun w => by omega)]⟩
  · intro h6 h7
    rw [if_neg (by omega), if_neg (by omega)] at eD
    exact ⟨eD, fun i i0 i1 => by rw [eO, if_neg (fun w => by omega)]⟩
