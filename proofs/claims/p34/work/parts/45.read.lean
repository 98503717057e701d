/-! part 45: texts read and parsed, on both sides -/
abbrev tK (T : Int → Int) : Int → Int := fun k => yK T (yP T k)
abbrev tN (T : Int → Int) : Int → Int := fun k => yU T (yP T k)
theorem yK_rng (T : Int → Int) (p : Int) : 0 ≤ yK T p ∧ yK T p ≤ 9 := by
  rcases yK_cs T p with ⟨e1, e2⟩ | ⟨e1, e2⟩ | ⟨e1, e2⟩ | ⟨e1, e2⟩ | ⟨e1, e2⟩ | ⟨e1, e2⟩ | ⟨e1, e2⟩ | ⟨e1, e2⟩ | ⟨e1, e2⟩ | ⟨e1, e2⟩ | ⟨e1, e2⟩ <;> omega
theorem yMet_rng (c1 c2 c3 : Int) : yMet c1 c2 c3 = 0 ∨ 2 ≤ yMet c1 c2 c3 ∧ yMet c1 c2 c3 ≤ 16 := by
  unfold yMet
  split
  · omega
  · split
    · omega
    · exact Or.inl rfl
/-- a token's numbers -/
theorem yU_rng {T : Int → Int} {p : Int} (hp : 0 ≤ p) (hT : ∀ q, p ≤ q → 0 ≤ T q ∧ T q ≤ 126) (h : yE T p ≠ -1) :
    (yK T p = 0 → 0 ≤ yU T p ∧ yU T p ≤ 2) ∧ (yK T p = 1 → -7 ≤ yU T p ∧ yU T p ≤ 7) ∧ (yK T p = 2 → 2 ≤ yU T p ∧ yU T p ≤ 16) ∧ (yK T p = 3 → (-9 ≤ yU T p ∧ yU T p ≤ 19) ∧ (1 ≤ yC T p ∧ yC T p ≤ 24)) ∧ (yK T p = 4 → 1 ≤ yC T p ∧ yC T p ≤ 24) ∧ (yK T p = 7 → 2 ≤ yU T p ∧ yU T p ≤ 4) ∧ (yK T p = 8 → 1 ≤ yU T p ∧ yU T p ≤ 4) ∧ (-100 ≤ yU T p ∧ yU T p ≤ 100) := by
  have hm := yMet_rng (T (p + 1)) (T (p + 2)) (T (p + 3))
  have h1 := hT (p + 1) (by omega)
  have hn := yN_rng T p hT
  have he := yTe_yTk (T (p + 1)) (T (p + 2)) (p + 1)
  have he2 := yTe_yTk (T (yNe T p)) (T (yNe T p + 1)) (yNe T p)
  have k0 : yK T p = 0 → 0 ≤ yU T p ∧ yU T p ≤ 2 := by
    intro e
    unfold yU
    rw [if_pos e]
    repeat' split
    all_goals omega
  have k1 : yK T p = 1 → -7 ≤ yU T p ∧ yU T p ≤ 7 := by
    intro e
    unfold yE at h
    unfold yU
    rw [if_neg (by omega), if_pos e] at h ⊢
    split at h
    · split <;> omega
    · omega
  have k2 : yK T p = 2 → 2 ≤ yU T p ∧ yU T p ≤ 16 := by
    intro e
    unfold yE at h
    unfold yU
    rw [if_neg (by omega), if_neg (by omega), if_pos e] at h ⊢
    split at h <;> omega
  have k3 : yK T p = 3 → (-9 ≤ yU T p ∧ yU T p ≤ 19) ∧ (1 ≤ yC T p ∧ yC T p ≤ 24) := by
    intro e
    unfold yE at h
    rw [if_neg (by omega), if_neg (by omega), if_neg (by omega), if_neg (by omega), if_neg (by omega), if_neg (by omega), if_pos e] at h
    have hx : yNt T p ≠ -1 := by
      intro q
      rw [if_pos q] at h
      exact h rfl
    have ho : yNo T p := by
      unfold yNt at hx
      split at hx
      · assumption
      · exact absurd rfl hx
    have hx2 : yNt T p = yTe (T (yNe T p)) (T (yNe T p + 1)) (yNe T p) := if_pos ho
    have hl : yNl T p 0 = yTk (T (yNe T p)) (T (yNe T p + 1)) := if_pos ho
    have h3 := ho.2
    unfold yU yC
    rw [if_neg (by omega), if_neg (by omega), if_neg (by omega), if_neg (by omega), if_neg (by omega), if_pos e, if_neg (by omega), if_pos e, hl]
    omega
  have k4 : yK T p = 4 → 1 ≤ yC T p ∧ yC T p ≤ 24 := by
    intro e
    unfold yE at h
    unfold yC
    rw [if_neg (by omega), if_neg (by omega), if_neg (by omega), if_pos e] at h
    rw [if_pos e]
    omega
  have k7 : yK T p = 7 → 2 ≤ yU T p ∧ yU T p ≤ 4 := by
    intro e
    unfold yE at h
    unfold yU
    rw [if_neg (by omega), if_neg (by omega), if_neg (by omega), if_neg (by omega), if_pos e] at h
    rw [if_neg (by omega), if_neg (by omega), if_neg (by omega), if_pos e]
    split at h <;> omega
  have k8 : yK T p = 8 → 1 ≤ yU T p ∧ yU T p ≤ 4 := by
    intro e
    unfold yE at h
    unfold yU
    rw [if_neg (by omega), if_neg (by omega), if_neg (by omega), if_neg (by omega), if_neg (by omega), if_pos e] at h
    rw [if_neg (by omega), if_neg (by omega), if_neg (by omega), if_neg (by omega), if_pos e]
    split at h <;> omega
  refine ⟨k0, k1, k2, k3, k4, k7, k8, ?_⟩
  have hk := yK_rng T p
  rcases (show yK T p = 0 ∨ yK T p = 1 ∨ yK T p = 2 ∨ yK T p = 3 ∨ yK T p = 7 ∨ yK T p = 8 ∨ (yK T p ≠ 0 ∧ yK T p ≠ 1 ∧ yK T p ≠ 2 ∧ yK T p ≠ 3 ∧ yK T p ≠ 7 ∧ yK T p ≠ 8) by omega) with e | e | e | e | e | e | e
  · have := k0 e
    omega
  · have := k1 e
    omega
  · have := k2 e
    omega
  · have := k3 e
    omega
  · have := k7 e
    omega
  · have := k8 e
    omega
  · unfold yU
    rw [if_neg e.1, if_neg e.2.1, if_neg e.2.2.1, if_neg e.2.2.2.2.1, if_neg e.2.2.2.2.2, if_neg e.2.2.2.1]
    omega
theorem yG_rng (T : Int → Int) (p : Int) : 0 ≤ yG T p ∧ yG T p ≤ 3 := by
  unfold yG
  split
  · rcases ySg_cs (T p) with ⟨e1, e2⟩ | ⟨e1, e2⟩ | ⟨e1, e2⟩ | ⟨e1, e2⟩ <;> omega
  · omega
theorem yI_rng (T : Int → Int) (p : Int) : yI T p = 0 ∨ yI T p = 1 := by
  unfold yI yNi
  split
  · split <;> omega
  · omega
/-- a good text: letters T, their number n -/
def tOk (T : Int → Int) (n : Int) : Prop := (0 ≤ n ∧ n ≤ 160) ∧ (∀ q, 0 ≤ q → 0 ≤ T q ∧ T q ≤ 126) ∧ ∀ q, n ≤ q → T q = 0
theorem zt_ok {L X : Int → Int} (h : zTx L X) {w : Int} (hw : 0 ≤ w ∧ w < 12) : tOk (zt L X w) (L w) := ⟨(h w hw.1 hw.2).1, fun q hq => zt_rng h hw q hq, fun q hq => if_neg (by omega)⟩
theorem yP_rng {T : Int → Int} {n c b : Int} (h : yLx T n c b) (ht : tOk T n) {k : Int} (h0 : 0 ≤ k) (hk : k < c) : 0 ≤ yP T k ∧ yP T k < n := by
  have key : ∀ m : Nat, (m : Int) < c → 0 ≤ yP T m := by
    intro m
    induction m with
    | zero => intro _; exact (skp_rng T 0).1
    | succ m ih =>
      intro hm
      rw [show ((m + 1 : Nat) : Int) = (m : Int) + 1 by omega] at hm ⊢
      have i1 := ih (by omega)
      have i2 := (h.2.1 m (by omega) (by omega)).2
      have i3 := yE_rng T (yP T m) i1 (fun q hq => ht.2.1 q (by omega))
      rw [yP_s _ (by omega)]
      have := (skp_rng T (yE T (yP T m))).1
      omega
  have e := key k.toNat (by omega)
  rw [toNat_c h0] at e
  exact ⟨e, (h.2.1 k h0 hk).1⟩
theorem kRng_t {T : Int → Int} {n c b : Int} (h : yLx T n c b) (ht : tOk T n) : kRng (tK T) (tN T) c := by
  intro k k0 k1
  have hp := yP_rng h ht k0 k1
  exact ⟨yK_rng _ _, (yU_rng hp.1 (fun q hq => ht.2.1 q (by omega)) (h.2.1 k k0 k1).2).2.2.2.2.2.2.2⟩
/-- a text's end: c tokens, b; the fault F at token A, at the place fa -/
def yTx (T : Int → Int) (n c b F A fa : Int) : Prop := yLx T n c b ∧ (b ≠ -1 → F = 1 ∧ A = -1 ∧ fa = b) ∧ (b = -1 → yPs (tK T) (tN T) c F A ∧ fa = if F = 0 then -1 else if A = -1 then n else yP T A)
theorem yTx_un {T : Int → Int} {n c b F A fa c2 b2 F2 A2 fa2 : Int} (h : yTx T n c b F A fa) (h2 : yTx T n c2 b2 F2 A2 fa2) : c2 = c ∧ b2 = b ∧ F2 = F ∧ A2 = A ∧ fa2 = fa := by
  obtain ⟨e1, e2⟩ := yLx_un h.1 h2.1
  subst e1 e2
  by_cases hb : b2 = -1
  · have q1 := h.2.2 hb
    have q2 := h2.2.2 hb
    obtain ⟨e3, e4⟩ := yPs_un q1.1 q2.1
    subst e3 e4
    exact ⟨rfl, rfl, rfl, rfl, by rw [q1.2, q2.2]⟩
  · have q1 := h.2.1 hb
    have q2 := h2.2.1 hb
    omega
theorem yTx_rng {T : Int → Int} {n c b F A fa : Int} (h : yTx T n c b F A fa) (ht : tOk T n) : (0 ≤ c ∧ c ≤ 60) ∧ (-1 ≤ b ∧ b < n ∨ b = -1) ∧ (0 ≤ F ∧ F ≤ 6) ∧ (-1 ≤ A ∧ A < c ∨ A = -1) ∧ (-1 ≤ fa ∧ fa ≤ n) ∧ (F = 0 ↔ fa = -1) ∧ (F = 0 → 3 ≤ c ∧ b = -1 ∧ A = -1 ∧ (∀ j, 0 ≤ j → j < c → gX (tK T) (tN T) j = 0) ∧ hD (tK T) c = 0) := by
  have hl := h.1
  have hn := ht.1
  have hb : -1 ≤ b ∧ b < n ∨ b = -1 := by
    rcases hl.2.2 with ⟨_, q⟩ | ⟨q1, _, q3⟩
    · exact Or.inr q
    · left
      have : 0 ≤ yP T c := by
        by_cases hc0 : c = 0
        · rw [hc0]; exact (skp_rng T 0).1
        · have i2 := hl.2.1 (c - 1) (by have := hl.1; omega) (by omega)
          have i1 := yP_rng hl ht (k := c - 1) (by have := hl.1; omega) (by omega)
          have i3 := yE_rng T (yP T (c - 1)) i1.1 (fun q hq => ht.2.1 q (by omega))
          have e := yP_s T (k := c - 1) (by have := hl.1; omega)
          rw [show c - 1 + 1 = c by omega] at e
          rw [e]
          have := (skp_rng T (yE T (yP T (c - 1)))).1
          omega
      omega
  refine ⟨hl.1, hb, ?_⟩
  by_cases hbb : b = -1
  · obtain ⟨q1, q2⟩ := h.2.2 hbb
    rcases q1 with ⟨k, k1, k2, k3, k4, k5⟩ | ⟨k2, k3, k4⟩
    · have hx : 0 ≤ F ∧ F ≤ 6 := by
        rw [k4]
        unfold gX gXf
        repeat' split
        all_goals omega
      have hp := yP_rng hl ht k1.1 k1.2
      rw [← k4] at k3
      rw [if_neg k3, if_neg (by omega), k5] at q2
      exact ⟨hx, by omega, by omega, by omega, fun q => absurd q k3⟩
    · rw [k3, if_pos rfl] at q2
      by_cases c3 : c < 3
      · rw [if_pos c3] at k4
        rw [k4, if_neg (by decide)] at q2
        exact ⟨by omega, by omega, by omega, by omega, fun q => by omega⟩
      · rw [if_neg c3] at k4
        by_cases hd : 0 < hD (tK T) c
        · rw [if_pos hd] at k4
          rw [k4, if_neg (by decide)] at q2
          exact ⟨by omega, by omega, by omega, by omega, fun q => by omega⟩
        · rw [if_neg hd] at k4
          rw [k4, if_pos rfl] at q2
          refine ⟨by omega, by omega, by omega, by omega, fun _ => ⟨by omega, hbb, k3, k2, ?_⟩⟩
          have := (gInv_n hl.1.1 k2).1.1.1
          omega
  · have q1 := h.2.1 hbb
    exact ⟨by omega, by omega, by omega, by omega, fun q => by omega⟩
section
variable {J : zJt} {d : Nat → Nat → UInt64}
/-- what the reference has behind lex and parse -/
def mRow (V : zVt) (T : Int → Int) (n c b F A fa : Int) : Prop := yTx T n c b F A fa ∧ V 480 10 = c ∧ V 480 11 = b ∧ V 480 13 = F ∧ V 480 14 = A ∧ (∀ k, 0 ≤ k → k < c → mTok V T k) ∧ (F = 0 → ∀ l, 3 ≤ l → l < c → tK T l = 9 → V 440 (hF (tK T) l) = l)
def mFq (V V' : zVt) : Prop := (∀ o : Nat, ¬(o = 480 ∨ (433 ≤ o ∧ o ≤ 444)) → V' o = V o) ∧ ∀ k : Int, ¬(10 ≤ k ∧ k ≤ 19) → V' 480 k = V 480 k
/-- what the class has behind reading and checking -/
def cTok7 (V : zVt) (x : Nat) (T : Int → Int) (k : Int) : Prop := V (x + 1) k = yK T (yP T k) ∧ V (x + 2) k = yP T k ∧ V (x + 3) k = cU T (yP T k) ∧ V (x + 4) k = cL T (yP T k) ∧ V (x + 5) k = yG T (yP T k) ∧ V (x + 6) k = yC T (yP T k) ∧ V (x + 7) k = yI T (yP T k)
def cRow (V : zVt) (x : Nat) (T : Int → Int) (n c b F A fa : Int) : Prop := yTx T n c b F A fa ∧ V x 0 = c ∧ V x 1 = n ∧ V x 2 = F ∧ V x 3 = fa ∧ (∀ k, 0 ≤ k → k < c → cTok7 V x T k) ∧ (F = 0 → (∀ j, 3 ≤ j → j < c → tK T j = 7 → V (x + 8) j = hO (tK T) j (hD (tK T) j - 1)) ∧ ∀ l, 3 ≤ l → l < c → tK T l = 9 → V (x + 8) (hF (tK T) l) = l)
theorem sl46c {T : Int → Int} {x x1 : Nat} {x2 : Int} (hb : zBk 10 x) (hx : 13 ≤ x) (h1 : zS0 x1 = (15, 160)) (hx1 : x1 ≠ 7 ∧ x1 ≠ 8) (h2 : 0 ≤ x2 ∧ x2 ≤ 160) (n : Nat) : ∀ (V : zVt) (p : Int), (0 ≤ p ∧ p ≤ x2) → x2 - p < n → V 7 1 = x2 → (∀ q, 0 ≤ q → q < x2 → V x1 q = T q ∧ 0 ≤ T q ∧ T q ≤ 126) → (∀ q, 0 ≤ q → q < p → V 8 q = T q) →
    ∃ V', zGo false 46 19 [.ref 7, .ref x1, .int (zi x2), .ref x, .int (zi p)] [] (zm V J d) = zGo false 46 61 [.ref 7, .ref x1, .int (zi x2), .ref x, .int (zi 0)] [] (zm V' J d) ∧ V' 7 1 = x2 ∧ V' 7 2 = 0 ∧ (∀ q, 0 ≤ q → q < x2 → V' 8 q = T q) ∧ V' x 0 = 0 ∧ V' x 1 = x2 ∧ V' x 2 = 0 ∧ V' x 3 = -1 ∧ cFr x V V' := by
  induction n with
  | zero => intro V p hp hn; omega
  | succ n ih =>
    intro V p hp hn h7 hT h8
    by_cases hpe : p = x2
    · subst hpe
      refine ⟨vup (vup (vup (vup (vup V 7 2 0) x 0 0) x 1 p) x 2 0) x 3 (-1), ?_, ?_, ?_, ?_, ?_, ?_, ?_, ?_, ?_⟩
      · rw [ze_46_19 _ _ _ _ h1 hb]
        simp (disch := first | omega | assumption | (simp (disch := omega) only [vup_fn, vup_o, vup_k, vup_at]; first | done | omega | assumption)) only [h7, ze_84_0, ze_46_58, Int.add_zero, ↓reduceIte, qw_id, zck_T, zck_t, zGor_v, zGor_n, zGor_e, zbs, vup_at, vup_vup, vup_self, vup_o, vup_k, vup_fn, ne_eq, not_true_eq_false, not_false_eq_true, and_true, true_and, and_self, and_false, false_and, or_true, true_or, or_self, or_false, false_or, xlt_t, xlt_f, xle_t, xle_f, xeq_t, xeq_f, xand_f, xor_t]
      · simp (disch := omega) only [vup_o, vup_k]
        exact h7
      · simp (disch := omega) only [vup_o, vup_at]
      · intro q q1 q2
        simp (disch := omega) only [vup_o]
        exact h8 q q1 q2
      · simp (disch := omega) only [vup_k, vup_at]
      · simp (disch := omega) only [vup_k, vup_at]
      · simp (disch := omega) only [vup_k, vup_at]
      · simp (disch := omega) only [vup_at]
      · exact cFr_t (cFr_t (cFr_t (cFr_t (cFr_v (by omega)) (cFr_v (by omega))) (cFr_v (by omega))) (cFr_v (by omega))) (cFr_v (by omega))
    · have hp1 := hT p hp.1 (by omega)
      have e1 := hp1.1
      obtain ⟨V', q1, q2⟩ := ih (vup V 8 p (V x1 p)) (p + 1) (by omega) (by omega) (by rw [vup_o (by decide), h7]) (by
        intro q q1 q2
        rw [vup_o hx1.2]
        exact hT q q1 q2) (by
        intro q q1 q2
        by_cases hqp : q = p
        · rw [hqp, vup_at, e1]
        · rw [vup_k hqp]
          exact h8 q q1 (by omega))
      refine ⟨V', ?_, q2.1, q2.2.1, q2.2.2.1, q2.2.2.2.1, q2.2.2.2.2.1, q2.2.2.2.2.2.1, q2.2.2.2.2.2.2.1, cFr_t (cFr_v (by omega)) q2.2.2.2.2.2.2.2⟩
      rw [← q1, ze_46_19 _ _ _ _ h1 hb]
      simp (disch := first | omega | assumption | (simp (disch := omega) only [vup_fn, vup_o, vup_k, vup_at]; first | done | omega | assumption)) only [h7, Int.add_zero, ↓reduceIte, qw_id, zck_T, zck_t, zGor_v, zGor_n, zGor_e, zbs, vup_at, vup_vup, vup_self, vup_o, vup_k, vup_fn, ne_eq, not_true_eq_false, not_false_eq_true, and_true, true_and, and_self, and_false, false_and, or_true, true_or, or_self, or_false, false_or, xlt_t, xlt_f, xle_t, xle_f, xeq_t, xeq_f, xand_f, xor_t]
theorem sp46 {V : zVt} {T : Int → Int} {x x1 : Nat} {x2 : Int} (hb : zBk 10 x) (hx : 13 ≤ x) (h1 : zS0 x1 = (15, 160)) (hx1 : x1 ≠ 7 ∧ x1 ≠ 8) (ht : tOk T x2) (hT : ∀ q, 0 ≤ q → q < x2 → V x1 q = T q) :
    ∃ V' c b, zGo false 46 0 [.ref 7, .ref x1, .int (zi x2), .ref x, .null] [] (zm V J d) = zN1 V' J d ∧ yLx T x2 c b ∧ V' x 0 = c ∧ V' x 1 = x2 ∧ V' x 2 = (if b = -1 then 0 else 1) ∧ V' x 3 = b ∧ (∀ k, 0 ≤ k → k < c → cTok V' x T k) ∧ cFr x V V' := by
  have h2 := ht.1
  obtain ⟨V1, q1, q2, q3, q4, q5, q6, q7, q8, q9⟩ := sl46c (J := J) (d := d) hb hx h1 hx1 h2 200 (vup V 7 1 x2) 0 (by omega) (by omega) (vup_at _ _ _ _) (by
    intro q k1 k2
    rw [vup_o hx1.1]
    exact ⟨hT q k1 k2, ht.2.1 q k1⟩) (by intro q k1 k2; omega)
  obtain ⟨V', c, b, p1, p2, p3, p4, p5, p6, p7, p8⟩ := sl46 (J := J) (d := d) (T := T) (x2 := x2) hb hx h1 200 (V := V1) (p := 0) (c := 0) (t := 0) (by
    rw [q2]
    exact ⟨h2, q4, ht.2.2, ht.2.1⟩) q3 (by omega) (by omega) q5 (by rw [q6, q2]) q7 q8 (by omega) rfl (by intro k k1 k2; omega) (by intro k k1 k2; omega)
  rw [q2] at p2 p4
  refine ⟨V', c, b, ?_, p2, p3, p4, p5, p6, p7, cFr_t (cFr_t (cFr_v (by omega)) q9) p8⟩
  rw [← p1, ← q1, ze_46_0 _ _ _ h1 hb]
  by_cases h160 : x2 = 160
  · simp (disch := first | omega | assumption | (simp (disch := omega) only [vup_fn, vup_o, vup_k, vup_at]; first | done | omega | assumption)) only [ze_46_10, ze_46_13, ze_232_0, ze_232_10, h160, Int.add_zero, ↓reduceIte, qw_id, zck_T, zck_t, zGor_v, zGor_n, zGor_e, zbs, vup_at, vup_vup, vup_self, vup_o, vup_k, vup_fn, ne_eq, not_true_eq_false, not_false_eq_true, and_true, true_and, and_self, and_false, false_and, or_true, true_or, or_self, or_false, false_or, xlt_t, xlt_f, xle_t, xle_f, xeq_t, xeq_f, xand_f, xor_t]
  · simp (disch := first | omega | assumption | (simp (disch := omega) only [vup_fn, vup_o, vup_k, vup_at]; first | done | omega | assumption)) only [ze_46_10, ze_46_13, ze_232_0, ze_232_10, Int.add_zero, ↓reduceIte, qw_id, zck_T, zck_t, zGor_v, zGor_n, zGor_e, zbs, vup_at, vup_vup, vup_self, vup_o, vup_k, vup_fn, ne_eq, not_true_eq_false, not_false_eq_true, and_true, true_and, and_self, and_false, false_and, or_true, true_or, or_self, or_false, false_or, xlt_t, xlt_f, xle_t, xle_f, xeq_t, xeq_f, xand_f, xor_t]
theorem sp101 {V : zVt} {T : Int → Int} {x P : Nat} {n : Int} (hP : zBk 6 P) (hP2 : 50 ≤ P) (hb : zBk 10 x) (hx : 13 ≤ x) (hn : V P 1 = n) (ht : tOk T n) (hT : ∀ q, 0 ≤ q → q < n → V (P + 1) q = T q) :
    ∃ V' c b F A fa, zGo false 101 0 [.ref 0, .ref P, .ref x] [] (zm V J d) = zN1 V' J d ∧ cRow V' x T n c b F A fa ∧ ∀ o : Nat, ¬((7 ≤ o ∧ o ≤ 11) ∨ (x ≤ o ∧ o ≤ x + 8)) → V' o = V o := by
  obtain ⟨V1, c, b, q1, q2, q3, q4, q5, q6, q7, q8⟩ := sp46 (V := V) (J := J) (d := d) (T := T) hb hx (zb6_1 hP) (by omega) ht hT
  have hr := kRng_t q2 ht
  have hk7 : ∀ k, 0 ≤ k → k < c → cTok7 V1 x T k := fun k k1 k2 => ⟨(q7 k k1 k2).1, (q7 k k1 k2).2.1, (q7 k k1 k2).2.2.1, (q7 k k1 k2).2.2.2.1, (q7 k k1 k2).2.2.2.2.1, (q7 k k1 k2).2.2.2.2.2.1, (q7 k k1 k2).2.2.2.2.2.2.1⟩
  by_cases hbb : b = -1
  · rw [if_pos hbb] at q5
    obtain ⟨V', F, A, p1, p2, p3, p4, p5, p6⟩ := sp10 (V := V1) (J := J) (d := d) (K := tK T) (N := tN T) hb hx q2.1 hr q3 q4 q5 (by rw [q6, hbb]) (by
      intro j j1 j2
      have := hk7 j j1 j2
      refine ⟨this.1, fun h78 => ?_⟩
      rw [this.2.2.1]
      have h78' : yK T (yP T j) = 7 ∨ yK T (yP T j) = 8 := h78
      exact if_neg (by omega))
    refine ⟨V', c, b, F, A, (if F = 0 then -1 else if A = -1 then n else yP T A), ?_, ⟨⟨q2, fun q => absurd hbb q, fun _ => ⟨p2, rfl⟩⟩, ?_, ?_, p3, ?_, ?_, ?_⟩, ?_⟩
    · rw [ze_101_0 _ _ hP hb, hn]
      simp (disch := first | omega | assumption | (simp (disch := omega) only [vup_fn, vup_o, vup_k, vup_at]; first | done | omega | assumption)) only [q1, ze_101_16, q5, p1, ze_101_31, Int.add_zero, ↓reduceIte, qw_id, zck_T, zck_t, zGor_v, zGor_n, zGor_e, zbs, vup_at, vup_vup, vup_self, vup_o, vup_k, vup_fn, ne_eq, not_true_eq_false, not_false_eq_true, and_true, true_and, and_self, and_false, false_and, or_true, true_or, or_self, or_false, false_or, xlt_t, xlt_f, xle_t, xle_f, xeq_t, xeq_f, xand_f, xor_t]
    · rw [p6.2 0 (by omega), q3]
    · rw [p6.2 1 (by omega), q4]
    · rw [p4]
      by_cases hA : A = -1
      · rw [hA]
        simp only [↓reduceIte]
      · have hAr : 0 ≤ A ∧ A < c := by
          rcases p2 with ⟨k, k1, k2, k3, k4, k5⟩ | ⟨k2, k3, k4⟩
          · omega
          · omega
        rw [(hk7 A hAr.1 hAr.2).2.1]
    · intro k k1 k2
      have := hk7 k k1 k2
      unfold cTok7 at *
      rw [p6.1 (x + 1) (by omega), p6.1 (x + 2) (by omega), p6.1 (x + 3) (by omega), p6.1 (x + 4) (by omega), p6.1 (x + 5) (by omega), p6.1 (x + 6) (by omega), p6.1 (x + 7) (by omega)]
      exact this
    · intro hF0
      have := p5 hF0
      exact ⟨this.2.2.2.2.2.1, this.2.2.2.2.2.2⟩
    · intro o ho
      rw [p6.1 o (by omega), q8 o (by omega)]
  · rw [if_neg hbb] at q5
    refine ⟨V1, c, b, 1, -1, b, ?_, ⟨⟨q2, fun _ => ⟨rfl, rfl, rfl⟩, fun q => absurd q hbb⟩, q3, q4, q5, q6, hk7, fun q => absurd q (by decide)⟩, ?_⟩
    · rw [ze_101_0 _ _ hP hb, hn]
      simp (disch := first | omega | assumption | (simp (disch := omega) only [vup_fn, vup_o, vup_k, vup_at]; first | done | omega | assumption)) only [q1, ze_101_16, q5, ze_101_31, Int.add_zero, ↓reduceIte, qw_id, zck_T, zck_t, zGor_v, zGor_n, zGor_e, zbs, vup_at, vup_vup, vup_self, vup_o, vup_k, vup_fn, ne_eq, not_true_eq_false, not_false_eq_true, and_true, true_and, and_self, and_false, false_and, or_true, true_or, or_self, or_false, false_or, xlt_t, xlt_f, xle_t, xle_f, xeq_t, xeq_f, xand_f, xor_t]
    · intro o ho
      exact q8 o (by omega)
end
