/-! part 36: the reference's reading of a text -/
def sk (T : Int → Int) : Nat → Int → Int
  | 0, p => p
  | n + 1, p => if T p = 32 then sk T n (p + 1) else p
/-- the first place from p on without a space -/
def skp (T : Int → Int) (p : Int) : Int := sk T (161 - p).toNat p
theorem skp_sp {T : Int → Int} {p : Int} (hp : p ≤ 160) (h : T p = 32) : skp T p = skp T (p + 1) := by
  unfold skp
  rw [show (161 - p).toNat = (161 - (p + 1)).toNat + 1 by omega]
  exact if_pos h
theorem skp_id {T : Int → Int} {p : Int} (h : T p ≠ 32) : skp T p = p := by
  unfold skp
  cases (161 - p).toNat with
  | zero => rfl
  | succ n => exact if_neg h
theorem sk_rng (T : Int → Int) : ∀ (n : Nat) (p : Int), p ≤ sk T n p ∧ sk T n p ≤ p + n
  | 0, p => ⟨Int.le_refl p, by show p ≤ p + 0; omega⟩
  | n + 1, p => by
    unfold sk
    split
    · have := sk_rng T n (p + 1)
      omega
    · omega
theorem skp_rng (T : Int → Int) (p : Int) : p ≤ skp T p ∧ (skp T p ≤ 161 ∨ skp T p = p) := by
  have := sk_rng T (161 - p).toNat p
  unfold skp
  omega
theorem sk_ne {T : Int → Int} (hT : ∀ p, 160 ≤ p → T p = 0) : ∀ (n : Nat) (p : Int), 161 ≤ p + n → T (sk T n p) ≠ 32
  | 0, p, h => by
    show T p ≠ 32
    rw [hT p (by omega)]
    decide
  | n + 1, p, h => by
    unfold sk
    split
    · exact sk_ne hT n (p + 1) (by omega)
    · assumption
theorem skp_ne {T : Int → Int} (hT : ∀ p, 160 ≤ p → T p = 0) (p : Int) : T (skp T p) ≠ 32 := sk_ne hT _ p (by omega)
/-- where the tokens begin -/
def yS (T : Int → Int) : Nat → Int
  | 0 => skp T 0
  | k + 1 => skp T (yE T (yS T k))
abbrev yP (T : Int → Int) (k : Int) : Int := yS T k.toNat
theorem yP_0 (T : Int → Int) : yP T 0 = skp T 0 := rfl
theorem yP_s (T : Int → Int) {k : Int} (h : 0 ≤ k) : yP T (k + 1) = skp T (yE T (yP T k)) := by
  show yS T (k + 1).toNat = _
  rw [show (k + 1).toNat = k.toNat + 1 by omega]
  rfl
/-- the end of reading: c tokens, an error at b or -1 -/
def yLx (T : Int → Int) (n c b : Int) : Prop := (0 ≤ c ∧ c ≤ 60) ∧ (∀ k, 0 ≤ k → k < c → yP T k < n ∧ yE T (yP T k) ≠ -1) ∧ (n ≤ yP T c ∧ b = -1 ∨ yP T c < n ∧ (c = 60 ∨ yE T (yP T c) = -1) ∧ b = yP T c)
theorem yLx_un {T : Int → Int} {n c b c2 b2 : Int} (h : yLx T n c b) (h2 : yLx T n c2 b2) : c2 = c ∧ b2 = b := by
  have key : ∀ {c b c2 b2 : Int}, yLx T n c b → yLx T n c2 b2 → ¬ c < c2 := by
    intro c b c2 b2 h h2 hl
    have h3 := h2.2.1 c h.1.1 hl
    have h4 := h.2.2
    have h5 := h2.1
    omega
  have e : c2 = c := by
    have k1 := key h h2
    have k2 := key h2 h
    omega
  subst e
  have h3 := h.2.2
  have h4 := h2.2.2
  exact ⟨rfl, by omega⟩
theorem yE_rng (T : Int → Int) (p : Int) (hp : 0 ≤ p) (hT : ∀ q, p ≤ q → 0 ≤ T q ∧ T q ≤ 126) : yE T p = -1 ∨ p + 1 ≤ yE T p ∧ yE T p ≤ p + 8 := by
  have h1 := yTe_yTk (T (p + 1)) (T (p + 2)) (p + 1)
  have h2 := yN_rng T p hT
  have h3 := yTe_yTk (T (yNe T p)) (T (yNe T p + 1)) (yNe T p)
  have h4 := yNt_rng T p hT hp
  unfold yE
  repeat' split
  all_goals omega
/-- the tokens' cells of the reference -/
def mTok (V : zVt) (T : Int → Int) (k : Int) : Prop := V 433 k = yK T (yP T k) ∧ V 434 k = yP T k ∧ V 435 k = yU T (yP T k) ∧ V 436 k = yG T (yP T k) ∧ V 437 k = yC T (yP T k) ∧ V 438 k = yI T (yP T k)
/-- what reading leaves -/
def mFr (V V' : zVt) : Prop := (∀ o : Nat, ¬(o = 430 ∨ (433 ≤ o ∧ o ≤ 438)) → V' o = V o) ∧ ∀ k : Int, ¬(10 ≤ k ∧ k ≤ 12) → V' 430 k = V 430 k
theorem mFr_r (V : zVt) : mFr V V := ⟨fun _ _ => rfl, fun _ _ => rfl⟩
theorem mFr_t {V V1 V2 : zVt} (h : mFr V V1) (h2 : mFr V1 V2) : mFr V V2 := ⟨fun o ho => (h2.1 o ho).trans (h.1 o ho), fun k hk => (h2.2 k hk).trans (h.2 k hk)⟩
theorem mFr_v {V : zVt} {o : Nat} {k x : Int} (h : (433 ≤ o ∧ o ≤ 438) ∨ o = 430 ∧ 10 ≤ k ∧ k ≤ 12) : mFr V (vup V o k x) := ⟨fun o2 ho => vup_fn (by omega), fun k2 hk => vup_ne (by omega)⟩
theorem yIs_k {V : zVt} {n a b s t i k : Int} {o : Nat} (h : k ≠ n) : yIs V n a b s t i o k = V o k := by
  unfold yIs
  rw [vup_k h, vup_k h, vup_k h, vup_k h, vup_k h]
theorem yIs_1 (V : zVt) (n a b s t i : Int) : yIs V n a b s t i 433 n = a := by
  unfold yIs
  rw [vup_o (by decide), vup_o (by decide), vup_o (by decide), vup_o (by decide), vup_at]
theorem yIs_2 (V : zVt) (n a b s t i : Int) : yIs V n a b s t i 435 n = b := by
  unfold yIs
  rw [vup_o (by decide), vup_o (by decide), vup_o (by decide), vup_at]
theorem yIs_3 (V : zVt) (n a b s t i : Int) : yIs V n a b s t i 436 n = s := by
  unfold yIs
  rw [vup_o (by decide), vup_o (by decide), vup_at]
theorem yIs_4 (V : zVt) (n a b s t i : Int) : yIs V n a b s t i 437 n = t := by
  unfold yIs
  rw [vup_o (by decide), vup_at]
theorem mFr_yIs (V : zVt) (n a b s t i : Int) : mFr V (yIs V n a b s t i) := by
  unfold yIs
  exact mFr_t (mFr_t (mFr_t (mFr_t (mFr_v (by omega)) (mFr_v (by omega))) (mFr_v (by omega))) (mFr_v (by omega))) (mFr_v (by omega))
section
variable {J : zJt} {d : Nat → Nat → UInt64}
theorem sl154 {w : Int} (hw : 0 ≤ w ∧ w < 12) {L X : Int → Int} (h : zTx L X) (n : Nat) : ∀ (V : zVt) (p c : Int) (x3 : Value), V 432 = L → V 431 = X → (0 ≤ p ∧ p ≤ 170) → L w - p < n → V 430 10 = c → V 430 11 = -1 → (0 ≤ c ∧ c ≤ 60) → skp (zt L X w) p = yP (zt L X w) c → (∀ k, 0 ≤ k → k < c → yP (zt L X w) k < L w ∧ yE (zt L X w) (yP (zt L X w) k) ≠ -1) → (∀ k, 0 ≤ k → k < c → mTok V (zt L X w) k) →
    ∃ V' c' b, zGo false 154 12 [.ref 430, .int (zi w), .int (zi p), x3] [] (zm V J d) = zN1 V' J d ∧ yLx (zt L X w) (L w) c' b ∧ V' 430 10 = c' ∧ V' 430 11 = b ∧ (∀ k, 0 ≤ k → k < c' → mTok V' (zt L X w) k) ∧ mFr V V' := by
  induction n with
  | zero =>
    intro V p c x3 hL hX hp hn hc hb hc2 hs hk hm
    have hl := (h w hw.1 hw.2).1
    have h0 : zt L X w p = 0 := if_neg (by omega)
    have h1 := skp_id (T := zt L X w) (p := p) (by rw [h0]; decide)
    refine ⟨V, c, -1, ?_, ⟨hc2, hk, Or.inl ⟨by omega, rfl⟩⟩, hc, hb, hm, mFr_r V⟩
    rw [ze_154_12, hL]
    simp (disch := first | omega | assumption | (simp (disch := omega) only [yIs_n, vup_fn, vup_o, vup_k, vup_at]; first | done | omega | assumption)) only [ze_154_128, Int.add_zero, ↓reduceIte, qw_id, zck_T, zck_t, zGor_v, zGor_n, zGor_e, zbs, vup_at, vup_vup, vup_self, vup_o, vup_k, vup_fn, ne_eq, not_true_eq_false, not_false_eq_true, and_true, true_and, and_self, and_false, false_and, or_true, true_or, or_self, or_false, false_or, xlt_t, xlt_f, xle_t, xle_f, xeq_t, xeq_f, xand_f, xor_t]
  | succ n ih =>
    intro V p c x3 hL hX hp hn hc hb hc2 hs hk hm
    have hl := (h w hw.1 hw.2).1
    by_cases hpl : L w ≤ p
    · have h0 : zt L X w p = 0 := if_neg (by omega)
      have h1 := skp_id (T := zt L X w) (p := p) (by rw [h0]; decide)
      refine ⟨V, c, -1, ?_, ⟨hc2, hk, Or.inl ⟨by omega, rfl⟩⟩, hc, hb, hm, mFr_r V⟩
      rw [ze_154_12, hL]
      simp (disch := first | omega | assumption | (simp (disch := omega) only [yIs_n, vup_fn, vup_o, vup_k, vup_at]; first | done | omega | assumption)) only [ze_154_128, Int.add_zero, ↓reduceIte, qw_id, zck_T, zck_t, zGor_v, zGor_n, zGor_e, zbs, vup_at, vup_vup, vup_self, vup_o, vup_k, vup_fn, ne_eq, not_true_eq_false, not_false_eq_true, and_true, true_and, and_self, and_false, false_and, or_true, true_or, or_self, or_false, false_or, xlt_t, xlt_f, xle_t, xle_f, xeq_t, xeq_f, xand_f, xor_t]
    · have r0 := zt_rng h hw p hp.1
      have e155 := sp155 (V := V) (J := J) (d := d) (by rw [hL, hX]; exact h) hw (p := p) (by omega)
      rw [hL, hX] at e155
      by_cases h32 : zt L X w p = 32
      · obtain ⟨V', c', b, q1, q2⟩ := ih V (p + 1) c x3 hL hX (by omega) (by omega) hc hb hc2 (by rw [← hs]; exact (skp_sp (by omega) h32).symm) hk hm
        refine ⟨V', c', b, ?_, q2⟩
        rw [← q1, ze_154_12, hL]
        simp (disch := first | omega | assumption | (simp (disch := omega) only [yIs_n, vup_fn, vup_o, vup_k, vup_at]; first | done | omega | assumption)) only [e155, ze_154_36, Int.add_zero, ↓reduceIte, qw_id, zck_T, zck_t, zGor_v, zGor_n, zGor_e, zbs, vup_at, vup_vup, vup_self, vup_o, vup_k, vup_fn, ne_eq, not_true_eq_false, not_false_eq_true, and_true, true_and, and_self, and_false, false_and, or_true, true_or, or_self, or_false, false_or, xlt_t, xlt_f, xle_t, xle_f, xeq_t, xeq_f, xand_f, xor_t]
      · have hs2 : yP (zt L X w) c = p := by rw [← hs]; exact skp_id h32
        by_cases h60 : c = 60
        · refine ⟨vup V 430 11 p, c, p, ?_, ⟨hc2, hk, Or.inr ⟨by omega, Or.inl h60, by omega⟩⟩, ?_, vup_at _ _ _ _, ?_, mFr_v (by omega)⟩
          · rw [ze_154_12, hL]
            simp (disch := first | omega | assumption | (simp (disch := omega) only [yIs_n, vup_fn, vup_o, vup_k, vup_at]; first | done | omega | assumption)) only [e155, ze_154_36, Int.add_zero, ↓reduceIte, qw_id, zck_T, zck_t, zGor_v, zGor_n, zGor_e, zbs, vup_at, vup_vup, vup_self, vup_o, vup_k, vup_fn, ne_eq, not_true_eq_false, not_false_eq_true, and_true, true_and, and_self, and_false, false_and, or_true, true_or, or_self, or_false, false_or, xlt_t, xlt_f, xle_t, xle_f, xeq_t, xeq_f, xand_f, xor_t]
            rw [ze_154_12, vup_fn (by decide), hL]
            simp (disch := first | omega | assumption | (simp (disch := omega) only [yIs_n, vup_fn, vup_o, vup_k, vup_at]; first | done | omega | assumption)) only [ze_154_128, Int.add_zero, ↓reduceIte, qw_id, zck_T, zck_t, zGor_v, zGor_n, zGor_e, zbs, vup_at, vup_vup, vup_self, vup_o, vup_k, vup_fn, ne_eq, not_true_eq_false, not_false_eq_true, and_true, true_and, and_self, and_false, false_and, or_true, true_or, or_self, or_false, false_or, xlt_t, xlt_f, xle_t, xle_f, xeq_t, xeq_f, xand_f, xor_t]
          · rw [vup_k (by decide), hc]
          · intro k k1 k2
            have := hm k k1 k2
            unfold mTok at *
            simp only [vup_fn (show (433 : Nat) ≠ 430 by decide), vup_fn (show (434 : Nat) ≠ 430 by decide), vup_fn (show (435 : Nat) ≠ 430 by decide), vup_fn (show (436 : Nat) ≠ 430 by decide), vup_fn (show (437 : Nat) ≠ 430 by decide), vup_fn (show (438 : Nat) ≠ 430 by decide)]
            exact this
        · have e156 := sp156 (V := vup V 434 c p) (J := J) (d := d) (by rw [vup_fn (by decide), vup_fn (by decide), hL, hX]; exact h) hw (p := p) (by omega) (by rw [vup_o (by decide)]; omega)
          rw [vup_fn (by decide), vup_fn (by decide), vup_o (by decide), vup_o (by decide), hL, hX, hc] at e156
          have hE := yE_rng (zt L X w) p hp.1 (fun q hq => zt_rng h hw q (by omega))
          by_cases hEn : yE (zt L X w) p = -1
          · rw [if_pos hEn] at e156
            refine ⟨vup (vup (vup (vup V 434 c p) 430 12 (yL (zt L X w) p (V 430 12))) 430 11 p) 430 10 c, c, p, ?_, ⟨hc2, hk, Or.inr ⟨by omega, Or.inr (by rw [hs2]; exact hEn), by omega⟩⟩, vup_at _ _ _ _, ?_, ?_, ?_⟩
            · rw [ze_154_12, hL]
              simp (disch := first | omega | assumption | (simp (disch := omega) only [yIs_n, vup_fn, vup_o, vup_k, vup_at]; first | done | omega | assumption)) only [e155, e156, ze_154_36, ze_154_80, ze_154_92, ze_154_110, ze_154_124, hc, Int.add_zero, Int.add_zero, ↓reduceIte, qw_id, zck_T, zck_t, zGor_v, zGor_n, zGor_e, zbs, vup_at, vup_vup, vup_self, vup_o, vup_k, vup_fn, ne_eq, not_true_eq_false, not_false_eq_true, and_true, true_and, and_self, and_false, false_and, or_true, true_or, or_self, or_false, false_or, xlt_t, xlt_f, xle_t, xle_f, xeq_t, xeq_f, xand_f, xor_t]
              rw [ze_154_12]
              simp (disch := first | omega | assumption | (simp (disch := omega) only [yIs_n, vup_fn, vup_o, vup_k, vup_at]; first | done | omega | assumption)) only [ze_154_128, hL, Int.add_zero, ↓reduceIte, qw_id, zck_T, zck_t, zGor_v, zGor_n, zGor_e, zbs, vup_at, vup_vup, vup_self, vup_o, vup_k, vup_fn, ne_eq, not_true_eq_false, not_false_eq_true, and_true, true_and, and_self, and_false, false_and, or_true, true_or, or_self, or_false, false_or, xlt_t, xlt_f, xle_t, xle_f, xeq_t, xeq_f, xand_f, xor_t]
            · rw [vup_k (by decide), vup_at]
            · intro k k1 k2
              have := hm k k1 k2
              unfold mTok at *
              simp (disch := first | omega | assumption | (simp (disch := omega) only [yIs_n, vup_fn, vup_o, vup_k, vup_at]; first | done | omega | assumption)) only [Int.add_zero, ↓reduceIte, qw_id, zck_T, zck_t, zGor_v, zGor_n, zGor_e, zbs, vup_at, vup_vup, vup_self, vup_o, vup_k, vup_fn, ne_eq, not_true_eq_false, not_false_eq_true, and_true, true_and, and_self, and_false, false_and, or_true, true_or, or_self, or_false, false_or, xlt_t, xlt_f, xle_t, xle_f, xeq_t, xeq_f, xand_f, xor_t]
            · exact mFr_t (mFr_t (mFr_t (mFr_v (by omega)) (mFr_v (by omega))) (mFr_v (by omega))) (mFr_v (by omega))
          · rw [if_neg hEn] at e156
            have hE2 : p + 1 ≤ yE (zt L X w) p ∧ yE (zt L X w) p ≤ p + 8 := by omega
            generalize hV1 : yIs (vup (vup V 434 c p) 430 12 (yL (zt L X w) p (V 430 12))) c (yK (zt L X w) p) (yU (zt L X w) p) (yG (zt L X w) p) (yC (zt L X w) p) (yI (zt L X w) p) = V1 at e156
            have f1 : mFr V V1 := by
              rw [← hV1]
              exact mFr_t (mFr_t (mFr_v (by omega)) (mFr_v (by omega))) (mFr_yIs _ _ _ _ _ _ _)
            have f2 : mFr V (vup (vup V1 430 11 (-1)) 430 10 (c + 1)) := mFr_t f1 (mFr_t (mFr_v (by omega)) (mFr_v (by omega)))
            have c1 : V1 430 10 = c := by
              rw [← hV1, yIs_n (by decide), vup_k (by decide), vup_o (by decide), hc]
            have hmk : ∀ k, 0 ≤ k → k < c + 1 → mTok V1 (zt L X w) k := by
              intro k k1 k2
              by_cases hkc : k = c
              · subst hkc
                unfold mTok
                rw [hs2, ← hV1]
                refine ⟨yIs_1 _ _ _ _ _ _ _, ?_, yIs_2 _ _ _ _ _ _ _, yIs_3 _ _ _ _ _ _ _, yIs_4 _ _ _ _ _ _ _, yIs_i5 _ _ _ _ _ _ _⟩
                rw [yIs_n (by decide), vup_o (by decide), vup_at]
              · have := hm k k1 (by omega)
                unfold mTok at *
                rw [← hV1]
                simp only [yIs_k hkc, vup_k hkc, vup_o (show (433 : Nat) ≠ 430 by decide), vup_o (show (434 : Nat) ≠ 430 by decide), vup_o (show (435 : Nat) ≠ 430 by decide), vup_o (show (436 : Nat) ≠ 430 by decide), vup_o (show (437 : Nat) ≠ 430 by decide), vup_o (show (438 : Nat) ≠ 430 by decide)]
                exact this
            obtain ⟨V', c', b, q1, q2, q3, q4, q5, q6⟩ := ih (vup (vup V1 430 11 (-1)) 430 10 (c + 1)) (yE (zt L X w) p) (c + 1) (.int (zi (yE (zt L X w) p))) ((f2.1 432 (by omega)).trans hL) ((f2.1 431 (by omega)).trans hX) (by omega) (by omega) (vup_at _ _ _ _) (by rw [vup_k (by decide), vup_at]) (by omega) (by rw [yP_s _ hc2.1, hs2]) (by
                intro k k1 k2
                by_cases hkc : k = c
                · subst hkc
                  rw [hs2]
                  exact ⟨by omega, hEn⟩
                · exact hk k k1 (by omega)) (by
                intro k k1 k2
                have := hmk k k1 k2
                unfold mTok at *
                simp only [vup_o (show (433 : Nat) ≠ 430 by decide), vup_o (show (434 : Nat) ≠ 430 by decide), vup_o (show (435 : Nat) ≠ 430 by decide), vup_o (show (436 : Nat) ≠ 430 by decide), vup_o (show (437 : Nat) ≠ 430 by decide), vup_o (show (438 : Nat) ≠ 430 by decide)]
                exact this)
            refine ⟨V', c', b, ?_, q2, q3, q4, q5, mFr_t f2 q6⟩
            rw [← q1, ze_154_12, hL]
            simp (disch := first | omega | assumption | (simp (disch := omega) only [yIs_n, vup_fn, vup_o, vup_k, vup_at]; first | done | omega | assumption)) only [e155, e156, ze_154_36, ze_154_80, ze_154_92, ze_154_110, ze_154_124, hc, c1, Int.add_zero, ↓reduceIte, qw_id, zck_T, zck_t, zGor_v, zGor_n, zGor_e, zbs, vup_at, vup_vup, vup_self, vup_o, vup_k, vup_fn, ne_eq, not_true_eq_false, not_false_eq_true, and_true, true_and, and_self, and_false, false_and, or_true, true_or, or_self, or_false, false_or, xlt_t, xlt_f, xle_t, xle_f, xeq_t, xeq_f, xand_f, xor_t]
theorem sp154 {V : zVt} (h : zTx (V 432) (V 431)) {w : Int} (hw : 0 ≤ w ∧ w < 12) :
    ∃ V' c b, zGo false 154 0 [.ref 430, .int (zi w), .null, .null] [] (zm V J d) = zN1 V' J d ∧ yLx (zt (V 432) (V 431) w) (V 432 w) c b ∧ V' 430 10 = c ∧ V' 430 11 = b ∧ (∀ k, 0 ≤ k → k < c → mTok V' (zt (V 432) (V 431) w) k) ∧ mFr V V' := by
  have hl := (h w hw.1 hw.2).1
  obtain ⟨V', c, b, q1, q2, q3, q4, q5, q6⟩ := sl154 (J := J) (d := d) hw h 200 (vup (vup V 430 10 0) 430 11 (-1)) 0 0 .null (by rw [vup_fn (by decide), vup_fn (by decide)]) (by rw [vup_fn (by decide), vup_fn (by decide)]) (by omega) (by omega) (by rw [vup_k (by decide), vup_at]) (vup_at _ _ _ _) (by omega) rfl (by intro k k1 k2; omega) (by intro k k1 k2; omega)
  refine ⟨V', c, b, ?_, q2, q3, q4, q5, mFr_t (mFr_t (mFr_v (by omega)) (mFr_v (by omega))) q6⟩
  rw [ze_154_0]
  exact q1
end
