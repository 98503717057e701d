/-! part 36: the reference's reading of a text -/
def sk (T : Int → Int) : Nat → Int → Int
  | 0, p => p
  | n + 1, p => if T p = 32 then sk T n (p + 1) else p
/-- the first place from p on without a space -/
def skp (T : Int → Int) (p : Int) : Int := sk T (161 - p).toNat p
theorem skp_sp {T : Int → Int} {p : Int} (hp : p ≤ 160) (h : T p = 32) : skp T p = skp T (p + 1) := by
  unfold skp
  rw [show (161 - p).toNat = (161 - (p + 1)).toNat + 1 by omega]
  exact if_pos h
theorem skp_id {T : Int → Int} {p : Int} (h : T p ≠ 32) : skp T p = p := by
  unfold skp
  cases (161 - p).toNat with
  | zero => rfl
  | succ n => exact if_neg h
theorem sk_rng (T : Int → Int) : ∀ (n : Nat) (p : Int), p ≤ sk T n p ∧ sk T n p ≤ p + n
  | 0, p => ⟨Int.le_refl p, by show p ≤ p + 0; omega⟩
  | n + 1, p => by
    unfold sk
    split
    · have := sk_rng T n (p + 1)
      omega
    · omega
theorem skp_rng (T : Int → Int) (p : Int) : p ≤ skp T p ∧ (skp T p ≤ 161 ∨ skp T p = p) := by
  have := sk_rng T (161 - p).toNat p
  unfold skp
  omega
theorem sk_ne {T : Int → Int} (hT : ∀ p, 160 ≤ p → T p = 0) : ∀ (n : Nat) (p : Int), 161 ≤ p + n → T (sk T n p) ≠ 32
  | 0, p, h => by
    show T p ≠ 32
    rw [hT p (by omega)]
    decide
  | n + 1, p, h => by
    unfold sk
    split
    · exact sk_ne hT n (p + 1) (by omega)
    · assumption
theorem skp_ne {T : Int → Int} (hT : ∀ p, 160 ≤ p → T p = 0) (p : Int) : T (skp T p) ≠ 32 := sk_ne hT _ p (by omega)
/-- where the tokens begin -/
def yS (T : Int → Int) : Nat → Int
  | 0 => skp T 0
  | k + 1 => skp T (yE T (yS T k))
abbrev yP (T : Int → Int) (k : Int) : Int := yS T k.toNat
theorem yP_0 (T : Int → Int) : yP T 0 = skp T 0 := rfl
theorem yP_s (T : Int → Int) {k : Int} (h : 0 ≤ k) : yP T (k + 1) = skp T (yE T (yP T k)) := by
  show yS T (k + 1).toNat = _
  rw [show (k + 1).toNat = k.toNat + 1 by omega]
  rfl
/-- the end of reading: c tokens, an error at b or -1 -/
def yLx (T : Int → Int) (n c b : Int) : Prop := (0 ≤ c ∧ c ≤ 60) ∧ (∀ k, 0 ≤ k → k < c → yP T k < n ∧ yE T (yP T k) ≠ -1) ∧ (n ≤ yP T c ∧ b = -1 ∨ yP T c < n ∧ (c = 60 ∨ yE T (yP T c) = -1) ∧ b = yP T c)
theorem yLx_un {T : Int → Int} {n c b c2 b2 : Int} (h : yLx T n c b) (h2 : yLx T n c2 b2) : c2 = c ∧ b2 = b := by
  have key : ∀ {c b c2 b2 : Int}, yLx T n c b → yLx T n c2 b2 → ¬ c < c2 := by
    intro c b c2 b2 h h2 hl
    have h3 := h2.2.1 c h.1.1 hl
    have h4 := h.2.2
    have h5 := h2.1
    omega
  have e : c2 = c := by
    have k1 := key h h2
    have k2 := key h2 h
    omega
  subst e
  have h3 := h.2.2
  have h4 := h2.2.2
  exact ⟨rfl, by omega⟩
theorem yE_rng (T : Int → Int) (p : Int) (hp : 0 ≤ p) (hT : ∀ q, p ≤ q → 0 ≤ T q ∧ T q ≤ 126) : yE T p = -1 ∨ p + 1 ≤ yE T p ∧ yE T p ≤ p + 8 := by
  have h1 := yTe_yTk (T (p + 1)) (T (p + 2)) (p + 1)
  have h2 := yN_rng T p hT
  have h3 := yTe_yTk (T (yNe T p)) (T (yNe T p + 1)) (yNe T p)
  have h4 := yNt_rng T p hT hp
  unfold yE
  repeat' split
  all_goals omega
/-- the tokens' cells of the reference -/
def mTok (V : zVt) (T : Int → Int) (k : Int) : Prop := V 433 k = yK T (yP T k) ∧ V 434 k = yP T k ∧ V 435 k = yU T (yP T k) ∧ V 436 k = yG T (yP T k) ∧ V 437 k = yC T (yP T k) ∧ V 438 k = yI T (yP T k)
/-- what reading leaves -/
def mFr (V V' : zVt) : Prop := (∀ o : Nat, ¬(o = 480 ∨ (433 ≤ o ∧ o ≤ 438)) → V' o = V o) ∧ ∀ k : Int, ¬(10 ≤ k ∧ k ≤ 12) → V' 480 k = V 480 k
theorem mFr_r (V : zVt) : mFr V V := ⟨fun _ _ => rfl, fun _ _ => rfl⟩
theorem mFr_t {V V1 V2 : zVt} (h : mFr V V1) (h2 : mFr V1 V2) : mFr V V2 := ⟨fun o ho => (h2.1 o ho).trans (h.1 o ho), fun k hk => (h2.2 k hk).trans (h.2 k hk)⟩
theorem mFr_v {V : zVt} {o : Nat} {k x : Int} (h : (433 ≤ o ∧ o ≤ 438) ∨ o = 480 ∧ 10 ≤ k ∧ k ≤ 12) : mFr V (vup V o k x) := ⟨fun o2 ho => vup_fn (by omega), fun k2 hk => vup_ne (by omega)⟩
theorem yIs_k {V : zVt} {n a b s t i k : Int} {o : Nat} (h : k ≠ n) : yIs V n a b s t i o k = V o k := by
  unfold yIs
  rw [vup_k h, vup_k h, vup_k h, vup_k h, vup_k h]
theorem yIs_1 (V : zVt) (n a b s t i : Int) : yIs V n a b s t i 433 n = a := by
  unfold yIs
  rw [vup_o (by decide), vup_o (by decide), vup_o (by decide), vup_o (by decide), vup_at]
theorem yIs_2 (V : zVt) (n a b s t i : Int) : yIs V n a b s t i 435 n = b := by
  unfold yIs
  rw [vup_o (by decide), vup_o (by decide), vup_o (by decide), vup_at]
theorem yIs_3 (V : zVt) (n a b s t i : Int) : yIs V n a b s t i 436 n = s := by
  unfold yIs
  rw [vup_o (by decide), vup_o (by decide), vup_at]
theorem yIs_4 (V : zVt) (n a b s t i : Int) : yIs V n a b s t i 437 n = t := by
  unfold yIs
  rw [vup_o (by decide), vup_at]
theorem mFr_yIs (V : zVt) (n a b s t i : Int) : mFr V (yIs V n a b s t i) := by
  unfold yIs
  exact mFr_t (mFr_t (mFr_t (mFr_t (mFr_v (by omega)) (mFr_v (by omega))) (mFr_v (by omega))) (mFr_v (by omega))) (mFr_v (by omega))
section
variable {J : zJt} {d : Nat → Nat → UInt64}
end
