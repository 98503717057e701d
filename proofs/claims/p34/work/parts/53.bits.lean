/-! part 53: the reference's bytes and bits -/
theorem zby_sshr {L : Int64} {k : Int} (hk : 0 ≤ k ∧ k < 8) : ((L >>> ((zi (8 * k)).toInt64 &&& 63)) &&& Int64.ofNat 255).toInt32.toInt = zby L k := by
  have e1 : (L >>> ((zi (8 * k)).toInt64 &&& 63)).toBitVec.toInt = L.toBitVec.toInt >>> (8 * k.toNat) := by
    show (L.toBitVec.sshiftRight (((zi (8 * k)).toInt64 &&& 63).toBitVec.smod 64).toNat).toInt = _
    rw [zsh_kI hk, BitVec.toInt_sshiftRight]
  generalize L >>> ((zi (8 * k)).toInt64 &&& 63) = M at *
  have e2 : (M &&& Int64.ofNat 255).toBitVec.toNat = M.toBitVec.toNat % 256 := by
    rw [Int64.toBitVec_and, BitVec.toNat_and, show (Int64.ofNat 255).toBitVec.toNat = 2 ^ 8 - 1 from rfl, Nat.and_two_pow_sub_one_eq_mod]
  have e3 : (M &&& Int64.ofNat 255).toInt32.toBitVec.toNat = M.toBitVec.toNat % 256 := by
    show ((M &&& Int64.ofNat 255).toBitVec.signExtend 32).toNat = _
    rw [BitVec.signExtend_eq_setWidth_of_le _ (by decide), BitVec.toNat_setWidth, e2]
    omega
  have e4 : (M &&& Int64.ofNat 255).toInt32.toInt = ((M.toBitVec.toNat % 256 : Nat) : Int) := by
    show (M &&& Int64.ofNat 255).toInt32.toBitVec.toInt = _
    rw [BitVec.toInt_eq_toNat_cond, e3, if_pos (by omega)]
  rw [e4]
  rw [Int.shiftRight_eq_div_pow, BitVec.toInt_eq_toNat_cond, BitVec.toInt_eq_toNat_cond] at e1
  have hl := L.toBitVec.isLt
  have hm := M.toBitVec.isLt
  unfold zby
  generalize L.toBitVec.toNat = x at *
  generalize M.toBitVec.toNat = y at *
  clear e2 e3 e4
  rcases (show k = 0 ∨ k = 1 ∨ k = 2 ∨ k = 3 ∨ k = 4 ∨ k = 5 ∨ k = 6 ∨ k = 7 by omega) with rfl | rfl | rfl | rfl | rfl | rfl | rfl | rfl
  all_goals
    simp only [Int.toNat_zero, Int.reduceToNat, Nat.mul_zero, Nat.reduceMul, Nat.reducePow, Int.natCast_pow, Int.cast_ofNat_Int, Int.reducePow, Int.pow_zero, Int.ediv_one, Nat.div_one] at *
    split at e1 <;> split at e1 <;> omega
theorem zs1 : ∀ k : Fin 16, qshl 1 (k.val : Int) = ((2 ^ k.val : Nat) : Int) := by decide
theorem zs2 : ∀ k : Fin 16, ((zi (k.val : Int) &&& 31).toBitVec.smod 32).toNat = k.val := by decide
theorem qshl_1 {k : Int} (h : 0 ≤ k ∧ k < 16) : qshl 1 k = ((2 ^ k.toNat : Nat) : Int) := by
  have := zs1 ⟨k.toNat, by omega⟩
  have e : ((k.toNat : Nat) : Int) = k := Int.toNat_of_nonneg h.1
  simp only [e] at this
  exact this
theorem qor_p {s : Int} {a k : Nat} (hk : k < 16) (h : s = ((2 ^ (k + 1) * a : Nat) : Int)) (hs : s < 65536) : qor s (((2 ^ k : Nat) : Int)) = s + ((2 ^ k : Nat) : Int) := by
  have hp : 2 ^ k < 2 ^ (k + 1) := Nat.pow_lt_pow_right (by decide) (by omega)
  have hp2 : 2 ^ k < 2 ^ 16 := Nat.pow_lt_pow_right (by decide) hk
  unfold qor
  have e1 : (zi s).toBitVec.toNat = 2 ^ (k + 1) * a := by
    rw [zi_nI (by omega), h, Int.toNat_natCast, pk_tn (by omega)]
  have e2 : (zi ((2 ^ k : Nat) : Int)).toBitVec.toNat = 2 ^ k := by
    rw [zi_nI (by omega), Int.toNat_natCast, pk_tn (by omega)]
  have e3 : (zi s ||| zi ((2 ^ k : Nat) : Int)).toBitVec.toNat = 2 ^ (k + 1) * a + 2 ^ k := by
    rw [Int32.toBitVec_or, BitVec.toNat_or, e1, e2, Nat.two_pow_add_eq_or_of_lt hp]
  show (zi s ||| zi ((2 ^ k : Nat) : Int)).toBitVec.toInt = _
  rw [BitVec.toInt_eq_toNat_cond, e3, if_pos (by omega)]
  omega
theorem qor_0 {s : Int} (h : 0 ≤ s ∧ s < 65536) : qor s 0 = s := by
  unfold qor
  have e : zi s ||| zi 0 = zi s := by
    apply Int32.toBitVec_inj.mp
    rw [Int32.toBitVec_or]
    exact BitVec.or_zero
  rw [e]
  exact qw_id (by omega) (by omega)
theorem qbit {x t : Int} (hx : 0 ≤ x ∧ x < 65536) (ht : 0 ≤ t ∧ t < 16) : qand (qshr x t) 1 = x / ((2 ^ t.toNat : Nat) : Int) % 2 := by
  have h2 := zs2 ⟨t.toNat, by omega⟩
  have e : ((t.toNat : Nat) : Int) = t := Int.toNat_of_nonneg ht.1
  simp only [e] at h2
  have e1 : qshr x t = ((x.toNat / 2 ^ t.toNat : Nat) : Int) := by
    unfold qshr
    rw [zi_nI hx.1, pk_shrN (by omega) _ t.toNat h2, nI_toInt]
    exact Nat.lt_of_le_of_lt (Nat.div_le_self _ _) (by omega)
  have hle : x.toNat / 2 ^ t.toNat ≤ x.toNat := Nat.div_le_self _ _
  have e2 : ((x.toNat / 2 ^ t.toNat : Nat) : Int) = x / ((2 ^ t.toNat : Nat) : Int) := by
    rw [Int.natCast_ediv, Int.toNat_of_nonneg hx.1]
  rw [e1, ← e2]
  generalize x.toNat / 2 ^ t.toNat = y at *
  rw [qand_1 (by omega)]
/-- the bits g, the upper n of 16, as a number -/
def yHr (g : Int → Int) : Nat → Int
  | 0 => 0
  | n + 1 => 2 * yHr g n + g (15 - (n : Int))
abbrev yB01 (g : Int → Int) : Prop := ∀ t, 0 ≤ t → t < 16 → g t = 0 ∨ g t = 1
theorem yHr_rng {g : Int → Int} (hg : yB01 g) : ∀ n : Nat, n ≤ 16 → 0 ≤ yHr g n ∧ yHr g n < ((2 ^ n : Nat) : Int)
  | 0, _ => by
    show (0 : Int) ≤ 0 ∧ (0 : Int) < ((2 ^ 0 : Nat) : Int)
    decide
  | n + 1, h => by
    have i1 := yHr_rng hg n (by omega)
    have i2 := hg (15 - n) (by omega) (by omega)
    have e : ((2 ^ (n + 1) : Nat) : Int) = 2 * ((2 ^ n : Nat) : Int) := by
      rw [Nat.pow_succ]
      omega
    rw [e]
    unfold yHr
    omega
theorem yHr_eq {g h : Int → Int} (hg : yB01 g) (hh : yB01 h) : ∀ n : Nat, n ≤ 16 → yHr g n = yHr h n → ∀ t, 16 - (n : Int) ≤ t → t < 16 → g t = h t
  | 0, _, _ => fun t h0 h1 => by omega
  | n + 1, hn, e => by
    have i1 := hg (15 - n) (by omega) (by omega)
    have i2 := hh (15 - n) (by omega) (by omega)
    unfold yHr at e
    have e1 : yHr g n = yHr h n := by omega
    have e2 : g (15 - n) = h (15 - n) := by omega
    intro t h0 h1
    by_cases ht : t = 15 - n
    · rw [ht]; exact e2
    · exact yHr_eq hg hh n (by omega) e1 t (by omega) h1
theorem yHr_cong {g h : Int → Int} : ∀ n : Nat, n ≤ 16 → (∀ t, 0 ≤ t → t < 16 → g t = h t) → yHr g n = yHr h n
  | 0, _, _ => rfl
  | n + 1, hn, e => by
    unfold yHr
    rw [yHr_cong n (by omega) e, e (15 - n) (by omega) (by omega)]
theorem yHr_div {g : Int → Int} (hg : yB01 g) : ∀ j n : Nat, n + j ≤ 16 → yHr g (n + j) / ((2 ^ j : Nat) : Int) = yHr g n
  | 0, n, _ => by
    show yHr g n / 1 = _
    exact Int.ediv_one _
  | j + 1, n, h => by
    have i1 := yHr_div hg j (n + 1) (by omega)
    have i2 := hg (15 - n) (by omega) (by omega)
    have e : ((2 ^ (j + 1) : Nat) : Int) = ((2 ^ j : Nat) : Int) * 2 := by
      rw [Nat.pow_succ]
      omega
    rw [e, ← Int.ediv_ediv_of_nonneg (Int.natCast_nonneg _), show n + (j + 1) = n + 1 + j by omega, i1]
    show (2 * yHr g n + g (15 - (n : Int))) / 2 = yHr g n
    omega
theorem yHr_bit {g : Int → Int} (hg : yB01 g) {t : Int} (ht : 0 ≤ t ∧ t < 16) : yHr g 16 / ((2 ^ t.toNat : Nat) : Int) % 2 = g t := by
  have e := yHr_div hg t.toNat (16 - t.toNat) (by omega)
  rw [show 16 - t.toNat + t.toNat = 16 by omega] at e
  rw [e]
  have i2 := hg t (by omega) (by omega)
  rw [show 16 - t.toNat = 15 - t.toNat + 1 by omega]
  unfold yHr
  rw [show 15 - ((15 - t.toNat : Nat) : Int) = t by omega]
  omega
