/-! part 52: bytes of longs, bits of ints -/
def zby (L : Int64) (r : Int) : Int := ((L.toBitVec.toNat / 2 ^ (8 * r.toNat) % 256 : Nat) : Int)
theorem zby_rng (L : Int64) (r : Int) : 0 ≤ zby L r ∧ zby L r < 256 := by
  unfold zby
  omega
theorem zby_0 (r : Int) : zby (Int64.ofNat 0) r = 0 := by
  unfold zby
  show (((0 : Nat) / 2 ^ (8 * r.toNat) % 256 : Nat) : Int) = 0
  rw [Nat.zero_div]
  rfl
theorem zby_l (L : Int64) : zby L 0 = ((L.toBitVec.toNat / 2 ^ 0 % 256 : Nat) : Int) ∧ zby L 1 = ((L.toBitVec.toNat / 2 ^ 8 % 256 : Nat) : Int) ∧ zby L 2 = ((L.toBitVec.toNat / 2 ^ 16 % 256 : Nat) : Int) ∧ zby L 3 = ((L.toBitVec.toNat / 2 ^ 24 % 256 : Nat) : Int) ∧ zby L 4 = ((L.toBitVec.toNat / 2 ^ 32 % 256 : Nat) : Int) ∧ zby L 5 = ((L.toBitVec.toNat / 2 ^ 40 % 256 : Nat) : Int) ∧ zby L 6 = ((L.toBitVec.toNat / 2 ^ 48 % 256 : Nat) : Int) ∧ zby L 7 = ((L.toBitVec.toNat / 2 ^ 56 % 256 : Nat) : Int) := ⟨rfl, rfl, rfl, rfl, rfl, rfl, rfl, rfl⟩
theorem zby_ext {L M : Int64} (h : ∀ r, 0 ≤ r → r < 8 → zby L r = zby M r) : L = M := by
  apply Int64.toBitVec_inj.mp
  apply BitVec.eq_of_toNat_eq
  have hl := L.toBitVec.isLt
  have hm := M.toBitVec.isLt
  have h0 := h 0 (by omega) (by omega)
  have h1 := h 1 (by omega) (by omega)
  have h2 := h 2 (by omega) (by omega)
  have h3 := h 3 (by omega) (by omega)
  have h4 := h 4 (by omega) (by omega)
  have h5 := h 5 (by omega) (by omega)
  have h6 := h 6 (by omega) (by omega)
  have h7 := h 7 (by omega) (by omega)
  obtain ⟨a0, a1, a2, a3, a4, a5, a6, a7⟩ := zby_l L
  obtain ⟨b0, b1, b2, b3, b4, b5, b6, b7⟩ := zby_l M
  rw [a0, b0] at h0
  rw [a1, b1] at h1
  rw [a2, b2] at h2
  rw [a3, b3] at h3
  rw [a4, b4] at h4
  rw [a5, b5] at h5
  rw [a6, b6] at h6
  rw [a7, b7] at h7
  clear h a0 a1 a2 a3 a4 a5 a6 a7 b0 b1 b2 b3 b4 b5 b6 b7
  generalize L.toBitVec.toNat = x at *
  generalize M.toBitVec.toNat = y at *
  simp only [Nat.reducePow] at *
  omega
theorem zi_nI {x : Int} (h : 0 ≤ x) : zi x = nI x.toNat := by
  show Int32.ofInt x = Int32.ofNat x.toNat
  rw [← Int32.ofInt_eq_ofNat, Int.toNat_of_nonneg h]
theorem zi_l {x : Int} (h : 0 ≤ x ∧ x < 2147483648) : (zi x).toInt64 = lN x.toNat := by
  rw [zi_nI h.1, nI_l (by omega)]
theorem lN_bv (n : Nat) : (lN n).toBitVec.toNat = n % 2 ^ 64 := by
  show (BitVec.ofNat 64 n).toNat = _
  exact BitVec.toNat_ofNat n 64
theorem l64_shl (a s : Int64) (k : Nat) (hs : (s.toBitVec.smod 64).toNat = k) : (a <<< s).toBitVec.toNat = a.toBitVec.toNat * 2 ^ k % 2 ^ 64 := by
  show (a.toBitVec <<< (s.toBitVec.smod 64).toNat).toNat = _
  rw [hs, BitVec.toNat_shiftLeft, Nat.shiftLeft_eq]
theorem qand_7 {x : Int} (h : 0 ≤ x ∧ x < 2147483648) : qand x 7 = x % 8 := by
  unfold qand
  rw [zi_nI h.1, pk_andN (by omega) 3 (by decide), nI_toInt (by omega)]
  omega
theorem qand_1 {x : Int} (h : 0 ≤ x ∧ x < 2147483648) : qand x 1 = x % 2 := by
  unfold qand
  rw [zi_nI h.1, pk_andN (by omega) 1 (by decide), nI_toInt (by omega)]
  omega
/-- a byte is put where none is -/
theorem zby_orN {L : Int64} {r s v : Nat} (hr : r < 8) (hs : s < 8) (hv : v < 256) (h0 : L.toBitVec.toNat / 2 ^ (8 * r) % 256 = 0) : (L.toBitVec.toNat ||| v * 2 ^ (8 * r)) / 2 ^ (8 * s) % 256 = if s = r then v else L.toBitVec.toNat / 2 ^ (8 * s) % 256 := by
  rw [← Nat.shiftRight_eq_div_pow, Nat.shiftRight_or_distrib, show (256 : Nat) = 2 ^ 8 from rfl, Nat.or_mod_two_pow, Nat.shiftRight_eq_div_pow, Nat.shiftRight_eq_div_pow]
  by_cases h : s = r
  · subst h
    rw [if_pos rfl, show (2 : Nat) ^ 8 = 256 from rfl, h0, Nat.zero_or, Nat.mul_div_cancel v (Nat.two_pow_pos _)]
    omega
  · rw [if_neg h]
    have e : v * 2 ^ (8 * r) / 2 ^ (8 * s) % 2 ^ 8 = 0 := by
      by_cases hl : s < r
      · rw [show 8 * r = 8 * (r - s) + 8 * s by omega, Nat.pow_add, ← Nat.mul_assoc, Nat.mul_div_cancel _ (Nat.two_pow_pos _), show 8 * (r - s) = 8 * (r - s - 1) + 8 by omega, Nat.pow_add, ← Nat.mul_assoc]
        exact Nat.mul_mod_left _ _
      · rw [show 8 * s = 8 * r + 8 * (s - r) by omega, Nat.pow_add, ← Nat.div_div_eq_div_mul, Nat.mul_div_cancel v (Nat.two_pow_pos _)]
        have : v / 2 ^ (8 * (s - r)) = 0 := by
          apply Nat.div_eq_of_lt
          calc v < 2 ^ 8 := hv
            _ ≤ 2 ^ (8 * (s - r)) := Nat.pow_le_pow_right (by decide) (by omega)
        rw [this]
    rw [e, Nat.or_zero]
theorem zsh_k : ∀ r : Fin 8, (((zi (8 * (r.val : Int))).toInt64 &&& 63).toBitVec.smod 64).toNat = 8 * r.val := by decide
theorem zsh_u : ∀ r : Fin 8, (((zi (8 * (r.val : Int))).toInt64.toUInt64 &&& Int64.toUInt64 63).toBitVec % 64).toNat = 8 * r.val := by decide
theorem zsh_kI {r : Int} (h : 0 ≤ r ∧ r < 8) : (((zi (8 * r)).toInt64 &&& 63).toBitVec.smod 64).toNat = 8 * r.toNat := by
  have := zsh_k ⟨r.toNat, by omega⟩
  have e : ((r.toNat : Nat) : Int) = r := Int.toNat_of_nonneg h.1
  simp only [e] at this
  exact this
theorem zsh_uI {r : Int} (h : 0 ≤ r ∧ r < 8) : (((zi (8 * r)).toInt64.toUInt64 &&& Int64.toUInt64 63).toBitVec % 64).toNat = 8 * r.toNat := by
  have := zsh_u ⟨r.toNat, by omega⟩
  have e : ((r.toNat : Nat) : Int) = r := Int.toNat_of_nonneg h.1
  simp only [e] at this
  exact this
theorem zby_or {L : Int64} {x v s : Int} (hx : 0 ≤ x ∧ x < 16) (hv : 0 ≤ v ∧ v < 256) (hs : 0 ≤ s ∧ s < 8) (h0 : zby L (x % 8) = 0) : zby (L ||| ((zi v).toInt64 <<< ((zi (8 * qand x 7)).toInt64 &&& 63))) s = if s = x % 8 then v else zby L s := by
  rw [qand_7 (by omega)]
  have hr : 0 ≤ x % 8 ∧ x % 8 < 8 := by omega
  generalize x % 8 = r at *
  have e1 : ((zi v).toInt64 <<< ((zi (8 * r)).toInt64 &&& 63)).toBitVec.toNat = v.toNat * 2 ^ (8 * r.toNat) := by
    rw [l64_shl _ _ _ (zsh_kI hr), zi_l (by omega), lN_bv, Nat.mod_eq_of_lt (show v.toNat < 2 ^ 64 by omega)]
    apply Nat.mod_eq_of_lt
    calc v.toNat * 2 ^ (8 * r.toNat) < 2 ^ 8 * 2 ^ (8 * r.toNat) := Nat.mul_lt_mul_of_pos_right (by omega) (Nat.two_pow_pos _)
      _ = 2 ^ (8 + 8 * r.toNat) := (Nat.pow_add 2 8 _).symm
      _ ≤ 2 ^ 64 := Nat.pow_le_pow_right (by decide) (by omega)
  unfold zby at *
  rw [Int64.toBitVec_or, BitVec.toNat_or, e1, zby_orN (r := r.toNat) (s := s.toNat) (v := v.toNat) (by omega) (by omega) (by omega) (by omega)]
  by_cases h : s = r
  · rw [if_pos h, if_pos (by omega)]
    omega
  · rw [if_neg h, if_neg (by omega)]
theorem zby_mul {L : Int64} {e s : Int} (he : 0 ≤ e ∧ e < 256) (hs : 0 ≤ s ∧ s < 8) : zby (L * Int64.ofNat 256 + (zi e).toInt64) s = if s = 0 then e else zby L (s - 1) := by
  unfold zby
  rw [Int64.toBitVec_add, Int64.toBitVec_mul, BitVec.toNat_add, BitVec.toNat_mul, zi_l (by omega), lN_bv, show (Int64.ofNat 256).toBitVec.toNat = 256 from rfl]
  have hl := L.toBitVec.isLt
  generalize L.toBitVec.toNat = x at *
  rcases (show s = 0 ∨ s = 1 ∨ s = 2 ∨ s = 3 ∨ s = 4 ∨ s = 5 ∨ s = 6 ∨ s = 7 by omega) with rfl | rfl | rfl | rfl | rfl | rfl | rfl | rfl
  · rw [if_pos rfl]
    simp only [Int.toNat_zero, Nat.mul_zero, Nat.reducePow]
    omega
  all_goals
    rw [if_neg (by decide)]
    simp only [Int.reduceSub, Int.reduceToNat, Nat.reduceMul, Nat.reducePow]
    omega
theorem zby_shr {L : Int64} {x : Int} (hx : 0 ≤ x ∧ x < 16) : qand (((L).toUInt64 >>> ((zi (8 * qand x 7)).toInt64.toUInt64 &&& Int64.toUInt64 63)).toInt64).toInt32.toInt 255 = zby L (x % 8) := by
  rw [qand_7 (by omega)]
  have hr : 0 ≤ x % 8 ∧ x % 8 < 8 := by omega
  generalize x % 8 = r at *
  have e1 : ((L.toUInt64 >>> ((zi (8 * r)).toInt64.toUInt64 &&& Int64.toUInt64 63)).toInt64).toBitVec.toNat = L.toBitVec.toNat / 2 ^ (8 * r.toNat) := by
    have e : ((L.toUInt64 >>> ((zi (8 * r)).toInt64.toUInt64 &&& Int64.toUInt64 63)).toInt64).toBitVec = L.toBitVec >>> (8 * r.toNat) := by
      rw [← zsh_uI hr]
      exact UInt64.toBitVec_shiftRight _ _
    rw [e, BitVec.toNat_ushiftRight, Nat.shiftRight_eq_div_pow]
  generalize (L.toUInt64 >>> ((zi (8 * r)).toInt64.toUInt64 &&& Int64.toUInt64 63)).toInt64 = M at *
  unfold qand
  rw [zi_to, pk_and M.toInt32 8 (by decide), nI_toInt (by omega)]
  have e2 : M.toInt32.toBitVec.toNat = M.toBitVec.toNat % 2 ^ 32 := by
    show (M.toBitVec.signExtend 32).toNat = _
    rw [BitVec.signExtend_eq_setWidth_of_le _ (by decide), BitVec.toNat_setWidth]
  rw [e2, e1]
  unfold zby
  generalize L.toBitVec.toNat / 2 ^ (8 * r.toNat) = y
  omega
