/-! part 00: the numbers of seconds are no NaN (rows of the whole library: this part stands first, so that the round is read over the whole of it at once) -/
theorem zfNum {a : UInt32} (h : FP.fIsNaN a = false) : a &&& 0x7fffffff ≤ 0x7f800000 := by
  have h1 : ¬ (2139095040 < a.toNat % 2 ^ 31) := fun q => by
    have := (FP.Core.isNaN_bits32 a).2 q
    exact Bool.false_ne_true (h.symm.trans this)
  rw [UInt32.le_iff_toNat_le, UInt32.toNat_and, show (0x7fffffff : UInt32).toNat = 2 ^ 31 - 1 from rfl, Nat.and_two_pow_sub_one_eq_mod]
  show _ ≤ 2139095040
  omega
theorem zfN64 {a : UInt32} (h : FP.fIsNaN a = false) : vf_n64 (FP.f2d a) := by
  have h2 : FP.dIsNaN (FP.f2d a) = false := (FP.f2d_nan a).trans h
  have h1 : ¬ (9218868437227405312 < (FP.f2d a).toNat % 2 ^ 63) := fun q => by
    have := (FP.Core.isNaN_bits (FP.f2d a)).2 q
    exact Bool.false_ne_true (h2.symm.trans this)
  unfold vf_n64
  rw [UInt64.le_iff_toNat_le, UInt64.toNat_and, show (0x7fffffffffffffff : UInt64).toNat = 2 ^ 63 - 1 from rfl, Nat.and_two_pow_sub_one_eq_mod]
  show _ ≤ 9218868437227405312
  omega
theorem zfCmp {a : UInt32} (h : FP.fIsNaN a = false) : FP.dcmp (FP.f2d a) (FP.f2d a) = some .eq := FP.Core.dcmp_refl ((FP.f2d_nan a).trans h)
theorem zfMul (v : Int32) : FP.fIsNaN (FP.fmul (FP.i2f v) (UInt32.ofNat 1097859072)) = false := FP.Core.fmul_out (FP.Core.i2f_fin v) ((FP.Core.fin_bits32 _).2 (by decide))
theorem zfDiv (v : Int32) {u : Int32} (h : u ≠ 0) : FP.fIsNaN (FP.fdiv (FP.fmul (FP.i2f v) (UInt32.ofNat 1097859072)) (FP.i2f u)) = false := FP.Core.fdiv_out (zfMul v) (FP.Core.i2f_fin u) (fun q => FP.Core.i2f_ne_zero h ((FP.Core.zero_bits232 _).1 q))
theorem zfNeg : FP.fIsNaN (UInt32.ofNat 3212836864) = false := by decide
