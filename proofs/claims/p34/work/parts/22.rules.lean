/-! part 22: the instructions as equations -/
def zck (c : Prop) [Decidable c] (x : Option (zRes × zM)) : Option (zRes × zM) := if c then x else none
theorem zck_t {c : Prop} [Decidable c] {x : Option (zRes × zM)} (h : c) : zck c x = x := if_pos h
theorem zck_ct {c : Prop} [Decidable c] {x y : Option (zRes × zM)} (h : c → x = y) : zck c x = zck c y := by
  unfold zck
  split
  · exact h (by assumption)
  · rfl
theorem zif_ct {c : Prop} [Decidable c] {x y x2 y2 : Option (zRes × zM)} (h : c → x = y) (h2 : ¬ c → x2 = y2) : (if c then x else x2) = if c then y else y2 := by
  split
  · exact h (by assumption)
  · exact h2 (by assumption)
/-- bits of ints -/
def qand (a b : Int) : Int := (zi a &&& zi b).toInt
def qor (a b : Int) : Int := (zi a ||| zi b).toInt
def qxor (a b : Int) : Int := (zi a ^^^ zi b).toInt
def qshl (a b : Int) : Int := (zi a <<< (zi b &&& 31)).toInt
def qshr (a b : Int) : Int := (zi a >>> (zi b &&& 31)).toInt
def qushr (a b : Int) : Int := ((zi a).toUInt32 >>> ((zi b).toUInt32 &&& Int32.toUInt32 31)).toInt32.toInt
def qdiv (a b : Int) : Int := (zi a / zi b).toInt
def qrem (a b : Int) : Int := (zi a - zi a / zi b * zi b).toInt
def qchr (a : Int) : Int := ((zi a).toUInt32 % 65536).toInt32.toInt
section
variable {y pc : Nat} {ls st rest : List Value} {m : zM} {V : zVt} {J : zJt} {d : Nat → Nat → UInt64}
theorem zi_to (x : Int32) : zi x.toInt = x := Int32.ofInt_toInt x
theorem zr_go {ins : Instr} {len pc1 : Nat} {ls1 st1 : List Value} {m1 : zM} (h : decode (zb y) pc = .ok (ins, len)) (hl : len = zlen ins len) (hs : zstep false y ins pc ls st m = some (.inl (pc1, ls1, st1, m1))) : zGo false y pc ls st m = zGo false y pc1 ls1 st1 m1 := by
  rw [zGo_in h hl, hs]
  rfl
theorem zr_ck {ins : Instr} {len pc1 : Nat} {ls1 st1 : List Value} {m1 : zM} {c P : Prop} [Decidable c] [Decidable P] (h : decode (zb y) pc = .ok (ins, len)) (hl : len = zlen ins len) (hs : zstep false y ins pc ls st m = zok c (some (.inl (pc1, ls1, st1, m1)))) (hc : c ↔ P) : zGo false y pc ls st m = zck P (zGo false y pc1 ls1 st1 m1) := by
  rw [zGo_in h hl, hs]
  unfold zok zck
  by_cases q : c
  · rw [if_pos q, if_pos (hc.mp q)]
    rfl
  · rw [if_neg q, if_neg (fun p => q (hc.mpr p))]
    rfl
theorem zr_br {ins : Instr} {t : Nat} {off : Int} {c P : Prop} [Decidable c] [Decidable P] (h : decode (zb y) pc = .ok (ins, 3)) (hl : 3 = zlen ins 3) (hs : zstep false y ins pc ls st m = zbr c pc off ls rest m) (ht : zj pc off = some t) (hc : c ↔ P) : zGo false y pc ls st m = if P then zGo false y t ls rest m else zGo false y (pc + 3) ls rest m := by
  rw [zGo_in h hl, hs]
  unfold zbr
  rw [ht]
  show zGoc false y m (if c then zgo t ls rest m else zgo (pc + 3) ls rest m) = _
  by_cases q : c
  · rw [if_pos q, if_pos (hc.mp q)]
    rfl
  · rw [if_neg q, if_neg (fun p => q (hc.mpr p))]
    rfl
theorem zr_iload_n {n : Fin 4} {x : Int32} (h : decode (zb y) pc = .ok (.iload_n n, 1)) (hl : zld1 ls n = some x) : zGo false y pc ls st m = zGo false y (pc + 1) ls (.int x :: st) m := zr_go h rfl (by simp only [zstep, hl]; rfl)
theorem zr_iload {n : Nat} {x : Int32} (h : decode (zb y) pc = .ok (.iload n, 2)) (hl : zld1 ls n = some x) : zGo false y pc ls st m = zGo false y (pc + 2) ls (.int x :: st) m := zr_go h rfl (by simp only [zstep, hl]; rfl)
theorem zr_aload_n {n : Fin 4} {x : Nat} (h : decode (zb y) pc = .ok (.aload_n n, 1)) (hl : zldr ls n = some x) : zGo false y pc ls st m = zGo false y (pc + 1) ls (.ref x :: st) m := zr_go h rfl (by simp only [zstep, hl]; rfl)
theorem zr_aload {n : Nat} {x : Nat} (h : decode (zb y) pc = .ok (.aload n, 2)) (hl : zldr ls n = some x) : zGo false y pc ls st m = zGo false y (pc + 2) ls (.ref x :: st) m := zr_go h rfl (by simp only [zstep, hl]; rfl)
theorem zr_lload_n {n : Fin 4} {x : Int64} (h : decode (zb y) pc = .ok (.lload_n n, 1)) (hl : zldl ls n = some x) : zGo false y pc ls st m = zGo false y (pc + 1) ls (.long x :: st) m := zr_go h rfl (by simp only [zstep, hl]; rfl)
theorem zr_lload {n : Nat} {x : Int64} (h : decode (zb y) pc = .ok (.lload n, 2)) (hl : zldl ls n = some x) : zGo false y pc ls st m = zGo false y (pc + 2) ls (.long x :: st) m := zr_go h rfl (by simp only [zstep, hl]; rfl)
theorem zr_fload {n : Nat} {x : UInt32} (h : decode (zb y) pc = .ok (.fload n, 2)) (hl : zldf ls n = some x) : zGo false y pc ls st m = zGo false y (pc + 2) ls (.float x :: st) m := zr_go h rfl (by simp only [zstep, hl]; rfl)
theorem zr_istore_n {n : Fin 4} {x : Int32} {l1 : List Value} (h : decode (zb y) pc = .ok (.istore_n n, 1)) (hl : zst1 ls n (.int x) = some l1) : zGo false y pc ls (.int x :: st) m = zGo false y (pc + 1) l1 st m := zr_go h rfl (by simp only [zstep, hl]; rfl)
theorem zr_istore {n : Nat} {x : Int32} {l1 : List Value} (h : decode (zb y) pc = .ok (.istore n, 2)) (hl : zst1 ls n (.int x) = some l1) : zGo false y pc ls (.int x :: st) m = zGo false y (pc + 2) l1 st m := zr_go h rfl (by simp only [zstep, hl]; rfl)
theorem zr_astore_n {n : Fin 4} {x : Nat} {l1 : List Value} (h : decode (zb y) pc = .ok (.astore_n n, 1)) (hl : zst1 ls n (.ref x) = some l1) : zGo false y pc ls (.ref x :: st) m = zGo false y (pc + 1) l1 st m := zr_go h rfl (by simp only [zstep, hl]; rfl)
theorem zr_astore {n : Nat} {x : Nat} {l1 : List Value} (h : decode (zb y) pc = .ok (.astore n, 2)) (hl : zst1 ls n (.ref x) = some l1) : zGo false y pc ls (.ref x :: st) m = zGo false y (pc + 2) l1 st m := zr_go h rfl (by simp only [zstep, hl]; rfl)
theorem zr_lstore_n {n : Fin 4} {x : Int64} {l1 : List Value} (h : decode (zb y) pc = .ok (.lstore_n n, 1)) (hl : zst2 ls n (.long x) = some l1) : zGo false y pc ls (.long x :: st) m = zGo false y (pc + 1) l1 st m := zr_go h rfl (by simp only [zstep, hl]; rfl)
theorem zr_lstore {n : Nat} {x : Int64} {l1 : List Value} (h : decode (zb y) pc = .ok (.lstore n, 2)) (hl : zst2 ls n (.long x) = some l1) : zGo false y pc ls (.long x :: st) m = zGo false y (pc + 2) l1 st m := zr_go h rfl (by simp only [zstep, hl]; rfl)
theorem zr_fstore {n : Nat} {x : UInt32} {l1 : List Value} (h : decode (zb y) pc = .ok (.fstore n, 2)) (hl : zst1 ls n (.float x) = some l1) : zGo false y pc ls (.float x :: st) m = zGo false y (pc + 2) l1 st m := zr_go h rfl (by simp only [zstep, hl]; rfl)
theorem zr_iinc {n : Nat} {k x : Int} {l1 : List Value} (h : decode (zb y) pc = .ok (.iinc n k, 3)) (hl : zld1 ls n = some (zi x)) (hs : zst1 ls n (.int (zi (x + k))) = some l1) : zGo false y pc ls st m = zGo false y (pc + 3) l1 st m := zr_go h rfl (by
  have e : zi x + Int32.ofInt k = zi (x + k) := zi_add x k
  simp only [zstep, hl, Option.bind_some, e, hs])
theorem zr_iconst {n : Int} (h : decode (zb y) pc = .ok (.iconst n, 1)) : zGo false y pc ls st m = zGo false y (pc + 1) ls (.int (zi n) :: st) m := zr_go h rfl rfl
theorem zr_bipush {n : Int} (h : decode (zb y) pc = .ok (.bipush n, 2)) (hn : (Int8.ofInt n).toInt32 = zi n) : zGo false y pc ls st m = zGo false y (pc + 2) ls (.int (zi n) :: st) m := zr_go h rfl (by simp only [zstep, hn])
theorem zr_sipush {n : Int} (h : decode (zb y) pc = .ok (.sipush n, 3)) (hn : (Int16.ofInt n).toInt32 = zi n) : zGo false y pc ls st m = zGo false y (pc + 3) ls (.int (zi n) :: st) m := zr_go h rfl (by simp only [zstep, hn])
theorem zr_lconst {n : Fin 2} (h : decode (zb y) pc = .ok (.lconst n, 1)) : zGo false y pc ls st m = zGo false y (pc + 1) ls (.long (Int64.ofNat n) :: st) m := zr_go h rfl rfl
theorem zr_fconst0 (h : decode (zb y) pc = .ok (.fconst 0, 1)) : zGo false y pc ls st m = zGo false y (pc + 1) ls (.float FP.fconst0 :: st) m := zr_go h rfl rfl
theorem zr_ldcI {i v w : Nat} (h : decode (zb y) pc = .ok (.ldc i, 2)) (hp : zpool (zc y) i = (5, v, w)) : zGo false y pc ls st m = zGo false y (pc + 2) ls (.int (zi v) :: st) m := zr_go h rfl (by simp only [zstep, hp]; rfl)
theorem zr_ldcF {i v w : Nat} (h : decode (zb y) pc = .ok (.ldc i, 2)) (hp : zpool (zc y) i = (7, v, w)) : zGo false y pc ls st m = zGo false y (pc + 2) ls (.float (UInt32.ofNat v) :: st) m := zr_go h rfl (by simp only [zstep, hp])
theorem zr_ldcwI {i v w : Nat} (h : decode (zb y) pc = .ok (.ldc_w i, 3)) (hp : zpool (zc y) i = (5, v, w)) : zGo false y pc ls st m = zGo false y (pc + 3) ls (.int (zi v) :: st) m := zr_go h rfl (by simp only [zstep, hp]; rfl)
theorem zr_ldcwF {i v w : Nat} (h : decode (zb y) pc = .ok (.ldc_w i, 3)) (hp : zpool (zc y) i = (7, v, w)) : zGo false y pc ls st m = zGo false y (pc + 3) ls (.float (UInt32.ofNat v) :: st) m := zr_go h rfl (by simp only [zstep, hp])
theorem zr_ldc2 {i v w : Nat} (h : decode (zb y) pc = .ok (.ldc2_w i, 3)) (hp : zpool (zc y) i = (6, v, w)) : zGo false y pc ls st m = zGo false y (pc + 3) ls (.long (Int64.ofNat v) :: st) m := zr_go h rfl (by simp only [zstep, hp])
theorem zr_iadd {a b : Int} (h : decode (zb y) pc = .ok (.iadd, 1)) : zGo false y pc ls (.int (zi b) :: .int (zi a) :: st) m = zGo false y (pc + 1) ls (.int (zi (a + b)) :: st) m := zr_go h rfl (by simp only [zstep, zi_add])
theorem zr_isub {a b : Int} (h : decode (zb y) pc = .ok (.isub, 1)) : zGo false y pc ls (.int (zi b) :: .int (zi a) :: st) m = zGo false y (pc + 1) ls (.int (zi (a - b)) :: st) m := zr_go h rfl (by simp only [zstep, zi_sub])
theorem zr_imul {a b : Int} (h : decode (zb y) pc = .ok (.imul, 1)) : zGo false y pc ls (.int (zi b) :: .int (zi a) :: st) m = zGo false y (pc + 1) ls (.int (zi (a * b)) :: st) m := zr_go h rfl (by simp only [zstep, zi_mul])
theorem zr_ineg {a : Int} (h : decode (zb y) pc = .ok (.ineg, 1)) : zGo false y pc ls (.int (zi a) :: st) m = zGo false y (pc + 1) ls (.int (zi (-a)) :: st) m := zr_go h rfl (by simp only [zstep, zi_neg])
theorem zr_iand {a b : Int} (h : decode (zb y) pc = .ok (.iand, 1)) : zGo false y pc ls (.int (zi b) :: .int (zi a) :: st) m = zGo false y (pc + 1) ls (.int (zi (qand a b)) :: st) m := zr_go h rfl (by simp only [zstep, qand, zi_to])
theorem zr_ior {a b : Int} (h : decode (zb y) pc = .ok (.ior, 1)) : zGo false y pc ls (.int (zi b) :: .int (zi a) :: st) m = zGo false y (pc + 1) ls (.int (zi (qor a b)) :: st) m := zr_go h rfl (by simp only [zstep, qor, zi_to])
theorem zr_ixor {a b : Int} (h : decode (zb y) pc = .ok (.ixor, 1)) : zGo false y pc ls (.int (zi b) :: .int (zi a) :: st) m = zGo false y (pc + 1) ls (.int (zi (qxor a b)) :: st) m := zr_go h rfl (by simp only [zstep, qxor, zi_to])
theorem zr_ishl {a b : Int} (h : decode (zb y) pc = .ok (.ishl, 1)) : zGo false y pc ls (.int (zi b) :: .int (zi a) :: st) m = zGo false y (pc + 1) ls (.int (zi (qshl a b)) :: st) m := zr_go h rfl (by simp only [zstep, qshl, zi_to])
theorem zr_ishr {a b : Int} (h : decode (zb y) pc = .ok (.ishr, 1)) : zGo false y pc ls (.int (zi b) :: .int (zi a) :: st) m = zGo false y (pc + 1) ls (.int (zi (qshr a b)) :: st) m := zr_go h rfl (by simp only [zstep, qshr, zi_to])
theorem zr_iushr {a b : Int} (h : decode (zb y) pc = .ok (.iushr, 1)) : zGo false y pc ls (.int (zi b) :: .int (zi a) :: st) m = zGo false y (pc + 1) ls (.int (zi (qushr a b)) :: st) m := zr_go h rfl (by simp only [zstep, qushr, zi_to])
theorem zr_i2c {a : Int} (h : decode (zb y) pc = .ok (.i2c, 1)) : zGo false y pc ls (.int (zi a) :: st) m = zGo false y (pc + 1) ls (.int (zi (qchr a)) :: st) m := zr_go h rfl (by simp only [zstep, qchr, zi_to])
theorem zr_idiv {a b : Int} (h : decode (zb y) pc = .ok (.idiv, 1)) : zGo false y pc ls (.int (zi b) :: .int (zi a) :: st) m = zck (qw b ≠ 0) (zGo false y (pc + 1) ls (.int (zi (qdiv a b)) :: st) m) := zr_ck (c := ¬ zi b = 0) h rfl (by simp only [zstep, qdiv, zi_to]) (by rw [← zi_0, zi_eq, qw_0])
theorem zr_irem {a b : Int} (h : decode (zb y) pc = .ok (.irem, 1)) : zGo false y pc ls (.int (zi b) :: .int (zi a) :: st) m = zck (qw b ≠ 0) (zGo false y (pc + 1) ls (.int (zi (qrem a b)) :: st) m) := zr_ck (c := ¬ zi b = 0) h rfl (by simp only [zstep, qrem, zi_to]) (by rw [← zi_0, zi_eq, qw_0])
theorem zr_ladd {a b : Int64} (h : decode (zb y) pc = .ok (.ladd, 1)) : zGo false y pc ls (.long b :: .long a :: st) m = zGo false y (pc + 1) ls (.long (a + b) :: st) m := zr_go h rfl rfl
theorem zr_lmul {a b : Int64} (h : decode (zb y) pc = .ok (.lmul, 1)) : zGo false y pc ls (.long b :: .long a :: st) m = zGo false y (pc + 1) ls (.long (a * b) :: st) m := zr_go h rfl rfl
theorem zr_land {a b : Int64} (h : decode (zb y) pc = .ok (.land, 1)) : zGo false y pc ls (.long b :: .long a :: st) m = zGo false y (pc + 1) ls (.long (a &&& b) :: st) m := zr_go h rfl rfl
theorem zr_lor {a b : Int64} (h : decode (zb y) pc = .ok (.lor, 1)) : zGo false y pc ls (.long b :: .long a :: st) m = zGo false y (pc + 1) ls (.long (a ||| b) :: st) m := zr_go h rfl rfl
theorem zr_lshl {a : Int64} {b : Int} (h : decode (zb y) pc = .ok (.lshl, 1)) : zGo false y pc ls (.int (zi b) :: .long a :: st) m = zGo false y (pc + 1) ls (.long (a <<< ((zi b).toInt64 &&& 63)) :: st) m := zr_go h rfl rfl
theorem zr_lshr {a : Int64} {b : Int} (h : decode (zb y) pc = .ok (.lshr, 1)) : zGo false y pc ls (.int (zi b) :: .long a :: st) m = zGo false y (pc + 1) ls (.long (a >>> ((zi b).toInt64 &&& 63)) :: st) m := zr_go h rfl rfl
theorem zr_lushr {a : Int64} {b : Int} (h : decode (zb y) pc = .ok (.lushr, 1)) : zGo false y pc ls (.int (zi b) :: .long a :: st) m = zGo false y (pc + 1) ls (.long (a.toUInt64 >>> ((zi b).toInt64.toUInt64 &&& Int64.toUInt64 63)).toInt64 :: st) m := zr_go h rfl rfl
theorem zr_lcmp {a b : Int64} (h : decode (zb y) pc = .ok (.lcmp, 1)) : zGo false y pc ls (.long b :: .long a :: st) m = zGo false y (pc + 1) ls (.int (zi (lg_cmp a b).toInt) :: st) m := zr_go h rfl (by simp only [zstep, zi_to])
theorem zr_i2l {a : Int} (h : decode (zb y) pc = .ok (.i2l, 1)) : zGo false y pc ls (.int (zi a) :: st) m = zGo false y (pc + 1) ls (.long (zi a).toInt64 :: st) m := zr_go h rfl rfl
theorem zr_l2i {a : Int64} (h : decode (zb y) pc = .ok (.l2i, 1)) : zGo false y pc ls (.long a :: st) m = zGo false y (pc + 1) ls (.int (zi a.toInt32.toInt) :: st) m := zr_go h rfl (by simp only [zstep, zi_to])
theorem zr_i2f {a : Int} (h : decode (zb y) pc = .ok (.i2f, 1)) : zGo false y pc ls (.int (zi a) :: st) m = zGo false y (pc + 1) ls (.float (FP.i2f (zi a)) :: st) m := zr_go h rfl rfl
theorem zr_fmul {a b : UInt32} (h : decode (zb y) pc = .ok (.fmul, 1)) : zGo false y pc ls (.float b :: .float a :: st) m = zck (FP.fmul a b &&& 0x7fffffff ≤ 0x7f800000) (zGo false y (pc + 1) ls (.float (FP.fmul a b) :: st) m) := zr_ck h rfl rfl Iff.rfl
theorem zr_fdiv {a b : UInt32} (h : decode (zb y) pc = .ok (.fdiv, 1)) : zGo false y pc ls (.float b :: .float a :: st) m = zck (FP.fdiv a b &&& 0x7fffffff ≤ 0x7f800000) (zGo false y (pc + 1) ls (.float (FP.fdiv a b) :: st) m) := zr_ck h rfl rfl Iff.rfl
theorem zr_dup {a : Value} (h : decode (zb y) pc = .ok (.dup, 1)) (hc : a.category = 1) : zGo false y pc ls (a :: st) m = zGo false y (pc + 1) ls (a :: a :: st) m := zr_go h rfl (by simp only [zstep, zok, if_pos hc])
theorem zr_dup2 {a b : Value} (h : decode (zb y) pc = .ok (.dup2, 1)) (hc : a.category = 1) (hd : b.category = 1) : zGo false y pc ls (a :: b :: st) m = zGo false y (pc + 1) ls (a :: b :: a :: b :: st) m := zr_go h rfl (by simp only [zstep, zok, if_pos (And.intro hc hd)])
theorem zr_pop {a : Value} (h : decode (zb y) pc = .ok (.pop, 1)) (hc : a.category = 1) : zGo false y pc ls (a :: st) m = zGo false y (pc + 1) ls st m := zr_go h rfl (by simp only [zstep, zok, if_pos hc])
theorem zr_goto {off : Int} {t : Nat} (h : decode (zb y) pc = .ok (.goto off, 3)) (ht : zj pc off = some t) : zGo false y pc ls st m = zGo false y t ls st m := zr_go h rfl (by simp only [zstep, ht]; rfl)
theorem zr_ifeq {off a : Int} {t : Nat} (h : decode (zb y) pc = .ok (.ifCond .eq off, 3)) (ht : zj pc off = some t) : zGo false y pc ls (.int (zi a) :: st) m = if qw a = 0 then zGo false y t ls st m else zGo false y (pc + 3) ls st m := zr_br (c := zi a = 0) h rfl rfl ht (by rw [← zi_0, zi_eq, qw_0])
theorem zr_ifne {off a : Int} {t : Nat} (h : decode (zb y) pc = .ok (.ifCond .ne off, 3)) (ht : zj pc off = some t) : zGo false y pc ls (.int (zi a) :: st) m = if qw a ≠ 0 then zGo false y t ls st m else zGo false y (pc + 3) ls st m := zr_br (c := zi a ≠ 0) h rfl rfl ht (by rw [← zi_0, Ne, zi_eq, qw_0])
theorem zr_iflt {off a : Int} {t : Nat} (h : decode (zb y) pc = .ok (.ifCond .lt off, 3)) (ht : zj pc off = some t) : zGo false y pc ls (.int (zi a) :: st) m = if qw a < 0 then zGo false y t ls st m else zGo false y (pc + 3) ls st m := zr_br (c := zi a < 0) h rfl rfl ht (by rw [← zi_0, zi_lt, qw_0])
theorem zr_ifge {off a : Int} {t : Nat} (h : decode (zb y) pc = .ok (.ifCond .ge off, 3)) (ht : zj pc off = some t) : zGo false y pc ls (.int (zi a) :: st) m = if 0 ≤ qw a then zGo false y t ls st m else zGo false y (pc + 3) ls st m := zr_br (c := 0 ≤ zi a) h rfl rfl ht (by rw [← zi_0, zi_le, qw_0])
theorem zr_ifgt {off a : Int} {t : Nat} (h : decode (zb y) pc = .ok (.ifCond .gt off, 3)) (ht : zj pc off = some t) : zGo false y pc ls (.int (zi a) :: st) m = if 0 < qw a then zGo false y t ls st m else zGo false y (pc + 3) ls st m := zr_br (c := 0 < zi a) h rfl rfl ht (by rw [← zi_0, zi_lt, qw_0])
theorem zr_ifle {off a : Int} {t : Nat} (h : decode (zb y) pc = .ok (.ifCond .le off, 3)) (ht : zj pc off = some t) : zGo false y pc ls (.int (zi a) :: st) m = if qw a ≤ 0 then zGo false y t ls st m else zGo false y (pc + 3) ls st m := zr_br (c := zi a ≤ 0) h rfl rfl ht (by rw [← zi_0, zi_le, qw_0])
theorem zr_ceq {off a b : Int} {t : Nat} (h : decode (zb y) pc = .ok (.if_icmp .eq off, 3)) (ht : zj pc off = some t) : zGo false y pc ls (.int (zi b) :: .int (zi a) :: st) m = if qw a = qw b then zGo false y t ls st m else zGo false y (pc + 3) ls st m := zr_br (c := zi a = zi b) h rfl rfl ht (zi_eq a b)
theorem zr_cne {off a b : Int} {t : Nat} (h : decode (zb y) pc = .ok (.if_icmp .ne off, 3)) (ht : zj pc off = some t) : zGo false y pc ls (.int (zi b) :: .int (zi a) :: st) m = if qw a ≠ qw b then zGo false y t ls st m else zGo false y (pc + 3) ls st m := zr_br (c := zi a ≠ zi b) h rfl rfl ht (by rw [Ne, zi_eq])
theorem zr_clt {off a b : Int} {t : Nat} (h : decode (zb y) pc = .ok (.if_icmp .lt off, 3)) (ht : zj pc off = some t) : zGo false y pc ls (.int (zi b) :: .int (zi a) :: st) m = if qw a < qw b then zGo false y t ls st m else zGo false y (pc + 3) ls st m := zr_br (c := zi a < zi b) h rfl rfl ht (zi_lt a b)
theorem zr_cge {off a b : Int} {t : Nat} (h : decode (zb y) pc = .ok (.if_icmp .ge off, 3)) (ht : zj pc off = some t) : zGo false y pc ls (.int (zi b) :: .int (zi a) :: st) m = if qw b ≤ qw a then zGo false y t ls st m else zGo false y (pc + 3) ls st m := zr_br (c := zi b ≤ zi a) h rfl rfl ht (zi_le b a)
theorem zr_cgt {off a b : Int} {t : Nat} (h : decode (zb y) pc = .ok (.if_icmp .gt off, 3)) (ht : zj pc off = some t) : zGo false y pc ls (.int (zi b) :: .int (zi a) :: st) m = if qw b < qw a then zGo false y t ls st m else zGo false y (pc + 3) ls st m := zr_br (c := zi b < zi a) h rfl rfl ht (zi_lt b a)
theorem zr_cle {off a b : Int} {t : Nat} (h : decode (zb y) pc = .ok (.if_icmp .le off, 3)) (ht : zj pc off = some t) : zGo false y pc ls (.int (zi b) :: .int (zi a) :: st) m = if qw a ≤ qw b then zGo false y t ls st m else zGo false y (pc + 3) ls st m := zr_br (c := zi a ≤ zi b) h rfl rfl ht (zi_le a b)
theorem zr_getI {i o c k n : Nat} (h : decode (zb y) pc = .ok (.getfield i, 3)) (hp : zpool (zc y) i = (1, c, k)) (hs : zS0 o = (c, n)) (hf : (Nat.blt c 13 && (Nat.blt k (zCl c).2.2 && !(Nat.beq (zfk c k) 2))) = true) : zGo false y pc ls (.ref o :: st) (zm V J d) = zGo false y (pc + 3) ls (.int (zi (V o k)) :: st) (zm V J d) := by
  simp only [Bool.and_eq_true, Bool.not_eq_true', Nat.blt_eq] at hf
  refine zr_go h rfl ?_
  have h2 : ¬ zfk c k = 2 := fun q => by rw [q] at hf; exact absurd hf.2.2 (by decide)
  simp only [zstep, hp]
  unfold zok
  rw [if_pos ⟨by show (zS0 o).1 = c; rw [hs], hf.1, hf.2.1⟩]
  unfold zgetf
  rw [if_neg h2, zm_rdk (zS0_lt hs (by omega))]
theorem zr_getR {i o c k n r : Nat} (h : decode (zb y) pc = .ok (.getfield i, 3)) (hp : zpool (zc y) i = (1, c, k)) (hs : zS0 o = (c, n)) (hf : (Nat.blt c 13 && (Nat.blt k (zCl c).2.2 && Nat.beq (zfk c k) 2)) = true) (hr : zR0 o k = some r) : zGo false y pc ls (.ref o :: st) (zm V J d) = zGo false y (pc + 3) ls (.ref r :: st) (zm V J d) := by
  simp only [Bool.and_eq_true, Nat.blt_eq] at hf
  refine zr_go h rfl ?_
  simp only [zstep, hp]
  unfold zok
  rw [if_pos ⟨by show (zS0 o).1 = c; rw [hs], hf.1, hf.2.1⟩]
  unfold zgetf
  rw [if_pos (Nat.eq_of_beq_eq_true hf.2.2)]
  have e : (zm V J d).2.1 o k = some r := hr
  rw [e]
  rfl
theorem zr_putI {i o c k n : Nat} {x : Int} (h : decode (zb y) pc = .ok (.putfield i, 3)) (hp : zpool (zc y) i = (1, c, k)) (hs : zS0 o = (c, n)) (hf : (Nat.blt c 13 && (Nat.blt k (zCl c).2.2 && (Nat.beq (zfk c k) 0 && !((zCl c).2.1 k).2.2.2))) = true) : zGo false y pc ls (.int (zi x) :: .ref o :: st) (zm V J d) = zGo false y (pc + 3) ls st (zm (vup V o k x) J d) := by
  simp only [Bool.and_eq_true, Bool.not_eq_true', Nat.blt_eq] at hf
  refine zr_go h rfl ?_
  simp only [zstep, hp]
  unfold zok
  rw [if_pos ⟨by show (zS0 o).1 = c; rw [hs], hf.1, hf.2.1, Or.inl (Nat.eq_of_beq_eq_true hf.2.2.1), hf.2.2.2⟩, zm_wrk (zS0_lt hs (by omega))]
theorem zr_putZ {i o c k n : Nat} {x : Int} (h : decode (zb y) pc = .ok (.putfield i, 3)) (hp : zpool (zc y) i = (1, c, k)) (hs : zS0 o = (c, n)) (hf : (Nat.blt c 13 && (Nat.blt k (zCl c).2.2 && (Nat.beq (zfk c k) 1 && !((zCl c).2.1 k).2.2.2))) = true) : zGo false y pc ls (.int (zi x) :: .ref o :: st) (zm V J d) = zck (qw x = 0 ∨ qw x = 1) (zGo false y (pc + 3) ls st (zm (vup V o k x) J d)) := by
  simp only [Bool.and_eq_true, Bool.not_eq_true', Nat.blt_eq] at hf
  have e1 : zfk c k = 1 := Nat.eq_of_beq_eq_true hf.2.2.1
  refine zr_ck (c := zi x = 0 ∨ zi x = 1) h rfl ?_ ?_
  · simp only [zstep, hp]
    unfold zok
    rw [zm_wrk (zS0_lt hs (by omega))]
    by_cases q : zi x = 0 ∨ zi x = 1
    · rw [if_pos ⟨by show (zS0 o).1 = c; rw [hs], hf.1, hf.2.1, Or.inr ⟨e1, q⟩, hf.2.2.2⟩, if_pos q]
    · rw [if_neg (fun p => p.2.2.2.1.elim (fun z => by rw [e1] at z; cases z) (fun z => q z.2)), if_neg q]
  · rw [← zi_0, zi_eq, show (1 : Int32) = zi 1 from rfl, zi_eq, qw_0, show qw 1 = 1 from by decide]
theorem zr_gets0 {i w : Nat} (h : decode (zb y) pc = .ok (.getstatic i, 3)) (hp : zpool (zc y) i = (8, 21, w)) : zGo false y pc ls st m = zGo false y (pc + 3) ls (.ref 1048576 :: st) m := zr_go h rfl (by simp only [zstep, hp])
theorem zr_gets1 {i w : Nat} (h : decode (zb y) pc = .ok (.getstatic i, 3)) (hp : zpool (zc y) i = (8, 22, w)) : zGo false y pc ls st m = zGo false y (pc + 3) ls (.ref 1048577 :: st) m := zr_go h rfl (by simp only [zstep, hp])
theorem zr_alen {o t n : Nat} (h : decode (zb y) pc = .ok (.arraylength, 1)) (hs : zS0 o = (t, n)) (ht : (Nat.ble 13 t && Nat.blt t 23) = true) : zGo false y pc ls (.ref o :: st) (zm V J d) = zGo false y (pc + 1) ls (.int (zi n) :: st) (zm V J d) := by
  simp only [Bool.and_eq_true, Nat.blt_eq, Nat.ble_eq] at ht
  refine zr_go h rfl ?_
  simp only [zstep]
  unfold zok
  have e : (zm V J d).1 o = (t, n) := hs
  rw [e, if_pos ht]
  rfl
theorem zr_iald {o n : Nat} {e : Int} (h : decode (zb y) pc = .ok (.iaload, 1)) (hs : zS0 o = (13, n)) : zGo false y pc ls (.int (zi e) :: .ref o :: st) (zm V J d) = zck (0 ≤ qw e ∧ qw e < n) (zGo false y (pc + 1) ls (.int (zi (V o (qw e))) :: st) (zm V J d)) := by
  have hs' : (zm V J d).1 o = (13, n) := hs
  rw [zGo_in h rfl]
  simp only [zstep, hs']
  unfold zok zck
  by_cases q : 0 ≤ qw e ∧ qw e < n
  · rw [if_pos ((zix_qw e n).mpr q), if_pos q, if_pos trivial, zm_rd (zS0_lt hs (by decide)) q.1]
    rfl
  · rw [if_neg (fun p => q ((zix_qw e n).mp p)), if_neg q]
    rfl
theorem zr_tald {o t : Nat} {e : Int} (h : decode (zb y) pc = .ok (.iaload, 1)) (hs : zS0 o = (t, 7)) (ht : t = 21 ∨ t = 22) : zGo false y pc ls (.int (zi e) :: .ref o :: st) (zm V J d) = zck (0 ≤ qw e ∧ qw e < 7) (zGo false y (pc + 1) ls (.int (zi (ztab t (qw e).toNat).toInt) :: st) (zm V J d)) := by
  have hs' : (zm V J d).1 o = (t, 7) := hs
  rw [zGo_in h rfl]
  simp only [zstep, hs', zi_to]
  unfold zok zck
  by_cases q : 0 ≤ qw e ∧ qw e < 7
  · have hq : (zi e).toNatClampNeg = (qw e).toNat := rfl
    rw [if_pos ((zix_qw e 7).mpr q), if_pos q, if_neg (by omega), if_pos ht, hq]
    rfl
  · rw [if_neg (fun p => q ((zix_qw e 7).mp p)), if_neg q]
    rfl
theorem zr_zald {o n : Nat} {e : Int} (h : decode (zb y) pc = .ok (.baload, 1)) (hs : zS0 o = (14, n)) : zGo false y pc ls (.int (zi e) :: .ref o :: st) (zm V J d) = zck (0 ≤ qw e ∧ qw e < n) (zGo false y (pc + 1) ls (.int (zi (V o (qw e))) :: st) (zm V J d)) := by
  have hs' : (zm V J d).1 o = (14, n) := hs
  rw [zGo_in h rfl]
  simp only [zstep, hs']
  unfold zok zck
  by_cases q : 0 ≤ qw e ∧ qw e < n
  · rw [if_pos ⟨(zix_qw e n).mpr q, trivial⟩, if_pos q, zm_rd (zS0_lt hs (by decide)) q.1]
    rfl
  · rw [if_neg (fun p => q ((zix_qw e n).mp p.1)), if_neg q]
    rfl
theorem zr_cald {o n : Nat} {e : Int} (h : decode (zb y) pc = .ok (.caload, 1)) (hs : zS0 o = (15, n)) : zGo false y pc ls (.int (zi e) :: .ref o :: st) (zm V J d) = zck (0 ≤ qw e ∧ qw e < n) (zGo false y (pc + 1) ls (.int (zi (V o (qw e))) :: st) (zm V J d)) := by
  have hs' : (zm V J d).1 o = (15, n) := hs
  rw [zGo_in h rfl]
  simp only [zstep, hs']
  unfold zok zck
  by_cases q : 0 ≤ qw e ∧ qw e < n
  · rw [if_pos ⟨(zix_qw e n).mpr q, trivial⟩, if_pos q, zm_rd (zS0_lt hs (by decide)) q.1]
    rfl
  · rw [if_neg (fun p => q ((zix_qw e n).mp p.1)), if_neg q]
    rfl
theorem zr_lald {o n : Nat} {e : Int} (h : decode (zb y) pc = .ok (.laload, 1)) (hs : zS0 o = (16, n)) : zGo false y pc ls (.int (zi e) :: .ref o :: st) (zm V J d) = zck (0 ≤ qw e ∧ qw e < n) (zGo false y (pc + 1) ls (.long (J o (qw e)) :: st) (zm V J d)) := by
  have hs' : (zm V J d).1 o = (16, n) := hs
  rw [zGo_in h rfl]
  simp only [zstep, hs']
  unfold zok zck
  by_cases q : 0 ≤ qw e ∧ qw e < n
  · rw [if_pos ⟨(zix_qw e n).mpr q, trivial⟩, if_pos q, zm_rdJ (zS0_lt hs (by decide)) q.1]
    rfl
  · rw [if_neg (fun p => q ((zix_qw e n).mp p.1)), if_neg q]
    rfl
theorem zr_parts {e : Int} (h : decode (zb y) pc = .ok (.aaload, 1)) : zGo false y pc ls (.int (zi e) :: .ref 1 :: st) (zm V J d) = zck (0 ≤ qw e ∧ qw e < 12) (zGo false y (pc + 1) ls (.ref (50 + 15 * (qw e).toNat) :: st) (zm V J d)) := by
  have hs' : (zm V J d).1 1 = (18, 12) := rfl
  rw [zGo_in h rfl]
  simp only [zstep, hs']
  unfold zok zck
  by_cases q : 0 ≤ qw e ∧ qw e < 12
  · have hq : (zi e).toNatClampNeg = (qw e).toNat := rfl
    have hr : (zm V J d).2.1 1 (qw e).toNat = some (50 + 15 * (qw e).toNat) := zR0_p q
    rw [if_pos ⟨(zix_qw e 12).mpr q, Or.inl trivial⟩, if_pos q, hq, hr]
    rfl
  · rw [if_neg (fun p => q ((zix_qw e 12).mp p.1)), if_neg q]
    rfl
theorem zr_copies {e : Int} (h : decode (zb y) pc = .ok (.aaload, 1)) : zGo false y pc ls (.int (zi e) :: .ref 2 :: st) (zm V J d) = zck (0 ≤ qw e ∧ qw e < 40) (zGo false y (pc + 1) ls (.ref (230 + 5 * (qw e).toNat) :: st) (zm V J d)) := by
  have hs' : (zm V J d).1 2 = (19, 40) := rfl
  rw [zGo_in h rfl]
  simp only [zstep, hs']
  unfold zok zck
  by_cases q : 0 ≤ qw e ∧ qw e < 40
  · have hq : (zi e).toNatClampNeg = (qw e).toNat := rfl
    have hr : (zm V J d).2.1 2 (qw e).toNat = some (230 + 5 * (qw e).toNat) := zR0_c q
    rw [if_pos ⟨(zix_qw e 40).mpr q, Or.inr trivial⟩, if_pos q, hq, hr]
    rfl
  · rw [if_neg (fun p => q ((zix_qw e 40).mp p.1)), if_neg q]
    rfl
theorem zr_iast {o n : Nat} {e x : Int} (h : decode (zb y) pc = .ok (.iastore, 1)) (hs : zS0 o = (13, n)) : zGo false y pc ls (.int (zi x) :: .int (zi e) :: .ref o :: st) (zm V J d) = zck (0 ≤ qw e ∧ qw e < n) (zGo false y (pc + 1) ls st (zm (vup V o (qw e) x) J d)) := by
  have hs' : (zm V J d).1 o = (13, n) := hs
  rw [zGo_in h rfl]
  simp only [zstep, hs']
  unfold zok zck
  by_cases q : 0 ≤ qw e ∧ qw e < n
  · rw [if_pos ⟨(zix_qw e n).mpr q, trivial⟩, if_pos q, zm_wr (zS0_lt hs (by decide)) q.1]
    rfl
  · rw [if_neg (fun p => q ((zix_qw e n).mp p.1)), if_neg q]
    rfl
theorem zr_zast {o n : Nat} {e x : Int} (h : decode (zb y) pc = .ok (.bastore, 1)) (hs : zS0 o = (14, n)) : zGo false y pc ls (.int (zi x) :: .int (zi e) :: .ref o :: st) (zm V J d) = zck ((0 ≤ qw e ∧ qw e < n) ∧ (qw x = 0 ∨ qw x = 1)) (zGo false y (pc + 1) ls st (zm (vup V o (qw e) x) J d)) := by
  have hs' : (zm V J d).1 o = (14, n) := hs
  have hx : (zi x = 0 ∨ zi x = 1) ↔ (qw x = 0 ∨ qw x = 1) := by rw [← zi_0, zi_eq, show (1 : Int32) = zi 1 from rfl, zi_eq, qw_0, show qw 1 = 1 from by decide]
  rw [zGo_in h rfl]
  simp only [zstep, hs']
  unfold zok zck
  by_cases q : (0 ≤ qw e ∧ qw e < n) ∧ (qw x = 0 ∨ qw x = 1)
  · rw [if_pos ⟨(zix_qw e n).mpr q.1, trivial, hx.mpr q.2⟩, if_pos q, zm_wr (zS0_lt hs (by decide)) q.1.1]
    rfl
  · rw [if_neg (fun p => q ⟨(zix_qw e n).mp p.1, hx.mp p.2.2⟩), if_neg q]
    rfl
theorem zr_cast {o n : Nat} {e x : Int} (h : decode (zb y) pc = .ok (.castore, 1)) (hs : zS0 o = (15, n)) : zGo false y pc ls (.int (zi x) :: .int (zi e) :: .ref o :: st) (zm V J d) = zck ((0 ≤ qw e ∧ qw e < n) ∧ (0 ≤ qw x ∧ qw x ≤ 65535)) (zGo false y (pc + 1) ls st (zm (vup V o (qw e) x) J d)) := by
  have hs' : (zm V J d).1 o = (15, n) := hs
  have hx : (0 ≤ zi x ∧ zi x ≤ 65535) ↔ (0 ≤ qw x ∧ qw x ≤ 65535) := by rw [← zi_0, zi_le, show (65535 : Int32) = zi 65535 from rfl, zi_le, qw_0, show qw 65535 = 65535 from by decide]
  rw [zGo_in h rfl]
  simp only [zstep, hs']
  unfold zok zck
  by_cases q : (0 ≤ qw e ∧ qw e < n) ∧ (0 ≤ qw x ∧ qw x ≤ 65535)
  · rw [if_pos ⟨(zix_qw e n).mpr q.1, trivial, hx.mpr q.2⟩, if_pos q, zm_wr (zS0_lt hs (by decide)) q.1.1]
    rfl
  · rw [if_neg (fun p => q ⟨(zix_qw e n).mp p.1, hx.mp p.2.2⟩), if_neg q]
    rfl
theorem zr_last {o n : Nat} {e : Int} {x : Int64} (h : decode (zb y) pc = .ok (.lastore, 1)) (hs : zS0 o = (16, n)) : zGo false y pc ls (.long x :: .int (zi e) :: .ref o :: st) (zm V J d) = zck (0 ≤ qw e ∧ qw e < n) (zGo false y (pc + 1) ls st (zm V (jup J o (qw e) x) d)) := by
  have hs' : (zm V J d).1 o = (16, n) := hs
  rw [zGo_in h rfl]
  simp only [zstep, hs']
  unfold zok zck
  by_cases q : 0 ≤ qw e ∧ qw e < n
  · rw [if_pos ⟨(zix_qw e n).mpr q, trivial⟩, if_pos q, zm_wrJ (zS0_lt hs (by decide)) q.1]
    rfl
  · rw [if_neg (fun p => q ((zix_qw e n).mp p.1)), if_neg q]
    rfl
/-- ends -/
theorem zr_end {ins : Instr} {r : zRes} {len : Nat} (h : decode (zb y) pc = .ok (ins, len)) (hl : len = zlen ins len) (hs : zstep false y ins pc ls st m = some (.inr (.inr r))) : zGo false y pc ls st m = some (r, m) := by
  rw [zGo_in h hl, hs]
  rfl
theorem zr_iret {a : Int} (h : decode (zb y) pc = .ok (.ireturn, 1)) (hr : zr y = some .int) : zGo false y pc ls [.int (zi a)] m = some (.inl (some (.int (zi a))), m) := zr_end h rfl (by simp only [zstep, hr]; rfl)
theorem zr_lret {a : Int64} (h : decode (zb y) pc = .ok (.lreturn, 1)) (hr : zr y = some .long) : zGo false y pc ls [.long a] m = some (.inl (some (.long a)), m) := zr_end h rfl (by simp only [zstep, hr]; rfl)
theorem zr_fret {a : UInt32} (h : decode (zb y) pc = .ok (.freturn, 1)) (hr : zr y = some .float) : zGo false y pc ls [.float a] m = some (.inl (some (.float a)), m) := zr_end h rfl (by simp only [zstep, hr]; rfl)
theorem zr_aret {a : Nat} {n : String} (h : decode (zb y) pc = .ok (.areturn, 1)) (hr : zr y = some (.object n)) : zGo false y pc ls [.ref a] m = some (.inl (some (.ref a)), m) := zr_end h rfl (by simp only [zstep, hr]; rfl)
theorem zr_vret (h : decode (zb y) pc = .ok (.return_, 1)) (hr : zr y = none) : zGo false y pc ls [] m = some (.inl none, m) := zr_end h rfl (by simp only [zstep, hr]; rfl)
theorem zr_zret {a : Int} (h : decode (zb y) pc = .ok (.ireturn, 1)) (hr : zr y = some .boolean) : zGo false y pc ls [.int (zi a)] m = zck (qw a = 0 ∨ qw a = 1) (some (.inl (some (.int (zi a))), m)) := by
  have hx : (zi a = 0 ∨ zi a = 1) ↔ (qw a = 0 ∨ qw a = 1) := by rw [← zi_0, zi_eq, show (1 : Int32) = zi 1 from rfl, zi_eq, qw_0, show qw 1 = 1 from by decide]
  rw [zGo_in h rfl]
  simp only [zstep, hr]
  unfold zck
  by_cases q : qw a = 0 ∨ qw a = 1
  · rw [if_pos q]
    show zGoc false y m (Option.bind (if zi a = 0 ∨ zi a = 1 then some (Value.int (zi a)) else (none : Option Value)) _) = _
    rw [if_pos (hx.mpr q)]
    rfl
  · rw [if_neg q]
    show zGoc false y m (Option.bind (if zi a = 0 ∨ zi a = 1 then some (Value.int (zi a)) else (none : Option Value)) _) = _
    rw [if_neg (fun p => q (hx.mp p))]
    rfl
theorem zr_cret {a : Int} (h : decode (zb y) pc = .ok (.ireturn, 1)) (hr : zr y = some .char) : zGo false y pc ls [.int (zi a)] m = zck (0 ≤ qw a ∧ qw a ≤ 65535) (some (.inl (some (.int (zi a))), m)) := by
  have hx : (0 ≤ zi a ∧ zi a ≤ 65535) ↔ (0 ≤ qw a ∧ qw a ≤ 65535) := by rw [← zi_0, zi_le, show (65535 : Int32) = zi 65535 from rfl, zi_le, qw_0, show qw 65535 = 65535 from by decide]
  rw [zGo_in h rfl]
  simp only [zstep, hr]
  unfold zck
  by_cases q : 0 ≤ qw a ∧ qw a ≤ 65535
  · rw [if_pos q]
    show zGoc false y m (Option.bind (if 0 ≤ zi a ∧ zi a ≤ 65535 then some (Value.int (zi a)) else (none : Option Value)) _) = _
    rw [if_pos (hx.mpr q)]
    rfl
  · rw [if_neg q]
    show zGoc false y m (Option.bind (if 0 ≤ zi a ∧ zi a ≤ 65535 then some (Value.int (zi a)) else (none : Option Value)) _) = _
    rw [if_neg (fun p => q (hx.mp p))]
    rfl
theorem zr_thr {i e w : Nat} (h : decode (zb y) pc = .ok (.new i, 3)) (hp : zpool (zc y) i = (9, e, w)) (ht : zthrows y pc = true) (hl : st.length ≤ 4) : zGo false y pc ls st m = some (.inr e, m) := zr_end h rfl (by
  simp only [zstep, hp]
  unfold zok
  rw [if_pos ⟨ht, hl⟩])
/-- calls -/
theorem zr_call {ins : Instr} {z pc1 : Nat} {as L : List Value} (h : decode (zb y) pc = .ok (ins, 3)) (hl : 3 = zlen ins 3) (hs : zstep false y ins pc ls st m = zcall y z pc as ls rest) (hf : zfit y z = true) (ha : zarg as = true) (h4 : zcs rest ≤ 8) (h5 : as.length ≤ zl z) (he : zent z as = L) (h1 : pc + 3 = pc1) : zGo false y pc ls st m = (zGo false z 0 L [] m).bind (zGor false y pc1 ls rest) := by
  rw [zGo_in h hl, hs]
  unfold zcall
  rw [if_pos ⟨hf, ha, h4, h5⟩]
  show (zGo false z 0 (zent z as) [] m).bind (zGor false y (pc + 3) ls rest) = _
  rw [he, h1]
theorem zr_cS {i z w pc1 n r : Nat} {t L : List Value} (h : decode (zb y) pc = .ok (.invokestatic i, 3)) (hp : zpool (zc y) i = (2, z, w)) (hn : t.length = n) (hr : zcs rest = r) (ha : zarg t.reverse = true) (hk : (Nat.beq (zk z) 1 && (Nat.beq (za z) n && (zfit y z && (Nat.ble r 8 && Nat.ble n (zl z))))) = true) (he : zent z t.reverse = L) (h1 : pc + 3 = pc1) : zGo false y pc ls (t ++ rest) m = (zGo false z 0 L [] m).bind (zGor false y pc1 ls rest) := by
  subst hn hr
  simp only [Bool.and_eq_true, Nat.ble_eq] at hk
  obtain ⟨k1, k2, k3, k5, k6⟩ := hk
  refine zr_call h rfl ?_ k3 ha k5 (by rw [List.length_reverse]; exact k6) he h1
  have k2' : za z = t.length := Nat.eq_of_beq_eq_true k2
  simp only [zstep, hp]
  rw [k2', List.take_left, List.drop_left]
  unfold zok
  rw [if_pos ⟨Nat.eq_of_beq_eq_true k1, by rw [List.length_append]; omega⟩]
theorem zr_cV {i z w o n r u pc1 : Nat} {t L : List Value} (h : decode (zb y) pc = .ok (.invokevirtual i, 3)) (hp : zpool (zc y) i = (2, z, w)) (hs : zS0 o = (zc z, u)) (hn : t.length = n) (hr : zcs rest = r) (ha : zarg t.reverse = true) (hk : (Nat.beq (zk z) 0 && (Nat.beq (za z) n && (zfit y z && (Nat.ble r 8 && (Nat.ble (n + 1) (zl z) && Nat.blt (zc z) 13))))) = true) (he : zent z (.ref o :: t.reverse) = L) (h1 : pc + 3 = pc1) : zGo false y pc ls (t ++ .ref o :: rest) (zm V J d) = (zGo false z 0 L [] (zm V J d)).bind (zGor false y pc1 ls rest) := by
  subst hn hr
  simp only [Bool.and_eq_true, Nat.ble_eq, Nat.blt_eq] at hk
  obtain ⟨k1, k2, k3, k5, k6, k7⟩ := hk
  have k2' : za z = t.length := Nat.eq_of_beq_eq_true k2
  have hs' : ((zm V J d).1 o).1 = zc z := by show (zS0 o).1 = _; rw [hs]
  refine zr_call (as := .ref o :: t.reverse) h rfl ?_ k3 ha k5 (by rw [List.length_cons, List.length_reverse]; exact k6) he h1
  simp only [zstep, hp]
  rw [k2', List.take_left, List.drop_left]
  show zok _ _ = _
  unfold zok
  rw [if_pos ⟨Nat.eq_of_beq_eq_true k1, by rw [List.length_append, List.length_cons]; omega, hs', k7⟩]
/-- switches -/
noncomputable def zSwt (y : Nat) (ls st : List Value) (m : zM) : Option Nat → Option (zRes × zM) := fun t => t.elim none (fun t => zGo false y t ls st m)
noncomputable def zSwg (y pc : Nat) (ls st : List Value) (m : zM) (off : Int) : Option (zRes × zM) := zSwt y ls st m (zj pc off)
theorem zSwg_to {off : Int} {t : Nat} (h : zj pc off = some t) : zSwg y pc ls st m off = zGo false y t ls st m := by
  unfold zSwg
  rw [h]
  rfl
def ztsel : Int → List Int → Int → Int → Int
  | _, [], d, _ => d
  | lo, o :: r, d, x => if x = lo then o else ztsel (lo + 1) r d x
theorem ztsel_out : ∀ (offs : List Int) (lo d x : Int), (x < lo ∨ lo + offs.length ≤ x) → ztsel lo offs d x = d
  | [], _, _, _, _ => rfl
  | o :: r, lo, d, x, h => by
    have h2 : lo + (r.length + 1 : Nat) ≤ x ∨ x < lo := h.symm
    unfold ztsel
    rw [if_neg (by omega)]
    exact ztsel_out r (lo + 1) d x (by omega)
theorem ztsel_in : ∀ (offs : List Int) (lo d x : Int), lo ≤ x → x < lo + offs.length → offs[(x - lo).toNat]? = some (ztsel lo offs d x)
  | [], lo, d, x, h1, h2 => by simp at h2; omega
  | o :: r, lo, d, x, h1, h2 => by
    have h3 : x < lo + (r.length + 1 : Nat) := h2
    unfold ztsel
    by_cases q : x = lo
    · rw [if_pos q, q, Int.sub_self]
      rfl
    · rw [if_neg q, show (x - lo).toNat = (x - (lo + 1)).toNat + 1 by omega, List.getElem?_cons_succ]
      exact ztsel_in r (lo + 1) d x (by omega) (by omega)
theorem zr_tsw {dflt lo hi : Int} {offs : Array Int} {len : Nat} {a : Int} (h : decode (zb y) pc = .ok (.tableswitch dflt lo hi offs, len)) (hh : hi = lo + offs.size - 1) : zGo false y pc ls (.int (zi a) :: st) m = zSwg y pc ls st m (ztsel lo offs.toList dflt (qw a)) := by
  rw [zGo_in h rfl]
  simp only [zstep]
  have hq : (zi a).toInt = qw a := rfl
  have hsz : (offs.toList.length : Int) = offs.size := by rw [Array.length_toList]
  rw [hq]
  by_cases c : qw a < lo ∨ hi < qw a
  · rw [if_pos c, ztsel_out _ _ _ _ (by omega)]
    unfold zSwg
    cases zj pc dflt <;> rfl
  · rw [if_neg c, ← Array.getElem?_toList, ztsel_in offs.toList lo dflt (qw a) (by omega) (by omega)]
    unfold zSwg
    show zGoc false y m ((zj pc (ztsel lo offs.toList dflt (qw a))).bind fun t => zgo t ls st m) = _
    cases zj pc (ztsel lo offs.toList dflt (qw a)) <;> rfl
def zlsel : List (Int × Int) → Int → Int → Int
  | [], d, _ => d
  | (k, o) :: r, d, x => if x = k then o else zlsel r d x
theorem zlsel_eq : ∀ (l : List (Int × Int)) (d x : Int), Op.lookupswitch.offset l d x = zlsel l d x
  | [], d, x => rfl
  | (k, o) :: r, d, x => by
    have e : Op.lookupswitch.offset ((k, o) :: r) d x = if k = x then o else Op.lookupswitch.offset r d x := rfl
    rw [e, zlsel_eq r d x]
    show _ = if x = k then o else zlsel r d x
    by_cases q : x = k
    · rw [if_pos q.symm, if_pos q]
    · rw [if_neg (fun z => q z.symm), if_neg q]
theorem zr_lsw {dflt : Int} {ps : Array (Int × Int)} {len : Nat} {a : Int} (h : decode (zb y) pc = .ok (.lookupswitch dflt ps, len)) (hp : (ps.toList.zip (ps.toList.drop 1)).all (fun (a, next) => a.1 < next.1) = true) : zGo false y pc ls (.int (zi a) :: st) m = zSwg y pc ls st m (zlsel ps.toList dflt (qw a)) := by
  rw [zGo_in h rfl]
  simp only [zstep]
  have hq : (zi a).toInt = qw a := rfl
  rw [hq, zlsel_eq]
  unfold zok
  rw [if_pos hp]
  unfold zSwg
  cases zj pc (zlsel ps.toList dflt (qw a)) <;> rfl
theorem zSwg_t {lo d x o : Int} {r : List Int} {t : Nat} (h : zj pc o = some t) : zSwg y pc ls st m (ztsel lo (o :: r) d x) = if x = lo then zGo false y t ls st m else zSwg y pc ls st m (ztsel (lo + 1) r d x) := by
  show zSwg y pc ls st m (if x = lo then o else ztsel (lo + 1) r d x) = _
  by_cases q : x = lo
  · rw [if_pos q, if_pos q, zSwg_to h]
  · rw [if_neg q, if_neg q]
theorem zSwg_l {k d x o : Int} {r : List (Int × Int)} {t : Nat} (h : zj pc o = some t) : zSwg y pc ls st m (zlsel ((k, o) :: r) d x) = if x = k then zGo false y t ls st m else zSwg y pc ls st m (zlsel r d x) := by
  show zSwg y pc ls st m (if x = k then o else zlsel r d x) = _
  by_cases q : x = k
  · rw [if_pos q, if_pos q, zSwg_to h]
  · rw [if_neg q, if_neg q]
theorem zSwg_td {lo d x : Int} {t : Nat} (h : zj pc d = some t) : zSwg y pc ls st m (ztsel lo [] d x) = zGo false y t ls st m := zSwg_to h
theorem zSwg_ld {d x : Int} {t : Nat} (h : zj pc d = some t) : zSwg y pc ls st m (zlsel [] d x) = zGo false y t ls st m := zSwg_to h
end
