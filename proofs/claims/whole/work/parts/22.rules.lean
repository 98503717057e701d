/-! part 22: the instructions as equations -/
def zck (c : Prop) [Decidable c] (x : Option (zRes × zM)) : Option (zRes × zM) := if c then x else none
theorem zck_t {c : Prop} [Decidable c] {x : Option (zRes × zM)} (h : c) : zck c x = x := if_pos h
theorem zck_ct {c : Prop} [Decidable c] {x y : Option (zRes × zM)} (h : c → x = y) : zck c x = zck c y := by
  unfold zck
  split
  · exact h (by assumption)
  · rfl
theorem zif_ct {c : Prop} [Decidable c] {x y x2 y2 : Option (zRes × zM)} (h : c → x = y) (h2 : ¬ c → x2 = y2) : (if c then x else x2) = if c then y else y2 := by
  split
  · exact h (by assumption)
  · exact h2 (by assumption)
/-- bits of ints -/
def qand (a b : Int) : Int := (zi a &&& zi b).toInt
def qor (a b : Int) : Int := (zi a ||| zi b).toInt
def qxor (a b : Int) : Int := (zi a ^^^ zi b).toInt
def qshl (a b : Int) : Int := (zi a <<< (zi b &&& 31)).toInt
def qshr (a b : Int) : Int := (zi a >>> (zi b &&& 31)).toInt
def qushr (a b : Int) : Int := ((zi a).toUInt32 >>> ((zi b).toUInt32 &&& Int32.toUInt32 31)).toInt32.toInt
def qdiv (a b : Int) : Int := (zi a / zi b).toInt
def qrem (a b : Int) : Int := (zi a - zi a / zi b * zi b).toInt
def qchr (a : Int) : Int := ((zi a).toUInt32 % 65536).toInt32.toInt
section
variable {y pc : Nat} {ls st rest : List Value} {m : zM} {V : zVt} {J : zJt} {d : Nat → Nat → UInt64}
theorem zi_to (x : Int32) : zi x.toInt = x := Int32.ofInt_toInt x
theorem zr_go {ins : Instr} {len pc1 : Nat} {ls1 st1 : List Value} {m1 : zM} (h : decode (zb y) pc = .ok (ins, len)) (hl : len = zlen ins len) (hs : zstep false y ins pc ls st m = some (.inl (pc1, ls1, st1, m1))) : zGo false y pc ls st m = zGo false y pc1 ls1 st1 m1 := by
  rw [zGo_in h hl, hs]
  rfl
theorem zr_ck {ins : Instr} {len pc1 : Nat} {ls1 st1 : List Value} {m1 : zM} {c P : Prop} [Decidable c] [Decidable P] (h : decode (zb y) pc = .ok (ins, len)) (hl : len = zlen ins len) (hs : zstep false y ins pc ls st m = zok c (some (.inl (pc1, ls1, st1, m1)))) (hc : c ↔ P) : zGo false y pc ls st m = zck P (zGo false y pc1 ls1 st1 m1) := by
  rw [zGo_in h hl, hs]
  unfold zok zck
  by_cases q : c
  · rw [if_pos q, if_pos (hc.mp q)]
    rfl
  · rw [if_neg q, if_neg (fun p => q (hc.mpr p))]
    rfl
theorem zr_br {ins : Instr} {t : Nat} {off : Int} {c P : Prop} [Decidable c] [Decidable P] (h : decode (zb y) pc = .ok (ins, 3)) (hl : 3 = zlen ins 3) (hs : zstep false y ins pc ls st m = zbr c pc off ls rest m) (ht : zj pc off = some t) (hc : c ↔ P) : zGo false y pc ls st m = if P then zGo false y t ls rest m else zGo false y (pc + 3) ls rest m := by
  rw [zGo_in h hl, hs]
  unfold zbr
  rw [ht]
  show zGoc false y m (if c then zgo t ls rest m else zgo (pc + 3) ls rest m) = _
  by_cases q : c
  · rw [if_pos q, if_pos (hc.mp q)]
    rfl
  · rw [if_neg q, if_neg (fun p => q (hc.mpr p))]
    rfl
theorem zr_iload_n {n : Fin 4} {x : Int32} (h : decode (zb y) pc = .ok (.iload_n n, 1)) (hl : zld1 ls n = some x) : zGo false y pc ls st m = zGo false y (pc + 1) ls (.int x :: st) m := zr_go h rfl (by simp only [zstep, hl]; rfl)
theorem zr_iload {n : Nat} {x : Int32} (h : decode (zb y) pc = .ok (.iload n, 2)) (hl : zld1 ls n = some x) : zGo false y pc ls st m = zGo false y (pc + 2) ls (.int x :: st) m := zr_go h rfl (by simp only [zstep, hl]; rfl)
theorem zr_aload_n {n : Fin 4} {x : Nat} (h : decode (zb y) pc = .ok (.aload_n n, 1)) (hl : zldr ls n = some x) : zGo false y pc ls st m = zGo false y (pc + 1) ls (.ref x :: st) m := zr_go h rfl (by simp only [zstep, hl]; rfl)
theorem zr_aload {n : Nat} {x : Nat} (h : decode (zb y) pc = .ok (.aload n, 2)) (hl : zldr ls n = some x) : zGo false y pc ls st m = zGo false y (pc + 2) ls (.ref x :: st) m := zr_go h rfl (by simp only [zstep, hl]; rfl)
theorem zr_lload_n {n : Fin 4} {x : Int64} (h : decode (zb y) pc = .ok (.lload_n n, 1)) (hl : zldl ls n = some x) : zGo false y pc ls st m = zGo false y (pc + 1) ls (.long x :: st) m := zr_go h rfl (by simp only [zstep, hl]; rfl)
theorem zr_lload {n : Nat} {x : Int64} (h : decode (zb y) pc = .ok (.lload n, 2)) (hl : zldl ls n = some x) : zGo false y pc ls st m = zGo false y (pc + 2) ls (.long x :: st) m := zr_go h rfl (by simp only [zstep, hl]; rfl)
theorem zr_fload {n : Nat} {x : UInt32} (h : decode (zb y) pc = .ok (.fload n, 2)) (hl : zldf ls n = some x) : zGo false y pc ls st m = zGo false y (pc + 2) ls (.float x :: st) m := zr_go h rfl (by simp only [zstep, hl]; rfl)
theorem zr_istore_n {n : Fin 4} {x : Int32} {l1 : List Value} (h : decode (zb y) pc = .ok (.istore_n n, 1)) (hl : zst1 ls n (.int x) = some l1) : zGo false y pc ls (.int x :: st) m = zGo false y (pc + 1) l1 st m := zr_go h rfl (by simp only [zstep, hl]; rfl)
theorem zr_istore {n : Nat} {x : Int32} {l1 : List Value} (h : decode (zb y) pc = .ok (.istore n, 2)) (hl : zst1 ls n (.int x) = some l1) : zGo false y pc ls (.int x :: st) m = zGo false y (pc + 2) l1 st m := zr_go h rfl (by simp only [zstep, hl]; rfl)
theorem zr_astore_n {n : Fin 4} {x : Nat} {l1 : List Value} (h : decode (zb y) pc = .ok (.astore_n n, 1)) (hl : zst1 ls n (.ref x) = some l1) : zGo false y pc ls (.ref x :: st) m = zGo false y (pc + 1) l1 st m := zr_go h rfl (by simp only [zstep, hl]; rfl)
theorem zr_astore {n : Nat} {x : Nat} {l1 : List Value} (h : decode (zb y) pc = .ok (.astore n, 2)) (hl : zst1 ls n (.ref x) = some l1) : zGo false y pc ls (.ref x :: st) m = zGo false y (pc + 2) l1 st m := zr_go h rfl (by simp only [zstep, hl]; rfl)
theorem zr_lstore_n {n : Fin 4} {x : Int64} {l1 : List Value} (h : decode (zb y) pc = .ok (.lstore_n n, 1)) (hl : zst2 ls n (.long x) = some l1) : zGo false y pc ls (.long x :: st) m = zGo false y (pc + 1) l1 st m := zr_go h rfl (by simp only [zstep, hl]; rfl)
theorem zr_lstore {n : Nat} {x : Int64} {l1 : List Value} (h : decode (zb y) pc = .ok (.lstore n, 2)) (hl : zst2 ls n (.long x) = some l1) : zGo false y pc ls (.long x :: st) m = zGo false y (pc + 2) l1 st m := zr_go h rfl (by simp only [zstep, hl]; rfl)
theorem zr_fstore {n : Nat} {x : UInt32} {l1 : List Value} (h : decode (zb y) pc = .ok (.fstore n, 2)) (hl : zst1 ls n (.float x) = some l1) : zGo false y pc ls (.float x :: st) m = zGo false y (pc + 2) l1 st m := zr_go h rfl (by simp only [zstep, hl]; rfl)
theorem zr_iinc {n : Nat} {k x : Int} {l1 : List Value} (h : decode (zb y) pc = .ok (.iinc n k, 3)) (hl : zld1 ls n = some (zi x)) (hs : zst1 ls n (.int (zi (x + k))) = some l1) : zGo false y pc ls st m = zGo false y (pc + 3) l1 st m := zr_go h rfl (by
  have e : zi x + Int32.ofInt k = zi (x + k) := zi_add x k
  simp only [zstep, hl, Option.bind_some, e, hs])
theorem zr_iconst {n : Int} (h : decode (zb y) pc = .ok (.iconst n, 1)) : zGo false y pc ls st m = zGo false y (pc + 1) ls (.int (zi n) :: st) m := zr_go h rfl rfl
theorem zr_bipush {n : Int} (h : decode (zb y) pc = .ok (.bipush n, 2)) (hn : (Int8.ofInt n).toInt32 = zi n) : zGo false y pc ls st m = zGo false y (pc + 2) ls (.int (zi n) :: st) m := zr_go h rfl (by simp only [zstep, hn])
theorem zr_sipush {n : Int} (h : decode (zb y) pc = .ok (.sipush n, 3)) (hn : (Int16.ofInt n).toInt32 = zi n) : zGo false y pc ls st m = zGo false y (pc + 3) ls (.int (zi n) :: st) m := zr_go h rfl (by simp only [zstep, hn])
theorem zr_lconst {n : Fin 2} (h : decode (zb y) pc = .ok (.lconst n, 1)) : zGo false y pc ls st m = zGo false y (pc + 1) ls (.long (Int64.ofNat n) :: st) m := zr_go h rfl rfl
theorem zr_fconst0 (h : decode (zb y) pc = .ok (.fconst 0, 1)) : zGo false y pc ls st m = zGo false y (pc + 1) ls (.float FP.fconst0 :: st) m := zr_go h rfl rfl
theorem zr_ldcI {i v w : Nat} (h : decode (zb y) pc = .ok (.ldc i, 2)) (hp : zpool (zc y) i = (5, v, w)) : zGo false y pc ls st m = zGo false y (pc + 2) ls (.int (zi v) :: st) m := zr_go h rfl (by simp only [zstep, hp]; rfl)
theorem zr_ldcF {i v w : Nat} (h : decode (zb y) pc = .ok (.ldc i, 2)) (hp : zpool (zc y) i = (7, v, w)) : zGo false y pc ls st m = zGo false y (pc + 2) ls (.float (UInt32.ofNat v) :: st) m := zr_go h rfl (by simp only [zstep, hp])
theorem zr_ldcwF {i v w : Nat} (h : decode (zb y) pc = .ok (.ldc_w i, 3)) (hp : zpool (zc y) i = (7, v, w)) : zGo false y pc ls st m = zGo false y (pc + 3) ls (.float (UInt32.ofNat v) :: st) m := zr_go h rfl (by simp only [zstep, hp])
theorem zr_ldc2 {i v w : Nat} (h : decode (zb y) pc = .ok (.ldc2_w i, 3)) (hp : zpool (zc y) i = (6, v, w)) : zGo false y pc ls st m = zGo false y (pc + 3) ls (.long (Int64.ofNat v) :: st) m := zr_go h rfl (by simp only [zstep, hp])
theorem zr_iadd {a b : Int} (h : decode (zb y) pc = .ok (.iadd, 1)) : zGo false y pc ls (.int (zi b) :: .int (zi a) :: st) m = zGo false y (pc + 1) ls (.int (zi (a + b)) :: st) m := zr_go h rfl (by simp only [zstep, zi_add])
theorem zr_isub {a b : Int} (h : decode (zb y) pc = .ok (.isub, 1)) : zGo false y pc ls (.int (zi b) :: .int (zi a) :: st) m = zGo false y (pc + 1) ls (.int (zi (a - b)) :: st) m := zr_go h rfl (by simp only [zstep, zi_sub])
theorem zr_imul {a b : Int} (h : decode (zb y) pc = .ok (.imul, 1)) : zGo false y pc ls (.int (zi b) :: .int (zi a) :: st) m = zGo false y (pc + 1) ls (.int (zi (a * b)) :: st) m := zr_go h rfl (by simp only [zstep, zi_mul])
theorem zr_ineg {a : Int} (h : decode (zb y) pc = .ok (.ineg, 1)) : zGo false y pc ls (.int (zi a) :: st) m = zGo false y (pc + 1) ls (.int (zi (-a)) :: st) m := zr_go h rfl (by simp only [zstep, zi_neg])
theorem zr_iand {a b : Int} (h : decode (zb y) pc = .ok (.iand, 1)) : zGo false y pc ls (.int (zi b) :: .int (zi a) :: st) m = zGo false y (pc + 1) ls (.int (zi (qand a b)) :: st) m := zr_go h rfl (by simp only [zstep, qand, zi_to])
theorem zr_ior {a b : Int} (h : decode (zb y) pc = .ok (.ior, 1)) : zGo false y pc ls (.int (zi b) :: .int (zi a) :: st) m = zGo false y (pc + 1) ls (.int (zi (qor a b)) :: st) m := zr_go h rfl (by simp only [zstep, qor, zi_to])
theorem zr_ixor {a b : Int} (h : decode (zb y) pc = .ok (.ixor, 1)) : zGo false y pc ls (.int (zi b) :: .int (zi a) :: st) m = zGo false y (pc + 1) ls (.int (zi (qxor a b)) :: st) m := zr_go h rfl (by simp only [zstep, qxor, zi_to])
theorem zr_ishl {a b : Int} (h : decode (zb y) pc = .ok (.ishl, 1)) : zGo false y pc ls (.int (zi b) :: .int (zi a) :: st) m = zGo false y (pc + 1) ls (.int (zi (qshl a b)) :: st) m := zr_go h rfl (by simp only [zstep, qshl, zi_to])
theorem zr_ishr {a b : Int} (h : decode (zb y) pc = .ok (.ishr, 1)) : zGo false y pc ls (.int (zi b) :: .int (zi a) :: st) m = zGo false y (pc + 1) ls (.int (zi (qshr a b)) :: st) m := zr_go h rfl (by simp only [zstep, qshr, zi_to])
theorem zr_iushr {a b : Int} (h : decode (zb y) pc = .ok (.iushr, 1)) : zGo false y pc ls (.int (zi b) :: .int (zi a) :: st) m = zGo false y (pc + 1) ls (.int (zi (qushr a b)) :: st) m := zr_go h rfl (by simp only [zstep, qushr, zi_to])
theorem zr_i2c {a : Int} (h : decode (zb y) pc = .ok (.i2c, 1)) : zGo false y pc ls (.int (zi a) :: st) m = zGo false y (pc + 1) ls (.int (zi (qchr a)) :: st) m := zr_go h rfl (by simp only [zstep, qchr, zi_to])
theorem zr_idiv {a b : Int} (h : decode (zb y) pc = .ok (.idiv, 1)) : zGo false y pc ls (.int (zi b) :: .int (zi a) :: st) m = zck (qw b ≠ 0) (zGo false y (pc + 1) ls (.int (zi (qdiv a b)) :: st) m) := zr_ck (c := ¬ zi b = 0) h rfl (by simp only [zstep, qdiv, zi_to]) (by rw [← zi_0, zi_eq, qw_0])
theorem zr_irem {a b : Int} (h : decode (zb y) pc = .ok (.irem, 1)) : zGo false y pc ls (.int (zi b) :: .int (zi a) :: st) m = zck (qw b ≠ 0) (zGo false y (pc + 1) ls (.int (zi (qrem a b)) :: st) m) := zr_ck (c := ¬ zi b = 0) h rfl (by simp only [zstep, qrem, zi_to]) (by rw [← zi_0, zi_eq, qw_0])
theorem zr_ladd {a b : Int64} (h : decode (zb y) pc = .ok (.ladd, 1)) : zGo false y pc ls (.long b :: .long a :: st) m = zGo false y (pc + 1) ls (.long (a + b) :: st) m := zr_go h rfl rfl
theorem zr_lmul {a b : Int64} (h : decode (zb y) pc = .ok (.lmul, 1)) : zGo false y pc ls (.long b :: .long a :: st) m = zGo false y (pc + 1) ls (.long (a * b) :: st) m := zr_go h rfl rfl
theorem zr_land {a b : Int64} (h : decode (zb y) pc = .ok (.land, 1)) : zGo false y pc ls (.long b :: .long a :: st) m = zGo false y (pc + 1) ls (.long (a &&& b) :: st) m := zr_go h rfl rfl
theorem zr_lor {a b : Int64} (h : decode (zb y) pc = .ok (.lor, 1)) : zGo false y pc ls (.long b :: .long a :: st) m = zGo false y (pc + 1) ls (.long (a ||| b) :: st) m := zr_go h rfl rfl
theorem zr_lshl {a : Int64} {b : Int} (h : decode (zb y) pc = .ok (.lshl, 1)) : zGo false y pc ls (.int (zi b) :: .long a :: st) m = zGo false y (pc + 1) ls (.long (a <<< ((zi b).toInt64 &&& 63)) :: st) m := zr_go h rfl rfl
theorem zr_lshr {a : Int64} {b : Int} (h : decode (zb y) pc = .ok (.lshr, 1)) : zGo false y pc ls (.int (zi b) :: .long a :: st) m = zGo false y (pc + 1) ls (.long (a >>> ((zi b).toInt64 &&& 63)) :: st) m := zr_go h rfl rfl
theorem zr_lushr {a : Int64} {b : Int} (h : decode (zb y) pc = .ok (.lushr, 1)) : zGo false y pc ls (.int (zi b) :: .long a :: st) m = zGo false y (pc + 1) ls (.long (a.toUInt64 >>> ((zi b).toInt64.toUInt64 &&& Int64.toUInt64 63)).toInt64 :: st) m := zr_go h rfl rfl
theorem zr_lcmp {a b : Int64} (h : decode (zb y) pc = .ok (.lcmp, 1)) : zGo false y pc ls (.long b :: .long a :: st) m = zGo false y (pc + 1) ls (.int (zi (lg_cmp a b).toInt) :: st) m := zr_go h rfl (by simp only [zstep, zi_to])
theorem zr_i2l {a : Int} (h : decode (zb y) pc = .ok (.i2l, 1)) : zGo false y pc ls (.int (zi a) :: st) m = zGo false y (pc + 1) ls (.long (zi a).toInt64 :: st) m := zr_go h rfl rfl
theorem zr_l2i {a : Int64} (h : decode (zb y) pc = .ok (.l2i, 1)) : zGo false y pc ls (.long a :: st) m = zGo false y (pc + 1) ls (.int (zi a.toInt32.toInt) :: st) m := zr_go h rfl (by simp only [zstep, zi_to])
theorem zr_i2f {a : Int} (h : decode (zb y) pc = .ok (.i2f, 1)) : zGo false y pc ls (.int (zi a) :: st) m = zGo false y (pc + 1) ls (.float (FP.i2f (zi a)) :: st) m := zr_go h rfl rfl
theorem zr_fmul {a b : UInt32} (h : decode (zb y) pc = .ok (.fmul, 1)) : zGo false y pc ls (.float b :: .float a :: st) m = zck (FP.fmul a b &&& 0x7fffffff ≤ 0x7f800000) (zGo false y (pc + 1) ls (.float (FP.fmul a b) :: st) m) := zr_ck h rfl rfl Iff.rfl
theorem zr_fdiv {a b : UInt32} (h : decode (zb y) pc = .ok (.fdiv, 1)) : zGo false y pc ls (.float b :: .float a :: st) m = zck (FP.fdiv a b &&& 0x7fffffff ≤ 0x7f800000) (zGo false y (pc + 1) ls (.float (FP.fdiv a b) :: st) m) := zr_ck h rfl rfl Iff.rfl
theorem zr_dup {a : Value} (h : decode (zb y) pc = .ok (.dup, 1)) (hc : a.category = 1) : zGo false y pc ls (a :: st) m = zGo false y (pc + 1) ls (a :: a :: st) m := zr_go h rfl (by simp only [zstep, zok, if_pos hc])
theorem zr_dup2 {a b : Value} (h : decode (zb y) pc = .ok (.dup2, 1)) (hc : a.category = 1) (hd : b.category = 1) : zGo false y pc ls (a :: b :: st) m = zGo false y (pc + 1) ls (a :: b :: a :: b :: st) m := zr_go h rfl (by simp only [zstep, zok, if_pos (And.intro hc hd)])
theorem zr_pop {a : Value} (h : decode (zb y) pc = .ok (.pop, 1)) (hc : a.category = 1) : zGo false y pc ls (a :: st) m = zGo false y (pc + 1) ls st m := zr_go h rfl (by simp only [zstep, zok, if_pos hc])
theorem zr_goto {off : Int} {t : Nat} (h : decode (zb y) pc = .ok (.goto off, 3)) (ht : zj pc off = some t) : zGo false y pc ls st m = zGo false y t ls st m := zr_go h rfl (by simp only [zstep, ht]; rfl)
theorem zr_ifeq {off a : Int} {t : Nat} (h : decode (zb y) pc = .ok (.ifCond .eq off, 3)) (ht : zj pc off = some t) : zGo false y pc ls (.int (zi a) :: st) m = if qw a = 0 then zGo false y t ls st m else zGo false y (pc + 3) ls st m := zr_br (c := zi a = 0) h rfl rfl ht (by rw [← zi_0, zi_eq, qw_0])
theorem zr_ifne {off a : Int} {t : Nat} (h : decode (zb y) pc = .ok (.ifCond .ne off, 3)) (ht : zj pc off = some t) : zGo false y pc ls (.int (zi a) :: st) m = if qw a ≠ 0 then zGo false y t ls st m else zGo false y (pc + 3) ls st m := zr_br (c := zi a ≠ 0) h rfl rfl ht (by rw [← zi_0, Ne, zi_eq, qw_0])
theorem zr_iflt {off a : Int} {t : Nat} (h : decode (zb y) pc = .ok (.ifCond .lt off, 3)) (ht : zj pc off = some t) : zGo false y pc ls (.int (zi a) :: st) m = if qw a < 0 then zGo false y t ls st m else zGo false y (pc + 3) ls st m := zr_br (c := zi a < 0) h rfl rfl ht (by rw [← zi_0, zi_lt, qw_0])
theorem zr_ifge {off a : Int} {t : Nat} (h : decode (zb y) pc = .ok (.ifCond .ge off, 3)) (ht : zj pc off = some t) : zGo false y pc ls (.int (zi a) :: st) m = if 0 ≤ qw a then zGo false y t ls st m else zGo false y (pc + 3) ls st m := zr_br (c := 0 ≤ zi a) h rfl rfl ht (by rw [← zi_0, zi_le, qw_0])
theorem zr_ifgt {off a : Int} {t : Nat} (h : decode (zb y) pc = .ok (.ifCond .gt off, 3)) (ht : zj pc off = some t) : zGo false y pc ls (.int (zi a) :: st) m = if 0 < qw a then zGo false y t ls st m else zGo false y (pc + 3) ls st m := zr_br (c := 0 < zi a) h rfl rfl ht (by rw [← zi_0, zi_lt, qw_0])
theorem zr_ifle {off a : Int} {t : Nat} (h : decode (zb y) pc = .ok (.ifCond .le off, 3)) (ht : zj pc off = some t) : zGo false y pc ls (.int (zi a) :: st) m = if qw a ≤ 0 then zGo false y t ls st m else zGo false y (pc + 3) ls st m := zr_br (c := zi a ≤ 0) h rfl rfl ht (by rw [← zi_0, zi_le, qw_0])
theorem zr_ceq {off a b : Int} {t : Nat} (h : decode (zb y) pc = .ok (.if_icmp .eq off, 3)) (ht : zj pc off = some t) : zGo false y pc ls (.int (zi b) :: .int (zi a) :: st) m = if qw a = qw b then zGo false y t ls st m else zGo false y (pc + 3) ls st m := zr_br (c := zi a = zi b) h rfl rfl ht (zi_eq a b)
theorem zr_cne {off a b : Int} {t : Nat} (h : decode (zb y) pc = .ok (.if_icmp .ne off, 3)) (ht : zj pc off = some t) : zGo false y pc ls (.int (zi b) :: .int (zi a) :: st) m = if qw a ≠ qw b then zGo false y t ls st m else zGo false y (pc + 3) ls st m := zr_br (c := zi a ≠ zi b) h rfl rfl ht (by rw [Ne, zi_eq])
theorem zr_clt {off a b : Int} {t : Nat} (h : decode (zb y) pc = .ok (.if_icmp .lt off, 3)) (ht : zj pc off = some t) : zGo false y pc ls (.int (zi b) :: .int (zi a) :: st) m = if qw a < qw b then zGo false y t ls st m else zGo false y (pc + 3) ls st m := zr_br (c := zi a < zi b) h rfl rfl ht (zi_lt a b)
theorem zr_cge {off a b : Int} {t : Nat} (h : decode (zb y) pc = .ok (.if_icmp .ge off, 3)) (ht : zj pc off = some t) : zGo false y pc ls (.int (zi b) :: .int (zi a) :: st) m = if qw b ≤ qw a then zGo false y t ls st m else zGo false y (pc + 3) ls st m := zr_br (c := zi b ≤ zi a) h rfl rfl ht (zi_le b a)
theorem zr_cgt {off a b : Int} {t : Nat} (h : decode (zb y) pc = .ok (.if_icmp .gt off, 3)) (ht : zj pc off = some t) : zGo false y pc ls (.int (zi b) :: .int (zi a) :: st) m = if qw b < qw a then zGo false y t ls st m else zGo false y (pc + 3) ls st m := zr_br (c := zi b < zi a) h rfl rfl ht (zi_lt b a)
theorem zr_cle {off a b : Int} {t : Nat} (h : decode (zb y) pc = .ok (.if_icmp .le off, 3)) (ht : zj pc off = some t) : zGo false y pc ls (.int (zi b) :: .int (zi a) :: st) m = if qw a ≤ qw b then zGo false y t ls st m else zGo false y (pc + 3) ls st m := zr_br (c := zi a ≤ zi b) h rfl rfl ht (zi_le a b)
