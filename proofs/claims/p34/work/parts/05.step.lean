/-! part 05: the small machine's step and run -/
abbrev zy (k : Nat) : MethodName := zyL.getD k ⟨"", "", ""⟩
abbrev zb (k : Nat) : ByteArray := zbL.getD k ⟨#[]⟩
abbrev zl (k : Nat) : Nat := zlL.getD k 0
abbrev zr (k : Nat) : Option FieldType := zrL.getD k none
abbrev zc (k : Nat) : Nat := zcL.getD k 0
abbrev za (k : Nat) : Nat := zaL.getD k 0
abbrev zk (k : Nat) : Nat := zkL.getD k 0
abbrev zf (k : Nat) : Nat := zfL.getD k 0
abbrev zw (k : Nat) : Nat := zwL.getD k 0
def zpool (c i : Nat) : Nat × Nat × Nat := ((zP.getD c []).lookup i).getD (0, 0, 0)
/-- a call's numbers fit: the callee's frames and locals within the caller's -/
def zfit (y z : Nat) : Bool := decide (z < 237) && (Nat.ble (zf z + 1) (zf y) && Nat.ble (8 + (zl z + 11) + zw z) (zw y))
def zthrows (y pc : Nat) : Bool := zTh.any fun q => Nat.beq q.1 y && Nat.beq q.2.1 pc
/-- a method's answer, by its type -/
def zans : Option FieldType → List Value → Option Value
  | some .int, [.int x] => some (.int x)
  | some .boolean, [.int x] => if x = 0 ∨ x = 1 then some (.int x) else none
  | some .char, [.int x] => if 0 ≤ x ∧ x ≤ 65535 then some (.int x) else none
  | some .long, [.long x] => some (.long x)
  | some .float, [.float x] => some (.float x)
  | some (.object _), [.ref x] => some (.ref x)
  | _, _ => none
/-- which return: 1 int, boolean, char; 2 long; 3 float; 4 a reference -/
def zri : Option FieldType → Nat
  | some .int => 1
  | some .boolean => 1
  | some .char => 1
  | some .long => 2
  | some .float => 3
  | some (.object _) => 4
  | _ => 0
/-- how many words a stack takes -/
abbrev zcs (l : List Value) : Nat := (l.map fun v => v.category).sum
def zcall (y z pc : Nat) (as : List Value) (ls rest : List Value) : Option zC :=
  if zfit y z = true ∧ zarg as = true ∧ zcs rest ≤ 8 ∧ as.length ≤ zl z then some (.inr (.inl (z, as, pc + 3, ls, rest))) else none
/-- loads and stores of arrays -/
def zald (m : zM) (o : Nat) (i : Int32) (t : Nat) : Option Unit := if (m.1 o).1 = t ∧ zix i (m.1 o).2 then some () else none
def zstep (al : Bool) (y : Nat) (ins : Instr) (pc : Nat) (ls st : List Value) (m : zM) : Option zC :=
  match ins, st with
  | .aload_n n, st => (zldr ls n).bind fun x => zgo (pc + 1) ls (.ref x :: st) m
  | .aload n, st => (zldr ls n).bind fun x => zgo (pc + 2) ls (.ref x :: st) m
  | .iload_n n, st => (zld1 ls n).bind fun x => zgo (pc + 1) ls (.int x :: st) m
  | .iload n, st => (zld1 ls n).bind fun x => zgo (pc + 2) ls (.int x :: st) m
  | .lload_n n, st => (zldl ls n).bind fun x => zgo (pc + 1) ls (.long x :: st) m
  | .lload n, st => (zldl ls n).bind fun x => zgo (pc + 2) ls (.long x :: st) m
  | .fload n, st => (zldf ls n).bind fun x => zgo (pc + 2) ls (.float x :: st) m
  | .istore_n n, .int x :: st => (zst1 ls n (.int x)).bind fun ls => zgo (pc + 1) ls st m
  | .istore n, .int x :: st => (zst1 ls n (.int x)).bind fun ls => zgo (pc + 2) ls st m
  | .astore_n n, .ref x :: st => (zst1 ls n (.ref x)).bind fun ls => zgo (pc + 1) ls st m
  | .astore n, .ref x :: st => (zst1 ls n (.ref x)).bind fun ls => zgo (pc + 2) ls st m
  | .lstore_n n, .long x :: st => (zst2 ls n (.long x)).bind fun ls => zgo (pc + 1) ls st m
  | .lstore n, .long x :: st => (zst2 ls n (.long x)).bind fun ls => zgo (pc + 2) ls st m
  | .fstore n, .float x :: st => (zst1 ls n (.float x)).bind fun ls => zgo (pc + 2) ls st m
  | .iinc n k, st => (zld1 ls n).bind fun x => (zst1 ls n (.int (x + Int32.ofInt k))).bind fun ls => zgo (pc + 3) ls st m
  | .iconst n, st => zgo (pc + 1) ls (.int (Int32.ofInt n) :: st) m
  | .bipush n, st => zgo (pc + 2) ls (.int (Int8.ofInt n).toInt32 :: st) m
  | .sipush n, st => zgo (pc + 3) ls (.int (Int16.ofInt n).toInt32 :: st) m
  | .lconst n, st => zgo (pc + 1) ls (.long (Int64.ofNat n) :: st) m
  | .fconst 0, st => zgo (pc + 1) ls (.float FP.fconst0 :: st) m
  | .ldc i, st => match zpool (zc y) i with
    | (5, v, _) => zgo (pc + 2) ls (.int (Int32.ofNat v) :: st) m
    | (7, v, _) => zgo (pc + 2) ls (.float (UInt32.ofNat v) :: st) m
    | _ => none
  | .ldc_w i, st => match zpool (zc y) i with
    | (5, v, _) => zgo (pc + 3) ls (.int (Int32.ofNat v) :: st) m
    | (7, v, _) => zgo (pc + 3) ls (.float (UInt32.ofNat v) :: st) m
    | _ => none
  | .ldc2_w i, st => match zpool (zc y) i with
    | (6, v, _) => zgo (pc + 3) ls (.long (Int64.ofNat v) :: st) m
    | _ => none
  | .iadd, .int b :: .int a :: st => zgo (pc + 1) ls (.int (a + b) :: st) m
  | .isub, .int b :: .int a :: st => zgo (pc + 1) ls (.int (a - b) :: st) m
  | .imul, .int b :: .int a :: st => zgo (pc + 1) ls (.int (a * b) :: st) m
  | .idiv, .int b :: .int a :: st => zok (¬ b = 0) (zgo (pc + 1) ls (.int (a / b) :: st) m)
  | .irem, .int b :: .int a :: st => zok (¬ b = 0) (zgo (pc + 1) ls (.int (a - a / b * b) :: st) m)
  | .ineg, .int a :: st => zgo (pc + 1) ls (.int (-a) :: st) m
  | .iand, .int b :: .int a :: st => zgo (pc + 1) ls (.int (a &&& b) :: st) m
  | .ior, .int b :: .int a :: st => zgo (pc + 1) ls (.int (a ||| b) :: st) m
  | .ixor, .int b :: .int a :: st => zgo (pc + 1) ls (.int (a ^^^ b) :: st) m
  | .ishl, .int b :: .int a :: st => zgo (pc + 1) ls (.int (a <<< (b &&& 31)) :: st) m
  | .ishr, .int b :: .int a :: st => zgo (pc + 1) ls (.int (a >>> (b &&& 31)) :: st) m
  | .iushr, .int b :: .int a :: st => zgo (pc + 1) ls (.int (a.toUInt32 >>> (b.toUInt32 &&& Int32.toUInt32 31)).toInt32 :: st) m
  | .ladd, .long b :: .long a :: st => zgo (pc + 1) ls (.long (a + b) :: st) m
  | .lmul, .long b :: .long a :: st => zgo (pc + 1) ls (.long (a * b) :: st) m
  | .land, .long b :: .long a :: st => zgo (pc + 1) ls (.long (a &&& b) :: st) m
  | .lor, .long b :: .long a :: st => zgo (pc + 1) ls (.long (a ||| b) :: st) m
  | .lshl, .int b :: .long a :: st => zgo (pc + 1) ls (.long (a <<< (b.toInt64 &&& 63)) :: st) m
  | .lshr, .int b :: .long a :: st => zgo (pc + 1) ls (.long (a >>> (b.toInt64 &&& 63)) :: st) m
  | .lushr, .int b :: .long a :: st => zgo (pc + 1) ls (.long (a.toUInt64 >>> (b.toInt64.toUInt64 &&& Int64.toUInt64 63)).toInt64 :: st) m
  | .lcmp, .long b :: .long a :: st => zgo (pc + 1) ls (.int (lg_cmp a b) :: st) m
  | .i2l, .int a :: st => zgo (pc + 1) ls (.long a.toInt64 :: st) m
  | .l2i, .long a :: st => zgo (pc + 1) ls (.int a.toInt32 :: st) m
  | .i2c, .int a :: st => zgo (pc + 1) ls (.int (a.toUInt32 % 65536).toInt32 :: st) m
  | .i2f, .int a :: st => zgo (pc + 1) ls (.float (FP.i2f a) :: st) m
  | .fmul, .float b :: .float a :: st => zok (FP.fmul a b &&& 0x7fffffff ≤ 0x7f800000) (zgo (pc + 1) ls (.float (FP.fmul a b) :: st) m)
  | .fdiv, .float b :: .float a :: st => zok (FP.fdiv a b &&& 0x7fffffff ≤ 0x7f800000) (zgo (pc + 1) ls (.float (FP.fdiv a b) :: st) m)
  | .dup, a :: st => zok (a.category = 1) (zgo (pc + 1) ls (a :: a :: st) m)
  | .dup2, a :: b :: st => zok (a.category = 1 ∧ b.category = 1) (zgo (pc + 1) ls (a :: b :: a :: b :: st) m)
  | .pop, a :: st => zok (a.category = 1) (zgo (pc + 1) ls st m)
  | .goto off, st => (zj pc off).bind fun t => zgo t ls st m
  | .ifCond .eq off, .int a :: st => zbr (a = 0) pc off ls st m
  | .ifCond .ne off, .int a :: st => zbr (a ≠ 0) pc off ls st m
  | .ifCond .lt off, .int a :: st => zbr (a < 0) pc off ls st m
  | .ifCond .ge off, .int a :: st => zbr (0 ≤ a) pc off ls st m
  | .ifCond .gt off, .int a :: st => zbr (0 < a) pc off ls st m
  | .ifCond .le off, .int a :: st => zbr (a ≤ 0) pc off ls st m
  | .if_icmp .eq off, .int b :: .int a :: st => zbr (a = b) pc off ls st m
  | .if_icmp .ne off, .int b :: .int a :: st => zbr (a ≠ b) pc off ls st m
  | .if_icmp .lt off, .int b :: .int a :: st => zbr (a < b) pc off ls st m
  | .if_icmp .ge off, .int b :: .int a :: st => zbr (b ≤ a) pc off ls st m
  | .if_icmp .gt off, .int b :: .int a :: st => zbr (b < a) pc off ls st m
  | .if_icmp .le off, .int b :: .int a :: st => zbr (a ≤ b) pc off ls st m
  | .tableswitch d lo hi offs, .int a :: st => if a.toInt < lo ∨ hi < a.toInt then (zj pc d).bind fun t => zgo t ls st m else match offs[(a.toInt - lo).toNat]? with
    | some off => (zj pc off).bind fun t => zgo t ls st m
    | none => none
  | .lookupswitch d ps, .int a :: st => zok ((ps.toList.zip (ps.toList.drop 1)).all (fun (a, next) => a.1 < next.1) = true) ((zj pc (Op.lookupswitch.offset ps.toList d a.toInt)).bind fun t => zgo t ls st m)
  | .getfield i, .ref o :: st => match zpool (zc y) i with
    | (1, c, k) => zok ((m.1 o).1 = c ∧ c < 13 ∧ k < (zCl c).2.2) (zgo (pc + 3) ls (zgetf m o c k :: st) m)
    | _ => none
  | .putfield i, .int x :: .ref o :: st => match zpool (zc y) i with
    | (1, c, k) => zok ((m.1 o).1 = c ∧ c < 13 ∧ k < (zCl c).2.2 ∧ (zfk c k = 0 ∨ zfk c k = 1 ∧ (x = 0 ∨ x = 1)) ∧ ((zCl c).2.1 k).2.2.2 = false) (zgo (pc + 3) ls st (zsI m o k x))
    | _ => none
  | .putfield i, .ref v :: .ref o :: st => match zpool (zc y) i with
    | (1, c, k) => zok ((m.1 o).1 = c ∧ c < 13 ∧ k < (zCl c).2.2 ∧ zfk c k = 2 ∧ ((zCl c).2.1 k).2.2.2 = true ∧ zk y = 2 ∧ zc y = c) (zgo (pc + 3) ls st (zsR m o k (some v)))
    | _ => none
  | .getstatic i, st => match zpool (zc y) i with
    | (8, 21, _) => zgo (pc + 3) ls (.ref 1048576 :: st) m
    | (8, 22, _) => zgo (pc + 3) ls (.ref 1048577 :: st) m
    | _ => none
  | .arraylength, .ref o :: st => zok (13 ≤ (m.1 o).1 ∧ (m.1 o).1 < 23) (zgo (pc + 1) ls (.int (Int32.ofNat (m.1 o).2) :: st) m)
  | .iaload, .int i :: .ref o :: st => zok (zix i (m.1 o).2) (if (m.1 o).1 = 13 then zgo (pc + 1) ls (.int (m.2.2.2.1 o i.toNatClampNeg) :: st) m else if (m.1 o).1 = 21 ∨ (m.1 o).1 = 22 then zgo (pc + 1) ls (.int (ztab (m.1 o).1 i.toNatClampNeg) :: st) m else none)
  | .baload, .int i :: .ref o :: st => zok (zix i (m.1 o).2 ∧ (m.1 o).1 = 14) (zgo (pc + 1) ls (.int (m.2.2.2.1 o i.toNatClampNeg) :: st) m)
  | .caload, .int i :: .ref o :: st => zok (zix i (m.1 o).2 ∧ (m.1 o).1 = 15) (zgo (pc + 1) ls (.int (m.2.2.2.1 o i.toNatClampNeg) :: st) m)
  | .laload, .int i :: .ref o :: st => zok (zix i (m.1 o).2 ∧ (m.1 o).1 = 16) (zgo (pc + 1) ls (.long (m.2.2.2.2.1 o i.toNatClampNeg) :: st) m)
  | .aaload, .int i :: .ref o :: st => zok (zix i (m.1 o).2 ∧ ((m.1 o).1 = 18 ∨ (m.1 o).1 = 19)) (zgo (pc + 1) ls (va_rf (m.2.1 o i.toNatClampNeg) :: st) m)
  | .iastore, .int x :: .int i :: .ref o :: st => zok (zix i (m.1 o).2 ∧ (m.1 o).1 = 13) (zgo (pc + 1) ls st (zsI m o i.toNatClampNeg x))
  | .bastore, .int x :: .int i :: .ref o :: st => zok (zix i (m.1 o).2 ∧ (m.1 o).1 = 14 ∧ (x = 0 ∨ x = 1)) (zgo (pc + 1) ls st (zsI m o i.toNatClampNeg x))
  | .castore, .int x :: .int i :: .ref o :: st => zok (zix i (m.1 o).2 ∧ (m.1 o).1 = 15 ∧ (0 ≤ x ∧ x ≤ 65535)) (zgo (pc + 1) ls st (zsI m o i.toNatClampNeg x))
  | .lastore, .long x :: .int i :: .ref o :: st => zok (zix i (m.1 o).2 ∧ (m.1 o).1 = 16) (zgo (pc + 1) ls st (zsJ m o i.toNatClampNeg x))
  | .aastore, .ref v :: .int i :: .ref o :: st => zok (zix i (m.1 o).2 ∧ ((m.1 o).1 = 18 ∧ (m.1 v).1 = 6 ∨ (m.1 o).1 = 19 ∧ (m.1 v).1 = 0)) (zgo (pc + 1) ls st (zsR m o i.toNatClampNeg (some v)))
  | .new i, st => match zpool (zc y) i with
    | (3, c, _) => zok (al = true ∧ m.2.2.1.1 < 1000000 ∧ c < 13) (zgo (pc + 3) ls (.ref m.2.2.1.1 :: st) (zmk m c 0 (zCl c).2.2))
    | (9, e, _) => zok (zthrows y pc = true ∧ st.length ≤ 4) (some (.inr (.inr (.inr e))))
    | _ => none
  | .newarray ty, .int n :: st => zok (al = true ∧ m.2.2.1.1 < 1000000 ∧ ¬ n < 0 ∧ n.toNatClampNeg ≤ 60000000) (match ty with
    | .int => zgo (pc + 2) ls (.ref m.2.2.1.1 :: st) (zmk m 13 n.toNatClampNeg n.toNatClampNeg)
    | .boolean => zgo (pc + 2) ls (.ref m.2.2.1.1 :: st) (zmk m 14 n.toNatClampNeg n.toNatClampNeg)
    | .char => zgo (pc + 2) ls (.ref m.2.2.1.1 :: st) (zmk m 15 n.toNatClampNeg n.toNatClampNeg)
    | .long => zgo (pc + 2) ls (.ref m.2.2.1.1 :: st) (zmk m 16 n.toNatClampNeg n.toNatClampNeg)
    | _ => none)
  | .anewarray i, .int n :: st => match zpool (zc y) i with
    | (3, 6, _) => zok (al = true ∧ m.2.2.1.1 < 1000000 ∧ ¬ n < 0 ∧ n.toNatClampNeg ≤ 60000000) (zgo (pc + 3) ls (.ref m.2.2.1.1 :: st) (zmk m 18 n.toNatClampNeg n.toNatClampNeg))
    | (3, 0, _) => zok (al = true ∧ m.2.2.1.1 < 1000000 ∧ ¬ n < 0 ∧ n.toNatClampNeg ≤ 60000000) (zgo (pc + 3) ls (.ref m.2.2.1.1 :: st) (zmk m 19 n.toNatClampNeg n.toNatClampNeg))
    | _ => none
  | .invokevirtual i, st => match zpool (zc y) i with
    | (2, z, _) => match st.drop (za z) with
      | .ref o :: rest => zok (zk z = 0 ∧ za z < st.length ∧ (m.1 o).1 = zc z ∧ zc z < 13) (zcall y z pc (.ref o :: (st.take (za z)).reverse) ls rest)
      | _ => none
    | _ => none
  | .invokestatic i, st => match zpool (zc y) i with
    | (2, z, _) => zok (zk z = 1 ∧ za z ≤ st.length) (zcall y z pc (st.take (za z)).reverse ls (st.drop (za z)))
    | _ => none
  | .invokespecial i, st => match zpool (zc y) i with
    | (10, _, _) => match st with
      | .ref _ :: rest => zok (zf y ≠ 0 ∧ 20 ≤ zw y ∧ rest.length ≤ 4) (zgo (pc + 3) ls rest m)
      | _ => none
    | (2, z, _) => match st with
      | .ref o :: rest => zok (zk z = 2 ∧ za z = 0) (zcall y z pc [.ref o] ls rest)
      | _ => none
    | (12, z, _) => match st with
      | .ref o :: rest => zok (zk z = 2 ∧ za z = 0) (zcall y z pc [.ref o] ls rest)
      | _ => none
    | _ => none
  | .ireturn, st => zok (zri (zr y) = 1) ((zans (zr y) st).bind fun v => some (.inr (.inr (.inl (some v)))))
  | .lreturn, st => zok (zri (zr y) = 2) ((zans (zr y) st).bind fun v => some (.inr (.inr (.inl (some v)))))
  | .freturn, st => zok (zri (zr y) = 3) ((zans (zr y) st).bind fun v => some (.inr (.inr (.inl (some v)))))
  | .areturn, st => zok (zri (zr y) = 4) ((zans (zr y) st).bind fun v => some (.inr (.inr (.inl (some v)))))
  | .return_, [] => zok (zr y = none) (some (.inr (.inr (.inl none))))
  | _, _ => none
/-- how long an instruction must be -/
def zlen (i : Instr) (len : Nat) : Nat := match i with
  | .tableswitch _ _ _ _ => len
  | .lookupswitch _ _ => len
  | .aload _ | .iload _ | .lload _ | .fload _ | .istore _ | .astore _ | .lstore _ | .fstore _ | .bipush _ | .ldc _ | .newarray _ => 2
  | .iinc _ _ | .sipush _ | .ldc_w _ | .ldc2_w _ | .goto _ | .ifCond _ _ | .if_icmp _ _ | .getfield _ | .putfield _ | .getstatic _ | .new _ | .anewarray _ | .invokevirtual _ | .invokestatic _ | .invokespecial _ => 3
  | _ => 1
def zat (al : Bool) (y pc : Nat) (ls st : List Value) (m : zM) : Option zC := match decode (zb y) pc with
  | .ok (i, len) => if len = zlen i len then zstep al y i pc ls st m else none
  | .error _ => none
/-- a method's locals at its entry -/
def zent (z : Nat) (as : List Value) : List Value := as ++ List.replicate (zl z - as.length) .null
def zrun (al : Bool) : Nat → Nat → Nat → List Value → List Value → zM → Option (zRes × zM)
  | 0, _, _, _, _, _ => none
  | n + 1, y, pc, ls, st, m => match zat al y pc ls st m with
    | none => none
    | some (.inl (pc1, ls1, st1, m1)) => zrun al n y pc1 ls1 st1 m1
    | some (.inr (.inl (z, as, pc1, ls1, st1))) => match zrun al n z 0 (zent z as) [] m with
      | none => none
      | some (.inl v, m1) => zrun al n y pc1 ls1 (v.toList ++ st1) m1
      | some (.inr e, m1) => some (.inr e, m1)
    | some (.inr (.inr r)) => some (r, m)
