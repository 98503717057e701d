/-! part 99m1: the run over lists; what the two constructors leave -/
def zf1 (y : Nat) (n : Fin 4) (pc : Nat) (ls st : List Value) (m : zM) : Option zC := (zldr ls n).bind fun x => zgo (pc + 1) ls (.ref x :: st) m
def zf2 (y : Nat) (n : Fin 4) (pc : Nat) (ls st : List Value) (m : zM) : Option zC := (zld1 ls n).bind fun x => zgo (pc + 1) ls (.int x :: st) m
def zf3 (y : Nat) (n : Fin 4) (pc : Nat) (ls st : List Value) (m : zM) : Option zC := match st with
  | .int x :: st => ((zst1 ls n (.int x)).bind fun ls => zgo (pc + 1) ls st m)
  | _ => none
def zf4 (y : Nat) (n : Nat) (k : Int) (pc : Nat) (ls st : List Value) (m : zM) : Option zC := (zld1 ls n).bind fun x => (zst1 ls n (.int (x + Int32.ofInt k))).bind fun ls => zgo (pc + 3) ls st m
def zf5 (y : Nat) (n : Int) (pc : Nat) (ls st : List Value) (m : zM) : Option zC := zgo (pc + 1) ls (.int (Int32.ofInt n) :: st) m
def zf6 (y : Nat) (n : Int) (pc : Nat) (ls st : List Value) (m : zM) : Option zC := zgo (pc + 2) ls (.int (Int8.ofInt n).toInt32 :: st) m
def zf7 (y : Nat) (n : Int) (pc : Nat) (ls st : List Value) (m : zM) : Option zC := zgo (pc + 3) ls (.int (Int16.ofInt n).toInt32 :: st) m
def zf8 (y : Nat)  (pc : Nat) (ls st : List Value) (m : zM) : Option zC := match st with
  | a :: st => (zok (a.category = 1) (zgo (pc + 1) ls (a :: a :: st) m))
  | _ => none
def zf9 (y : Nat) (off : Int) (pc : Nat) (ls st : List Value) (m : zM) : Option zC := (zj pc off).bind fun t => zgo t ls st m
def zf10 (y : Nat) (off : Int) (pc : Nat) (ls st : List Value) (m : zM) : Option zC := match st with
  | .int b :: .int a :: st => (zbr (b ≤ a) pc off ls st m)
  | _ => none
def zf11 (y : Nat) (i : Nat) (pc : Nat) (ls st : List Value) (m : zM) : Option zC := match zpool (zc y) i with
    | (3, c, _) => zok (true = true ∧ m.2.2.1.1 < 1000000 ∧ c < 13) (zgo (pc + 3) ls (.ref m.2.2.1.1 :: st) (zmk m c 0 (zCl c).2.2))
    | (9, e, _) => zok (zthrows y pc = true ∧ st.length ≤ 4) (some (.inr (.inr (.inr e))))
    | _ => none
def zf12 (y : Nat) (ty : ArrayType) (pc : Nat) (ls st : List Value) (m : zM) : Option zC := match st with
  | .int n :: st => (zok (true = true ∧ m.2.2.1.1 < 1000000 ∧ ¬ n < 0 ∧ n.toNatClampNeg ≤ 60000000) (match ty with
    | .int => zgo (pc + 2) ls (.ref m.2.2.1.1 :: st) (zmk m 13 n.toNatClampNeg n.toNatClampNeg)
    | .boolean => zgo (pc + 2) ls (.ref m.2.2.1.1 :: st) (zmk m 14 n.toNatClampNeg n.toNatClampNeg)
    | .char => zgo (pc + 2) ls (.ref m.2.2.1.1 :: st) (zmk m 15 n.toNatClampNeg n.toNatClampNeg)
    | .long => zgo (pc + 2) ls (.ref m.2.2.1.1 :: st) (zmk m 16 n.toNatClampNeg n.toNatClampNeg)
    | _ => none))
  | _ => none
def zf13 (y : Nat) (i : Nat) (pc : Nat) (ls st : List Value) (m : zM) : Option zC := match st with
  | .int n :: st => (match zpool (zc y) i with
    | (3, 6, _) => zok (true = true ∧ m.2.2.1.1 < 1000000 ∧ ¬ n < 0 ∧ n.toNatClampNeg ≤ 60000000) (zgo (pc + 3) ls (.ref m.2.2.1.1 :: st) (zmk m 18 n.toNatClampNeg n.toNatClampNeg))
    | (3, 0, _) => zok (true = true ∧ m.2.2.1.1 < 1000000 ∧ ¬ n < 0 ∧ n.toNatClampNeg ≤ 60000000) (zgo (pc + 3) ls (.ref m.2.2.1.1 :: st) (zmk m 19 n.toNatClampNeg n.toNatClampNeg))
    | _ => none)
  | _ => none
def zf14 (y : Nat)  (pc : Nat) (ls st : List Value) (m : zM) : Option zC := match st with
  | .int x :: .int i :: .ref o :: st => (zok (zix i (m.1 o).2 ∧ (m.1 o).1 = 13) (zgo (pc + 1) ls st (zsI m o i.toNatClampNeg x)))
  | _ => none
def zf15 (y : Nat)  (pc : Nat) (ls st : List Value) (m : zM) : Option zC := match st with
  | .ref v :: .int i :: .ref o :: st => (zok (zix i (m.1 o).2 ∧ ((m.1 o).1 = 18 ∧ (m.1 v).1 = 6 ∨ (m.1 o).1 = 19 ∧ (m.1 v).1 = 0)) (zgo (pc + 1) ls st (zsR m o i.toNatClampNeg (some v))))
  | _ => none
def zf16 (y : Nat) (i : Nat) (pc : Nat) (ls st : List Value) (m : zM) : Option zC := match zpool (zc y) i with
    | (10, _, _) => match st with
      | .ref _ :: rest => zok (zf y ≠ 0 ∧ 20 ≤ zw y ∧ rest.length ≤ 4) (zgo (pc + 3) ls rest m)
      | _ => none
    | (2, z, _) => match st with
      | .ref o :: rest => zok (zk z = 2 ∧ za z = 0) (zcall y z pc [.ref o] ls rest)
      | _ => none
    | (12, z, _) => match st with
      | .ref o :: rest => zok (zk z = 2 ∧ za z = 0) (zcall y z pc [.ref o] ls rest)
      | _ => none
    | _ => none
def zf17 (y : Nat)  (pc : Nat) (ls st : List Value) (m : zM) : Option zC := match st with
  | [] => (zok (zr y = none) (some (.inr (.inr (.inl none)))))
  | _ => none
def zf18 (y : Nat) (i : Nat) (pc : Nat) (ls st : List Value) (m : zM) : Option zC := match st with
  | .ref o :: st => (match zpool (zc y) i with
    | (1, c, k) => zok ((m.1 o).1 = c ∧ c < 13 ∧ k < (zCl c).2.2) (zgo (pc + 3) ls (zgetf m o c k :: st) m)
    | _ => none)
  | _ => none
def zf19 (y : Nat) (i : Nat) (pc : Nat) (ls st : List Value) (m : zM) : Option zC := match st with
  | .int x :: .ref o :: st => (match zpool (zc y) i with
    | (1, c, k) => zok ((m.1 o).1 = c ∧ c < 13 ∧ k < (zCl c).2.2 ∧ (zfk c k = 0 ∨ zfk c k = 1 ∧ (x = 0 ∨ x = 1)) ∧ ((zCl c).2.1 k).2.2.2 = false) (zgo (pc + 3) ls st (zsI m o k x))
    | _ => none)
  | .ref v :: .ref o :: st => (match zpool (zc y) i with
    | (1, c, k) => zok ((m.1 o).1 = c ∧ c < 13 ∧ k < (zCl c).2.2 ∧ zfk c k = 2 ∧ ((zCl c).2.1 k).2.2.2 = true ∧ zk y = 2 ∧ zc y = c) (zgo (pc + 3) ls st (zsR m o k (some v)))
    | _ => none)
  | _ => none
def zfast (y : Nat) (i : Instr) (pc : Nat) (ls st : List Value) (m : zM) : Option zC := match i with
  | .aload_n n => zf1 y n pc ls st m
  | .iload_n n => zf2 y n pc ls st m
  | .istore_n n => zf3 y n pc ls st m
  | .iinc n k => zf4 y n k pc ls st m
  | .iconst n => zf5 y n pc ls st m
  | .bipush n => zf6 y n pc ls st m
  | .sipush n => zf7 y n pc ls st m
  | .dup => zf8 y  pc ls st m
  | .goto off => zf9 y off pc ls st m
  | .if_icmp .ge off => zf10 y off pc ls st m
  | .new i => zf11 y i pc ls st m
  | .newarray ty => zf12 y ty pc ls st m
  | .anewarray i => zf13 y i pc ls st m
  | .iastore => zf14 y  pc ls st m
  | .aastore => zf15 y  pc ls st m
  | .invokespecial i => zf16 y i pc ls st m
  | .return_ => zf17 y  pc ls st m
  | .getfield i => zf18 y i pc ls st m
  | .putfield i => zf19 y i pc ls st m
  | _ => none
theorem zfast_ok {y : Nat} {i : Instr} {pc : Nat} {ls st : List Value} {m : zM} {c : zC} (h : zfast y i pc ls st m = some c) : zstep true y i pc ls st m = some c := by
  unfold zfast at h
  split at h
  all_goals first
    | exact h
    | (cases h; done)
    | ((first | unfold zf3 at h | unfold zf8 at h | unfold zf10 at h | unfold zf12 at h | unfold zf13 at h | unfold zf14 at h | unfold zf15 at h | unfold zf17 at h | unfold zf18 at h | unfold zf19 at h)
       split at h <;> first
        | exact h
        | cases h)
def zfc {α : Type} (n : Nat) (f : Nat → α) : α := match n with
  | 0 => f 0
  | k + 1 => f (k + 1)
theorem zfc_eq {α : Type} (n : Nat) (f : Nat → α) : zfc n f = f n := by
  cases n <;> rfl
def zrund : Nat → Nat → Nat → List Value → List Value → zDt → Option (zRes × zDt)
  | 0, _, _, _, _, _ => none
  | n + 1, y, pc, ls, st, d => match decode (zb y) pc with
    | .error _ => none
    | .ok (i, len) => if zdq i = true ∧ len = zlen i len then (match zfast y i pc ls st (zdM d) with
      | none => none
      | some (.inl (pc1, ls1, st1, _)) => (match zdU y i st d with
        | (a, u, S, R, I) => zfc pc1 fun pc1 => zfc a fun a => zrund n y pc1 ls1 st1 (a, u, S, R, I))
      | some (.inr (.inl (z, as, pc1, ls1, st1))) => (match zrund n z 0 (zent z as) [] d with
        | none => none
        | some (.inl v, d1) => zfc pc1 fun pc1 => zrund n y pc1 ls1 (v.toList ++ st1) d1
        | some (.inr e, d1) => some (.inr e, d1))
      | some (.inr (.inr r)) => some (r, d)) else none
theorem zrund_ok : ∀ (n y pc : Nat) (ls st : List Value) (d d1 : zDt) (r : zRes), zrund n y pc ls st d = some (r, d1) → zrun true n y pc ls st (zdM d) = some (r, zdM d1)
  | 0, y, pc, ls, st, d, d1, r, h => by simp [zrund] at h
  | n + 1, y, pc, ls, st, d, d1, r, h => by
    unfold zrund at h
    unfold zrun zat
    cases hd : decode (zb y) pc with
    | error x => rw [hd] at h; cases h
    | ok q =>
      obtain ⟨i, len⟩ := q
      rw [hd] at h
      by_cases hq : zdq i = true ∧ len = zlen i len
      · have hs := zstep_up (al := true) (y := y) (pc := pc) (ls := ls) (st := st) (d := d) hq.1
        simp only [zfc_eq, if_pos hq, if_pos hq.2] at h ⊢
        cases he : zfast y i pc ls st (zdM d) with
        | none => rw [he] at h; cases h
        | some a =>
          rw [he] at h
          rw [zfast_ok he] at hs ⊢
          rcases a with ⟨pc1, ls1, st1, m2⟩ | ⟨z, as, pc1, ls1, st1⟩ | r2
          · have e : m2 = zdM (zdU y i st d) := hs _ rfl
            subst e
            exact zrund_ok n _ _ _ _ _ _ _ h
          · have h' : (match zrund n z 0 (zent z as) [] d with
              | none => none
              | some (.inl v, d1) => zrund n y pc1 ls1 (v.toList ++ st1) d1
              | some (.inr e, d1) => some (.inr e, d1)) = some (r, d1) := h
            show (match zrun true n z 0 (zent z as) [] (zdM d) with
              | none => none
              | some (.inl v, m1) => zrun true n y pc1 ls1 (v.toList ++ st1) m1
              | some (.inr e, m1) => some (.inr e, m1)) = some (r, zdM d1)
            cases hc : zrund n z 0 (zent z as) [] d with
            | none => rw [hc] at h'; cases h'
            | some b =>
              rw [hc] at h'
              obtain ⟨b1, b2⟩ := b
              rw [zrund_ok n _ _ _ _ _ _ _ hc]
              rcases b1 with v | e
              · exact zrund_ok n _ _ _ _ _ _ _ h'
              · have h'' : some ((.inr e : zRes), b2) = some (r, d1) := h'
                cases h''
                rfl
          · have h'' : some (r2, d) = some (r, d1) := h
            cases h''
            rfl
      · simp only [if_neg hq] at h
        cases h
def zd0 : zDt := (1, 12, [(11, 0)], [], [])
def dW48 : List (Nat × Nat × Int32) := (List.range 40).reverse.map (fun j => (230 + 5 * j, 1, -1)) ++ [3, 2, 1, 0].map (fun k => (43, k, 4))
def dRo (R : List (Nat × Nat × Nat)) (o : Nat) : List (Nat × Nat × Nat) := R.filter fun q => Nat.beq q.1 o
/-- what the lists hold at the end -/
def zdchk (d : zDt) : Bool := decide (d.2.2.2.2 = dW48) && ((List.range 430).all (fun o => match d.2.2.1.getD (429 - o) (99, 0) with
  | (c, n) => Nat.beq (zS0 o).1 c && Nat.beq (zS0 o).2 n) && (List.range 430).all (fun o => match dRo d.2.2.2.1 o with
    | l => if (zS0 o).1 < 13 then (List.range (zCl (zS0 o).1).2.2).all (fun k => decide (dR l o k = zR0 o k)) else if (zS0 o).1 < 18 then l.isEmpty else (List.range 61).all (fun k => decide (dR l o k = zR0 o k)) && l.all (fun q => Nat.blt q.2.1 61)))
/-- k steps of one method's own, the calls in it whole -/
def zrunk : Nat → Nat → Nat → Nat → List Value → List Value → zDt → Option (Nat × List Value × List Value × zDt)
  | 0, _, _, pc, ls, st, d => some (pc, ls, st, d)
  | _ + 1, 0, _, _, _, _, _ => none
  | k + 1, n + 1, y, pc, ls, st, d => match decode (zb y) pc with
    | .error _ => none
    | .ok (i, len) => if zdq i = true ∧ len = zlen i len then (match zfast y i pc ls st (zdM d) with
      | some (.inl (pc1, ls1, st1, _)) => (match zdU y i st d with
        | (a, u, S, R, I) => zfc pc1 fun pc1 => zfc a fun a => zrunk k n y pc1 ls1 st1 (a, u, S, R, I))
      | some (.inr (.inl (z, as, pc1, ls1, st1))) => (match zrund n z 0 (zent z as) [] d with
        | some (.inl v, d1) => zfc pc1 fun pc1 => zrunk k n y pc1 ls1 (v.toList ++ st1) d1
        | _ => none)
      | _ => none) else none
theorem zrunk_ok : ∀ {k m y pc : Nat} {ls st : List Value} {d : zDt} {pc2 : Nat} {ls2 st2 : List Value} {d2 : zDt}, zrunk k (m + k) y pc ls st d = some (pc2, ls2, st2, d2) → zrund (m + k) y pc ls st d = zrund m y pc2 ls2 st2 d2
  | 0, m, y, pc, ls, st, d, pc2, ls2, st2, d2, h => by
    have h : some (pc, ls, st, d) = some (pc2, ls2, st2, d2) := h
    cases h
    rfl
  | k + 1, m, y, pc, ls, st, d, pc2, ls2, st2, d2, h => by
    have h : zrunk (k + 1) (m + k + 1) y pc ls st d = some (pc2, ls2, st2, d2) := h
    show zrund (m + k + 1) y pc ls st d = _
    unfold zrunk at h
    conv => lhs; unfold zrund
    cases hd : decode (zb y) pc with
    | error x => rw [hd] at h; cases h
    | ok q =>
      obtain ⟨i, len⟩ := q
      rw [hd] at h
      by_cases hq : zdq i = true ∧ len = zlen i len
      · simp only [zfc_eq, if_pos hq] at h ⊢
        cases he : zfast y i pc ls st (zdM d) with
        | none => rw [he] at h; cases h
        | some a =>
          rw [he] at h
          rcases a with ⟨pc1, ls1, st1, m2⟩ | ⟨z, as, pc1, ls1, st1⟩ | r2
          · exact zrunk_ok h
          · have h' : (match zrund (m + k) z 0 (zent z as) [] d with
              | some (.inl v, d1) => zrunk k (m + k) y pc1 ls1 (v.toList ++ st1) d1
              | _ => none) = some (pc2, ls2, st2, d2) := h
            show (match zrund (m + k) z 0 (zent z as) [] d with
              | none => none
              | some (.inl v, d1) => zrund (m + k) y pc1 ls1 (v.toList ++ st1) d1
              | some (.inr e, d1) => some (.inr e, d1)) = _
            cases hc : zrund (m + k) z 0 (zent z as) [] d with
            | none => rw [hc] at h'; cases h'
            | some b =>
              rw [hc] at h'
              obtain ⟨b1, b2⟩ := b
              rcases b1 with v | e
              · exact zrunk_ok (k := k) h'
              · cases h'
          · cases h
      · simp only [if_neg hq] at h
        cases h
def zvq : Value → Value → Bool
  | .int a, .int b => decide (a = b)
  | .ref a, .ref b => Nat.beq a b
  | .null, .null => true
  | _, _ => false
theorem zvq_ok {a b : Value} (h : zvq a b = true) : a = b := by
  unfold zvq at h
  split at h
  · rw [of_decide_eq_true h]
  · rw [Nat.eq_of_beq_eq_true h]
  · rfl
  · cases h
def zvsq : List Value → List Value → Bool
  | [], [] => true
  | a :: l, b :: r => zvq a b && zvsq l r
  | _, _ => false
theorem zvsq_ok : ∀ {l r : List Value}, zvsq l r = true → l = r
  | [], [], _ => rfl
  | [], _ :: _, h => by cases h
  | _ :: _, [], h => by cases h
  | a :: l, b :: r, h => by
    have h : (zvq a b && zvsq l r) = true := h
    rw [Bool.and_eq_true] at h
    rw [zvq_ok h.1, zvsq_ok h.2]
def zdq2 (d e : zDt) : Bool := Nat.beq d.1 e.1 && (Nat.beq d.2.1 e.2.1 && (decide (d.2.2.1 = e.2.2.1) && (decide (d.2.2.2.1 = e.2.2.2.1) && decide (d.2.2.2.2 = e.2.2.2.2))))
theorem zdq2_ok {d e : zDt} (h : zdq2 d e = true) : d = e := by
  unfold zdq2 at h
  simp only [Bool.and_eq_true] at h
  obtain ⟨h1, h2, h3, h4, h5⟩ := h
  obtain ⟨a1, a2, a3, a4, a5⟩ := d
  obtain ⟨b1, b2, b3, b4, b5⟩ := e
  have h1 : a1 = b1 := Nat.eq_of_beq_eq_true h1
  have h2 : a2 = b2 := Nat.eq_of_beq_eq_true h2
  have h3 : a3 = b3 := of_decide_eq_true h3
  have h4 : a4 = b4 := of_decide_eq_true h4
  have h5 : a5 = b5 := of_decide_eq_true h5
  rw [h1, h2, h3, h4, h5]
def zpq (c : Option (Nat × List Value × List Value × zDt)) (pc : Nat) (ls st : List Value) (d : zDt) : Bool := match c with
  | some (a, l, s, e) => Nat.beq a pc && (zvsq l ls && (zvsq s st && zdq2 e d))
  | none => false
theorem zpq_ok {c : Option (Nat × List Value × List Value × zDt)} {pc : Nat} {ls st : List Value} {d : zDt} (h : zpq c pc ls st d = true) : c = some (pc, ls, st, d) := by
  unfold zpq at h
  split at h
  · simp only [Bool.and_eq_true] at h
    obtain ⟨h1, h2, h3, h4⟩ := h
    rw [Nat.eq_of_beq_eq_true h1, zvsq_ok h2, zvsq_ok h3, zdq2_ok h4]
  · cases h
def zrq (c : Option (zRes × zDt)) (d : zDt) : Bool := match c with
  | some (.inl none, e) => zdq2 e d
  | _ => false
theorem zrq_ok {c : Option (zRes × zDt)} {d : zDt} (h : zrq c d = true) : c = some (.inl none, d) := by
  unfold zrq at h
  split at h
  · rw [zdq2_ok h]
  · cases h
