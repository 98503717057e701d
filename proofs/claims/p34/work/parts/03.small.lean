/-! A SMALL MACHINE OF OUR OWN: one memory for all objects of the class and of the reference, by numbers (0, 1, 2 .. in the order in which they are made), and a step function over the bytecode. Part 04 shows that the real machine does what the small one does; the rest of the proof speaks of the small one alone.
  zM: shapes (what an object is, how long), references, (how many objects, how many slots), ints, longs, doubles: by object and place. -/
abbrev zM : Type := (Nat → Nat × Nat) × (Nat → Nat → Option Nat) × (Nat × Nat) × (Nat → Nat → Int32) × (Nat → Nat → Int64) × (Nat → Nat → UInt64)
abbrev zS (m : zM) : Nat → Nat × Nat := m.1
abbrev zR (m : zM) : Nat → Nat → Option Nat := m.2.1
abbrev zn (m : zM) : Nat := m.2.2.1.1
abbrev zu (m : zM) : Nat := m.2.2.1.2
abbrev zI (m : zM) : Nat → Nat → Int32 := m.2.2.2.1
abbrev zJ (m : zM) : Nat → Nat → Int64 := m.2.2.2.2.1
abbrev zD (m : zM) : Nat → Nat → UInt64 := m.2.2.2.2.2
def zup {α : Type} (f : Nat → Nat → α) (o k : Nat) (v : α) : Nat → Nat → α := fun a j => if a = o ∧ j = k then v else f a j
abbrev zsR (m : zM) (o k : Nat) (v : Option Nat) : zM := (m.1, zup m.2.1 o k v, m.2.2)
abbrev zsI (m : zM) (o k : Nat) (v : Int32) : zM := (m.1, m.2.1, m.2.2.1, zup m.2.2.2.1 o k v, m.2.2.2.2)
abbrev zsJ (m : zM) (o k : Nat) (v : Int64) : zM := (m.1, m.2.1, m.2.2.1, m.2.2.2.1, zup m.2.2.2.2.1 o k v, m.2.2.2.2.2)
abbrev zsD (m : zM) (o k : Nat) (v : UInt64) : zM := (m.1, m.2.1, m.2.2.1, m.2.2.2.1, m.2.2.2.2.1, zup m.2.2.2.2.2 o k v)
/-- a new object: kind t, length n, slots w -/
def zmk (m : zM) (t n w : Nat) : zM := ((fun o => if o = m.2.2.1.1 then (t, n) else m.1 o), m.2.1, (m.2.2.1.1 + 1, m.2.2.1.2 + w), m.2.2.2)
/-! kinds: 0 to 12 the classes X0 to X12; arrays: 13 int, 14 boolean, 15 char, 16 long, 17 double, 18 Part, 19 Copy; 21, 22 the two static tables of Singing (at the numbers 1048576, 1048577) -/
abbrev vwCl : List vw_C := [(RX0, TX0, 4), (RX1, TX1, 4), (RX2, TX2, 4), (RX3, TX3, 3), (RX4, TX4, 2), (RX5, TX5, 5), (RX6, TX6, 9), (RX7, TX7, 3), (RX8, TX8, 10), (RX9, TX9, 12), (RX10, TX10, 12), (RX11, TX11, 12), (RX11, TX11, 12)]
def zTy : List (Nat → FieldType) := [tyX0, tyX1, tyX2, tyX3, tyX4, tyX5, tyX6, tyX7, tyX8, tyX9, tyX10, tyX11, tyX11]
def zCl (c : Nat) : vw_C := vwCl.getD c (RX0, TX0, 0)
def zty (c k : Nat) : FieldType := (zTy.getD c tyX0) k
/-- 0 an int, 1 a boolean, 2 a reference -/
def zfk (c k : Nat) : Nat := match zty c k with
  | .object _ => 2
  | .array _ => 2
  | .boolean => 1
  | _ => 0
def zgetf (m : zM) (o c k : Nat) : Value := if zfk c k = 2 then va_rf (m.2.1 o k) else .int (m.2.2.2.1 o k)
/-- the two tables -/
def ztab (t : Nat) (j : Nat) : Int32 := if t = 21 then ([0, 2, 4, 5, 7, 9, 11] : List Int32).getD j 0 else ([1, 3, 5, 0, 2, 4, 6] : List Int32).getD j 0
/-- a step's answer: go on; call; return or throw -/
abbrev zRes : Type := Option Value ⊕ Nat
abbrev zC : Type := (Nat × List Value × List Value × zM) ⊕ ((Nat × List Value × Nat × List Value × List Value) ⊕ zRes)
abbrev zgo (pc : Nat) (ls st : List Value) (m : zM) : Option zC := some (.inl (pc, ls, st, m))
def zj (pc : Nat) (off : Int) : Option Nat := if 0 ≤ (pc : Int) + off then some (((pc : Int) + off).toNat) else none
/-- what stood at the place ahead, if it was of two slots, is gone when this place is written -/
def zcl (ls : List Value) : Nat → List Value
  | 0 => ls
  | i + 1 => match ls[i]? with
    | some (.long _) => ls.set i .null
    | some (.double _) => ls.set i .null
    | _ => ls
def zld1 (ls : List Value) (k : Nat) : Option Int32 := match ls[k]? with
  | some (.int x) => some x
  | _ => none
def zldr (ls : List Value) (k : Nat) : Option Nat := match ls[k]? with
  | some (.ref x) => some x
  | _ => none
def zldl (ls : List Value) (k : Nat) : Option Int64 := match ls[k]? with
  | some (.long x) => some x
  | _ => none
def zldf (ls : List Value) (k : Nat) : Option UInt32 := match ls[k]? with
  | some (.float x) => some x
  | _ => none
def zst1 (ls : List Value) (k : Nat) (v : Value) : Option (List Value) := if k < ls.length then some ((zcl ls k).set k v) else none
def zst2 (ls : List Value) (k : Nat) (v : Value) : Option (List Value) := if k + 1 < ls.length then some (((zcl ls k).set k v).set (k + 1) .null) else none
def zbr (c : Prop) [Decidable c] (pc : Nat) (off : Int) (ls st : List Value) (m : zM) : Option zC := (zj pc off).bind fun t => if c then zgo t ls st m else zgo (pc + 3) ls st m
def zok (c : Prop) [Decidable c] (x : Option zC) : Option zC := if c then x else none
/-- a method's arguments are ints and references here -/
def zarg : List Value → Bool
  | [] => true
  | .int _ :: l => zarg l
  | .ref _ :: l => zarg l
  | _ :: _ => false
/-- an index of an array of n places -/
abbrev zix (i : Int32) (n : Nat) : Prop := ¬ i < 0 ∧ i.toNatClampNeg < n
