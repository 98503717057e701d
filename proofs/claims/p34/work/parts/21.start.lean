/-! part 21: the memory when the law has made its objects: shapes and references; printed by program (wip/p34/gen/gen_lay.py) -/
def zLa : List (Nat × Nat) := [(11, 0), (18, 12), (19, 40), (1, 0), (13, 200), (13, 200), (13, 200), (7, 0), (15, 160), (2, 0), (13, 3), (13, 3), (9, 0), (10, 0), (13, 60), (13, 60), (13, 60), (13, 60), (13, 60), (13, 60), (14, 60), (13, 60), (13, 60), (13, 50), (13, 16), (13, 4), (10, 0), (13, 60), (13, 60), (13, 60), (13, 60), (13, 60), (13, 60), (14, 60), (13, 60), (5, 0), (16, 80), (8, 0), (13, 40), (13, 40), (13, 40), (13, 40), (13, 40), (13, 4), (14, 16), (13, 4), (3, 0), (13, 5760), (16, 5760), (16, 5760)]
def zLb : List (Nat × Nat) := [(6, 0), (15, 160), (10, 0), (13, 60), (13, 60), (13, 60), (13, 60), (13, 60), (13, 60), (14, 60), (13, 60), (4, 0), (14, 200), (5, 0), (16, 80)]
def zLc : List (Nat × Nat) := [(0, 0), (4, 0), (14, 200), (5, 0), (16, 80)]
def zLd : List (Nat × Nat) := [(13, 40), (13, 40)]
def zS0 (o : Nat) : Nat × Nat := if o < 50 then zLa.getD o (99, 0) else if o < 230 then zLb.getD ((o - 50) % 15) (99, 0) else if o < 430 then zLc.getD ((o - 230) % 5) (99, 0) else if o < 432 then zLd.getD (o - 430) (99, 0) else if o = 1048576 then (21, 7) else if o = 1048577 then (22, 7) else (99, 0)
def zRt : List (List (Option Nat)) := [[none, none, some 1, some 3], [none, some 1, some 2, some 3], [some 1, some 2, none, none], [some 1, some 2, some 3], [some 1, none], [none, none, none, none, some 1], [some 1, none, none, none, none, none, some 2, some 11, some 13], [some 1, none, none], [some 1, some 2, some 3, some 4, some 5, none, some 6, none, some 7, some 8], [some 1, some 10, some 11, some 12, none, some 13, none, none, none, none, none, none], [none, none, none, none, some 1, some 2, some 3, some 4, some 5, some 6, some 7, some 8], [some 1, some 2, none, some 3, some 7, some 9, some 12, some 26, some 35, some 37, some 46, none], [some 1, some 2, none, some 3, some 7, some 9, some 12, some 26, some 35, some 37, some 46, none]]
def zRf (c k : Nat) : Option Nat := (zRt.getD c []).getD k none
def zR0 (o k : Nat) : Option Nat := if (zS0 o).1 = 18 then (if k < 12 then some (50 + 15 * k) else none) else if (zS0 o).1 = 19 then (if k < 40 then some (230 + 5 * k) else none) else (zRf (zS0 o).1 k).map (fun j => o + j)
/-- what the constructors leave in the ints -/
def zI0 (o k : Nat) : Int32 := if o = 43 ∧ k < 4 then 4 else if 230 ≤ o ∧ o < 430 ∧ (o - 230) % 5 = 0 ∧ k = 1 then -1 else 0
-- ints written: 44; objects 432, slots 42665
abbrev zi (x : Int) : Int32 := Int32.ofInt x
/-- an int's value in 32 bits -/
def qw (x : Int) : Int := (Int32.ofInt x).toInt
theorem qw_id {x : Int} (h1 : -2147483648 ≤ x) (h2 : x < 2147483648) : qw x = x := by
  unfold qw
  rw [Int32.toInt_ofInt]
  have e : (Int32.size : Int) = 4294967296 := rfl
  exact Int.bmod_eq_of_le (by rw [e]; omega) (by rw [e]; omega)
theorem qw_lo (x : Int) : -2147483648 ≤ qw x := Int32.le_toInt _
theorem qw_hi (x : Int) : qw x < 2147483648 := Int32.toInt_lt _
theorem zi_qw (x : Int) : zi (qw x) = zi x := Int32.ofInt_toInt _
theorem zi_lt (a b : Int) : zi a < zi b ↔ qw a < qw b := Int32.lt_iff_toInt_lt
theorem zi_le (a b : Int) : zi a ≤ zi b ↔ qw a ≤ qw b := Int32.le_iff_toInt_le
theorem zi_eq (a b : Int) : zi a = zi b ↔ qw a = qw b := Int32.toInt_inj.symm
theorem zi_add (a b : Int) : zi a + zi b = zi (a + b) := (Int32.ofInt_add a b).symm
theorem zi_mul (a b : Int) : zi a * zi b = zi (a * b) := (Int32.ofInt_mul a b).symm
theorem zi_neg (a : Int) : -zi a = zi (-a) := (Int32.ofInt_neg a).symm
theorem zi_sub (a b : Int) : zi a - zi b = zi (a - b) := (Int32.ofInt_sub a b).symm
theorem zi_0 : zi 0 = 0 := rfl
theorem qw_0 : qw 0 = 0 := by decide
/-- the memory of the run: ints and longs by object and place -/
abbrev zVt : Type := Nat → Int → Int
abbrev zJt : Type := Nat → Int → Int64
/-- objects from 432 on are not there: what V and J say of them is left out -/
def zm (V : zVt) (J : zJt) (d : Nat → Nat → UInt64) : zM := (zS0, zR0, (432, 42665), (fun o k => if o < 432 then zi (V o k) else 0), (fun o k => if o < 432 then J o k else 0), d)
theorem zm_cg {V V2 : zVt} {J J2 : zJt} {d : Nat → Nat → UInt64} (h : ∀ o : Nat, o < 432 → V2 o = V o) (hj : ∀ o : Nat, o < 432 → J2 o = J o) : zm V J d = zm V2 J2 d := by
  have e1 : (fun (o k : Nat) => if o < 432 then zi (V o k) else 0) = (fun (o k : Nat) => if o < 432 then zi (V2 o k) else 0) := by
    funext o k
    by_cases c : o < 432
    · rw [if_pos c, if_pos c, h o c]
    · rw [if_neg c, if_neg c]
  have e2 : (fun (o k : Nat) => if o < 432 then J o k else 0) = (fun (o k : Nat) => if o < 432 then J2 o k else 0) := by
    funext o k
    by_cases c : o < 432
    · rw [if_pos c, if_pos c, hj o c]
    · rw [if_neg c, if_neg c]
  unfold zm
  rw [e1, e2]
theorem zS0_lt {o t n : Nat} (hs : zS0 o = (t, n)) (ht : t < 20) : o < 432 := by
  rcases Nat.lt_or_ge o 432 with q | q
  · exact q
  · unfold zS0 at hs
    rw [if_neg (by omega), if_neg (by omega), if_neg (by omega), if_neg (by omega)] at hs
    split at hs
    · cases hs; omega
    · split at hs
      · cases hs; omega
      · cases hs; omega
def vup (V : zVt) (o : Nat) (k x : Int) : zVt := fun o2 k2 => if o2 = o ∧ k2 = k then x else V o2 k2
def jup (J : zJt) (o : Nat) (k : Int) (x : Int64) : zJt := fun o2 k2 => if o2 = o ∧ k2 = k then x else J o2 k2
theorem qw_nat {e : Int} (h : 0 ≤ qw e) : (((zi e).toNatClampNeg : Nat) : Int) = qw e := by
  show ((zi e).toInt.toNat : Int) = qw e
  exact Int.toNat_of_nonneg h
theorem zix_qw (e : Int) (n : Nat) : zix (zi e) n ↔ 0 ≤ qw e ∧ qw e < n := by
  have h0 : (zi e < 0) ↔ qw e < 0 := by rw [← zi_0, zi_lt, qw_0]
  unfold zix
  rw [h0]
  constructor
  · rintro ⟨h1, h2⟩
    have h3 : 0 ≤ qw e := by omega
    have := qw_nat h3
    exact ⟨h3, by omega⟩
  · rintro ⟨h1, h2⟩
    have := qw_nat h1
    exact ⟨by omega, by omega⟩
theorem zm_rd {V : zVt} {J : zJt} {d : Nat → Nat → UInt64} {o : Nat} {e : Int} (ho : o < 432) (h : 0 ≤ qw e) : (zm V J d).2.2.2.1 o (zi e).toNatClampNeg = zi (V o (qw e)) := by
  show (if o < 432 then zi (V o ((zi e).toNatClampNeg : Nat)) else 0) = _
  rw [if_pos ho, qw_nat h]
theorem zm_rdk {V : zVt} {J : zJt} {d : Nat → Nat → UInt64} {o k : Nat} (ho : o < 432) : (zm V J d).2.2.2.1 o k = zi (V o k) := if_pos ho
theorem zm_rdJ {V : zVt} {J : zJt} {d : Nat → Nat → UInt64} {o : Nat} {e : Int} (ho : o < 432) (h : 0 ≤ qw e) : (zm V J d).2.2.2.2.1 o (zi e).toNatClampNeg = J o (qw e) := by
  show (if o < 432 then J o ((zi e).toNatClampNeg : Nat) else 0) = _
  rw [if_pos ho, qw_nat h]
theorem zm_wrk {V : zVt} {J : zJt} {d : Nat → Nat → UInt64} {o k : Nat} {x : Int} (ho : o < 432) : zsI (zm V J d) o k (zi x) = zm (vup V o k x) J d := by
  have e1 : zup (fun (o k : Nat) => if o < 432 then zi (V o k) else 0) o k (zi x) = fun (o2 k2 : Nat) => if o2 < 432 then zi (vup V o k x o2 (k2 : Nat)) else 0 := by
    funext o2 k2
    unfold zup vup
    by_cases c : o2 = o ∧ k2 = k
    · rw [if_pos c, if_pos (by omega), if_pos ⟨c.1, by rw [c.2]⟩]
    · by_cases c2 : o2 < 432
      · rw [if_neg c]
        dsimp only
        rw [if_pos c2, if_pos c2, if_neg (fun q => c ⟨q.1, by omega⟩)]
      · rw [if_neg c]
        dsimp only
        rw [if_neg c2, if_neg c2]
  show (zS0, zR0, (432, 42665), zup (fun (o k : Nat) => if o < 432 then zi (V o k) else 0) o k (zi x), _, d) = _
  rw [e1]
  rfl
theorem zm_wr {V : zVt} {J : zJt} {d : Nat → Nat → UInt64} {o : Nat} {e x : Int} (ho : o < 432) (h : 0 ≤ qw e) : zsI (zm V J d) o (zi e).toNatClampNeg (zi x) = zm (vup V o (qw e) x) J d := by
  rw [zm_wrk ho, qw_nat h]
theorem zm_wrJ {V : zVt} {J : zJt} {d : Nat → Nat → UInt64} {o : Nat} {e : Int} {x : Int64} (ho : o < 432) (h : 0 ≤ qw e) : zsJ (zm V J d) o (zi e).toNatClampNeg x = zm V (jup J o (qw e) x) d := by
  have e1 : zup (fun (o k : Nat) => if o < 432 then J o k else 0) o (zi e).toNatClampNeg x = fun (o2 k2 : Nat) => if o2 < 432 then jup J o (qw e) x o2 (k2 : Nat) else 0 := by
    funext o2 k2
    unfold zup jup
    have hq := qw_nat h
    by_cases c : o2 = o ∧ k2 = (zi e).toNatClampNeg
    · rw [if_pos c, if_pos (by omega), if_pos ⟨c.1, by rw [c.2]; exact hq⟩]
    · by_cases c2 : o2 < 432
      · rw [if_neg c]
        dsimp only
        rw [if_pos c2, if_pos c2, if_neg (fun q => c ⟨q.1, by omega⟩)]
      · rw [if_neg c]
        dsimp only
        rw [if_neg c2, if_neg c2]
  show (zS0, zR0, (432, 42665), _, zup (fun (o k : Nat) => if o < 432 then J o k else 0) o (zi e).toNatClampNeg x, d) = _
  rw [e1]
  rfl
/-- blocks of objects: Copy 0, Marks 4, Music 5, Part 6, Tokens 10 -/
def zSh (c : Nat) : List (Nat × Nat) := if c = 10 then (zLb.drop 2).take 9 else if c = 4 then (zLb.drop 11).take 2 else if c = 5 then (zLb.drop 13).take 2 else if c = 6 then zLb else if c = 0 then zLc else []
def zBk (c T : Nat) : Prop := ∀ j x, (zSh c)[j]? = some x → zS0 (T + j) = x
theorem zBk_part {i : Nat} (h : i < 12) : zBk 6 (50 + 15 * i) := by
  intro j x hx
  have hj : j < 15 := (List.getElem?_eq_some_iff.mp hx).1
  unfold zS0
  rw [if_neg (by omega), if_pos (by omega), show (50 + 15 * i + j - 50) % 15 = j by omega, List.getD_eq_getElem?_getD]
  have hx2 : zLb[j]? = some x := hx
  rw [hx2]
  rfl
theorem zBk_copy {i : Nat} (h : i < 40) : zBk 0 (230 + 5 * i) := by
  intro j x hx
  have hj : j < 5 := (List.getElem?_eq_some_iff.mp hx).1
  unfold zS0
  rw [if_neg (by omega), if_neg (by omega), if_pos (by omega), show (230 + 5 * i + j - 230) % 5 = j by omega, List.getD_eq_getElem?_getD]
  have hx2 : zLc[j]? = some x := hx
  rw [hx2]
  rfl
theorem zBk_6row {P : Nat} (h : zBk 6 P) : zBk 10 (P + 2) := fun j x hx => by
  have hj : j < 9 := (List.getElem?_eq_some_iff.mp hx).1
  rw [show P + 2 + j = P + (2 + j) by omega]
  refine h (2 + j) x ?_
  rcases (show j = 0 ∨ j = 1 ∨ j = 2 ∨ j = 3 ∨ j = 4 ∨ j = 5 ∨ j = 6 ∨ j = 7 ∨ j = 8 by omega) with rfl | rfl | rfl | rfl | rfl | rfl | rfl | rfl | rfl <;> exact hx
theorem zBk_6marks {P : Nat} (h : zBk 6 P) : zBk 4 (P + 11) := fun j x hx => by
  have hj : j < 2 := (List.getElem?_eq_some_iff.mp hx).1
  rw [show P + 11 + j = P + (11 + j) by omega]
  refine h (11 + j) x ?_
  rcases (show j = 0 ∨ j = 1 by omega) with rfl | rfl <;> exact hx
theorem zBk_6music {P : Nat} (h : zBk 6 P) : zBk 5 (P + 13) := fun j x hx => by
  have hj : j < 2 := (List.getElem?_eq_some_iff.mp hx).1
  rw [show P + 13 + j = P + (13 + j) by omega]
  refine h (13 + j) x ?_
  rcases (show j = 0 ∨ j = 1 by omega) with rfl | rfl <;> exact hx
theorem zBk_0marks {P : Nat} (h : zBk 0 P) : zBk 4 (P + 1) := fun j x hx => by
  have hj : j < 2 := (List.getElem?_eq_some_iff.mp hx).1
  rw [show P + 1 + j = P + (1 + j) by omega]
  refine h (1 + j) x ?_
  rcases (show j = 0 ∨ j = 1 by omega) with rfl | rfl <;> exact hx
theorem zBk_0music {P : Nat} (h : zBk 0 P) : zBk 5 (P + 3) := fun j x hx => by
  have hj : j < 2 := (List.getElem?_eq_some_iff.mp hx).1
  rw [show P + 3 + j = P + (3 + j) by omega]
  refine h (3 + j) x ?_
  rcases (show j = 0 ∨ j = 1 by omega) with rfl | rfl <;> exact hx
theorem zBk_13 : zBk 10 13 := fun j x hx => by
  have hj : j < 9 := (List.getElem?_eq_some_iff.mp hx).1
  rcases (show j = 0 ∨ j = 1 ∨ j = 2 ∨ j = 3 ∨ j = 4 ∨ j = 5 ∨ j = 6 ∨ j = 7 ∨ j = 8 by omega) with rfl | rfl | rfl | rfl | rfl | rfl | rfl | rfl | rfl <;> exact Option.some.inj hx
theorem zBk_26 : zBk 10 26 := fun j x hx => by
  have hj : j < 9 := (List.getElem?_eq_some_iff.mp hx).1
  rcases (show j = 0 ∨ j = 1 ∨ j = 2 ∨ j = 3 ∨ j = 4 ∨ j = 5 ∨ j = 6 ∨ j = 7 ∨ j = 8 by omega) with rfl | rfl | rfl | rfl | rfl | rfl | rfl | rfl | rfl <;> exact Option.some.inj hx
theorem zBk_35 : zBk 5 35 := fun j x hx => by
  have hj : j < 2 := (List.getElem?_eq_some_iff.mp hx).1
  rcases (show j = 0 ∨ j = 1 by omega) with rfl | rfl <;> exact Option.some.inj hx
theorem zR0_f {o c n k j : Nat} (hs : zS0 o = (c, n)) (h1 : ¬ c = 18 ∧ ¬ c = 19) (hr : zRf c k = some j) : zR0 o k = some (o + j) := by
  unfold zR0
  rw [hs]
  simp only [if_neg h1.1, if_neg h1.2, hr, Option.map_some]
theorem zR0_p {e : Int} (h : 0 ≤ e ∧ e < 12) : zR0 1 e.toNat = some (50 + 15 * e.toNat) := by
  unfold zR0
  rw [if_pos (by decide), if_pos (by omega)]
theorem zR0_c {e : Int} (h : 0 ≤ e ∧ e < 40) : zR0 2 e.toNat = some (230 + 5 * e.toNat) := by
  unfold zR0
  rw [if_neg (by decide), if_pos (by decide), if_pos (by omega)]
