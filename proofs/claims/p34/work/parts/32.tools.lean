/-! part 32: tools for walking the equations -/
section
variable {k pc : Nat} {ls st : List Value} {m : zM} {v : Value} {e : Nat}
theorem zGor_v : zGor false k pc ls st (.inl (some v), m) = zGo false k pc ls (v :: st) m := rfl
theorem zGor_n : zGor false k pc ls st (.inl none, m) = zGo false k pc ls st m := rfl
theorem zGor_e : zGor false k pc ls st (.inr e, m) = some (.inr e, m) := rfl
end
theorem zbs {α β : Type} (a : α) (f : α → Option β) : (some a).bind f = f a := rfl
theorem zck_T (x : Option (zRes × zM)) {h : Decidable True} : @zck True h x = x := if_pos trivial
/-- the answers -/
abbrev zI1 (x : Int) (V : zVt) (J : zJt) (d : Nat → Nat → UInt64) : Option (zRes × zM) := some (.inl (some (.int (zi x))), zm V J d)
abbrev zN1 (V : zVt) (J : zJt) (d : Nat → Nat → UInt64) : Option (zRes × zM) := some (.inl none, zm V J d)
abbrev zR1 (o : Nat) (V : zVt) (J : zJt) (d : Nat → Nat → UInt64) : Option (zRes × zM) := some (.inl (some (.ref o)), zm V J d)
abbrev zE1 (e : Nat) (V : zVt) (J : zJt) (d : Nat → Nat → UInt64) : Option (zRes × zM) := some (.inr e, zm V J d)
theorem vup_at (V : zVt) (o : Nat) (k x : Int) : vup V o k x o k = x := if_pos ⟨rfl, rfl⟩
theorem vup_ne {V : zVt} {o o2 : Nat} {k k2 x : Int} (h : ¬ (o2 = o ∧ k2 = k)) : vup V o k x o2 k2 = V o2 k2 := if_neg h
theorem vup_o {V : zVt} {o o2 : Nat} {k k2 x : Int} (h : o2 ≠ o) : vup V o k x o2 k2 = V o2 k2 := if_neg (fun q => h q.1)
theorem vup_k {V : zVt} {o o2 : Nat} {k k2 x : Int} (h : k2 ≠ k) : vup V o k x o2 k2 = V o2 k2 := if_neg (fun q => h q.2)
theorem vup_vup (V : zVt) (o : Nat) (k x y : Int) : vup (vup V o k x) o k y = vup V o k y := by
  funext a b
  unfold vup
  by_cases h : a = o ∧ b = k
  · rw [if_pos h, if_pos h]
  · rw [if_neg h, if_neg h, if_neg h]
theorem vup_fn {V : zVt} {o o2 : Nat} {k x : Int} (h : o2 ≠ o) : vup V o k x o2 = V o2 := by
  funext b
  exact vup_o h
theorem vup_self (V : zVt) (o : Nat) (k : Int) : vup V o k (V o k) = V := by
  funext a b
  unfold vup
  split
  · rename_i h
    rw [h.1, h.2]
  · rfl
theorem jup_at (J : zJt) (o : Nat) (k : Int) (x : Int64) : jup J o k x o k = x := if_pos ⟨rfl, rfl⟩
theorem jup_o {J : zJt} {o o2 : Nat} {k k2 : Int} {x : Int64} (h : o2 ≠ o) : jup J o k x o2 k2 = J o2 k2 := if_neg (fun q => h q.1)
theorem jup_k {J : zJt} {o o2 : Nat} {k k2 : Int} {x : Int64} (h : k2 ≠ k) : jup J o k x o2 k2 = J o2 k2 := if_neg (fun q => h q.2)
theorem jup_fn {J : zJt} {o o2 : Nat} {k : Int} {x : Int64} (h : o2 ≠ o) : jup J o k x o2 = J o2 := by
  funext b
  exact jup_o h
theorem xlt_t {a b : Int} (h : a < b) : (a < b) = True := eq_true h
theorem xlt_f {a b : Int} (h : b ≤ a) : (a < b) = False := eq_false (by omega)
theorem xle_t {a b : Int} (h : a ≤ b) : (a ≤ b) = True := eq_true h
theorem xle_f {a b : Int} (h : b < a) : (a ≤ b) = False := eq_false (by omega)
theorem xeq_t {a b : Int} (h : a = b) : (a = b) = True := eq_true h
theorem xeq_f {a b : Int} (h : a < b ∨ b < a) : (a = b) = False := eq_false (by omega)
theorem xand_f {a b : Prop} (h : ¬ (a ∧ b)) : (a ∧ b) = False := eq_false h
theorem xor_t {a b : Prop} (h : a ∨ b) : (a ∨ b) = True := eq_true h
theorem qdiv_p {a b : Int} (ha : 0 ≤ a ∧ a < 2147483648) (hb : 0 < b ∧ b < 2147483648) : qdiv a b = a / b := by
  unfold qdiv
  rw [Int32.toInt_div, Int32.toInt_ofInt, Int32.toInt_ofInt]
  have e : (Int32.size : Int) = 4294967296 := rfl
  have e1 : a.bmod Int32.size = a := Int.bmod_eq_of_le (by rw [e]; omega) (by rw [e]; omega)
  have e2 : b.bmod Int32.size = b := Int.bmod_eq_of_le (by rw [e]; omega) (by rw [e]; omega)
  rw [e1, e2, Int.tdiv_eq_ediv_of_nonneg ha.1]
  have h1 : 0 ≤ a / b := Int.ediv_nonneg ha.1 (by omega)
  have h2 : a / b ≤ a := Int.ediv_le_self b ha.1
  exact Int.bmod_eq_of_le (by omega) (by omega)
