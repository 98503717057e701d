/-! part 32: tools; leaf methods of the reference's reader -/
section
variable {k pc : Nat} {ls st : List Value} {m : zM} {v : Value} {e : Nat}
theorem zGor_v : zGor false k pc ls st (.inl (some v), m) = zGo false k pc ls (v :: st) m := rfl
theorem zGor_n : zGor false k pc ls st (.inl none, m) = zGo false k pc ls st m := rfl
theorem zGor_e : zGor false k pc ls st (.inr e, m) = some (.inr e, m) := rfl
end
theorem zbs {α β : Type} (a : α) (f : α → Option β) : (some a).bind f = f a := rfl
/-- the answers -/
abbrev zI1 (x : Int) (V : zVt) (J : zJt) (d : Nat → Nat → UInt64) : Option (zRes × zM) := some (.inl (some (.int (zi x))), zm V J d)
abbrev zN1 (V : zVt) (J : zJt) (d : Nat → Nat → UInt64) : Option (zRes × zM) := some (.inl none, zm V J d)
/-- a letter of a part's text, as the reference has it -/
def zt (V : zVt) (w p : Int) : Int := if p < V 432 w then V 431 (160 * w + p) else 0
/-- the lengths are in order -/
def zTx (V : zVt) : Prop := ∀ w, 0 ≤ w → w < 12 → (0 ≤ V 432 w ∧ V 432 w ≤ 160) ∧ ∀ p, 0 ≤ p → p < V 432 w → 32 ≤ V 431 (160 * w + p) ∧ V 431 (160 * w + p) ≤ 126
theorem zt_rng {V : zVt} (h : zTx V) {w p : Int} (hw : 0 ≤ w ∧ w < 12) (hp : 0 ≤ p) : 0 ≤ zt V w p ∧ zt V w p ≤ 126 := by
  unfold zt
  split
  · have := (h w hw.1 hw.2).2 p hp (by assumption)
    omega
  · omega
section
variable {V : zVt} {J : zJt} {d : Nat → Nat → UInt64}
theorem sp158 {a b c : Int} (ha : -100000 ≤ a ∧ a < 100000) (hb : 0 ≤ b ∧ b < 100) (hc : 0 ≤ c ∧ c < 100) : zGo false 158 0 [.int (zi a), .int (zi b), .int (zi c)] [] (zm V J d) = zI1 (if 48 + b ≤ a ∧ a ≤ 48 + c then 1 else 0) V J d := by
  repeat' first
    | split
    | simp (disch := omega) only [ze_158_0, ze_158_20, ze_158_21, qw_id, zck_t, zGor_v, zGor_n, zGor_e, zbs]
  all_goals first
    | rfl
    | (exfalso; omega)
theorem sp147 {a b : Int} (ha : -2147483648 ≤ a ∧ a < 2147483648) (hb : -2147483648 ≤ b ∧ b < 2147483648) : zGo false 147 0 [.int (zi a), .int (zi b)] [] (zm V J d) = zI1 (if 0 ≤ a ∧ a < b then 1 else 0) V J d := by
  repeat' first
    | split
    | simp (disch := omega) only [ze_147_0, ze_147_13, ze_147_14, qw_id, zck_t, zGor_v, zGor_n, zGor_e, zbs]
  all_goals first
    | rfl
    | (exfalso; omega)
theorem sp148 {a b c : Int} (ha : -2147483648 ≤ a ∧ a < 2147483648) (hb : -2147483648 ≤ b ∧ b < 2147483648) (hc : -2147483648 ≤ c ∧ c < 2147483648) : zGo false 148 0 [.int (zi a), .int (zi b), .int (zi c)] [] (zm V J d) = zI1 (if b ≤ a ∧ a ≤ c then 1 else 0) V J d := by
  repeat' first
    | split
    | simp (disch := omega) only [ze_148_0, ze_148_14, ze_148_15, qw_id, zck_t, zGor_v, zGor_n, zGor_e, zbs]
  all_goals first
    | rfl
    | (exfalso; omega)
theorem sp155 (h : zTx V) {w p : Int} (hw : 0 ≤ w ∧ w < 12) (hp : 0 ≤ p ∧ p < 100000) : zGo false 155 0 [.ref 430, .int (zi w), .int (zi p)] [] (zm V J d) = zI1 (zt V w p) V J d := by
  have h1 := (h w hw.1 hw.2).1
  unfold zt
  repeat' first
    | split
    | simp (disch := omega) only [ze_155_0, ze_155_26, qw_id, zck_t, zGor_v, zGor_n, zGor_e, zbs]
  all_goals first
    | rfl
    | (exfalso; omega)
end
