/-! part 43: the reference's parsing, its loop -/
section
variable {J : zJt} {d : Nat → Nat → UInt64}
/-- the tokens' numbers and kinds are small -/
def kRng (K N : Int → Int) (n : Int) : Prop := ∀ k, 0 ≤ k → k < n → (0 ≤ K k ∧ K k ≤ 9) ∧ (-100 ≤ N k ∧ N k ≤ 100)
theorem hE_rng {K N : Int → Int} {n : Int} (hr : kRng K N n) {k : Int} (h0 : 0 ≤ k) (hk : k ≤ n) : hE K N k ≤ 100 := by
  have key : ∀ m : Nat, (m : Int) ≤ n → hE K N m ≤ 100 := by
    intro m
    induction m with
    | zero => intro _; show (0 : Int) ≤ 100; decide
    | succ m ih =>
      intro hm
      rw [show ((m + 1 : Nat) : Int) = (m : Int) + 1 by omega] at hm ⊢
      rw [hE_s (by omega)]
      have := ih (by omega)
      have := (hr m (by omega) (by omega)).2
      split
      · decide
      · split
        · decide
        · split
          · omega
          · assumption
  have := key k.toNat (by omega)
  rwa [toNat_c h0] at this
end
