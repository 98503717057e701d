/-! part 88: clashes in the reference -/
/-- the place of voice v of piece p in the reference -/
def mPv (V : zVt) (J : zJt) (p v : Int) (W : zVt) (K : zJt) : Prop := (0 ≤ W 448 v ∧ W 448 v ≤ 10) ∧ (W 448 v = 0 ↔ qH V p v = 1) ∧ W 449 v = qN V p v ∧ (qH V p v = 1 → W 450 v = V (50 + 15 * (p * 4 + v).toNat + 13) 3 ∧ rMus V J (50 + 15 * (p * 4 + v).toNat + 13) W K v)
def qL (V : zVt) (p b v : Int) : Int := if qH V p v = 1 ∧ qN V p v ≤ b then 1 else 0
theorem qL_01 (V : zVt) (p b v : Int) : qL V p b v = 0 ∨ qL V p b v = 1 := by
  unfold qL
  split
  · exact Or.inr rfl
  · exact Or.inl rfl
theorem qH_LB {V : zVt} {p b : Int} (hb : 0 ≤ b) (v : Int) : qH V p v = qL V p b v + qB V p b v := by
  unfold qL qB qN
  rcases qH_01 V p v with q | q
  · rw [q, if_neg (show ¬ (0 : Int) = 1 by decide), if_neg (by omega), if_neg (by omega)]
    rfl
  · rw [q, if_pos rfl]
    by_cases c : b < V (50 + 15 * (p * 4 + v).toNat + 13) 2
    · rw [if_pos c, if_neg (by omega)]
      rfl
    · rw [if_neg c, if_pos (by omega)]
      rfl
/-- pairs of voices unlike in meter, as far as the reference has looked -/
abbrev qQ (V : zVt) (p b v o : Int) : Prop := ∃ u t : Int, (0 ≤ u ∧ 0 ≤ t) ∧ (u < v ∧ t < u ∨ u = v ∧ t < o) ∧ b < qN V p u ∧ b < qN V p t ∧ V (50 + 15 * (p * 4 + u).toNat + 13) 3 ≠ V (50 + 15 * (p * 4 + t).toNat + 13) 3
theorem qQ_U {V : zVt} {p b : Int} : qQ V p b 4 0 ↔ qU V p b := by
  constructor
  · rintro ⟨u, t, h1, h2, h3, h4, h5⟩
    exact ⟨u, t, by omega, by omega, h3, h4, h5⟩
  · rintro ⟨v, u, h1, h2, h3, h4, h5⟩
    rcases (show v < u ∨ v = u ∨ u < v by omega) with c | c | c
    · exact ⟨u, v, by omega, by omega, h4, h3, h5.symm⟩
    · rw [c] at h5
      exact absurd rfl h5
    · exact ⟨v, u, by omega, by omega, h3, h4, h5⟩
section
variable {V : zVt} {J : zJt} {N p b : Int} {d : Nat → Nat → UInt64}
theorem rMus_48 {M : Nat} {W : zVt} {K : zJt} {s v x y : Int} (h : rMus V J M W K s) (hne : s ≠ v) : rMus V J M (vup (vup W 448 v x) 449 v y) K s := by
  unfold rMus mBar at h ⊢
  rw [vup_o (by decide), vup_k hne, vup_k hne, vup_o (by decide), vup_o (by decide), vup_o (by decide), vup_fn (by decide), vup_fn (by decide)]
  exact h
theorem pM_48 {W : zVt} {K : zJt} {v x y : Int} : pM W (vup (vup W 448 v x) 449 v y) K K := ⟨fun o ho => by rw [vup_fn (by omega), vup_fn (by omega)], ⟨by rw [vup_o (by omega), vup_o (by omega)], by rw [vup_o (by omega), vup_o (by omega)], by rw [vup_o (by omega), vup_o (by omega)], by rw [vup_o (by omega), vup_o (by omega)], by rw [vup_o (by omega), vup_o (by omega)]⟩, rfl, rfl⟩
theorem pC_48 {W : zVt} {K : zJt} {v x y : Int} : pC W (vup (vup W 448 v x) 449 v y) K K := ⟨fun o ho => by rw [vup_fn (by omega), vup_fn (by omega)], fun _ _ => rfl⟩
section
variable {W : zVt} {K : zJt}
/-- what is known of the reference's places -/
theorem mPv_f (hi : zInv N V J) (hp : 0 ≤ p ∧ p < 3) {v : Int} (hv : 0 ≤ v ∧ v < 4) (h : mPv V J p v W K) : (0 ≤ W 449 v ∧ W 449 v ≤ 40) ∧ (0 ≤ b → b < qN V p v → qH V p v = 1 ∧ b < V (50 + 15 * (p * 4 + v).toNat + 13) 2 ∧ V (50 + 15 * (p * 4 + v).toNat + 13) 2 ≤ 40 ∧ (2 ≤ V (50 + 15 * (p * 4 + v).toNat + 13) 3 ∧ V (50 + 15 * (p * 4 + v).toNat + 13) 3 ≤ 16)) := by
  obtain ⟨f1, f2, f3, f4, f5⟩ := qFa hi hp hv
  refine ⟨by rw [h.2.2.1]; exact f5, fun b0 b1 => ?_⟩
  rcases qH_01 V p v with q | q
  · unfold qN at b1
    rw [if_neg (show ¬ qH V p v = 1 by omega)] at b1
    omega
  · have e := qN_has q
    rw [e] at b1 f5
    refine ⟨q, b1, f5.2, ?_⟩
    unfold qH at q
    by_cases c : V (50 + 15 * (p * 4 + v).toNat) 3 = 1 ∧ V (50 + 15 * (p * 4 + v).toNat + 13) 0 = 0
    · have k := f4 c.1
      exact ⟨k.2.2.2.2.2 c.2, k.2.2.2.2.1.2⟩
    · rw [if_neg c] at q
      omega
end
end
