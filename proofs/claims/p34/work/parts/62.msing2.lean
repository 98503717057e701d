/-! part 62: the reference's singing: bars, places, the loop -/
section
variable {J : zJt} {d : Nat → Nat → UInt64} {s : Int} {P S : zVt} {D : Int → Int} {O : Int → Int → Int}
/-- one place on, whatever happened -/
theorem mSg_on {W : zVt} (h : mSg W J s P O S) {z : Int} (hO : S 0 7 = 0 → ∀ i, 0 ≤ i → i < S 0 1 → O z i = O (S 0 0) i) : mSg W J s P O (vup S 0 0 z) := by
  refine ⟨h.1, ?_, ?_, ?_⟩
  · rw [vup_k (by decide)]
    exact h.2.1
  · rw [vup_k (by decide), vup_k (by decide)]
    exact h.2.2.1
  · rw [vup_k (by decide)]
    intro h7
    obtain ⟨k1, k2, k3, k4, k5, k6, k8, k9, k10⟩ := h.2.2.2 h7
    unfold mSc at *
    simp (disch := decide) only [vup_o, vup_k, vup_at]
    refine ⟨k1, ?_, k3, k4, k5, k6, k8, k9, k10⟩
    intro i i0 i1
    rw [hO h7 i i0 i1]
    exact k2 i i0 i1
/-- a change of depth and passes -/
theorem mSg_ctl {W W' T : zVt} (h : mSg W J s P O S) (h7 : S 0 7 = 0) (hT : (∀ k, 2 ≤ k → T 0 k = S 0 k) ∧ T 2 = S 2 ∧ T 3 = S 3 ∧ T 4 = S 4) (hW : (∀ o : Nat, o ≠ 480 → o ≠ 441 → o ≠ 442 → W' o = W o) ∧ ∀ k, k ≠ 19 → W' 480 k = W 480 k) (h19 : W' 480 19 = T 0 1) (hp : ∀ i, 0 ≤ i → i < T 0 1 → W' 442 i = T 1 i ∧ W' 441 i = O (T 0 0) i) : mSg W' J s P O T := by
  have fr : mFt s W J W' J := ⟨fun o ho => hW.1 o (by omega) (by omega) (by omega), fun k hk => hW.2 k (by omega), fun j _ => by rw [hW.1 453 (by decide) (by decide) (by decide)], fun _ _ _ => rfl, fun _ _ => ⟨rfl, rfl⟩⟩
  obtain ⟨k1, k2, k3, k4, k5, k6, k8, k9, k10⟩ := h.2.2.2 h7
  refine ⟨mFt_ts fr h.1, ?_, ?_, ?_⟩
  · rw [hW.2 13 (by decide), hT.1 7 (by decide)]
    exact h.2.1
  · rw [hT.1 7 (by decide)]
    exact fun q => absurd h7 q
  · intro _
    unfold mSc mBar at *
    rw [hW.2 24 (by decide), hW.2 25 (by decide), hW.2 26 (by decide), hW.2 27 (by decide), hW.2 28 (by decide), hW.1 445 (by decide) (by decide) (by decide), hW.1 446 (by decide) (by decide) (by decide), hW.1 447 (by decide) (by decide) (by decide), hW.1 453 (by decide) (by decide) (by decide), hT.1 2 (by decide), hT.1 3 (by decide), hT.1 4 (by decide), hT.1 5 (by decide), hT.1 6 (by decide), hT.2.1, hT.2.2.1, hT.2.2.2]
    exact ⟨h19, hp, k3, k4, k5, k6, k8, k9, k10⟩
end
