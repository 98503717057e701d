/-! part 42: the reference's parsing -/
def gPh (E F : Int) : Int := if F ≠ -1 then 1 else if 0 < E then 2 else 0
theorem gPh_cs (E F : Int) : (F ≠ -1 ∧ gPh E F = 1) ∨ (F = -1 ∧ 0 < E ∧ gPh E F = 2) ∨ (F = -1 ∧ E ≤ 0 ∧ gPh E F = 0) := by
  unfold gPh
  split
  · exact Or.inl ⟨by assumption, rfl⟩
  · split <;> omega
section
variable {V : zVt} {J : zJt} {d : Nat → Nat → UInt64}
/-- what a token does behind its check -/
def mFo (V : zVt) (k w m D : Int) : zVt :=
  if w = 6 then vup (vup (vup (vup V 441 D k) 443 D 0) 444 D 0) 480 19 (D + 1)
  else if w = 7 then vup (vup V 480 19 (D - 1)) 440 (V 441 (D - 1)) k
  else if w = 8 then vup (vup (vup V 443 (D - 1) m) 444 (D - 1) 1) 442 (D - 1) k
  else if w = 9 then vup (vup V 444 (D - 1) 2) 440 (V 442 (D - 1)) k
  else V
end
/-- the reference's state ahead of token k -/
def mGr (V : zVt) (K N : Int → Int) (k : Int) : Prop := V 480 19 = hD K k ∧ (∀ i, 0 ≤ i → i < hD K k → V 441 i = hO K k i) ∧ (0 < hD K k → V 443 (hD K k - 1) = hE K N k ∧ V 444 (hD K k - 1) = gPh (hE K N k) (hF K k)) ∧ (∀ i, 0 ≤ i → i < hD K k - 1 → V 443 i = 0 ∧ V 444 i = 0) ∧ (hF K k ≠ -1 → V 442 (hD K k - 1) = hF K k) ∧ ∀ l, 3 ≤ l → l < k → K l = 9 → V 440 (hF K l) = l
theorem mGr_v {V V2 : zVt} {K N : Int → Int} {k : Int} (h : mGr V K N k) (h1 : V2 480 19 = V 480 19) (h2 : V2 440 = V 440 ∧ V2 441 = V 441 ∧ V2 442 = V 442 ∧ V2 443 = V 443 ∧ V2 444 = V 444) : mGr V2 K N k := by
  unfold mGr at *
  rw [h1, h2.1, h2.2.1, h2.2.2.1, h2.2.2.2.1, h2.2.2.2.2]
  exact h
theorem mGr_0 {V : zVt} {K N : Int → Int} {k : Int} (h0 : 0 ≤ k) (h : k ≤ 3) (h1 : V 480 19 = 0) : mGr V K N k := by
  obtain ⟨e1, e2, e3⟩ := h_le3 (K := K) (N := N) h0 h
  unfold mGr
  rw [e1, e2, e3]
  exact ⟨h1, fun i _ _ => by omega, fun q => by omega, fun i _ _ => by omega, fun q => absurd rfl q, fun l _ _ _ => by omega⟩
theorem mGr_s {V : zVt} {K N : Int → Int} {k : Int} (h3 : 3 ≤ k) (hi : gInv K N k) (hx : gX K N k = 0) (h : mGr V K N k) : mGr (mFo V k (K k) (N k) (hD K k)) K N (k + 1) := by
  obtain ⟨⟨a1, a2, a3, a4⟩, b, c⟩ := hi
  obtain ⟨s1, s2, s3, s4, s5, s6⟩ := h
  unfold gX at hx
  rw [if_neg (by omega)] at hx
  have q := gXf_cs hx
  have eD := hD_s (K := K) (k := k) (by omega)
  have eE := hE_s (K := K) (N := N) (k := k) (by omega)
  have eF := hF_s (K := K) (k := k) (by omega)
  rw [if_neg (by omega)] at eD eE eF
  have eO := fun i => hO_s (K := K) (k := k) (i := i) (by omega)
  unfold mGr mFo
  by_cases h6 : K k = 6
  · rw [if_pos h6] at eD
    rw [if_pos (Or.inl h6)] at eE
    rw [if_neg (by omega), if_neg (by omega)] at eF
    rw [eD, eE, eF, if_pos h6]
    have q6 := q.2.2.2.2.2 h6
    refine ⟨vup_at _ _ _ _, ?_, ?_, ?_, ?_, ?_⟩
    · intro i i1 i2
      rw [eO]
      by_cases hi : i = hD K k
      · rw [if_pos ⟨h3, h6, hi⟩, hi]
        simp (disch := omega) only [vup_o, vup_at]
      · rw [if_neg (fun q => hi q.2.2)]
        simp (disch := omega) only [vup_o, vup_k]
        exact s2 i i1 (by omega)
    · intro _
      rw [show hD K k + 1 - 1 = hD K k by omega, q6.1]
      simp (disch := omega) only [vup_o, vup_at]
      exact ⟨trivial, rfl⟩
    · intro i i1 i2
      simp (disch := omega) only [vup_o, vup_k]
      by_cases hi : i = hD K k - 1
      · have := s3 (by omega)
        rw [hi, this.1, this.2, q6.1]
        have e0 : hE K N k = 0 := by omega
        rw [e0]
        exact ⟨rfl, rfl⟩
      · exact s4 i i1 (by omega)
    · intro hf
      exact absurd q6.1 hf
    · intro l l1 l2 l3
      have hl : l ≠ k := fun q => by rw [q] at l3; omega
      simp (disch := omega) only [vup_o]
      exact s6 l l1 (by omega) l3
  · rw [if_neg h6] at eD
    rw [if_neg h6]
    have eO2 : ∀ i, hO K (k + 1) i = hO K k i := fun i => by rw [eO, if_neg (fun q => h6 q.2.1)]
    by_cases h7 : K k = 7
    · rw [if_pos h7] at eD
      rw [if_pos (Or.inr h7)] at eE
      rw [if_neg (by omega), if_neg (by omega)] at eF
      have q7 := q.2.2.1 h7
      rw [eD, eE, eF, if_pos h7, q7.2.1]
      refine ⟨?_, ?_, ?_, ?_, ?_, ?_⟩
      · simp (disch := omega) only [vup_o, vup_at]
      · intro i i1 i2
        rw [eO2]
        simp (disch := omega) only [vup_o]
        exact s2 i i1 (by omega)
      · intro i2
        simp (disch := omega) only [vup_o]
        have := s4 (hD K k - 1 - 1) (by omega) (by omega)
        exact this
      · intro i i1 i2
        simp (disch := omega) only [vup_o]
        exact s4 i i1 (by omega)
      · intro hf
        exact absurd rfl hf
      · intro l l1 l2 l3
        have hl : l ≠ k := fun q => by rw [q] at l3; omega
        have cl := c l l1 (by omega) l3
        have ho := s2 (hD K k - 1) (by omega) (by omega)
        have hb := b (hD K k - 1) (by omega) (by omega)
        have hne : hF K l ≠ V 441 (hD K k - 1) := by
          intro q
          have := cl.2.1
          rw [q, ho, hb.2] at this
          omega
        rw [vup_k hne, vup_o (by decide)]
        exact s6 l l1 (by omega) l3
    · rw [if_neg h7] at eD
      rw [if_neg (by omega)] at eE
      rw [if_neg h7]
      by_cases h8 : K k = 8
      · rw [if_pos h8] at eE eF
        rw [eD, eE, eF, if_pos h8]
        have q8 := q.2.2.2.2.1 h8
        refine ⟨?_, ?_, ?_, ?_, ?_, ?_⟩
        · simp (disch := omega) only [vup_o]
          exact s1
        · intro i i1 i2
          rw [eO2]
          simp (disch := omega) only [vup_o]
          exact s2 i i1 i2
        · intro i2
          simp (disch := omega) only [vup_o, vup_at]
          refine ⟨trivial, ?_⟩
          unfold gPh
          rw [if_pos (by omega)]
        · intro i i1 i2
          simp (disch := omega) only [vup_o, vup_k]
          exact s4 i i1 i2
        · intro _
          exact vup_at _ _ _ _
        · intro l l1 l2 l3
          have hl : l ≠ k := fun q => by rw [q] at l3; omega
          simp (disch := omega) only [vup_o]
          exact s6 l l1 (by omega) l3
      · rw [if_neg h8] at eE eF
        rw [if_neg h8]
        by_cases h9 : K k = 9
        · rw [if_pos h9] at eF
          have q9 := q.2.2.2.1 h9
          have a3' : 0 < hD K k ∧ 0 < hE K N k ∧ (3 ≤ hF K k ∧ hF K k < k) ∧ K (hF K k) = 8 := by
            rcases a3 with a3 | a3
            · exact absurd a3 q9
            · exact a3
          rw [eD, eE, eF, if_pos h9, s5 q9]
          refine ⟨?_, ?_, ?_, ?_, ?_, ?_⟩
          · simp (disch := omega) only [vup_o]
            exact s1
          · intro i i1 i2
            rw [eO2]
            simp (disch := omega) only [vup_o]
            exact s2 i i1 i2
          · intro i2
            simp (disch := omega) only [vup_o, vup_at]
            refine ⟨(s3 i2).1, ?_⟩
            unfold gPh
            rw [if_neg (by omega), if_pos a3'.2.1]
          · intro i i1 i2
            simp (disch := omega) only [vup_o, vup_k]
            exact s4 i i1 i2
          · intro hf
            exact absurd rfl hf
          · intro l l1 l2 l3
            by_cases hl : l = k
            · rw [hl, vup_at]
            · have cl := c l l1 (by omega) l3
              rw [vup_k cl.2.2, vup_o (by decide)]
              exact s6 l l1 (by omega) l3
        · rw [if_neg h9] at eF
          rw [eD, eE, eF, if_neg h9]
          refine ⟨s1, ?_, s3, s4, s5, ?_⟩
          · intro i i1 i2
            rw [eO2]
            exact s2 i i1 i2
          · intro l l1 l2 l3
            have hl : l ≠ k := fun q => by rw [q] at l3; omega
            exact s6 l l1 (by omega) l3
/-- what parsing leaves -/
def mFp (V V' : zVt) : Prop := (∀ o : Nat, ¬(o = 480 ∨ (440 ≤ o ∧ o ≤ 444)) → V' o = V o) ∧ ∀ k : Int, ¬(k = 13 ∨ k = 14 ∨ k = 19) → V' 480 k = V 480 k
theorem mFp_r (V : zVt) : mFp V V := ⟨fun _ _ => rfl, fun _ _ => rfl⟩
theorem mFp_t {V V1 V2 : zVt} (h : mFp V V1) (h2 : mFp V1 V2) : mFp V V2 := ⟨fun o ho => (h2.1 o ho).trans (h.1 o ho), fun k hk => (h2.2 k hk).trans (h.2 k hk)⟩
theorem mFp_v {V : zVt} {o : Nat} {k x : Int} (h : (440 ≤ o ∧ o ≤ 444) ∨ o = 480 ∧ (k = 13 ∨ k = 14 ∨ k = 19)) : mFp V (vup V o k x) := ⟨fun o2 ho => vup_fn (by omega), fun k2 hk => vup_ne (by omega)⟩
theorem mFp_mFo (V : zVt) (k w m D : Int) : mFp V (mFo V k w m D) := by
  unfold mFo
  split
  · exact mFp_t (mFp_t (mFp_t (mFp_v (by omega)) (mFp_v (by omega))) (mFp_v (by omega))) (mFp_v (by omega))
  · split
    · exact mFp_t (mFp_v (by omega)) (mFp_v (by omega))
    · split
      · exact mFp_t (mFp_t (mFp_v (by omega)) (mFp_v (by omega))) (mFp_v (by omega))
      · split
        · exact mFp_t (mFp_v (by omega)) (mFp_v (by omega))
        · exact mFp_r V
theorem mFo_13 (V : zVt) (k w m D : Int) (j : Int) (hj : j ≠ 19) : mFo V k w m D 480 j = V 480 j := by
  unfold mFo
  split
  · simp (disch := omega) only [vup_o, vup_k]
  · split
    · simp (disch := omega) only [vup_o, vup_k]
    · split
      · simp (disch := omega) only [vup_o]
      · split
        · simp (disch := omega) only [vup_o]
        · rfl
