/-! part 41: the grammar, as functions of the tokens' kinds K and numbers N -/
/-- depth; opens; the number of the top repeat's last ending; the ending that is open or -1: ahead of token k -/
def gD (K : Int → Int) : Nat → Int
  | 0 => 0
  | k + 1 => if (k : Int) < 3 then 0 else if K k = 6 then gD K k + 1 else if K k = 7 then gD K k - 1 else gD K k
def gF (K : Int → Int) : Nat → Int
  | 0 => -1
  | k + 1 => if (k : Int) < 3 then -1 else if K k = 8 then k else if K k = 9 then -1 else gF K k
def gE (K N : Int → Int) : Nat → Int
  | 0 => 0
  | k + 1 => if (k : Int) < 3 then 0 else if K k = 6 ∨ K k = 7 then 0 else if K k = 8 then N k else gE K N k
def gO (K : Int → Int) : Nat → Int → Int
  | 0 => fun _ => 0
  | k + 1 => fun i => if 3 ≤ (k : Int) ∧ K k = 6 ∧ i = gD K k then k else gO K k i
abbrev hD (K : Int → Int) (k : Int) : Int := gD K k.toNat
abbrev hF (K : Int → Int) (k : Int) : Int := gF K k.toNat
abbrev hE (K N : Int → Int) (k : Int) : Int := gE K N k.toNat
abbrev hO (K : Int → Int) (k : Int) : Int → Int := gO K k.toNat
theorem toNat_s {k : Int} (h : 0 ≤ k) : (k + 1).toNat = k.toNat + 1 := by omega
theorem toNat_c {k : Int} (h : 0 ≤ k) : ((k.toNat : Nat) : Int) = k := Int.toNat_of_nonneg h
theorem hD_s {K : Int → Int} {k : Int} (h : 0 ≤ k) : hD K (k + 1) = if k < 3 then 0 else if K k = 6 then hD K k + 1 else if K k = 7 then hD K k - 1 else hD K k := by
  show gD K (k + 1).toNat = _
  rw [toNat_s h]
  show (if ((k.toNat : Nat) : Int) < 3 then 0 else if K ((k.toNat : Nat) : Int) = 6 then gD K k.toNat + 1 else if K ((k.toNat : Nat) : Int) = 7 then gD K k.toNat - 1 else gD K k.toNat) = _
  rw [toNat_c h]
theorem hF_s {K : Int → Int} {k : Int} (h : 0 ≤ k) : hF K (k + 1) = if k < 3 then -1 else if K k = 8 then k else if K k = 9 then -1 else hF K k := by
  show gF K (k + 1).toNat = _
  rw [toNat_s h]
  show (if ((k.toNat : Nat) : Int) < 3 then -1 else if K ((k.toNat : Nat) : Int) = 8 then ((k.toNat : Nat) : Int) else if K ((k.toNat : Nat) : Int) = 9 then -1 else gF K k.toNat) = _
  rw [toNat_c h]
theorem hE_s {K N : Int → Int} {k : Int} (h : 0 ≤ k) : hE K N (k + 1) = if k < 3 then 0 else if K k = 6 ∨ K k = 7 then 0 else if K k = 8 then N k else hE K N k := by
  show gE K N (k + 1).toNat = _
  rw [toNat_s h]
  show (if ((k.toNat : Nat) : Int) < 3 then 0 else if K ((k.toNat : Nat) : Int) = 6 ∨ K ((k.toNat : Nat) : Int) = 7 then 0 else if K ((k.toNat : Nat) : Int) = 8 then N ((k.toNat : Nat) : Int) else gE K N k.toNat) = _
  rw [toNat_c h]
theorem hO_s {K : Int → Int} {k i : Int} (h : 0 ≤ k) : hO K (k + 1) i = if 3 ≤ k ∧ K k = 6 ∧ i = hD K k then k else hO K k i := by
  show gO K (k + 1).toNat i = _
  rw [toNat_s h]
  show (if 3 ≤ ((k.toNat : Nat) : Int) ∧ K ((k.toNat : Nat) : Int) = 6 ∧ i = gD K k.toNat then ((k.toNat : Nat) : Int) else gO K k.toNat i) = _
  rw [toNat_c h]
/-- the fault of a token behind the header -/
def gXf (w m D E F : Int) : Int :=
  if w = 1 ∨ w = 2 ∨ (0 < D ∧ F = -1 ∧ 0 < E) ∧ w ≠ 8 ∧ w ≠ 7 then 3
  else if w = 7 then (if D = 0 ∨ F ≠ -1 then 3 else if 0 < E ∧ E ≠ m then 5 else 0)
  else if w = 9 then (if F ≠ -1 then 0 else 3)
  else if w = 8 then (if D = 0 ∨ F ≠ -1 then 3 else if m ≠ E + 1 then 5 else 0)
  else if w = 6 then (if F ≠ -1 then 3 else if D = 3 then 4 else 0) else 0
def gX (K N : Int → Int) (k : Int) : Int := if k < 3 then (if K k = k then 0 else 2) else gXf (K k) (N k) (hD K k) (hE K N k) (hF K k)
/-- the end of parsing n tokens: a fault F at token A or -1 -/
def yPs (K N : Int → Int) (n F A : Int) : Prop := (∃ k, (0 ≤ k ∧ k < n) ∧ (∀ j, 0 ≤ j → j < k → gX K N j = 0) ∧ gX K N k ≠ 0 ∧ F = gX K N k ∧ A = k) ∨ ((∀ j, 0 ≤ j → j < n → gX K N j = 0) ∧ A = -1 ∧ F = if n < 3 then 2 else if 0 < hD K n then 6 else 0)
theorem yPs_un {K N : Int → Int} {n F A F2 A2 : Int} (h : yPs K N n F A) (h2 : yPs K N n F2 A2) : F2 = F ∧ A2 = A := by
  rcases h with ⟨k, k1, k2, k3, k4, k5⟩ | ⟨k2, k3, k4⟩
  · rcases h2 with ⟨l, l1, l2, l3, l4, l5⟩ | ⟨l2, l3, l4⟩
    · have e : l = k := by
        have h1 : ¬ l < k := fun q => l3 (k2 l l1.1 q)
        have h3 : ¬ k < l := fun q => k3 (l2 k k1.1 q)
        omega
      subst e
      exact ⟨by rw [l4, k4], by rw [l5, k5]⟩
    · exact absurd (l2 k k1.1 k1.2) k3
  · rcases h2 with ⟨l, l1, l2, l3, l4, l5⟩ | ⟨l2, l3, l4⟩
    · exact absurd (k2 l l1.1 l1.2) l3
    · exact ⟨by rw [l4, k4], by rw [l3, k3]⟩
theorem gXf_cs {w m D E F : Int} (h : gXf w m D E F = 0) : w ≠ 1 ∧ w ≠ 2 ∧ (w = 7 → D ≠ 0 ∧ F = -1 ∧ (E ≤ 0 ∨ E = m)) ∧ (w = 9 → F ≠ -1) ∧ (w = 8 → D ≠ 0 ∧ F = -1 ∧ m = E + 1) ∧ (w = 6 → F = -1 ∧ D ≠ 3 ∧ (D ≤ 0 ∨ E ≤ 0)) := by
  unfold gXf at h
  split at h
  · omega
  · split at h
    · split at h
      · omega
      · split at h
        · omega
        · omega
    · split at h
      · split at h
        · omega
        · omega
      · split at h
        · split at h
          · omega
          · split at h
            · omega
            · omega
        · split at h
          · split at h
            · omega
            · split at h
              · omega
              · omega
          · omega
/-- what holds ahead of a token behind which nothing is wrong -/
def gInv (K N : Int → Int) (k : Int) : Prop :=
  ((0 ≤ hD K k ∧ hD K k ≤ 3) ∧ 0 ≤ hE K N k ∧ (hF K k = -1 ∨ 0 < hD K k ∧ 0 < hE K N k ∧ (3 ≤ hF K k ∧ hF K k < k) ∧ K (hF K k) = 8) ∧ (hD K k = 0 → hE K N k = 0)) ∧
  (∀ i, 0 ≤ i → i < hD K k → (3 ≤ hO K k i ∧ hO K k i < k) ∧ K (hO K k i) = 6) ∧
  (∀ l, 3 ≤ l → l < k → K l = 9 → (3 ≤ hF K l ∧ hF K l < l) ∧ K (hF K l) = 8 ∧ hF K l ≠ hF K k)
theorem h_le3 {K N : Int → Int} {k : Int} (h0 : 0 ≤ k) (h : k ≤ 3) : hD K k = 0 ∧ hE K N k = 0 ∧ hF K k = -1 := by
  rcases (show k = 0 ∨ k = 1 ∨ k = 2 ∨ k = 3 by omega) with rfl | rfl | rfl | rfl
  · exact ⟨rfl, rfl, rfl⟩
  · exact ⟨by rw [show (1 : Int) = 0 + 1 from rfl, hD_s (by omega)]; rfl, by rw [show (1 : Int) = 0 + 1 from rfl, hE_s (by omega)]; rfl, by rw [show (1 : Int) = 0 + 1 from rfl, hF_s (by omega)]; rfl⟩
  · exact ⟨by rw [show (2 : Int) = 1 + 1 from rfl, hD_s (by omega)]; rfl, by rw [show (2 : Int) = 1 + 1 from rfl, hE_s (by omega)]; rfl, by rw [show (2 : Int) = 1 + 1 from rfl, hF_s (by omega)]; rfl⟩
  · exact ⟨by rw [show (3 : Int) = 2 + 1 from rfl, hD_s (by omega)]; rfl, by rw [show (3 : Int) = 2 + 1 from rfl, hE_s (by omega)]; rfl, by rw [show (3 : Int) = 2 + 1 from rfl, hF_s (by omega)]; rfl⟩
theorem gInv_0 {K N : Int → Int} {k : Int} (h0 : 0 ≤ k) (h : k ≤ 3) : gInv K N k := by
  obtain ⟨e1, e2, e3⟩ := h_le3 (K := K) (N := N) h0 h
  unfold gInv
  rw [e1, e2, e3]
  exact ⟨by omega, fun i _ _ => by omega, fun l _ _ _ => by omega⟩
theorem gInv_s {K N : Int → Int} {k : Int} (h3 : 3 ≤ k) (h : gInv K N k) (hx : gX K N k = 0) : gInv K N (k + 1) := by
  obtain ⟨⟨a1, a2, a3, a4⟩, b, c⟩ := h
  unfold gX at hx
  rw [if_neg (by omega)] at hx
  have q := gXf_cs hx
  have eD := hD_s (K := K) (k := k) (by omega)
  have eE := hE_s (K := K) (N := N) (k := k) (by omega)
  have eF := hF_s (K := K) (k := k) (by omega)
  rw [if_neg (by omega)] at eD eE eF
  have eO := fun i => hO_s (K := K) (k := k) (i := i) (by omega)
  unfold gInv
  by_cases h6 : K k = 6
  · rw [if_pos h6] at eD
    rw [if_pos (Or.inl h6)] at eE
    rw [if_neg (by omega), if_neg (by omega)] at eF
    rw [eD, eE, eF]
    refine ⟨by omega, ?_, ?_⟩
    · intro i i1 i2
      rw [eO]
      by_cases hi : i = hD K k
      · rw [if_pos ⟨h3, h6, hi⟩]
        exact ⟨by omega, h6⟩
      · rw [if_neg (fun q => hi q.2.2)]
        have := b i i1 (by omega)
        exact ⟨by omega, this.2⟩
    · intro l l1 l2 l3
      have hl : l ≠ k := fun q => by rw [q] at l3; omega
      exact c l l1 (by omega) l3
  · rw [if_neg h6] at eD
    have eO2 : ∀ i, hO K (k + 1) i = hO K k i := fun i => by rw [eO, if_neg (fun q => h6 q.2.1)]
    by_cases h7 : K k = 7
    · rw [if_pos h7] at eD
      rw [if_pos (Or.inr h7)] at eE
      rw [if_neg (by omega), if_neg (by omega)] at eF
      rw [eD, eE, eF]
      refine ⟨by omega, ?_, ?_⟩
      · intro i i1 i2
        rw [eO2]
        have := b i i1 (by omega)
        exact ⟨by omega, this.2⟩
      · intro l l1 l2 l3
        have hl : l ≠ k := fun q => by rw [q] at l3; omega
        exact c l l1 (by omega) l3
    · rw [if_neg h7] at eD
      rw [if_neg (by omega)] at eE
      by_cases h8 : K k = 8
      · rw [if_pos h8] at eE eF
        rw [eD, eE, eF]
        refine ⟨⟨a1, by omega, Or.inr ⟨by omega, by omega, by omega, h8⟩, by omega⟩, ?_, ?_⟩
        · intro i i1 i2
          rw [eO2]
          have := b i i1 i2
          exact ⟨by omega, this.2⟩
        · intro l l1 l2 l3
          have hl : l ≠ k := fun q => by rw [q] at l3; omega
          have := c l l1 (by omega) l3
          exact ⟨this.1, this.2.1, by omega⟩
      · rw [if_neg h8] at eE eF
        by_cases h9 : K k = 9
        · rw [if_pos h9] at eF
          rw [eD, eE, eF]
          refine ⟨⟨a1, a2, Or.inl rfl, a4⟩, ?_, ?_⟩
          · intro i i1 i2
            rw [eO2]
            have := b i i1 i2
            exact ⟨by omega, this.2⟩
          · intro l l1 l2 l3
            by_cases hl : l = k
            · subst hl
              rcases a3 with a3 | a3
              · omega
              · exact ⟨a3.2.2.1, a3.2.2.2, by omega⟩
            · have := c l l1 (by omega) l3
              exact ⟨this.1, this.2.1, by omega⟩
        · rw [if_neg h9] at eF
          rw [eD, eE, eF]
          refine ⟨⟨a1, a2, ?_, a4⟩, ?_, ?_⟩
          · rcases a3 with a3 | a3
            · exact Or.inl a3
            · exact Or.inr ⟨a3.1, a3.2.1, by omega, a3.2.2.2⟩
          · intro i i1 i2
            rw [eO2]
            have := b i i1 i2
            exact ⟨by omega, this.2⟩
          · intro l l1 l2 l3
            have hl : l ≠ k := fun q => by rw [q] at l3; omega
            exact c l l1 (by omega) l3
theorem gInv_n {K N : Int → Int} {n : Int} (hn : 0 ≤ n) (h : ∀ j, 0 ≤ j → j < n → gX K N j = 0) : gInv K N n := by
  have key : ∀ m : Nat, (m : Int) ≤ n → gInv K N m := by
    intro m
    induction m with
    | zero => intro _; exact gInv_0 (by omega) (by omega)
    | succ m ih =>
      intro hm
      have hc : ((m + 1 : Nat) : Int) = (m : Int) + 1 := by omega
      rw [hc] at hm ⊢
      by_cases h3 : (m : Int) < 3
      · exact gInv_0 (by omega) (by omega)
      · exact gInv_s (by omega) (ih (by omega)) (h m (by omega) (by omega))
  have := key n.toNat (by omega)
  rwa [toNat_c hn] at this
/-- an ending is closed behind it -/
theorem g_last {K N : Int → Int} {n : Int} (h : ∀ j, 0 ≤ j → j < n → gX K N j = 0) (hd : hD K n = 0) {k : Int} (h3 : 3 ≤ k) (hk : k < n) (h8 : K k = 8) : ∃ l, (k < l ∧ l < n) ∧ K l = 9 ∧ hF K l = k ∧ hD K l = hD K k ∧ (∀ i, hO K l i = hO K k i) ∧ hD K (l + 1) = hD K k ∧ ∀ i, hO K (l + 1) i = hO K k i := by
  have hn := gInv_n (by omega) h
  have key : ∀ m : Nat, k + 1 + m ≤ n → (∃ l, (k < l ∧ l < k + 1 + m) ∧ K l = 9 ∧ hF K l = k ∧ hD K l = hD K k ∧ ∀ i, hO K l i = hO K k i) ∨ (hF K (k + 1 + m) = k ∧ hD K (k + 1 + m) = hD K k ∧ ∀ i, hO K (k + 1 + m) i = hO K k i) := by
    intro m
    induction m with
    | zero =>
      intro _
      right
      rw [show k + 1 + ((0 : Nat) : Int) = k + 1 by omega]
      refine ⟨?_, ?_, ?_⟩
      · rw [hF_s (by omega), if_neg (by omega), if_pos h8]
      · rw [hD_s (by omega), if_neg (by omega), if_neg (by omega), if_neg (by omega)]
      · intro i
        rw [hO_s (by omega), if_neg (by omega)]
    | succ m ih =>
      intro hm
      rw [show k + 1 + ((m + 1 : Nat) : Int) = k + 1 + (m : Int) + 1 by omega] at hm ⊢
      rcases ih (by omega) with ⟨l, l1, l2⟩ | ⟨e1, e2, e3⟩
      · exact Or.inl ⟨l, by omega, l2⟩
      · have hx := h (k + 1 + m) (by omega) (by omega)
        unfold gX at hx
        rw [if_neg (by omega)] at hx
        have q := gXf_cs hx
        by_cases h9 : K (k + 1 + m) = 9
        · exact Or.inl ⟨k + 1 + m, by omega, h9, e1, e2, e3⟩
        · right
          refine ⟨?_, ?_, ?_⟩
          · rw [hF_s (by omega), if_neg (by omega), if_neg (by omega), if_neg h9, e1]
          · rw [hD_s (by omega), if_neg (by omega), if_neg (by omega), if_neg (by omega), e2]
          · intro i
            rw [hO_s (by omega), if_neg (by omega), e3]
  rcases key (n - k - 1).toNat (by omega) with ⟨l, l1, l2, l3, l4, l5⟩ | ⟨e1, e2, e3⟩
  · refine ⟨l, by omega, l2, l3, l4, l5, ?_, ?_⟩
    · rw [hD_s (by omega), if_neg (by omega), if_neg (by omega), if_neg (by omega), l4]
    · intro i
      rw [hO_s (by omega), if_neg (by omega), l5]
  · exfalso
    rw [show k + 1 + ((n - k - 1).toNat : Int) = n by omega] at e1
    have := hn.1
    omega
