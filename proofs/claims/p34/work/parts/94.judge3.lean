/-! part 94: judging in the reference -/
/-- the first copy of part w that is lent -/
def oFi (V : zVt) (w y : Int) : Prop := (y = -1 ∧ ∀ j, 0 ≤ j → j < V 480 37 → V 454 j = w → V 455 j = -1) ∨ ((0 ≤ y ∧ y < V 480 37) ∧ V 454 y = w ∧ V 455 y ≠ -1 ∧ ∀ j, 0 ≤ j → j < y → V 454 j = w → V 455 j = -1)
theorem oFi_un {V : zVt} {w y z : Int} (h : oFi V w y) (h2 : oFi V w z) : y = z := by
  rcases h with ⟨a1, a2⟩ | ⟨a1, a2, a3, a4⟩
  · rcases h2 with ⟨b1, b2⟩ | ⟨b1, b2, b3, b4⟩
    · omega
    · exact absurd (a2 z b1.1 b1.2 b2) b3
  · rcases h2 with ⟨b1, b2⟩ | ⟨b1, b2, b3, b4⟩
    · exact absurd (b2 y a1.1 a1.2 a2) a3
    · by_cases c : y < z
      · exact absurd (b4 y a1.1 c a2) a3
      · by_cases c2 : z < y
        · exact absurd (a4 z b1.1 c2 b2) b3
        · omega
section
variable {V : zVt} {J : zJt} {N p : Int} {d : Nat → Nat → UInt64}
section
variable {W : zVt} {K : zJt}
end
/-- the firsts of a piece -/
def oFs (V : zVt) (p : Int) (F : Int → Int) : Prop := ∀ v, 0 ≤ v → v < 4 → oFi V (4 * p + v) (F v)
theorem oP1_F {F : Int → Int} (hF : oFs V p F) : oP1 V p ↔ ∀ v, 0 ≤ v → v < 4 → F v ≠ -1 := by
  constructor
  · intro h v v0 v1 e
    obtain ⟨j, j1, j2⟩ := h v v0 v1
    rcases hF v v0 v1 with ⟨a1, a2⟩ | ⟨a1, _⟩
    · exact j1.2.1 (a2 j j1.1.1 j1.1.2 (by have := j1.2.2; omega))
    · omega
  · intro h v v0 v1
    rcases hF v v0 v1 with ⟨a1, a2⟩ | ⟨a1, a2, a3, a4⟩
    · exact absurd a1 (h v v0 v1)
    · exact ⟨F v, ⟨a1, a3, by omega⟩, by omega⟩
/-- a first is lent -/
theorem oFs_le {F : Int → Int} (hF : oFs V p F) {v : Int} (hv : 0 ≤ v ∧ v < 4) (h : F v ≠ -1) : oLe V p (F v) ∧ V 454 (F v) = 4 * p + v ∧ ∀ j, oLe V p j → V 454 j = 4 * p + v → F v ≤ j := by
  rcases hF v hv.1 hv.2 with ⟨a1, a2⟩ | ⟨a1, a2, a3, a4⟩
  · exact absurd a1 h
  · refine ⟨⟨a1, a3, by omega⟩, a2, fun j j1 j2 => ?_⟩
    by_cases c : j < F v
    · exact absurd (a4 j j1.1.1 c j2) j1.2.1
    · omega
/-- the reference's UNLIKE and UNEVEN -/
def oR3 (V : zVt) (J : zJt) (p : Int) (F : Int → Int) : Prop := ∃ j, oLe V p j ∧ ¬ oAk V J (233 + 5 * j.toNat) (233 + 5 * (F (V 454 j % 4)).toNat)
def oR4 (V : zVt) (F : Int → Int) : Prop := ∃ v, (0 ≤ v ∧ v < 4) ∧ ¬ oEv V (233 + 5 * (F v).toNat) (233 + 5 * (F 0).toNat)
theorem oR3_P3 {F : Int → Int} (hF : oFs V p F) (h1 : oP1 V p) : oR3 V J p F ↔ oP3 V J p := by
  have hf := (oP1_F hF).1 h1
  constructor
  · rintro ⟨j, j1, j2⟩
    have hv : 0 ≤ V 454 j % 4 ∧ V 454 j % 4 < 4 := by omega
    obtain ⟨k1, k2, k3⟩ := oFs_le hF hv (hf _ hv.1 hv.2)
    have e : V 454 j = 4 * p + V 454 j % 4 := by have := j1.2.2; omega
    have h3 := k3 j j1 e
    refine ⟨j, F (V 454 j % 4), ?_, j1, k1, by rw [k2]; exact e, j2⟩
    by_cases c : F (V 454 j % 4) = j
    · rw [c] at j2
      exact absurd ⟨rfl, fun b _ _ => ⟨rfl, rfl⟩⟩ j2
    · omega
  · rintro ⟨j, o, _, j1, o1, e, j2⟩
    by_cases c : oAk V J (233 + 5 * j.toNat) (233 + 5 * (F (V 454 j % 4)).toNat)
    · refine ⟨o, o1, fun c2 => j2 ?_⟩
      rw [← e] at c2
      exact oAk_t c (oAk_s c2)
    · exact ⟨j, j1, c⟩
theorem oR4_P4 (hi : zInv N V J) {F : Int → Int} (hF : oFs V p F) (h1 : oP1 V p) (h2 : ¬ oP2 V p) (h3 : ¬ oP3 V J p) : oR4 V F ↔ oP4 V p := by
  have hf := (oP1_F hF).1 h1
  have hr3 : ∀ j, oLe V p j → oAk V J (233 + 5 * j.toNat) (233 + 5 * (F (V 454 j % 4)).toNat) := fun j j1 => Classical.byContradiction (fun c => h3 ((oR3_P3 hF h1).1 ⟨j, j1, c⟩))
  have hz : ∀ j, oLe V p j → V (233 + 5 * j.toNat) 0 = 0 := fun j j1 => Classical.byContradiction (fun c => h2 ⟨j, j1, c⟩)
  have hmt : ∀ j, oLe V p j → V (233 + 5 * j.toNat) 3 = tN (yTt V (V 454 j).toNat) 2 := fun j j1 => iMs_mt (iCp_ms hi j1.1).1 (hz j j1)
  have hE : ∀ j, oLe V p j → oEv V (233 + 5 * j.toNat) (233 + 5 * (F (V 454 j % 4)).toNat) := fun j j1 => by
    have hv : 0 ≤ V 454 j % 4 ∧ V 454 j % 4 < 4 := by omega
    obtain ⟨k1, k2, k3⟩ := oFs_le hF hv (hf _ hv.1 hv.2)
    refine ⟨(hr3 j j1).1, Or.inr ?_⟩
    rw [hmt j j1, hmt _ k1, k2, show V 454 j = 4 * p + V 454 j % 4 by have := j1.2.2; omega]
    rw [show (4 * p + V 454 j % 4) % 4 = V 454 j % 4 by omega]
  constructor
  · rintro ⟨v, hv, c⟩
    obtain ⟨k1, k2, k3⟩ := oFs_le hF hv (hf _ hv.1 hv.2)
    obtain ⟨l1, l2, l3⟩ := oFs_le hF (v := 0) (by decide) (hf 0 (by decide) (by decide))
    by_cases q : F v < F 0
    · exact ⟨F 0, F v, q, l1, k1, fun w => c (oEv_s w)⟩
    · by_cases q2 : F 0 < F v
      · exact ⟨F v, F 0, q2, k1, l1, c⟩
      · have e : F v = F 0 := by omega
        rw [e] at c
        exact absurd ⟨rfl, Or.inr rfl⟩ c
  · rintro ⟨j, o, _, j1, o1, c⟩
    by_cases q : oEv V (233 + 5 * (F (V 454 j % 4)).toNat) (233 + 5 * (F 0).toNat)
    · refine ⟨V 454 o % 4, by omega, fun q2 => c ?_⟩
      exact oEv_t (hE j j1) (oEv_t q (oEv_s (oEv_t (hE o o1) q2)))
    · exact ⟨V 454 j % 4, by omega, q⟩
/-- what stays of a state of the reference -/
abbrev oSt (V : zVt) (J : zJt) (W : zVt) (K : zJt) (C : zVt) (D : zJt) (t : Int) (k5 : Int → Int64) : Prop := pM V W J K ∧ (∀ o : Nat, o < 430 → W o = C o ∧ K o = D o) ∧ W 480 60 = t ∧ K 474 = k5
end
