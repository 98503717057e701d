/-! part 71: holder, copyError, copyPitch, copyPitchAnew, begins -/
section
variable {V : zVt} {J : zJt} {N a b c t : Int}
theorem rMus_60 {V : zVt} {J : zJt} {M : Nat} {W : zVt} {K : zJt} {s x : Int} (h : rMus V J M W K s) : rMus V J M (vup W 480 60 x) K s := by
  unfold rMus mBar at h ⊢
  rw [vup_fn (by decide), vup_fn (by decide), vup_fn (by decide), vup_fn (by decide)]
  exact h
theorem iCp_F (h : zInv N V J) (hp : 0 ≤ c ∧ c < V 480 37) {n b F A fa : Int} (hx : yTx (yTt V (V 454 c).toNat) (V 432 (V 454 c).toNat) n b F A fa) : F = 0 ∧ V (50 + 15 * (V 454 c).toNat) 2 = 1 ∧ V (50 + 15 * (V 454 c).toNat) 3 = 1 ∧ V (50 + 15 * (V 454 c).toNat) 4 = 0 := by
  obtain ⟨k1, k2, k3, k4, k5⟩ := iCp_ms h hp
  have hw : (V 454 c).toNat < 12 := by omega
  have hwi : (((V 454 c).toNat : Nat) : Int) = V 454 c := by omega
  obtain ⟨a1, a2, a3, a4, a5, a6, a7⟩ := h.2.2.1 _ hw
  have p1 := a3.2 ⟨c, hp, hwi.symm⟩
  have p2 := a7 p1
  obtain ⟨⟨n2, b2, F2, A2, fa2, y1, y2, y3⟩, _⟩ := a6 p2.1
  obtain ⟨z1, z2, z3, z4, z5⟩ := yTx_un hx y1.1
  rw [p2.2, z3] at y2
  refine ⟨?_, p2.1, p1, p2.2⟩
  by_cases hF : F = 0
  · exact hF
  · exact absurd (y2.trans (if_pos hF)).symm hF
/-- a copy is read anew into music 35 -/
theorem cAnew {d : Nat → Nat → UInt64} (h : zInv N V J) (hp : 0 ≤ c ∧ c < V 480 37) : ∃ V1 V2 J2, zGo false 101 0 [.ref 0, .ref (50 + 15 * (V 454 c).toNat), .ref 26] [] (zm V J d) = zN1 V1 J d ∧ zGo false 68 0 [.ref 12, .ref 26, .ref (231 + 5 * c.toNat), .ref 3, .ref 35, .null] [] (zm V1 J d) = zN1 V2 J2 d ∧ zInv N V2 J2 ∧ (∀ o : Nat, ¬(7 ≤ o ∧ o ≤ 36) → V2 o = V o) ∧ (∀ o : Nat, o ≠ 36 → J2 o = J o) ∧ iMs V2 J2 35 (V2 454 c).toNat (V2 (232 + 5 * c.toNat)) := by
  have h37 := h.2.2.2.1
  obtain ⟨k1, k2, k3, k4, k5⟩ := iCp_ms h hp
  obtain ⟨n, b, F, A, fa, hx, hg, hm⟩ := k1
  have hF := (iCp_F h hp hx).1
  subst hF
  have hw : (V 454 c).toNat < 12 := by omega
  have hwi : (((V 454 c).toNat : Nat) : Int) = V 454 c := by omega
  generalize hwd : (V 454 c).toNat = w at *
  have hB := zBk_part hw
  have hBc := zBk_copy (i := c.toNat) (by omega)
  have hB4 := zBk_0marks hBc
  rw [show 230 + 5 * c.toNat + 1 = 231 + 5 * c.toNat by omega] at hB4
  have htx := h.1.2 w hw
  have ht := zt_ok h.1.1 (w := (w : Int)) (by omega)
  obtain ⟨V1, n2, b2, F2, A2, fa2, p1, p2, p3⟩ := sp101 (V := V) (J := J) (d := d) (T := yTt V w) (x := 26) (P := 50 + 15 * w) (n := V 432 w) hB (by omega) zBk_26 (by omega) htx.1 ht (fun q q0 q1 => by rw [show 50 + 15 * w + 1 = 51 + 15 * w by omega]; exact (htx.2 q q0 q1).trans (if_pos ⟨q0, q1⟩).symm)
  obtain ⟨z1, z2, z3, z4, z5⟩ := yTx_un hx p2.1
  rw [z1, z2, z3, z4, z5] at p2
  have f232 : V1 (231 + 5 * c.toNat + 1) = V (232 + 5 * c.toNat) := by rw [show 231 + 5 * c.toNat + 1 = 232 + 5 * c.toNat by omega]; exact p3 _ (by omega)
  have hg2 : aGood (yTt V w) (V1 (231 + 5 * c.toNat + 1)) (V1 4) (V1 5) (V1 6) (V 3 0) n := by
    rw [f232, p3 4 (by omega), p3 5 (by omega), p3 6 (by omega)]
    exact hg rfl
  obtain ⟨V2, J2, s1, s2, s3, s4⟩ := sn68 (d := d) (V := V1) (J := J) (T := yTt V w) (x := 26) (Mk := 231 + 5 * c.toNat) (M := 35) (cnt := V 3 0) zBk_26 (by omega) hB4 (by omega) zBk_35 (by omega) p2 ht (by rw [p3 3 (by omega)]) hg2
  rw [f232, p3 4 (by omega), p3 5 (by omega), p3 6 (by omega)] at s4
  have f2 : ∀ o : Nat, ¬(7 ≤ o ∧ o ≤ 36) → V2 o = V o := fun o ho => (s2 o (by omega)).trans (p3 o (by omega))
  refine ⟨V1, V2, J2, p1, s1, zInv_fr ⟨fun o ho => f2 o (by omega), by rw [f2 480 (by omega)]; exact ⟨rfl, rfl, rfl, rfl, rfl⟩, s3 _ (by decide), s3 _ (by decide)⟩ ⟨fun o ho => f2 o (by omega), fun o ho => s3 o (by omega)⟩ h, f2, fun o ho => s3 o ho, ?_⟩
  rw [f2 454 (by omega), f2 (232 + 5 * c.toNat) (by omega), hwd]
  unfold iMs yTt
  rw [f2 481 (by omega), f2 432 (by omega), f2 3 (by omega), f2 4 (by omega), f2 5 (by omega), f2 6 (by omega)]
  exact ⟨n, b, 0, A, fa, hx, hg, s4⟩
end
