/-! part 83: a copy comes back: the invariant; back -/
section
variable {V V' : zVt} {J J' : zJt}
theorem zInv_bk {N : Int} {w k : Nat} (h : zInv N V J) (hk : (k : Int) < V 430 37) (hw : V 454 k = w)
    (hf : ∀ o : Nat, o ≠ 230 + 5 * k → o ≠ 61 + 15 * w → o ≠ 62 + 15 * w → o ≠ 63 + 15 * w → ¬(7 ≤ o ∧ o ≤ 36) → o ≠ 455 → o ≠ 456 → V' o = V o) (hj : ∀ o : Nat, o ≠ 64 + 15 * w → 37 ≤ o → J' o = J o) (hC0 : V' (230 + 5 * k) 0 = V (230 + 5 * k) 0) (hC1 : V' (230 + 5 * k) 1 = -1) (h455 : ∀ j : Int, V' 455 j = if j = k then -1 else V 455 j) (h456 : ∀ x : Int, ¬(200 * (40 + (w : Int)) ≤ x ∧ x < 200 * (40 + w) + 200) → V' 456 x = V 456 x) (hmk : iMk V' (61 + 15 * w) (40 + w)) (hms : iMs V' J' (63 + 15 * w) w (V' (62 + 15 * w))) : zInv N V' J' := by
  obtain ⟨a1, a2, a3, a4, a5, a6, a7, a8, a9, a10⟩ := h
  have hk4 : k < 40 := by omega
  have hcw := ((a5 k hk4).2.1 hk).1
  have hw12 : w < 12 := by omega
  have fs : ∀ o : Nat, o ≤ 6 → V' o = V o := fun o _ => hf _ (by omega) (by omega) (by omega) (by omega) (by omega) (by omega) (by omega)
  have fr : ∀ o : Nat, 37 ≤ o → o ≤ 49 → V' o = V o := fun o _ _ => hf _ (by omega) (by omega) (by omega) (by omega) (by omega) (by omega) (by omega)
  have fh : ∀ o : Nat, 430 ≤ o → o ≠ 455 → o ≠ 456 → V' o = V o := fun o _ _ _ => hf _ (by omega) (by omega) (by omega) (by omega) (by omega) (by omega) (by omega)
  have fp : ∀ u : Nat, u < 12 → u ≠ w → ∀ o : Nat, 50 + 15 * u ≤ o → o < 65 + 15 * u → V' o = V o := fun u _ _ o _ _ => hf _ (by omega) (by omega) (by omega) (by omega) (by omega) (by omega) (by omega)
  have fw : ∀ o : Nat, 50 + 15 * w ≤ o → o ≤ 60 + 15 * w → V' o = V o := fun o _ _ => hf _ (by omega) (by omega) (by omega) (by omega) (by omega) (by omega) (by omega)
  have fc : ∀ o : Nat, 230 ≤ o → o ≤ 429 → o ≠ 230 + 5 * k → V' o = V o := fun o _ _ _ => hf _ (by omega) (by omega) (by omega) (by omega) (by omega) (by omega) (by omega)
  have f430 := fh 430 (by omega) (by omega) (by omega)
  have f431 := fh 431 (by omega) (by omega) (by omega)
  have f432 := fh 432 (by omega) (by omega) (by omega)
  have f454 := fh 454 (by omega) (by omega) (by omega)
  have h3 := fs 3 (by omega)
  have h4 : V' 4 = V 4 ∧ V' 5 = V 5 ∧ V' 6 = V 6 := ⟨fs 4 (by omega), fs 5 (by omega), fs 6 (by omega)⟩
  have f50 : ∀ u : Nat, u < 12 → V' (50 + 15 * u) = V (50 + 15 * u) := fun u hu => by
    by_cases e : u = w
    · subst e
      exact fw _ (by omega) (by omega)
    · exact fp u hu e _ (by omega) (by omega)
  have f51 : ∀ u : Nat, u < 12 → V' (51 + 15 * u) = V (51 + 15 * u) := fun u hu => by
    by_cases e : u = w
    · subst e
      exact fw _ (by omega) (by omega)
    · exact fp u hu e _ (by omega) (by omega)
  have hmf : ∀ (M : Nat) (e : Int), (e < 40 + w ∨ 40 + (w : Int) < e) → V' M = V M → V' (M + 1) = V (M + 1) → iMk V M e → iMk V' M e := fun M e he m1 m2 m3 => by
    unfold iMk at *
    rw [m1, m2, f430]
    refine ⟨fun x x0 x1 => ?_, m3.2⟩
    rw [h456 _ (by omega)]
    exact m3.1 x x0 x1
  refine ⟨?_, ?_, ?_, ?_, ?_, ?_, ?_, ?_, ?_, a10⟩
  · unfold iTxt at *
    rw [f431, f432]
    refine ⟨a1.1, fun u u1 => ?_⟩
    rw [f50 u u1, f51 u u1]
    exact a1.2 u u1
  · unfold iCor at *
    rw [f430, h3, h4.1, h4.2.1, h4.2.2, fh 457 (by omega) (by omega) (by omega), fh 458 (by omega) (by omega) (by omega), fh 459 (by omega) (by omega) (by omega)]
    exact a2
  · intro u u1
    obtain ⟨b1, b2, b3, b4, b5, b6, b7⟩ := a3 u u1
    by_cases e : u = w
    · subst e
      have hp3 : V (50 + 15 * u) 3 = 1 := b3.2 ⟨k, ⟨by omega, hk⟩, hw⟩
      unfold iPart
      rw [f50 u u1, f430, f454]
      refine ⟨b1, b2, b3, hmk, fun q => by omega, fun q => ?_, b7⟩
      refine ⟨?_, hms⟩
      obtain ⟨n, b, F, A, fa, c1, c2, c3⟩ := (b6 q).1
      rw [yTt_fr f431 f432, f432, f50 u u1, h3, h4.1, h4.2.1, h4.2.2]
      exact ⟨n, b, F, A, fa, cRow_fr (fun o o1 o2 => fw o (by omega) (by omega)) c1, c2, c3⟩
    · unfold iPart
      rw [f50 u u1, fp u u1 e (62 + 15 * u) (by omega) (by omega), f430, f454]
      exact ⟨b1, b2, b3, hmf _ _ (by omega) (fp u u1 e _ (by omega) (by omega)) (fp u u1 e _ (by omega) (by omega)) b4, b5, fun q => iRd_fr (fp u u1 e) (hj _ (by omega) (by omega)) f431 f432 h3 h4 (b6 q), b7⟩
  · rw [f430, fs 0 (by omega)]
    exact a4
  · intro j j1
    obtain ⟨b1, b2, b3⟩ := a5 j j1
    have hmj := hmf (231 + 5 * j) j (by omega) (fc _ (by omega) (by omega) (by omega)) (fc _ (by omega) (by omega) (by omega)) b1
    by_cases e : j = k
    · subst e
      obtain ⟨c1, c2, c3, c4, c5⟩ := b2 hk
      unfold iCopy
      rw [f454, f430, hC0, hC1, h455, if_pos rfl, fc (232 + 5 * j) (by omega) (by omega) (by omega)]
      exact ⟨hmj, fun _ => ⟨c1, c2, rfl, ⟨by omega, by omega⟩, iMs_fr (fc _ (by omega) (by omega) (by omega)) (hj _ (by omega) (by omega)) f431 f432 h3 h4 c5⟩, fun q => by omega⟩
    · unfold iCopy
      rw [f454, f430, h455, if_neg (by omega), fc (230 + 5 * j) (by omega) (by omega) (by omega), fc (232 + 5 * j) (by omega) (by omega) (by omega)]
      refine ⟨hmj, fun q => ?_, b3⟩
      obtain ⟨c1, c2, c3, c4, c5⟩ := b2 q
      exact ⟨c1, c2, c3, c4, iMs_fr (fc _ (by omega) (by omega) (by omega)) (hj _ (by omega) (by omega)) f431 f432 h3 h4 c5⟩
  · intro j l j0 j1 l0 l1 q1 q2 q3
    rw [f430] at j1 l1
    rw [f454] at q3
    by_cases e : j = k
    · rw [h455, if_pos e] at q1
      exact absurd rfl q1
    · by_cases e2 : l = k
      · rw [h455 j, if_neg e] at q1
        rw [h455 l, if_pos e2, h455 j, if_neg e] at q2
        exact absurd q2 q1
      · rw [h455, if_neg e] at q1
        rw [h455 j, h455 l, if_neg e, if_neg e2] at q2
        exact a6 j l j0 j1 l0 l1 q1 q2 q3
  · unfold iReh at *
    rw [fr 43 (by omega) (by omega), fr 44 (by omega) (by omega), fr 45 (by omega) (by omega), fr 37 (by omega) (by omega), fr 38 (by omega) (by omega), fr 39 (by omega) (by omega), fr 40 (by omega) (by omega), fr 41 (by omega) (by omega), fr 42 (by omega) (by omega), fh 460 (by omega) (by omega) (by omega), fh 461 (by omega) (by omega) (by omega), fh 462 (by omega) (by omega) (by omega), fh 463 (by omega) (by omega) (by omega), fh 464 (by omega) (by omega) (by omega), fh 465 (by omega) (by omega) (by omega), fh 466 (by omega) (by omega) (by omega), fh 467 (by omega) (by omega) (by omega), f430]
    exact a7
  · intro i i0 i1
    obtain ⟨b1, b2, b3⟩ := a8 i i0 i1
    rw [fr 47 (by omega) (by omega), fh 472 (by omega) (by omega) (by omega)]
    refine ⟨b1, b2, fun q => ?_⟩
    obtain ⟨c1, c2, c3⟩ := b3 q
    rw [yTt_fr f431 f432]
    unfold iLb at *
    rw [fh 471 (by omega) (by omega) (by omega), fh 470 (by omega) (by omega) (by omega), hj 48 (by omega) (by omega), hj 49 (by omega) (by omega), hj 468 (by omega) (by omega), hj 469 (by omega) (by omega), f50 _ (by omega)]
    exact ⟨c1, c2, c3⟩
  · rw [fs 0 (by omega), f430]
    exact a9
end
section
variable {J I : zJt} {U V : zVt} {N a : Int}
/-- what both sides do when a copy comes back -/
theorem tw_back (h : zInv N U I) {k : Nat} (hk : (k : Int) < U 430 37) (hV : pC U V I J) (hV1 : V 431 = U 431 ∧ V 432 = U 432) (d : Nat → Nat → UInt64) : ∃ (x : Int) (V' : zVt) (J' : zJt) (U' : zVt) (I' : zJt), zGo false 115 0 [.ref 0, .ref (230 + 5 * k), .null, .null] [] (zm V J d) = zI1 x V' J' d ∧ pC U' V' I' J' ∧ (∀ o : Nat, 430 ≤ o → V' o = V o ∧ J' o = J o) ∧ zInv N U' I' ∧ (U' 431 = U 431 ∧ U' 432 = U 432 ∧ U' 430 = U 430 ∧ U' 454 = U 454 ∧ U' 0 = U 0 ∧ (∀ j : Int, j ≠ k → U' 455 j = U 455 j) ∧ U' 455 k = -1) ∧ ∀ (W : zVt) (K : zJt) (d1 : Nat → Nat → UInt64), pM U W I K → ∃ W', zGo false 193 0 [.ref 430, .int (zi k), .null, .null, .null] [] (zm W K d1) = zI1 x W' K d1 ∧ pM U' W' I' K ∧ (∀ o : Nat, o ≠ 455 → o ≠ 456 → W' o = W o) := by
  have h37 := h.2.2.2.1
  have hk4 : k < 40 := by omega
  obtain ⟨_, k2, k3, k4, k5⟩ := iCp_ms h (c := k) ⟨by omega, hk⟩
  rw [Int.toNat_natCast] at k3 k4
  obtain ⟨w, hw⟩ : ∃ w : Nat, U 454 k = w := ⟨(U 454 k).toNat, by omega⟩
  have hw12 : w < 12 := by omega
  have hp3 := (h.2.2.1 w hw12).2.2.1.2 ⟨k, ⟨by omega, hk⟩, hw⟩
  obtain ⟨n, b', A, fa, r1, r2, r3, r4⟩ := iPr_row h hw12 hp3
  have hmk := (h.2.2.1 w hw12).2.2.2.1
  have hmc := (h.2.2.2.2.1 k hk4).1
  have hlm := ((h.2.2.1 w hw12).2.2.2.2.2.1 r3).2
  have hcm := ((h.2.2.2.2.1 k hk4).2.1 hk).2.2.2.2
  rw [hw, show ((w : Nat) : Int).toNat = w by omega] at hcm
  have ht := zt_ok h.1.1 (w := (w : Int)) (by omega)
  have hcor := h.2.1.1
  unfold iMk at hmk hmc
  rw [show 61 + 15 * w + 1 = 62 + 15 * w by omega] at hmk
  rw [show 231 + 5 * k + 1 = 232 + 5 * k by omega] at hmc
  have r2c : aGood (yTt U w) (U (232 + 5 * k)) (U 4) (U 5) (U 6) (U 3 0) n := by
    obtain ⟨n2, b2, F2, A2, fa2, x1, x2, x3⟩ := hcm
    obtain ⟨u1, u2, u3, u4, u5⟩ := yTx_un r1.1 x1
    rw [u1, u3] at x2
    exact x2 rfl
  have v : ∀ o : Nat, 37 ≤ o → o ≤ 429 → V o = U o := fun o o1 o2 => hV.1 o (by omega)
  have hy : yTt V w = yTt U w := yTt_fr hV1.1 hV1.2
  have v3 := hV.1 3 (by omega)
  have v4 := hV.1 4 (by omega)
  have v5 := hV.1 5 (by omega)
  have v6 := hV.1 6 (by omega)
  obtain ⟨V2, J2, s1, s2, s3, s4, s5, s6, s7, s8⟩ := cp115 (V := V) (J := J) (d := d) hw12 hk4 (by rw [v _ (by omega) (by omega), k3, hw]) (n := n) (b := b') (A := A) (fa := fa) (by rw [hy, hV1.2]; exact cRow_fr (fun o o1 o2 => v o (by omega) (by omega)) r1) (by rw [hy, hV1.2]; exact ht) (by rw [hy, v3, v4, v5, v6, v _ (by omega) (by omega)]; exact r2) (by rw [hy, v3, v4, v5, v6, v _ (by omega) (by omega)]; exact r2c) (by rw [v _ (by omega) (by omega), v _ (by omega) (by omega)]; exact hmk.2) (by rw [v (62 + 15 * w) (by omega) (by omega)]; exact iMs_fr (v _ (by omega) (by omega)) (hV.2 _ (by omega)) hV1.1 hV1.2 v3 ⟨v4, v5, v6⟩ hlm)
  rw [v (62 + 15 * w) (by omega) (by omega)] at s1 s2
  rw [v (232 + 5 * k) (by omega) (by omega)] at s2
  have q2 : ∀ o : Nat, 430 ≤ o → V2 o = V o := fun o ho => s6 o (by omega) (by omega) (by omega) (by omega) (by omega)
  have q2j : ∀ o : Nat, 430 ≤ o → J2 o = J o := fun o ho => s7 o (by omega)
  -- the joint state
  have hU' : ∃ U' : zVt, (∀ o : Nat, o < 430 → U' o = V2 o) ∧ (∀ o : Nat, 430 ≤ o → o ≠ 455 → o ≠ 456 → U' o = U o) ∧ (∀ j : Int, U' 455 j = if j = k then -1 else U 455 j) ∧ ∀ x : Int, U' 456 x = if 200 * (40 + (w : Int)) ≤ x ∧ x < 200 * (40 + w) + U 430 42 then yOr (U (62 + 15 * w)) (U (232 + 5 * k)) (x - 200 * (40 + w)) else U 456 x := by
    refine ⟨fun o => if o < 430 then V2 o else if o = 455 then (fun j => if j = (k : Int) then -1 else U 455 j) else if o = 456 then (fun x => if 200 * (40 + (w : Int)) ≤ x ∧ x < 200 * (40 + w) + U 430 42 then yOr (U (62 + 15 * w)) (U (232 + 5 * k)) (x - 200 * (40 + w)) else U 456 x) else U o, fun o ho => if_pos ho, fun o h1 h2 h3 => ?_, fun j => rfl, fun x => rfl⟩
    show (if o < 430 then V2 o else if o = 455 then _ else if o = 456 then _ else U o) = U o
    rw [if_neg (by omega), if_neg h2, if_neg h3]
  obtain ⟨U', u1, u2, u3, u4⟩ := hU'
  have hI' : ∃ I' : zJt, (∀ o : Nat, o < 430 → I' o = J2 o) ∧ ∀ o : Nat, 430 ≤ o → I' o = I o := ⟨fun o => if o < 430 then J2 o else I o, fun o ho => if_pos ho, fun o ho => if_neg (by omega)⟩
  obtain ⟨I', i1, i2⟩ := hI'
  have hyc : yCt (yNf (U (62 + 15 * w)) (U (232 + 5 * k))) (U 430 42).toNat = yCt (V2 (62 + 15 * w)) 200 - yCt (U (62 + 15 * w)) 200 := by
    have e := yCt_more (H := yNf (U (62 + 15 * w)) (U (232 + 5 * k))) (n := (U 430 42).toNat) (200 - (U 430 42).toNat) (fun x x0 x1 => by
      unfold yNf
      rw [if_neg (fun q => q.1 ((hmc.1 x (by omega) (by omega)).2.2 (by omega)))])
    rw [show (U 430 42).toNat + (200 - (U 430 42).toNat) = 200 by omega] at e
    have e2 := yCt_or (U (62 + 15 * w)) (U (232 + 5 * k)) 200
    have e3 := yCt_cong (H := yOr (U (62 + 15 * w)) (U (232 + 5 * k))) (H' := V2 (62 + 15 * w)) 200 (fun x x0 x1 => by rw [s2 x x0 x1])
    omega
  refine ⟨_, V2, J2, U', I', s1, ⟨fun o ho => (u1 o (by omega)).symm, fun o ho => (i1 o (by omega)).symm⟩, fun o ho => ⟨q2 o ho, q2j o ho⟩, ?_, ⟨u2 431 (by omega) (by omega) (by omega), u2 432 (by omega) (by omega) (by omega), u2 430 (by omega) (by omega) (by omega), u2 454 (by omega) (by omega) (by omega), ?_, fun j hj => by rw [u3, if_neg hj], by rw [u3, if_pos rfl]⟩, ?_⟩
  · refine zInv_bk (w := w) (k := k) h hk hw ?_ ?_ ?_ ?_ u3 ?_ ?_ ?_
    · intro o h1 h2 h3 h4 h5 h6 h7
      by_cases e : o < 430
      · rw [u1 o e, s6 o h1 h2 h3 h4 (by omega)]
        exact hV.1 o (by omega)
      · exact u2 o (by omega) h6 h7
    · intro o h1 h2
      by_cases e : o < 430
      · rw [i1 o e, s7 o h1]
        exact hV.2 o (by omega)
      · exact i2 o (by omega)
    · rw [u1 _ (by omega), s4 0 (by decide), v _ (by omega) (by omega)]
    · rw [u1 _ (by omega), s5]
    · intro x hx
      rw [u4, if_neg (by omega)]
    · unfold iMk
      rw [show 61 + 15 * w + 1 = 62 + 15 * w by omega, u1 (61 + 15 * w) (by omega), u1 (62 + 15 * w) (by omega), u2 430 (by omega) (by omega) (by omega)]
      refine ⟨fun c c0 c1 => ?_, s3⟩
      have e1 := hmk.1 c c0 c1
      have e2 := hmc.1 c c0 c1
      rw [s2 c c0 c1, u4]
      unfold yOr
      by_cases e : c < U 430 42
      · rw [if_pos (by omega), show 200 * (40 + (w : Int)) + c - 200 * (40 + w) = c by omega]
        refine ⟨rfl, ?_, fun q => by omega⟩
        split
        · exact Or.inr rfl
        · exact e1.2.1
      · rw [if_neg (by omega), if_neg (fun q => q (e2.2.2 (by omega)))]
        exact e1
    · rw [u1 (62 + 15 * w) (by omega)]
      exact iMs_fr (u1 _ (by omega)) (i1 _ (by omega)) (by rw [u2 431 (by omega) (by omega) (by omega), q2 431 (by omega)]; exact hV1.1.symm) (by rw [u2 432 (by omega) (by omega) (by omega), q2 432 (by omega)]; exact hV1.2.symm) (u1 _ (by omega)) ⟨u1 _ (by omega), u1 _ (by omega), u1 _ (by omega)⟩ s8
  · rw [u1 0 (by omega), s6 0 (by omega) (by omega) (by omega) (by omega) (by omega)]
    exact hV.1 0 (by omega)
  · intro W K d1 hm
    have w42 := hm.2.1.2.1
    obtain ⟨W', t1, t2, t3, t4⟩ := m193 (V := W) (J := K) (d := d1) (G := U (62 + 15 * w)) (H := U (232 + 5 * k)) (c := k) (w := w) (by omega) (by omega) (fun i j0 j1 => (hmk.1 i j0 j1).2.1) (fun i j0 j1 => (hmc.1 i j0 j1).2.1) (by rw [w42]; exact hcor) (by rw [hm.1 454 (by omega)]; exact hw) (fun i j0 j1 => by rw [hm.1 456 (by omega)]; exact (hmc.1 i j0 j1).1) (fun i j0 j1 => by rw [hm.1 456 (by omega)]; exact (hmk.1 i j0 j1).1)
    rw [w42] at t1 t2
    refine ⟨W', by rw [← hyc]; exact t1, ⟨fun o ho => ?_, ?_, (hm.2.2.1).trans (by rw [i2 468 (by omega)]), (hm.2.2.2).trans (by rw [i2 469 (by omega)])⟩, t4⟩
    · by_cases e1 : o = 455
      · subst e1
        funext j
        rw [t3, u3, hm.1 455 (by omega)]
      · by_cases e2 : o = 456
        · subst e2
          funext x
          rw [t2, u4, hm.1 456 (by omega)]
        · rw [t4 o e1 e2, u2 o (by omega) e1 e2]
          exact hm.1 o ho
    · rw [t4 430 (by omega) (by omega), u2 430 (by omega) (by omega) (by omega)]
      exact hm.2.1
theorem x114 (h : zInv N V J) (hN : N < 600) (ha : -2147483648 ≤ a ∧ a < 2147483648) : zTw N V J 114 [.ref 0, .int (zi a), .null] 192 [.ref 430, .int (zi a), .null] [0, 2] := by
  intro d
  have e112 := cp112 (d := d) h ha
  have h37 := h.2.2.2.1
  by_cases hp : 0 ≤ a ∧ a < V 430 37
  · rw [if_pos hp] at e112
    obtain ⟨k, rfl⟩ : ∃ k : Nat, a = k := ⟨a.toNat, by omega⟩
    rw [Int.toNat_natCast] at e112
    have hk4 : k < 40 := by omega
    have hBc := zBk_copy hk4
    obtain ⟨_, k2, k3, k4, k5⟩ := iCp_ms h hp
    rw [Int.toNat_natCast] at k3 k4
    by_cases hl : V 455 k = -1
    · right
      refine ⟨1, 2, V, J, rfl, ?_, zRn_of h hN ?_⟩
      · simp (disch := first | omega | assumption | (simp (disch := omega) only [vup_fn, vup_o, vup_k, vup_at]; first | done | omega | assumption)) only [ze_114_0, ze_114_5, ze_114_29, e112, k4, hl, Int.add_zero, ↓reduceIte, qw_id, zck_T, zck_t, zGor_v, zGor_n, zGor_e, zbs, vup_at, vup_vup, vup_self, vup_o, vup_k, vup_fn, ne_eq, not_true_eq_false, not_false_eq_true, and_true, true_and, and_self, and_false, false_and, or_true, true_or, or_self, or_false, false_or, xlt_t, xlt_f, xle_t, xle_f, xeq_t, xeq_f, xand_f, xor_t]
      intro J2 d2 hj hi
      have e189 := m189 (V := V) (J := J2) (d := d2) (c := k) h37.1 (by omega)
      rw [if_pos hp] at e189
      have e2 := sm150 (V := V) (J := J2) (d := d2) (p := 1) (q := 0) (r := 1) (by omega) (by omega) (by omega)
      rw [if_neg (show ¬ gC 1 0 1 = 0 by decide)] at e2
      refine ⟨0, vup V 430 60 (gC 1 0 1), J2, ?_, vup_at _ _ _ _, pM_60, pC_60, rfl, fun w => by omega⟩
      simp (disch := first | omega | assumption | (simp (disch := omega) only [vup_fn, vup_o, vup_k, vup_at]; first | done | omega | assumption)) only [ze_192_0, ze_192_5, ze_192_26, ze_192_27, ze_192_31, ze_192_39, ze_192_43, e189, hl, e2, Int.add_zero, ↓reduceIte, qw_id, zck_T, zck_t, zGor_v, zGor_n, zGor_e, zbs, vup_at, vup_vup, vup_self, vup_o, vup_k, vup_fn, ne_eq, not_true_eq_false, not_false_eq_true, and_true, true_and, and_self, and_false, false_and, or_true, true_or, or_self, or_false, false_or, xlt_t, xlt_f, xle_t, xle_f, xeq_t, xeq_f, xand_f, xor_t]
    · left
      obtain ⟨x, V1, J1, U1, I1, q1, q2, q3, q4, q5, q6⟩ := tw_back (k := k) (V := V) (J := J) h hp.2 pC_r ⟨rfl, rfl⟩ d
      refine ⟨x, V1, J1, ?_, ?_⟩
      · simp (disch := first | omega | assumption | (simp (disch := omega) only [vup_fn, vup_o, vup_k, vup_at]; first | done | omega | assumption)) only [ze_114_0, ze_114_5, ze_114_29, e112, k4, q1, Int.add_zero, ↓reduceIte, qw_id, zck_T, zck_t, zGor_v, zGor_n, zGor_e, zbs, vup_at, vup_vup, vup_self, vup_o, vup_k, vup_fn, ne_eq, not_true_eq_false, not_false_eq_true, and_true, true_and, and_self, and_false, false_and, or_true, true_or, or_self, or_false, false_or, xlt_t, xlt_f, xle_t, xle_f, xeq_t, xeq_f, xand_f, xor_t]
      intro J2 d2 hj
      have g430 := (q3 430 (by omega)).1
      have g455 := (q3 455 (by omega)).1
      have e189 := m189 (V := V1) (J := J2) (d := d2) (c := k) (by rw [g430]; exact h37.1) (by omega)
      rw [g430, if_pos hp] at e189
      have hl1 : V1 455 k = V 455 k := by rw [g455]
      have e2 := sm150 (V := V1) (J := J2) (d := d2) (p := 1) (q := 1) (r := 1) (by omega) (by omega) (by omega)
      rw [if_pos (show gC 1 1 1 = 0 from rfl)] at e2
      have hpm : pM V (vup V1 430 60 (gC 1 1 1)) J J2 := by
        refine pM_t (V1 := V1) (J1 := J2) ⟨fun o ho => (q3 o (by omega)).1, ⟨by rw [g430], by rw [g430], by rw [g430], by rw [g430], by rw [g430]⟩, ?_, ?_⟩ pM_60
        · rw [hj 468 (by omega), (q3 468 (by omega)).2]
        · rw [hj 469 (by omega), (q3 469 (by omega)).2]
      obtain ⟨W', w1, w2, w3⟩ := q6 _ J2 d2 hpm
      refine ⟨x, W', J2, ?_, by rw [w3 430 (by omega) (by omega), vup_at]; rfl, zInv_up (zInv_fr w2 ⟨fun o ho => ?_, fun o ho => ?_⟩ q4) hN, rfl, fun _ => rfl⟩
      · simp (disch := first | omega | assumption | (simp (disch := omega) only [vup_fn, vup_o, vup_k, vup_at]; first | done | omega | assumption)) only [ze_192_0, ze_192_5, ze_192_26, ze_192_27, ze_192_31, ze_192_39, ze_192_43, e189, hl1, e2, w1, Int.add_zero, ↓reduceIte, qw_id, zck_T, zck_t, zGor_v, zGor_n, zGor_e, zbs, vup_at, vup_vup, vup_self, vup_o, vup_k, vup_fn, ne_eq, not_true_eq_false, not_false_eq_true, and_true, true_and, and_self, and_false, false_and, or_true, true_or, or_self, or_false, false_or, xlt_t, xlt_f, xle_t, xle_f, xeq_t, xeq_f, xand_f, xor_t]
      · rw [w3 o (by omega) (by omega), vup_fn (by omega)]
        exact q2.1 o ho
      · rw [hj o (by omega)]
        exact q2.2 o ho
  · right
    rw [if_neg hp] at e112
    refine ⟨0, 0, V, J, rfl, ?_, zRn_of h hN ?_⟩
    · simp (disch := first | omega | assumption | (simp (disch := omega) only [vup_fn, vup_o, vup_k, vup_at]; first | done | omega | assumption)) only [ze_114_0, ze_114_5, ze_114_29, e112, Int.add_zero, ↓reduceIte, qw_id, zck_T, zck_t, zGor_v, zGor_n, zGor_e, zbs, vup_at, vup_vup, vup_self, vup_o, vup_k, vup_fn, ne_eq, not_true_eq_false, not_false_eq_true, and_true, true_and, and_self, and_false, false_and, or_true, true_or, or_self, or_false, false_or, xlt_t, xlt_f, xle_t, xle_f, xeq_t, xeq_f, xand_f, xor_t]
    intro J2 d2 hj hi
    have e189 := m189 (V := V) (J := J2) (d := d2) (c := a) h37.1 ha
    rw [if_neg hp] at e189
    have e2 := sm150 (V := V) (J := J2) (d := d2) (p := 0) (q := 0) (r := 1) (by omega) (by omega) (by omega)
    rw [if_neg (show ¬ gC 0 0 1 = 0 by decide)] at e2
    refine ⟨0, vup V 430 60 (gC 0 0 1), J2, ?_, vup_at _ _ _ _, pM_60, pC_60, rfl, fun w => by omega⟩
    simp (disch := first | omega | assumption | (simp (disch := omega) only [vup_fn, vup_o, vup_k, vup_at]; first | done | omega | assumption)) only [ze_192_0, ze_192_5, ze_192_26, ze_192_27, ze_192_31, ze_192_39, ze_192_43, e189, e2, Int.add_zero, ↓reduceIte, qw_id, zck_T, zck_t, zGor_v, zGor_n, zGor_e, zbs, vup_at, vup_vup, vup_self, vup_o, vup_k, vup_fn, ne_eq, not_true_eq_false, not_false_eq_true, and_true, true_and, and_self, and_false, false_and, or_true, true_or, or_self, or_false, false_or, xlt_t, xlt_f, xle_t, xle_f, xeq_t, xeq_f, xand_f, xor_t]
end
