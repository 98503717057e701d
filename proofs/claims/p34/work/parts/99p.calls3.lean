/-! part 99p: lend, back, pencil: what the class answers and does; the ghosts go along (printed by program: wip/p34/gen/mk_calls3.py) -/
/-- what lend, back and pencil leave as it was -/
def lFr (V V' : zVt) : Prop := (∀ o : Nat, ((37 ≤ o ∧ o ≤ 49) ∨ (430 ≤ o ∧ o ≤ 432) ∨ o = 454 ∨ (460 ≤ o ∧ o ≤ 472)) → V' o = V o) ∧ (V' 0 = V 0 ∧ V' 480 37 = V 480 37 ∧ V' 480 46 = V 480 46 ∧ V' 480 52 = V 480 52 ∧ V' 480 59 = V 480 59)
/-- the objects that are there from V, the ghosts from U -/
def mixV (V U : zVt) : zVt := fun o => if o < 432 then V o else U o
def mixJ (J I : zJt) : zJt := fun o => if o < 432 then J o else I o
theorem mixV_l {V U : zVt} {o : Nat} (h : o < 432) : mixV V U o = V o := if_pos h
theorem mixV_r {V U : zVt} {o : Nat} (h : 432 ≤ o) : mixV V U o = U o := if_neg (by omega)
theorem mixJ_l {V U : zJt} {o : Nat} (h : o < 432) : mixJ V U o = V o := if_pos h
theorem mixJ_r {V U : zJt} {o : Nat} (h : 432 ≤ o) : mixJ V U o = U o := if_neg (by omega)
theorem zm_mix (V U : zVt) (J I : zJt) (d : Nat → Nat → UInt64) : zm V J d = zm (mixV V U) (mixJ J I) d := zm_cg (fun _ h => mixV_l h) (fun _ h => mixJ_l h)
theorem zInv_mix {N : Int} {V U : zVt} {J I : zJt} (h : zInv N U I) (hc : pC U V I J) : zInv N (mixV V U) (mixJ J I) := by
  refine zInv_fr ⟨fun o ho => mixV_r (by omega), ⟨by rw [mixV_r (by omega)], by rw [mixV_r (by omega)], by rw [mixV_r (by omega)], by rw [mixV_r (by omega)], by rw [mixV_r (by omega)]⟩, mixJ_r (by omega), mixJ_r (by omega)⟩ ⟨fun o ho => ?_, fun o ho => ?_⟩ h
  · rw [mixV_l (by omega)]
    exact hc.1 o ho
  · rw [mixJ_l (by omega)]
    exact hc.2 o ho
section
variable {V : zVt} {J : zJt} {N a b m v : Int} {d : Nat → Nat → UInt64}
theorem c_lend (h : zInv N V J) (hp : 0 ≤ a ∧ a < V 480 37) (hq : 0 ≤ b ∧ b < 12) :
    ((V 455 a = -1 ∧ ¬ ∃ j, (0 ≤ j ∧ j < V 480 37) ∧ V 455 j = b ∧ V 454 j / 4 = V 454 a / 4) ∧ ∃ x V' J', wstub 9 [zi a, zi b] (zm V J d) = some (zi x, zm V' J' d) ∧ zInv N V' J' ∧ (0 ≤ x ∧ x ≤ V 480 42) ∧ lFr V V' ∧ V' 480 42 = V 480 42 ∧ ∀ j, V' 455 j = if j = a then b else V 455 j) ∨
    (¬(V 455 a = -1 ∧ ¬ ∃ j, (0 ≤ j ∧ j < V 480 37) ∧ V 455 j = b ∧ V 454 j / 4 = V 454 a / 4) ∧ wstub 9 [zi a, zi b] (zm V J d) = some (zi (-103), zm V J d)) := by
  have h37 := h.2.2.2.1
  have ha : -2147483648 ≤ a ∧ a < 2147483648 := by omega
  have hb : -2147483648 ≤ b ∧ b < 2147483648 := by omega
  have e112 := cp112 (d := d) h ha
  rw [if_pos hp] at e112
  obtain ⟨k, rfl⟩ : ∃ k : Nat, a = k := ⟨a.toNat, by omega⟩
  rw [Int.toNat_natCast] at e112
  have hk4 : k < 40 := by omega
  have hBc := zBk_copy hk4
  obtain ⟨hm, k2, k3, k4, k5⟩ := iCp_ms h hp
  rw [Int.toNat_natCast] at hm k3 k4
  obtain ⟨y, y1, y2, y3⟩ := sp113 (d := d) h (s := b) (p := V 454 k / 4) hb (by omega)
  have hdv := qdiv_p (a := V 454 k) (b := 4) (by omega) (by omega)
  by_cases hl : V 455 k = -1 ∧ y = 0
  · left
    obtain ⟨hl1, hl2⟩ := hl
    subst hl2
    obtain ⟨w, hw⟩ : ∃ w : Nat, V 454 k = w := ⟨(V 454 k).toNat, by omega⟩
    have hw12 : w < 12 := by omega
    have hwt : ((w : Nat) : Int).toNat = w := by omega
    have hB := zBk_part hw12
    have hp3 := (h.2.2.1 w hw12).2.2.1.2 ⟨k, hp, hw⟩
    obtain ⟨n, b', A, fa, r1, r2, r3, r4⟩ := iPr_row h hw12 hp3
    have hmk := (h.2.2.1 w hw12).2.2.2.1
    have hmc := (h.2.2.2.2.1 k hk4).1
    have ht := zt_ok h.1.1 (w := (w : Int)) (by omega)
    unfold iMk at hmk hmc
    have f62 : 61 + 15 * w + 1 = 62 + 15 * w := by omega
    have f32 : 231 + 5 * k + 1 = 232 + 5 * k := by omega
    rw [f62] at hmk
    rw [f32] at hmc
    have g62 : 50 + 15 * w + 11 + 1 = 62 + 15 * w := by omega
    have g32 : 230 + 5 * k + 1 + 1 = 232 + 5 * k := by omega
    have g31 : 230 + 5 * k + 1 = 231 + 5 * k := by omega
    have g61 : 50 + 15 * w + 11 = 61 + 15 * w := by omega
    obtain ⟨V1, s1, s2, s3, s4, s5, s6⟩ := sl26 (J := J) (d := d) (X := 230 + 5 * k + 1) (Y := 50 + 15 * w + 11) (zBk_0marks hBc) (zBk_6marks hB) (by omega) (by omega) (by omega) 200 (vup V (230 + 5 * k) 1 b) 0 (by omega) (by omega) (fun c c0 c1 => by rw [vup_o (by omega), g62]; exact (hmk.1 c c0 c1).2.1)
    rw [g62, g32] at s2
    rw [g61, vup_o (by omega)] at s4
    have f1 : ∀ o : Nat, o ≠ 230 + 5 * k → o ≠ 231 + 5 * k → o ≠ 232 + 5 * k → V1 o = V o := fun o o1 o2 o3 => by rw [s6 o (by omega) (by omega), vup_fn (by omega)]
    have f10 : ∀ x, x ≠ 1 → V1 (230 + 5 * k) x = V (230 + 5 * k) x := fun x hx => by rw [s6 _ (by omega) (by omega), vup_k hx]
    have f11 : V1 (230 + 5 * k) 1 = b := by rw [s6 _ (by omega) (by omega), vup_at]
    have m1 : ∀ c, 0 ≤ c → c < 200 → V1 (232 + 5 * k) c = V (62 + 15 * w) c := fun c c0 c1 => by rw [s2 c c0 c1, vup_o (by omega)]
    have hy1 : yTt V1 w = yTt V w := yTt_fr (f1 481 (by omega) (by omega) (by omega)) (f1 432 (by omega) (by omega) (by omega))
    obtain ⟨V2, J2, t1, t2, t3, t4⟩ := cp110 (d := d) (V := V1) (J := J) (w := w) (k := k) hw12 hk4 (by rw [f10 0 (by decide), k3, hw]) (n := n) (b := b') (A := A) (fa := fa) (by rw [hy1, f1 432 (by omega) (by omega) (by omega)]; exact cRow_fr (fun o o1 o2 => f1 o (by omega) (by omega) (by omega)) r1) (by rw [hy1, f1 432 (by omega) (by omega) (by omega)]; exact ht) (by rw [hy1, f1 3 (by omega) (by omega) (by omega), f1 4 (by omega) (by omega) (by omega), f1 5 (by omega) (by omega) (by omega), f1 6 (by omega) (by omega) (by omega)]; exact aGood_H r2 m1)
    have f2 : ∀ o : Nat, ¬(12 ≤ o ∧ o ≤ 25) → o ≠ 233 + 5 * k → o ≠ 230 + 5 * k → o ≠ 231 + 5 * k → o ≠ 232 + 5 * k → V2 o = V o := fun o o1 o2 o3 o4 o5 => by rw [t2 o (by omega), f1 o o3 o4 o5]
    have ans : V2 (230 + 5 * k + 1) 1 = yCt (V (62 + 15 * w)) 200 := by
      rw [t2 _ (by omega), s4]
      exact hmk.2
    have hgo : zGo false 111 0 [.ref 0, .int (zi k), .int (zi b), .null] [] (zm V J d) = zI1 (yCt (V (62 + 15 * w)) 200) V2 J2 d := by
      rw [hw] at hdv y3
      have hB4 := zBk_6marks hB
      have hB4c := zBk_0marks hBc
      rw [← ans]
      simp (disch := first | omega | assumption | (simp (disch := omega) only [vup_fn, vup_o, vup_k, vup_at]; first | done | omega | assumption)) only [ze_111_0, ze_111_5, ze_111_16, ze_111_45, ze_111_48, ze_111_82, ze_111_87, ze_26_0, e112, k4, k3, hw, hdv, y3, hwt, s1, t1, Int.add_zero, ↓reduceIte, qw_id, zck_T, zck_t, zGor_v, zGor_n, zGor_e, zbs, vup_at, vup_vup, vup_self, vup_o, vup_k, vup_fn, ne_eq, not_true_eq_false, not_false_eq_true, and_true, true_and, and_self, and_false, false_and, or_true, true_or, or_self, or_false, false_or, xlt_t, xlt_f, xle_t, xle_f, xeq_t, xeq_f, xand_f, xor_t]
    have hcor := h.2.1.1
    have hno : ¬∃ j, (0 ≤ j ∧ j < V 480 37) ∧ V 455 j = b ∧ V 454 j / 4 = V 454 k / 4 := fun q => by
      have := y2.2 q
      omega
    have hyc : yCt (V (62 + 15 * w)) (V 480 42).toNat = yCt (V (62 + 15 * w)) 200 := by
      have e := yCt_more (H := V (62 + 15 * w)) (n := (V 480 42).toNat) (200 - (V 480 42).toNat) (fun x x0 x1 => (hmk.1 x (by omega) (by omega)).2.2 (by omega))
      rw [show (V 480 42).toNat + (200 - (V 480 42).toNat) = 200 by omega] at e
      exact e.symm
    have hyr := yCt_rng (V (62 + 15 * w)) (V 480 42).toNat
    obtain ⟨V4, f4, f455, f456⟩ : ∃ V4 : zVt, (∀ o : Nat, o ≠ 455 → o ≠ 456 → V4 o = V2 o) ∧ (∀ j, V4 455 j = if j = (k : Int) then b else V 455 j) ∧ ∀ x, V4 456 x = if 200 * (k : Int) ≤ x ∧ x < 200 * k + V 480 42 then V (62 + 15 * w) (x - 200 * k) else V 456 x :=
      ⟨fun o => if o = 455 then (fun j => if j = (k : Int) then b else V 455 j) else if o = 456 then (fun x => if 200 * (k : Int) ≤ x ∧ x < 200 * k + V 480 42 then V (62 + 15 * w) (x - 200 * k) else V 456 x) else V2 o, fun o h1 h2 => by
        show (if o = 455 then _ else if o = 456 then _ else V2 o) = V2 o
        rw [if_neg h1, if_neg h2], fun j => rfl, fun x => rfl⟩
    have f24 : ∀ o : Nat, ¬(12 ≤ o ∧ o ≤ 25) → ¬(230 + 5 * k ≤ o ∧ o ≤ 233 + 5 * k) → o ≠ 455 → o ≠ 456 → V4 o = V o := fun o h1 h2 h3 h4 => by rw [f4 o h3 h4, f2 o h1 (by omega) (by omega) (by omega) (by omega)]
    refine ⟨⟨hl1, hno⟩, yCt (V (62 + 15 * w)) 200, V4, J2, ?_, ?_, by omega, ⟨fun o ho => f24 o (by omega) (by omega) (by omega) (by omega), f24 0 (by omega) (by omega) (by omega) (by omega), by rw [f24 480 (by omega) (by omega) (by omega) (by omega)], by rw [f24 480 (by omega) (by omega) (by omega) (by omega)], by rw [f24 480 (by omega) (by omega) (by omega) (by omega)], by rw [f24 480 (by omega) (by omega) (by omega) (by omega)]⟩, by rw [f24 480 (by omega) (by omega) (by omega) (by omega)], f455⟩
    · rw [zm_cg (d := d) (V := V4) (V2 := V2) (J := J2) (J2 := J2) (fun o ho => (f4 o (by omega) (by omega)).symm) (fun _ _ => rfl)]
      exact ws_i (C := 111) rfl rfl (by decide) hgo
    refine zInv_cp (c := k) h hp.2 ?_ ?_ ?_ ?_ ?_ ?_ ?_ ?_ ?_ ?_
    · intro o o1 o2 o3 o4 o5 o6 o7
      exact f24 o (by omega) o1 o6 o7
    · intro o o1 o2 o3 o4
      exact t3 o o1
    · rw [f4 _ (by omega) (by omega), t2 _ (by omega), f10 0 (by decide)]
    · rw [f4 _ (by omega) (by omega), t2 _ (by omega), f11, f455, if_pos rfl]
      exact ⟨rfl, by omega, by omega⟩
    · intro j hj2
      rw [f455, if_neg hj2]
    · intro x hx
      rw [f456, if_neg (by omega)]
    · unfold iMk
      rw [f32, f4 (231 + 5 * k) (by omega) (by omega), f4 (232 + 5 * k) (by omega) (by omega), t2 (231 + 5 * k) (by omega), t2 (232 + 5 * k) (by omega), f24 480 (by omega) (by omega) (by omega) (by omega)]
      refine ⟨fun c c0 c1 => ?_, ?_⟩
      · have q1 := hmk.1 c c0 c1
        have q2 := hmc.1 c c0 c1
        rw [m1 c c0 c1, f456]
        refine ⟨?_, q1.2⟩
        by_cases e : c < V 480 42
        · rw [if_pos (by omega), show 200 * (k : Int) + c - 200 * k = c by omega]
        · rw [if_neg (by omega), q1.2.2 (by omega), q2.1, q2.2.2 (by omega)]
      · rw [← g31, s4, hmk.2]
        exact (yCt_cong 200 (fun x x0 x1 => by rw [m1 x x0 x1])).symm
    · rw [hw, hwt, f4 (232 + 5 * k) (by omega) (by omega), t2 (232 + 5 * k) (by omega)]
      exact iMs_fr (f4 _ (by omega) (by omega)) rfl (f4 _ (by omega) (by omega)) (f4 _ (by omega) (by omega)) (f4 _ (by omega) (by omega)) ⟨f4 _ (by omega) (by omega), f4 _ (by omega) (by omega), f4 _ (by omega) (by omega)⟩ t4
    · rw [f24 480 (by omega) (by omega) (by omega) (by omega)]
      exact ⟨rfl, rfl, rfl, rfl, rfl⟩
    · intro j j0 j1 jn _ q1 q2
      rw [f455, if_pos rfl] at q1
      exact hno ⟨j, ⟨j0, j1⟩, q1, q2⟩
  · right
    refine ⟨fun q => hl ⟨q.1, ?_⟩, ?_⟩
    · rcases y1 with y1 | y1
      · exact y1
      · exact absurd (y2.1 y1) q.2
    refine (ws_e (s := 9) (e := 2) (C := 111) (L := [.ref 0, .int (zi k), .int (zi b), .null]) rfl rfl (by decide) ?_).trans (by rw [wz101.2.2])
    by_cases hl1 : V 455 k = -1
    · have hy : y = 1 := by omega
      subst hy
      simp (disch := first | omega | assumption | (simp (disch := omega) only [vup_fn, vup_o, vup_k, vup_at]; first | done | omega | assumption)) only [ze_111_0, ze_111_5, ze_111_16, ze_111_45, ze_111_48, ze_111_82, ze_111_87, e112, k4, k3, hdv, y3, Int.add_zero, ↓reduceIte, qw_id, zck_T, zck_t, zGor_v, zGor_n, zGor_e, zbs, vup_at, vup_vup, vup_self, vup_o, vup_k, vup_fn, ne_eq, not_true_eq_false, not_false_eq_true, and_true, true_and, and_self, and_false, false_and, or_true, true_or, or_self, or_false, false_or, xlt_t, xlt_f, xle_t, xle_f, xeq_t, xeq_f, xand_f, xor_t]
    · simp (disch := first | omega | assumption | (simp (disch := omega) only [vup_fn, vup_o, vup_k, vup_at]; first | done | omega | assumption)) only [ze_111_0, ze_111_5, ze_111_16, ze_111_45, ze_111_48, ze_111_82, ze_111_87, e112, k4, Int.add_zero, ↓reduceIte, qw_id, zck_T, zck_t, zGor_v, zGor_n, zGor_e, zbs, vup_at, vup_vup, vup_self, vup_o, vup_k, vup_fn, ne_eq, not_true_eq_false, not_false_eq_true, and_true, true_and, and_self, and_false, false_and, or_true, true_or, or_self, or_false, false_or, xlt_t, xlt_f, xle_t, xle_f, xeq_t, xeq_f, xand_f, xor_t]
/-- a copy comes back to the library: the class's run and the joint state behind it -/
theorem c_take {U : zVt} {I : zJt} (h : zInv N U I) {k : Nat} (hk : (k : Int) < U 480 37) (hV : pC U V I J) (hV1 : V 481 = U 481 ∧ V 432 = U 432) : ∃ (x : Int) (V' : zVt) (J' : zJt) (U' : zVt) (I' : zJt), zGo false 115 0 [.ref 0, .ref (230 + 5 * k), .null, .null] [] (zm V J d) = zI1 x V' J' d ∧ pC U' V' I' J' ∧ (∀ o : Nat, 430 ≤ o → V' o = V o ∧ J' o = J o) ∧ zInv N U' I' ∧ (0 ≤ x ∧ x ≤ U 480 42) ∧ (∀ o : Nat, ¬(7 ≤ o ∧ o ≤ 36) → ¬(50 ≤ o ∧ o ≤ 429) → o ≠ 455 → o ≠ 456 → U' o = U o) ∧ (∀ o : Nat, 230 ≤ o → o ≤ 429 → o ≠ 230 + 5 * k → U' o = U o) ∧ (∀ o : Nat, 231 ≤ o → o ≤ 429 → I' o = I o) ∧ ∀ j : Int, U' 455 j = if j = k then -1 else U 455 j := by
  have h37 := h.2.2.2.1
  have hk4 : k < 40 := by omega
  obtain ⟨_, k2, k3, k4, k5⟩ := iCp_ms h (c := k) ⟨by omega, hk⟩
  rw [Int.toNat_natCast] at k3 k4
  obtain ⟨w, hw⟩ : ∃ w : Nat, U 454 k = w := ⟨(U 454 k).toNat, by omega⟩
  have hw12 : w < 12 := by omega
  have hp3 := (h.2.2.1 w hw12).2.2.1.2 ⟨k, ⟨by omega, hk⟩, hw⟩
  obtain ⟨n, b', A, fa, r1, r2, r3, r4⟩ := iPr_row h hw12 hp3
  have hmk := (h.2.2.1 w hw12).2.2.2.1
  have hmc := (h.2.2.2.2.1 k hk4).1
  have hlm := ((h.2.2.1 w hw12).2.2.2.2.2.1 r3).2
  have hcm := ((h.2.2.2.2.1 k hk4).2.1 hk).2.2.2.2
  rw [hw, show ((w : Nat) : Int).toNat = w by omega] at hcm
  have ht := zt_ok h.1.1 (w := (w : Int)) (by omega)
  have hcor := h.2.1.1
  unfold iMk at hmk hmc
  rw [show 61 + 15 * w + 1 = 62 + 15 * w by omega] at hmk
  rw [show 231 + 5 * k + 1 = 232 + 5 * k by omega] at hmc
  have r2c : aGood (yTt U w) (U (232 + 5 * k)) (U 4) (U 5) (U 6) (U 3 0) n := by
    obtain ⟨n2, b2, F2, A2, fa2, x1, x2, x3⟩ := hcm
    obtain ⟨u1, u2, u3, u4, u5⟩ := yTx_un r1.1 x1
    rw [u1, u3] at x2
    exact x2 rfl
  have v : ∀ o : Nat, 37 ≤ o → o ≤ 429 → V o = U o := fun o o1 o2 => hV.1 o (by omega)
  have hy : yTt V w = yTt U w := yTt_fr hV1.1 hV1.2
  have v3 := hV.1 3 (by omega)
  have v4 := hV.1 4 (by omega)
  have v5 := hV.1 5 (by omega)
  have v6 := hV.1 6 (by omega)
  obtain ⟨V2, J2, s1, s2, s3, s4, s5, s6, s7, s8⟩ := cp115 (V := V) (J := J) (d := d) hw12 hk4 (by rw [v _ (by omega) (by omega), k3, hw]) (n := n) (b := b') (A := A) (fa := fa) (by rw [hy, hV1.2]; exact cRow_fr (fun o o1 o2 => v o (by omega) (by omega)) r1) (by rw [hy, hV1.2]; exact ht) (by rw [hy, v3, v4, v5, v6, v _ (by omega) (by omega)]; exact r2) (by rw [hy, v3, v4, v5, v6, v _ (by omega) (by omega)]; exact r2c) (by rw [v _ (by omega) (by omega), v _ (by omega) (by omega)]; exact hmk.2) (by rw [v (62 + 15 * w) (by omega) (by omega)]; exact iMs_fr (v _ (by omega) (by omega)) (hV.2 _ (by omega)) hV1.1 hV1.2 v3 ⟨v4, v5, v6⟩ hlm)
  rw [v (62 + 15 * w) (by omega) (by omega)] at s1 s2
  rw [v (232 + 5 * k) (by omega) (by omega)] at s2
  have q2 : ∀ o : Nat, 430 ≤ o → V2 o = V o := fun o ho => s6 o (by omega) (by omega) (by omega) (by omega) (by omega)
  have q2j : ∀ o : Nat, 430 ≤ o → J2 o = J o := fun o ho => s7 o (by omega)
  -- the joint state
  have hU' : ∃ U' : zVt, (∀ o : Nat, o < 430 → U' o = V2 o) ∧ (∀ o : Nat, 430 ≤ o → o ≠ 455 → o ≠ 456 → U' o = U o) ∧ (∀ j : Int, U' 455 j = if j = k then -1 else U 455 j) ∧ ∀ x : Int, U' 456 x = if 200 * (40 + (w : Int)) ≤ x ∧ x < 200 * (40 + w) + U 480 42 then yOr (U (62 + 15 * w)) (U (232 + 5 * k)) (x - 200 * (40 + w)) else U 456 x := by
    refine ⟨fun o => if o < 430 then V2 o else if o = 455 then (fun j => if j = (k : Int) then -1 else U 455 j) else if o = 456 then (fun x => if 200 * (40 + (w : Int)) ≤ x ∧ x < 200 * (40 + w) + U 480 42 then yOr (U (62 + 15 * w)) (U (232 + 5 * k)) (x - 200 * (40 + w)) else U 456 x) else U o, fun o ho => if_pos ho, fun o h1 h2 h3 => ?_, fun j => rfl, fun x => rfl⟩
    show (if o < 430 then V2 o else if o = 455 then _ else if o = 456 then _ else U o) = U o
    rw [if_neg (by omega), if_neg h2, if_neg h3]
  obtain ⟨U', u1, u2, u3, u4⟩ := hU'
  have hI' : ∃ I' : zJt, (∀ o : Nat, o < 430 → I' o = J2 o) ∧ ∀ o : Nat, 430 ≤ o → I' o = I o := ⟨fun o => if o < 430 then J2 o else I o, fun o ho => if_pos ho, fun o ho => if_neg (by omega)⟩
  obtain ⟨I', i1, i2⟩ := hI'
  have hyc : yCt (yNf (U (62 + 15 * w)) (U (232 + 5 * k))) (U 480 42).toNat = yCt (V2 (62 + 15 * w)) 200 - yCt (U (62 + 15 * w)) 200 := by
    have e := yCt_more (H := yNf (U (62 + 15 * w)) (U (232 + 5 * k))) (n := (U 480 42).toNat) (200 - (U 480 42).toNat) (fun x x0 x1 => by
      unfold yNf
      rw [if_neg (fun q => q.1 ((hmc.1 x (by omega) (by omega)).2.2 (by omega)))])
    rw [show (U 480 42).toNat + (200 - (U 480 42).toNat) = 200 by omega] at e
    have e2 := yCt_or (U (62 + 15 * w)) (U (232 + 5 * k)) 200
    have e3 := yCt_cong (H := yOr (U (62 + 15 * w)) (U (232 + 5 * k))) (H' := V2 (62 + 15 * w)) 200 (fun x x0 x1 => by rw [s2 x x0 x1])
    omega
  have hyr := yCt_rng (yNf (U (62 + 15 * w)) (U (232 + 5 * k))) (U 480 42).toNat
  refine ⟨_, V2, J2, U', I', s1, ⟨fun o ho => (u1 o (by omega)).symm, fun o ho => (i1 o (by omega)).symm⟩, fun o ho => ⟨q2 o ho, q2j o ho⟩, ?_, by omega, fun o h1 h2 h3 h4 => ?_, fun o h1 h2 h3 => ?_, fun o h1 h2 => ?_, u3⟩
  · refine zInv_bk (w := w) (k := k) h hk hw ?_ ?_ ?_ ?_ u3 ?_ ?_ ?_
    · intro o h1 h2 h3 h4 h5 h6 h7
      by_cases e : o < 430
      · rw [u1 o e, s6 o h1 h2 h3 h4 (by omega)]
        exact hV.1 o (by omega)
      · exact u2 o (by omega) h6 h7
    · intro o h1 h2
      by_cases e : o < 430
      · rw [i1 o e, s7 o h1]
        exact hV.2 o (by omega)
      · exact i2 o (by omega)
    · rw [u1 _ (by omega), s4 0 (by decide), v _ (by omega) (by omega)]
    · rw [u1 _ (by omega), s5]
    · intro x hx
      rw [u4, if_neg (by omega)]
    · unfold iMk
      rw [show 61 + 15 * w + 1 = 62 + 15 * w by omega, u1 (61 + 15 * w) (by omega), u1 (62 + 15 * w) (by omega), u2 480 (by omega) (by omega) (by omega)]
      refine ⟨fun c c0 c1 => ?_, s3⟩
      have e1 := hmk.1 c c0 c1
      have e2 := hmc.1 c c0 c1
      rw [s2 c c0 c1, u4]
      unfold yOr
      by_cases e : c < U 480 42
      · rw [if_pos (by omega), show 200 * (40 + (w : Int)) + c - 200 * (40 + w) = c by omega]
        refine ⟨rfl, ?_, fun q => by omega⟩
        split
        · exact Or.inr rfl
        · exact e1.2.1
      · rw [if_neg (by omega), if_neg (fun q => q (e2.2.2 (by omega)))]
        exact e1
    · rw [u1 (62 + 15 * w) (by omega)]
      exact iMs_fr (u1 _ (by omega)) (i1 _ (by omega)) (by rw [u2 481 (by omega) (by omega) (by omega), q2 481 (by omega)]; exact hV1.1.symm) (by rw [u2 432 (by omega) (by omega) (by omega), q2 432 (by omega)]; exact hV1.2.symm) (u1 _ (by omega)) ⟨u1 _ (by omega), u1 _ (by omega), u1 _ (by omega)⟩ s8
  · by_cases e : o < 430
    · rw [u1 o e, s6 o (by omega) (by omega) (by omega) (by omega) (by omega)]
      exact hV.1 o (by omega)
    · exact u2 o (by omega) h3 h4
  · rw [u1 o (by omega), s6 o h3 (by omega) (by omega) (by omega) (by omega)]
    exact hV.1 o (by omega)
  · rw [i1 o (by omega), s7 o (by omega)]
    exact hV.2 o (by omega)
theorem c_back (h : zInv N V J) (hp : 0 ≤ a ∧ a < V 480 37) : (V 455 a = -1 ∧ wstub 10 [zi a] (zm V J d) = some (zi (-103), zm V J d)) ∨
    (V 455 a ≠ -1 ∧ ∃ x V' J', wstub 10 [zi a] (zm V J d) = some (zi x, zm V' J' d) ∧ zInv N V' J' ∧ (0 ≤ x ∧ x ≤ V 480 42) ∧ lFr V V' ∧ V' 480 42 = V 480 42 ∧ ∀ j, V' 455 j = if j = a then -1 else V 455 j) := by
  have h37 := h.2.2.2.1
  have e112 := cp112 (d := d) h (c := a) (by omega)
  rw [if_pos hp] at e112
  obtain ⟨k, rfl⟩ : ∃ k : Nat, a = k := ⟨a.toNat, by omega⟩
  rw [Int.toNat_natCast] at e112
  have hk4 : k < 40 := by omega
  have hBc := zBk_copy hk4
  obtain ⟨_, k2, k3, k4, k5⟩ := iCp_ms h hp
  rw [Int.toNat_natCast] at k3 k4
  by_cases hl : V 455 k = -1
  · left
    refine ⟨hl, (ws_e (s := 10) (e := 2) (C := 114) (L := [.ref 0, .int (zi k), .null]) rfl rfl (by decide) ?_).trans (by rw [wz101.2.2])⟩
    simp (disch := first | omega | assumption | (simp (disch := omega) only [vup_fn, vup_o, vup_k, vup_at]; first | done | omega | assumption)) only [ze_114_0, ze_114_5, ze_114_29, e112, k4, hl, Int.add_zero, ↓reduceIte, qw_id, zck_T, zck_t, zGor_v, zGor_n, zGor_e, zbs, vup_at, vup_vup, vup_self, vup_o, vup_k, vup_fn, ne_eq, not_true_eq_false, not_false_eq_true, and_true, true_and, and_self, and_false, false_and, or_true, true_or, or_self, or_false, false_or, xlt_t, xlt_f, xle_t, xle_f, xeq_t, xeq_f, xand_f, xor_t]
  · right
    obtain ⟨x, V1, J1, U1, I1, q1, q2, q3, q4, q5, q6, q7, q8, q9⟩ := c_take (k := k) (V := V) (J := J) (d := d) h hp.2 pC_r ⟨rfl, rfl⟩
    have hm : ∀ o : Nat, ¬(7 ≤ o ∧ o ≤ 36) → ¬(50 ≤ o ∧ o ≤ 429) → o ≠ 455 → o ≠ 456 → mixV V1 U1 o = V o := fun o h1 h2 h3 h4 => by
      by_cases e : o < 432
      · rw [mixV_l e]
        by_cases e2 : 430 ≤ o
        · exact (q3 o e2).1
        · rw [q2.1 o (by omega)]
          exact q6 o h1 h2 h3 h4
      · rw [mixV_r (by omega)]
        exact q6 o h1 h2 h3 h4
    refine ⟨hl, x, mixV V1 U1, mixJ J1 I1, ?_, zInv_mix q4 q2, q5, ⟨fun o ho => hm o (by omega) (by omega) (by omega) (by omega), hm 0 (by omega) (by omega) (by omega) (by omega), by rw [hm 480 (by omega) (by omega) (by omega) (by omega)], by rw [hm 480 (by omega) (by omega) (by omega) (by omega)], by rw [hm 480 (by omega) (by omega) (by omega) (by omega)], by rw [hm 480 (by omega) (by omega) (by omega) (by omega)]⟩, by rw [hm 480 (by omega) (by omega) (by omega) (by omega)], fun j => by rw [mixV_r (by omega)]; exact q9 j⟩
    rw [← zm_mix]
    refine ws_i (C := 114) (L := [.ref 0, .int (zi k), .null]) rfl rfl (by decide) ?_
    simp (disch := first | omega | assumption | (simp (disch := omega) only [vup_fn, vup_o, vup_k, vup_at]; first | done | omega | assumption)) only [ze_114_0, ze_114_5, ze_114_29, e112, k4, q1, Int.add_zero, ↓reduceIte, qw_id, zck_T, zck_t, zGor_v, zGor_n, zGor_e, zbs, vup_at, vup_vup, vup_self, vup_o, vup_k, vup_fn, ne_eq, not_true_eq_false, not_false_eq_true, and_true, true_and, and_self, and_false, false_and, or_true, true_or, or_self, or_false, false_or, xlt_t, xlt_f, xle_t, xle_f, xeq_t, xeq_f, xand_f, xor_t]
theorem yTx_60 {T : Int → Int} {n b F A fa c : Int} (h : yTx T c n b F A fa) : 0 ≤ n ∧ n ≤ 60 := h.1.1
theorem c_pencil (h : zInv N V J) (hp : 0 ≤ a ∧ a < V 480 37) {w : Nat} (hw : V 454 a = w) (hq : 0 ≤ b ∧ b < V (52 + 15 * w) 0) (hm : 0 ≤ m ∧ m < 5) (hv : -2147483648 ≤ v ∧ v < 2147483648) (hy : oV m v) (h200 : V 480 42 < 200) :
    ((V 455 a ≠ -1 ∧ oF m (V (53 + 15 * w) b)) ∧ ∃ V' J', wstub 11 [zi a, zi b, zi m, zi v] (zm V J d) = some (zi (V 480 42), zm V' J' d) ∧ zInv N V' J' ∧ lFr V V' ∧ V' 480 42 = V 480 42 + 1 ∧ V' 455 = V 455) ∨
    (¬(V 455 a ≠ -1 ∧ oF m (V (53 + 15 * w) b)) ∧ wstub 11 [zi a, zi b, zi m, zi v] (zm V J d) = some (zi (-103), zm V J d)) := by
  have h37 := h.2.2.2.1
  have hcor := h.2.1
  have ha : -2147483648 ≤ a ∧ a < 2147483648 := by omega
  have e112 := cp112 (d := d) h ha
  rw [if_pos hp] at e112
  obtain ⟨k, rfl⟩ : ∃ k : Nat, a = k := ⟨a.toNat, by omega⟩
  rw [Int.toNat_natCast] at e112
  have hk4 : k < 40 := by omega
  have hBc := zBk_copy hk4
  obtain ⟨_, k2, k3, k4, k5⟩ := iCp_ms h hp
  rw [Int.toNat_natCast] at k3 k4
  have hw12 : w < 12 := by omega
  have hwt : ((w : Nat) : Int).toNat = w := by omega
  have hB := zBk_part hw12
  have hB10 := zBk_6row hB
  have hp3 := (h.2.2.1 w hw12).2.2.1.2 ⟨k, hp, hw⟩
  obtain ⟨n, b', A, fa, r1, r2, r3, r4⟩ := iPr_row h hw12 hp3
  have e52 : 50 + 15 * w + 2 = 52 + 15 * w := by omega
  have e53 : 52 + 15 * w + 1 = 53 + 15 * w := by omega
  have hk0 : V (230 + 5 * k) 0 = w := by rw [k3, hw]
  have hn : V (52 + 15 * w) 0 = n := r1.2.1
  have hn60 : 0 ≤ n ∧ n ≤ 60 := yTx_60 r1.1
  have hb : -2147483648 ≤ b ∧ b < 2147483648 := by omega
  have hm0 : -2147483648 ≤ m ∧ m < 2147483648 := by omega
  have e86 := sp86 (V := V) (J := J) (d := d) (x := 50 + 15 * w + 2) (k := b) hB10 hb (by rw [e52, hn]; exact hn60)
  rw [e52, hn] at e86
  have e5 := sp5 (V := V) (J := J) (d := d) hm0 hv
  rw [e52] at hB10
  rw [hn] at hq
  rw [if_pos hq] at e86
  have hkd : V (53 + 15 * w) b = tK (yTt V w) b := by
    rw [← e53]
    exact (r1.2.2.2.2.2.1 b hq.1 hq.2).1
  have hkr : 0 ≤ V (53 + 15 * w) b ∧ V (53 + 15 * w) b ≤ 9 := by
    rw [hkd]
    exact yK_rng _ _
  have e7 := sp7 (V := V) (J := J) (d := d) (m := m) (t := V (53 + 15 * w) b) hm0 (by omega)
  rw [if_pos hy] at e5
  have ho3 : V 3 0 < 200 := by
    rw [hcor.2.1]
    exact h200
  by_cases hok : V 455 k ≠ -1 ∧ oF m (V (53 + 15 * w) b)
  · left
    obtain ⟨ho1, ho2⟩ := hok
    rw [if_pos ho2] at e7
    have hmc := (h.2.2.2.2.1 k hk4).1
    have hcm := ((h.2.2.2.2.1 k hk4).2.1 hp.2).2.2.2.2
    rw [hw, hwt] at hcm
    have ht := zt_ok h.1.1 (w := (w : Int)) (by omega)
    have r2c : aGood (yTt V w) (V (232 + 5 * k)) (V 4) (V 5) (V 6) (V 3 0) n := by
      obtain ⟨n2, b2, F2, A2, fa2, x1, x2, x3⟩ := hcm
      obtain ⟨u1, u2, u3, u4, u5⟩ := yTx_un r1.1 x1
      rw [u1, u3] at x2
      exact x2 rfl
    have hc0 : 0 ≤ V 3 0 := r2c.1.1
    unfold iMk at hmc
    rw [show 231 + 5 * k + 1 = 232 + 5 * k by omega] at hmc
    have z32 : V (232 + 5 * k) (V 3 0) = 0 := (hmc.1 _ hc0 ho3).2.2 (by rw [hcor.2.1]; exact Int.le_refl _)
    have e8 := sp8 (V := V) (J := J) (d := d) (x := b) (y := m) (z := v) ⟨hc0, ho3⟩
    have f1 : ∀ o : Nat, o ≠ 3 → o ≠ 4 → o ≠ 5 → o ≠ 6 → vup (vup (vup (vup V 4 (V 3 0) b) 5 (V 3 0) m) 6 (V 3 0) v) 3 0 (V 3 0 + 1) o = V o := fun o o1 o2 o3 o4 => by rw [vup_fn o1, vup_fn o4, vup_fn o3, vup_fn o2]
    have f13 : vup (vup (vup (vup V 4 (V 3 0) b) 5 (V 3 0) m) 6 (V 3 0) v) 3 0 (V 3 0 + 1) 3 0 = V 3 0 + 1 := vup_at _ _ _ _
    have f14 : ∀ c, vup (vup (vup (vup V 4 (V 3 0) b) 5 (V 3 0) m) 6 (V 3 0) v) 3 0 (V 3 0 + 1) 4 c = if c = V 3 0 then b else V 4 c := fun c => by
      rw [vup_o (by omega), vup_o (by omega), vup_o (by omega)]
      by_cases e : c = V 3 0
      · rw [if_pos e, e, vup_at]
      · rw [if_neg e, vup_k e]
    have f15 : ∀ c, vup (vup (vup (vup V 4 (V 3 0) b) 5 (V 3 0) m) 6 (V 3 0) v) 3 0 (V 3 0 + 1) 5 c = if c = V 3 0 then m else V 5 c := fun c => by
      rw [vup_o (by omega), vup_o (by omega)]
      by_cases e : c = V 3 0
      · rw [if_pos e, e, vup_at]
      · rw [if_neg e, vup_k e, vup_o (by omega)]
    have f16 : ∀ c, vup (vup (vup (vup V 4 (V 3 0) b) 5 (V 3 0) m) 6 (V 3 0) v) 3 0 (V 3 0 + 1) 6 c = if c = V 3 0 then v else V 6 c := fun c => by
      rw [vup_o (by omega)]
      by_cases e : c = V 3 0
      · rw [if_pos e, e, vup_at]
      · rw [if_neg e, vup_k e, vup_o (by omega), vup_o (by omega)]
    generalize vup (vup (vup (vup V 4 (V 3 0) b) 5 (V 3 0) m) 6 (V 3 0) v) 3 0 (V 3 0 + 1) = V1 at *
    have g31 : 230 + 5 * k + 1 = 231 + 5 * k := by omega
    have g32 : 230 + 5 * k + 1 + 1 = 232 + 5 * k := by omega
    have e28 := sp28 (V := V1) (J := J) (d := d) (X := 230 + 5 * k + 1) (k := V 3 0) (zBk_0marks hBc) ⟨hc0, ho3⟩ (by rw [g32, f1 _ (by omega) (by omega) (by omega) (by omega)]; exact Or.inl z32)
    rw [g32, g31, f1 (232 + 5 * k) (by omega) (by omega) (by omega) (by omega), f1 (231 + 5 * k) (by omega) (by omega) (by omega) (by omega), if_neg (fun q => q z32)] at e28
    have f2 : ∀ o : Nat, o ≠ 231 + 5 * k → o ≠ 232 + 5 * k → vup (vup V1 (232 + 5 * k) (V 3 0) 1) (231 + 5 * k) 1 (V (231 + 5 * k) 1 + 1) o = V1 o := fun o o1 o2 => by rw [vup_fn o1, vup_fn o2]
    have f231 : vup (vup V1 (232 + 5 * k) (V 3 0) 1) (231 + 5 * k) 1 (V (231 + 5 * k) 1 + 1) (231 + 5 * k) 1 = V (231 + 5 * k) 1 + 1 := vup_at _ _ _ _
    have f232 : vup (vup V1 (232 + 5 * k) (V 3 0) 1) (231 + 5 * k) 1 (V (231 + 5 * k) 1 + 1) (232 + 5 * k) = vup V (232 + 5 * k) (V 3 0) 1 (232 + 5 * k) := by
      rw [vup_fn (by omega)]
      funext x
      unfold vup
      rw [f1 (232 + 5 * k) (by omega) (by omega) (by omega) (by omega)]
    generalize vup (vup V1 (232 + 5 * k) (V 3 0) 1) (231 + 5 * k) 1 (V (231 + 5 * k) 1 + 1) = V2 at *
    have f3 : ∀ o : Nat, ¬(3 ≤ o ∧ o ≤ 6) → o ≠ 231 + 5 * k → o ≠ 232 + 5 * k → V2 o = V o := fun o o1 o2 o3 => by rw [f2 o o2 o3, f1 o (by omega) (by omega) (by omega) (by omega)]
    have hyt : yTt V2 w = yTt V w := yTt_fr (f3 481 (by omega) (by omega) (by omega)) (f3 432 (by omega) (by omega) (by omega))
    have f4 : ∀ o : Nat, 3 ≤ o → o ≤ 6 → V2 o = V1 o := fun o o1 o2 => f2 o (by omega) (by omega)
    obtain ⟨V3, J3, t1, t2, t3, t4⟩ := cp110 (d := d) (V := V2) (J := J) (w := w) (k := k) hw12 hk4 (by rw [f3 _ (by omega) (by omega) (by omega)]; exact hk0) (n := n) (b := b') (A := A) (fa := fa) (by rw [hyt, f3 432 (by omega) (by omega) (by omega)]; exact cRow_fr (fun o o1 o2 => f3 o (by omega) (by omega) (by omega)) r1) (by rw [hyt, f3 432 (by omega) (by omega) (by omega)]; exact ht) (by
      rw [hyt, f4 3 (by omega) (by omega), f4 4 (by omega) (by omega), f4 5 (by omega) (by omega), f4 6 (by omega) (by omega), f13, f232]
      refine aGood_n r2c ho3 (fun c c0 c1 => ⟨by rw [f14, if_neg (by omega)], by rw [f15, if_neg (by omega)], by rw [f16, if_neg (by omega)]⟩) (fun c hc => vup_k hc) (vup_at _ _ _ _) (by rw [f14, if_pos rfl]; exact hq) (by rw [f15, f16, if_pos rfl, if_pos rfl]; exact hy) ?_
      rw [f14, f15, if_pos rfl, if_pos rfl, ← hkd]
      exact ho2)
    have hgo : zGo false 116 0 [.ref 0, .int (zi k), .int (zi b), .int (zi m), .int (zi v), .null, .null, .null] [] (zm V J d) = zI1 (V 3 0) V3 J3 d := by
      rw [← g31] at e28
      simp (disch := first | omega | assumption | (simp (disch := omega) only [vup_fn, vup_o, vup_k, vup_at]; first | done | omega | assumption)) only [ze_116_0, ze_116_5, ze_116_28, ze_116_51, ze_116_88, ze_116_104, ze_116_125, ze_116_137, ze_116_143, e112, hk0, hwt, e52, e86, e5, k4, e53, e7, e8, e28, t1, Int.add_zero, ↓reduceIte, qw_id, zck_T, zck_t, zGor_v, zGor_n, zGor_e, zbs, vup_at, vup_vup, vup_self, vup_o, vup_k, vup_fn, ne_eq, not_true_eq_false, not_false_eq_true, and_true, true_and, and_self, and_false, false_and, or_true, true_or, or_self, or_false, false_or, xlt_t, xlt_f, xle_t, xle_f, xeq_t, xeq_f, xand_f, xor_t]
    have g3 : ∀ o : Nat, ¬(3 ≤ o ∧ o ≤ 6) → ¬(12 ≤ o ∧ o ≤ 25) → ¬(231 + 5 * k ≤ o ∧ o ≤ 233 + 5 * k) → V3 o = V o := fun o h1 h2 h3 => by rw [t2 o (by omega), f3 o h1 (by omega) (by omega)]
    obtain ⟨U, u0, u37, u42, u456, u457, u458, u459⟩ : ∃ U : zVt, (∀ o : Nat, o ≠ 480 → ¬(456 ≤ o ∧ o ≤ 459) → U o = V3 o) ∧ (∀ x, x ≠ 42 → U 480 x = V 480 x) ∧ U 480 42 = V 3 0 + 1 ∧ (∀ x, U 456 x = if x = 200 * k + V 3 0 then 1 else V 456 x) ∧ (∀ c, U 457 c = if c = V 3 0 then b else V 457 c) ∧ (∀ c, U 458 c = if c = V 3 0 then m else V 458 c) ∧ ∀ c, U 459 c = if c = V 3 0 then v else V 459 c := by
      refine ⟨fun o => if o = 480 then (fun x => if x = 42 then V 3 0 + 1 else V 480 x) else if o = 456 then (fun x => if x = 200 * k + V 3 0 then 1 else V 456 x) else if o = 457 then (fun c => if c = V 3 0 then b else V 457 c) else if o = 458 then (fun c => if c = V 3 0 then m else V 458 c) else if o = 459 then (fun c => if c = V 3 0 then v else V 459 c) else V3 o, fun o h1 h2 => ?_, fun x hx => if_neg hx, rfl, fun x => rfl, fun c => rfl, fun c => rfl, fun c => rfl⟩
      show (if o = 480 then _ else if o = 456 then _ else if o = 457 then _ else if o = 458 then _ else if o = 459 then _ else V3 o) = V3 o
      rw [if_neg h1, if_neg (by omega), if_neg (by omega), if_neg (by omega), if_neg (by omega)]
    have uV : ∀ o : Nat, ¬(3 ≤ o ∧ o ≤ 6) → ¬(12 ≤ o ∧ o ≤ 25) → ¬(231 + 5 * k ≤ o ∧ o ≤ 233 + 5 * k) → o ≠ 480 → ¬(456 ≤ o ∧ o ≤ 459) → U o = V o := fun o h1 h2 h3 h4 h5 => by rw [u0 o h4 h5, g3 o h1 h2 h3]
    have ec : V 480 42 = V 3 0 := hcor.2.1.symm
    refine ⟨⟨ho1, ho2⟩, U, J3, ?_, ?_, ⟨fun o ho => uV o (by omega) (by omega) (by omega) (by omega) (by omega), uV 0 (by omega) (by omega) (by omega) (by omega) (by omega), u37 37 (by omega), u37 46 (by omega), u37 52 (by omega), u37 59 (by omega)⟩, by rw [u42, ec], uV 455 (by omega) (by omega) (by omega) (by omega) (by omega)⟩
    · rw [zm_cg (d := d) (V := U) (V2 := V3) (J := J3) (J2 := J3) (fun o ho => (u0 o (by omega) (by omega)).symm) (fun _ _ => rfl), ec]
      exact ws_i (C := 116) rfl rfl (by decide) hgo
    have h4' : ∀ c, U 4 c = if c = V 3 0 then b else V 4 c := fun c => by rw [u0 4 (by omega) (by omega), t2 4 (by omega), f4 4 (by omega) (by omega), f14]
    have h5' : ∀ c, U 5 c = if c = V 3 0 then m else V 5 c := fun c => by rw [u0 5 (by omega) (by omega), t2 5 (by omega), f4 5 (by omega) (by omega), f15]
    have h6' : ∀ c, U 6 c = if c = V 3 0 then v else V 6 c := fun c => by rw [u0 6 (by omega) (by omega), t2 6 (by omega), f4 6 (by omega) (by omega), f16]
    have uW : ∀ o : Nat, 231 ≤ o → o ≤ 429 → o ≠ 233 + 5 * k → U o = V2 o := fun o h1 h2 h3 => by rw [u0 o (by omega) (by omega), t2 o (by omega)]
    refine zInv_pc (k := k) (t := b) (m := m) (v := v) h hp.2 ho3 ?_ ?_ ?_ h4' h5' h6' ?_ ?_ ?_ u456 ?_ ?_ ?_ ?_ ⟨u37 37 (by omega), by rw [u42, ec], u37 46 (by omega), u37 52 (by omega), u37 59 (by omega)⟩
    · intro o o1 o2 o3 o4 o5
      exact uV o (by omega) (by omega) (by omega) o3 o5
    · intro o o1 o2 o3 o4
      exact t3 o o1
    · rw [u0 3 (by omega) (by omega), t2 3 (by omega), f4 3 (by omega) (by omega), f13]
    · funext c
      rw [u457, h4', hcor.2.2.1]
    · funext c
      rw [u458, h5', hcor.2.2.2.1]
    · funext c
      rw [u459, h6', hcor.2.2.2.2]
    · rw [u0 _ (by omega) (by omega), t2 _ (by omega), f3 _ (by omega) (by omega) (by omega)]
    · rw [uW _ (by omega) (by omega) (by omega), f232]
    · rw [uW _ (by omega) (by omega) (by omega), f231]
    · rw [hw, hwt, u0 (232 + 5 * k) (by omega) (by omega), t2 (232 + 5 * k) (by omega)]
      exact iMs_fr (u0 _ (by omega) (by omega)) rfl (u0 _ (by omega) (by omega)) (u0 _ (by omega) (by omega)) (u0 _ (by omega) (by omega)) ⟨u0 _ (by omega) (by omega), u0 _ (by omega) (by omega), u0 _ (by omega) (by omega)⟩ t4
  · right
    refine ⟨hok, (ws_e (s := 11) (e := 2) (C := 116) (L := [.ref 0, .int (zi k), .int (zi b), .int (zi m), .int (zi v), .null, .null, .null]) rfl rfl (by decide) ?_).trans (by rw [wz101.2.2])⟩
    by_cases ho1 : V 455 k = -1
    · simp (disch := first | omega | assumption | (simp (disch := omega) only [vup_fn, vup_o, vup_k, vup_at]; first | done | omega | assumption)) only [ze_116_0, ze_116_5, ze_116_28, ze_116_51, ze_116_88, ze_116_104, ze_116_125, ze_116_137, ze_116_143, e112, hk0, hwt, e52, e86, e5, k4, e53, Int.add_zero, ↓reduceIte, qw_id, zck_T, zck_t, zGor_v, zGor_n, zGor_e, zbs, vup_at, vup_vup, vup_self, vup_o, vup_k, vup_fn, ne_eq, not_true_eq_false, not_false_eq_true, and_true, true_and, and_self, and_false, false_and, or_true, true_or, or_self, or_false, false_or, xlt_t, xlt_f, xle_t, xle_f, xeq_t, xeq_f, xand_f, xor_t]
    · rw [if_neg (fun q => hok ⟨ho1, q⟩)] at e7
      simp (disch := first | omega | assumption | (simp (disch := omega) only [vup_fn, vup_o, vup_k, vup_at]; first | done | omega | assumption)) only [ze_116_0, ze_116_5, ze_116_28, ze_116_51, ze_116_88, ze_116_104, ze_116_125, ze_116_137, ze_116_143, e112, hk0, hwt, e52, e86, e5, k4, e53, e7, Int.add_zero, ↓reduceIte, qw_id, zck_T, zck_t, zGor_v, zGor_n, zGor_e, zbs, vup_at, vup_vup, vup_self, vup_o, vup_k, vup_fn, ne_eq, not_true_eq_false, not_false_eq_true, and_true, true_and, and_self, and_false, false_and, or_true, true_or, or_self, or_false, false_or, xlt_t, xlt_f, xle_t, xle_f, xeq_t, xeq_f, xand_f, xor_t]
end
