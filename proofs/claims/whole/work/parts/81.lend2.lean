/-! part 81: lend, the call -/
section
variable {V : zVt} {J : zJt} {N a b : Int}
theorem iCp_rg (h : zInv N V J) : ∀ j, 0 ≤ j → j < V 430 37 → (0 ≤ V 454 j ∧ V 454 j < 12) ∧ (-1 ≤ V 455 j ∧ V 455 j < 12) := fun j j0 j1 => ⟨(iCp_ms h ⟨j0, j1⟩).2.1, (iCp_ms h ⟨j0, j1⟩).2.2.2.2⟩
theorem x111 (h : zInv N V J) (hN : N < 600) (ha : -2147483648 ≤ a ∧ a < 2147483648) (hb : -2147483648 ≤ b ∧ b < 2147483648) : zTw N V J 111 [.ref 0, .int (zi a), .int (zi b), .null] 188 [.ref 430, .int (zi a), .int (zi b), .null, .null, .null] [0, 2] := by
  intro d
  have e112 := cp112 (d := d) h ha
  have h37 := h.2.2.2.1
  by_cases hp : 0 ≤ a ∧ a < V 430 37
  · rw [if_pos hp] at e112
    obtain ⟨k, rfl⟩ : ∃ k : Nat, a = k := ⟨a.toNat, by omega⟩
    rw [Int.toNat_natCast] at e112
    have hk4 : k < 40 := by omega
    have hBc := zBk_copy hk4
    obtain ⟨hm, k2, k3, k4, k5⟩ := iCp_ms h hp
    rw [Int.toNat_natCast] at hm k3 k4
    by_cases hq : 0 ≤ b ∧ b < 12
    · obtain ⟨y, y1, y2, y3⟩ := sp113 (d := d) h (s := b) (p := V 454 k / 4) hb (by omega)
      have hdv := qdiv_p (a := V 454 k) (b := 4) (by omega) (by omega)
      by_cases hl : V 455 k = -1 ∧ y = 0
      · left
        obtain ⟨hl1, hl2⟩ := hl
        subst hl2
        obtain ⟨w, hw⟩ : ∃ w : Nat, V 454 k = w := ⟨(V 454 k).toNat, by omega⟩
        have hw12 : w < 12 := by omega
        have hwt : ((w : Nat) : Int).toNat = w := by omega
        have hB := zBk_part hw12
        have hp3 := (h.2.2.1 w hw12).2.2.1.2 ⟨k, hp, hw⟩
        obtain ⟨n, b', A, fa, r1, r2, r3, r4⟩ := iPr_row h hw12 hp3
        have hmk := (h.2.2.1 w hw12).2.2.2.1
        have hmc := (h.2.2.2.2.1 k hk4).1
        have ht := zt_ok h.1.1 (w := (w : Int)) (by omega)
        unfold iMk at hmk hmc
        have f62 : 61 + 15 * w + 1 = 62 + 15 * w := by omega
        have f32 : 231 + 5 * k + 1 = 232 + 5 * k := by omega
        rw [f62] at hmk
        rw [f32] at hmc
        have g62 : 50 + 15 * w + 11 + 1 = 62 + 15 * w := by omega
        have g32 : 230 + 5 * k + 1 + 1 = 232 + 5 * k := by omega
        have g31 : 230 + 5 * k + 1 = 231 + 5 * k := by omega
        have g61 : 50 + 15 * w + 11 = 61 + 15 * w := by omega
        obtain ⟨V1, s1, s2, s3, s4, s5, s6⟩ := sl26 (J := J) (d := d) (X := 230 + 5 * k + 1) (Y := 50 + 15 * w + 11) (zBk_0marks hBc) (zBk_6marks hB) (by omega) (by omega) (by omega) 200 (vup V (230 + 5 * k) 1 b) 0 (by omega) (by omega) (fun c c0 c1 => by rw [vup_o (by omega), g62]; exact (hmk.1 c c0 c1).2.1)
        rw [g62, g32] at s2
        rw [g61, vup_o (by omega)] at s4
        have f1 : ∀ o : Nat, o ≠ 230 + 5 * k → o ≠ 231 + 5 * k → o ≠ 232 + 5 * k → V1 o = V o := fun o o1 o2 o3 => by rw [s6 o (by omega) (by omega), vup_fn (by omega)]
        have f10 : ∀ x, x ≠ 1 → V1 (230 + 5 * k) x = V (230 + 5 * k) x := fun x hx => by rw [s6 _ (by omega) (by omega), vup_k hx]
        have f11 : V1 (230 + 5 * k) 1 = b := by rw [s6 _ (by omega) (by omega), vup_at]
        have m1 : ∀ c, 0 ≤ c → c < 200 → V1 (232 + 5 * k) c = V (62 + 15 * w) c := fun c c0 c1 => by rw [s2 c c0 c1, vup_o (by omega)]
        have hy1 : yTt V1 w = yTt V w := yTt_fr (f1 431 (by omega) (by omega) (by omega)) (f1 432 (by omega) (by omega) (by omega))
        obtain ⟨V2, J2, t1, t2, t3, t4⟩ := cp110 (d := d) (V := V1) (J := J) (w := w) (k := k) hw12 hk4 (by rw [f10 0 (by decide), k3, hw]) (n := n) (b := b') (A := A) (fa := fa) (by rw [hy1, f1 432 (by omega) (by omega) (by omega)]; exact cRow_fr (fun o o1 o2 => f1 o (by omega) (by omega) (by omega)) r1) (by rw [hy1, f1 432 (by omega) (by omega) (by omega)]; exact ht) (by rw [hy1, f1 3 (by omega) (by omega) (by omega), f1 4 (by omega) (by omega) (by omega), f1 5 (by omega) (by omega) (by omega), f1 6 (by omega) (by omega) (by omega)]; exact aGood_H r2 m1)
        have f2 : ∀ o : Nat, ¬(12 ≤ o ∧ o ≤ 25) → o ≠ 233 + 5 * k → o ≠ 230 + 5 * k → o ≠ 231 + 5 * k → o ≠ 232 + 5 * k → V2 o = V o := fun o o1 o2 o3 o4 o5 => by rw [t2 o (by omega), f1 o o3 o4 o5]
        have ans : V2 (230 + 5 * k + 1) 1 = yCt (V (62 + 15 * w)) 200 := by
          rw [t2 _ (by omega), s4]
          exact hmk.2
        refine ⟨yCt (V (62 + 15 * w)) 200, V2, J2, ?_, ?_⟩
        · rw [hw] at hdv y3
          have hB4 := zBk_6marks hB
          have hB4c := zBk_0marks hBc
          rw [← ans]
          simp (disch := first | omega | assumption | (simp (disch := omega) only [vup_fn, vup_o, vup_k, vup_at]; first | done | omega | assumption)) only [ze_111_0, ze_111_5, ze_111_16, ze_111_45, ze_111_48, ze_111_82, ze_111_87, ze_26_0, e112, k4, k3, hw, hdv, y3, hwt, s1, t1, Int.add_zero, ↓reduceIte, qw_id, zck_T, zck_t, zGor_v, zGor_n, zGor_e, zbs, vup_at, vup_vup, vup_self, vup_o, vup_k, vup_fn, ne_eq, not_true_eq_false, not_false_eq_true, and_true, true_and, and_self, and_false, false_and, or_true, true_or, or_self, or_false, false_or, xlt_t, xlt_f, xle_t, xle_f, xeq_t, xeq_f, xand_f, xor_t]
        intro J3 d2 hj
        have hcor := h.2.1.1
        have g37 : V2 430 37 = V 430 37 := by rw [f2 430 (by omega) (by omega) (by omega) (by omega) (by omega)]
        have g42 : V2 430 42 = V 430 42 := by rw [f2 430 (by omega) (by omega) (by omega) (by omega) (by omega)]
        have g454 : V2 454 = V 454 := f2 454 (by omega) (by omega) (by omega) (by omega) (by omega)
        have g455 : V2 455 = V 455 := f2 455 (by omega) (by omega) (by omega) (by omega) (by omega)
        have g456 : V2 456 = V 456 := f2 456 (by omega) (by omega) (by omega) (by omega) (by omega)
        have e189 := m189 (V := V2) (J := J3) (d := d2) (c := k) (by rw [g37]; exact h37.1) (by omega)
        rw [g37, if_pos hp] at e189
        have e147 := sp147 (V := V2) (J := J3) (d := d2) (a := b) (b := 12) hb (by omega)
        rw [if_pos hq] at e147
        have e190 := m190 (V := V2) (J := J3) (d := d2) (c := k) (by omega) (by rw [g454]; exact k2)
        rw [g454] at e190
        obtain ⟨z, z1, z2⟩ := m191 (V := V2) (J := J3) (d := d2) (by rw [g37]; exact h37.1) (by rw [g37, g454, g455]; exact iCp_rg h) (s := b) (p := V 454 k / 4) hb (by omega)
        rw [g37, g454, g455] at z1
        have hno : ¬∃ j, (0 ≤ j ∧ j < V 430 37) ∧ V 455 j = b ∧ V 454 j / 4 = V 454 k / 4 := fun q => by
          have := y2.2 q
          omega
        have hz : z = -1 := by
          rcases z1 with z1 | z1
          · exact z1.1
          · exact absurd ⟨z, z1.1, z1.2⟩ hno
        subst hz
        have e150 := sm150 (V := V2) (J := J3) (d := d2) (p := 1) (q := 1) (r := 1) (by omega) (by omega) (by omega)
        rw [if_pos (show gC 1 1 1 = 0 from rfl)] at e150
        have hl455 : V2 455 k = -1 := by rw [g455]; exact hl1
        obtain ⟨V4, w1, w2, w3⟩ := ml188 (J := J3) (d := d2) (G := V (62 + 15 * w)) (c := k) (s := b) (x3 := 1) (w := w) (by omega) (by omega) (fun i i0 i1 => (hmk.1 i i0 i1).2.1) (V 430 42).toNat (vup (vup V2 430 60 (gC 1 1 1)) 455 k b) 0 (by omega) (by rw [vup_o (by omega), vup_k (by omega), g42]; omega) (by rw [vup_o (by omega), vup_k (by omega), g42]; omega) (by rw [vup_o (by omega), vup_o (by omega), g454]; exact hw) (fun i i0 i1 => by rw [vup_o (by omega), vup_o (by omega), g456, (hmk.1 i i0 i1).1.symm])
        rw [vup_o (by omega), vup_k (by omega), g42] at w1 w2
        have hyc : yCt (V (62 + 15 * w)) (V 430 42).toNat = yCt (V (62 + 15 * w)) 200 := by
          have e := yCt_more (H := V (62 + 15 * w)) (n := (V 430 42).toNat) (200 - (V 430 42).toNat) (fun x x0 x1 => (hmk.1 x (by omega) (by omega)).2.2 (by omega))
          rw [show (V 430 42).toNat + (200 - (V 430 42).toNat) = 200 by omega] at e
          exact e.symm
        rw [hyc, show yCt (V (62 + 15 * w)) (0 : Int).toNat = 0 from rfl] at w1
        have f4 : ∀ o : Nat, o ≠ 430 → o ≠ 455 → o ≠ 456 → V4 o = V2 o := fun o o1 o2 o3 => by rw [w3 o o3, vup_fn o2, vup_fn o1]
        have f430 : ∀ x, x ≠ 60 → V4 430 x = V 430 x := fun x hx => by rw [w3 430 (by omega), vup_o (by omega), vup_k hx, f2 430 (by omega) (by omega) (by omega) (by omega) (by omega)]
        have f455 : ∀ j, V4 455 j = if j = k then b else V 455 j := fun j => by
          rw [w3 455 (by omega)]
          by_cases e : j = k
          · rw [if_pos e, e, vup_at]
          · rw [if_neg e, vup_k e, vup_o (by omega), g455]
        have f456 : ∀ x, V4 456 x = if 200 * (k : Int) ≤ x ∧ x < 200 * k + V 430 42 then V (62 + 15 * w) (x - 200 * k) else V 456 x := fun x => by
          rw [w2 x, Int.add_zero, vup_o (by omega), vup_o (by omega), g456]
        refine ⟨yCt (V (62 + 15 * w)) 200, V4, J3, ?_, by rw [w3 430 (by omega), vup_o (by omega), vup_at]; rfl, ?_, rfl, fun _ => rfl⟩
        · simp (disch := first | omega | assumption | (simp (disch := omega) only [vup_fn, vup_o, vup_k, vup_at]; first | done | omega | assumption)) only [ze_188_0, ze_188_5, ze_188_14, ze_188_21, ze_188_22, ze_188_45, ze_188_49, ze_188_57, ze_188_58, ze_188_62, e189, e147, hl455, e190, z2, e150, w1, Int.add_zero, ↓reduceIte, qw_id, zck_T, zck_t, zGor_v, zGor_n, zGor_e, zbs, vup_at, vup_vup, vup_self, vup_o, vup_k, vup_fn, ne_eq, not_true_eq_false, not_false_eq_true, and_true, true_and, and_self, and_false, false_and, or_true, true_or, or_self, or_false, false_or, xlt_t, xlt_f, xle_t, xle_f, xeq_t, xeq_f, xand_f, xor_t]
        refine zInv_up (zInv_cp (c := k) h hp.2 ?_ ?_ ?_ ?_ ?_ ?_ ?_ ?_ ?_ ?_) hN
        · intro o o1 o2 o3 o4 o5 o6 o7
          rw [f4 o o3 o6 o7]
          exact f2 o (by omega) (by omega) (by omega) (by omega) (by omega)
        · intro o o1 o2 o3 o4
          rw [hj o (by omega)]
          exact t3 o o1
        · rw [f4 _ (by omega) (by omega) (by omega), t2 _ (by omega), f10 0 (by decide)]
        · rw [f4 _ (by omega) (by omega) (by omega), t2 _ (by omega), f11, f455, if_pos rfl]
          exact ⟨rfl, by omega, by omega⟩
        · intro j hj2
          rw [f455, if_neg hj2]
        · intro x hx
          rw [f456, if_neg (by omega)]
        · unfold iMk
          rw [f32, f4 (231 + 5 * k) (by omega) (by omega) (by omega), f4 (232 + 5 * k) (by omega) (by omega) (by omega), t2 (231 + 5 * k) (by omega), t2 (232 + 5 * k) (by omega), f430 42 (by decide)]
          refine ⟨fun c c0 c1 => ?_, ?_⟩
          · have q1 := hmk.1 c c0 c1
            have q2 := hmc.1 c c0 c1
            rw [m1 c c0 c1, f456]
            refine ⟨?_, q1.2⟩
            by_cases e : c < V 430 42
            · rw [if_pos (by omega), show 200 * (k : Int) + c - 200 * k = c by omega]
            · rw [if_neg (by omega), q1.2.2 (by omega), q2.1, q2.2.2 (by omega)]
          · rw [← g31, s4, hmk.2]
            exact (yCt_cong 200 (fun x x0 x1 => by rw [m1 x x0 x1])).symm
        · rw [hw, hwt, f4 (232 + 5 * k) (by omega) (by omega) (by omega), t2 (232 + 5 * k) (by omega)]
          exact iMs_fr (f4 _ (by omega) (by omega) (by omega)) (by rw [show 233 + 5 * k + 1 = 234 + 5 * k by omega]; exact hj _ (by omega)) (f4 _ (by omega) (by omega) (by omega)) (f4 _ (by omega) (by omega) (by omega)) (f4 _ (by omega) (by omega) (by omega)) ⟨f4 _ (by omega) (by omega) (by omega), f4 _ (by omega) (by omega) (by omega), f4 _ (by omega) (by omega) (by omega)⟩ t4
        · exact ⟨f430 37 (by decide), f430 42 (by decide), f430 46 (by decide), f430 52 (by decide), f430 59 (by decide)⟩
        · intro j j0 j1 jn _ q1 q2
          rw [f455, if_pos rfl] at q1
          exact hno ⟨j, ⟨j0, j1⟩, q1, q2⟩
      · right
        refine ⟨1, 2, V, J, rfl, ?_, zRn_of h hN ?_⟩
        · by_cases hl1 : V 455 k = -1
          · have hy : y = 1 := by omega
            subst hy
            simp (disch := first | omega | assumption | (simp (disch := omega) only [vup_fn, vup_o, vup_k, vup_at]; first | done | omega | assumption)) only [ze_111_0, ze_111_5, ze_111_16, ze_111_45, ze_111_48, ze_111_82, ze_111_87, e112, k4, k3, hdv, y3, Int.add_zero, ↓reduceIte, qw_id, zck_T, zck_t, zGor_v, zGor_n, zGor_e, zbs, vup_at, vup_vup, vup_self, vup_o, vup_k, vup_fn, ne_eq, not_true_eq_false, not_false_eq_true, and_true, true_and, and_self, and_false, false_and, or_true, true_or, or_self, or_false, false_or, xlt_t, xlt_f, xle_t, xle_f, xeq_t, xeq_f, xand_f, xor_t]
          · simp (disch := first | omega | assumption | (simp (disch := omega) only [vup_fn, vup_o, vup_k, vup_at]; first | done | omega | assumption)) only [ze_111_0, ze_111_5, ze_111_16, ze_111_45, ze_111_48, ze_111_82, ze_111_87, e112, k4, Int.add_zero, ↓reduceIte, qw_id, zck_T, zck_t, zGor_v, zGor_n, zGor_e, zbs, vup_at, vup_vup, vup_self, vup_o, vup_k, vup_fn, ne_eq, not_true_eq_false, not_false_eq_true, and_true, true_and, and_self, and_false, false_and, or_true, true_or, or_self, or_false, false_or, xlt_t, xlt_f, xle_t, xle_f, xeq_t, xeq_f, xand_f, xor_t]
        intro J2 d2 hj hi
        have e189 := m189 (V := V) (J := J2) (d := d2) (c := k) h37.1 (by omega)
        rw [if_pos hp] at e189
        have e147 := sp147 (V := V) (J := J2) (d := d2) (a := b) (b := 12) hb (by omega)
        rw [if_pos hq] at e147
        have e190 := m190 (V := V) (J := J2) (d := d2) (c := k) (by omega) k2
        obtain ⟨z, z1, z2⟩ := m191 (V := V) (J := J2) (d := d2) h37.1 (iCp_rg h) (s := b) (p := V 454 k / 4) hb (by omega)
        have e2 := sm150 (V := V) (J := J2) (d := d2) (p := 1) (q := 0) (r := 1) (by omega) (by omega) (by omega)
        rw [if_neg (show ¬ gC 1 0 1 = 0 by decide)] at e2
        refine ⟨0, vup V 430 60 (gC 1 0 1), J2, ?_, vup_at _ _ _ _, pM_60, pC_60, rfl, fun w => by omega⟩
        by_cases hl1 : V 455 k = -1
        · have hy : y = 1 := by omega
          have hz : 0 ≤ z ∧ z < 40 := by
            rcases z1 with z1 | z1
            · exact absurd (y2.1 hy) z1.2
            · omega
          simp (disch := first | omega | assumption | (simp (disch := omega) only [vup_fn, vup_o, vup_k, vup_at]; first | done | omega | assumption)) only [ze_188_0, ze_188_5, ze_188_14, ze_188_21, ze_188_22, ze_188_45, ze_188_49, ze_188_57, ze_188_58, ze_188_62, e189, e147, hl1, e190, z2, e2, Int.add_zero, ↓reduceIte, qw_id, zck_T, zck_t, zGor_v, zGor_n, zGor_e, zbs, vup_at, vup_vup, vup_self, vup_o, vup_k, vup_fn, ne_eq, not_true_eq_false, not_false_eq_true, and_true, true_and, and_self, and_false, false_and, or_true, true_or, or_self, or_false, false_or, xlt_t, xlt_f, xle_t, xle_f, xeq_t, xeq_f, xand_f, xor_t]
        · simp (disch := first | omega | assumption | (simp (disch := omega) only [vup_fn, vup_o, vup_k, vup_at]; first | done | omega | assumption)) only [ze_188_0, ze_188_5, ze_188_14, ze_188_21, ze_188_22, ze_188_45, ze_188_49, ze_188_57, ze_188_58, ze_188_62, e189, e147, e2, Int.add_zero, ↓reduceIte, qw_id, zck_T, zck_t, zGor_v, zGor_n, zGor_e, zbs, vup_at, vup_vup, vup_self, vup_o, vup_k, vup_fn, ne_eq, not_true_eq_false, not_false_eq_true, and_true, true_and, and_self, and_false, false_and, or_true, true_or, or_self, or_false, false_or, xlt_t, xlt_f, xle_t, xle_f, xeq_t, xeq_f, xand_f, xor_t]
    · right
      refine ⟨0, 0, V, J, rfl, ?_, zRn_of h hN ?_⟩
      · by_cases hb0 : b < 0
        · simp (disch := first | omega | assumption | (simp (disch := omega) only [vup_fn, vup_o, vup_k, vup_at]; first | done | omega | assumption)) only [ze_111_0, ze_111_5, ze_111_16, ze_111_45, ze_111_48, ze_111_82, ze_111_87, e112, Int.add_zero, ↓reduceIte, qw_id, zck_T, zck_t, zGor_v, zGor_n, zGor_e, zbs, vup_at, vup_vup, vup_self, vup_o, vup_k, vup_fn, ne_eq, not_true_eq_false, not_false_eq_true, and_true, true_and, and_self, and_false, false_and, or_true, true_or, or_self, or_false, false_or, xlt_t, xlt_f, xle_t, xle_f, xeq_t, xeq_f, xand_f, xor_t]
        · simp (disch := first | omega | assumption | (simp (disch := omega) only [vup_fn, vup_o, vup_k, vup_at]; first | done | omega | assumption)) only [ze_111_0, ze_111_5, ze_111_16, ze_111_45, ze_111_48, ze_111_82, ze_111_87, e112, Int.add_zero, ↓reduceIte, qw_id, zck_T, zck_t, zGor_v, zGor_n, zGor_e, zbs, vup_at, vup_vup, vup_self, vup_o, vup_k, vup_fn, ne_eq, not_true_eq_false, not_false_eq_true, and_true, true_and, and_self, and_false, false_and, or_true, true_or, or_self, or_false, false_or, xlt_t, xlt_f, xle_t, xle_f, xeq_t, xeq_f, xand_f, xor_t]
      intro J2 d2 hj hi
      have e189 := m189 (V := V) (J := J2) (d := d2) (c := k) h37.1 (by omega)
      rw [if_pos hp] at e189
      have e147 := sp147 (V := V) (J := J2) (d := d2) (a := b) (b := 12) hb (by omega)
      rw [if_neg hq] at e147
      have e2 := sm150 (V := V) (J := J2) (d := d2) (p := 0) (q := 0) (r := 1) (by omega) (by omega) (by omega)
      rw [if_neg (show ¬ gC 0 0 1 = 0 by decide)] at e2
      refine ⟨0, vup V 430 60 (gC 0 0 1), J2, ?_, vup_at _ _ _ _, pM_60, pC_60, rfl, fun w => by omega⟩
      simp (disch := first | omega | assumption | (simp (disch := omega) only [vup_fn, vup_o, vup_k, vup_at]; first | done | omega | assumption)) only [ze_188_0, ze_188_5, ze_188_14, ze_188_21, ze_188_22, ze_188_45, ze_188_49, ze_188_57, ze_188_58, ze_188_62, e189, e147, e2, Int.add_zero, ↓reduceIte, qw_id, zck_T, zck_t, zGor_v, zGor_n, zGor_e, zbs, vup_at, vup_vup, vup_self, vup_o, vup_k, vup_fn, ne_eq, not_true_eq_false, not_false_eq_true, and_true, true_and, and_self, and_false, false_and, or_true, true_or, or_self, or_false, false_or, xlt_t, xlt_f, xle_t, xle_f, xeq_t, xeq_f, xand_f, xor_t]
  · right
    rw [if_neg hp] at e112
    refine ⟨0, 0, V, J, rfl, ?_, zRn_of h hN ?_⟩
    · simp (disch := first | omega | assumption | (simp (disch := omega) only [vup_fn, vup_o, vup_k, vup_at]; first | done | omega | assumption)) only [ze_111_0, ze_111_5, ze_111_16, ze_111_45, ze_111_48, ze_111_82, ze_111_87, e112, Int.add_zero, ↓reduceIte, qw_id, zck_T, zck_t, zGor_v, zGor_n, zGor_e, zbs, vup_at, vup_vup, vup_self, vup_o, vup_k, vup_fn, ne_eq, not_true_eq_false, not_false_eq_true, and_true, true_and, and_self, and_false, false_and, or_true, true_or, or_self, or_false, false_or, xlt_t, xlt_f, xle_t, xle_f, xeq_t, xeq_f, xand_f, xor_t]
    intro J2 d2 hj hi
    have e189 := m189 (V := V) (J := J2) (d := d2) (c := a) h37.1 ha
    rw [if_neg hp] at e189
    have e2 := sm150 (V := V) (J := J2) (d := d2) (p := 0) (q := 0) (r := 1) (by omega) (by omega) (by omega)
    rw [if_neg (show ¬ gC 0 0 1 = 0 by decide)] at e2
    refine ⟨0, vup V 430 60 (gC 0 0 1), J2, ?_, vup_at _ _ _ _, pM_60, pC_60, rfl, fun w => by omega⟩
    simp (disch := first | omega | assumption | (simp (disch := omega) only [vup_fn, vup_o, vup_k, vup_at]; first | done | omega | assumption)) only [ze_188_0, ze_188_5, ze_188_14, ze_188_21, ze_188_22, ze_188_45, ze_188_49, ze_188_57, ze_188_58, ze_188_62, e189, e2, Int.add_zero, ↓reduceIte, qw_id, zck_T, zck_t, zGor_v, zGor_n, zGor_e, zbs, vup_at, vup_vup, vup_self, vup_o, vup_k, vup_fn, ne_eq, not_true_eq_false, not_false_eq_true, and_true, true_and, and_self, and_false, false_and, or_true, true_or, or_self, or_false, false_or, xlt_t, xlt_f, xle_t, xle_f, xeq_t, xeq_f, xand_f, xor_t]
end
