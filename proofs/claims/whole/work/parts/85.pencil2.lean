/-! part 85: pencil, the call -/
theorem aGood_n {T : Int → Int} {n : Int} {H H2 q m v q2 m2 v2 : Int → Int} {cnt : Int} (hg : aGood T H q m v cnt n) (hc : cnt < 200) (h : ∀ c, 0 ≤ c → c < cnt → q2 c = q c ∧ m2 c = m c ∧ v2 c = v c) (hH : ∀ c, c ≠ cnt → H2 c = H c) (h1 : H2 cnt = 1) (hq : 0 ≤ q2 cnt ∧ q2 cnt < n) (hV : oV (m2 cnt) (v2 cnt)) (hF : oF (m2 cnt) (tK T (q2 cnt))) : aGood T H2 q2 m2 v2 (cnt + 1) n := by
  obtain ⟨a1, a2, a3⟩ := hg
  refine ⟨by omega, fun c c0 c1 => ?_, fun c c0 c1 c2 => ?_⟩
  · by_cases e : c = cnt
    · rw [e, h1]
      exact Or.inr rfl
    · rw [hH c e]
      exact a2 c c0 c1
  · by_cases e : c = cnt
    · rw [e]
      refine ⟨hq, ?_⟩
      unfold oV oL at hV
      unfold oF at hF
      omega
    · obtain ⟨e1, e2, e3⟩ := h c c0 (by omega)
      rw [hH c e] at c2
      rw [e1, e2, e3]
      exact a3 c c0 (by omega) c2
section
variable {V : zVt} {J : zJt} {N a b m v : Int}
theorem mLex2 {d : Nat → Nat → UInt64} (hi : zInv N V J) {w : Nat} (hw : w < 12) (hr : V (50 + 15 * w) 2 = 1) {V1 : zVt} {J1 : zJt} (h1 : V1 431 = V 431 ∧ V1 432 = V 432) : ∃ V', zGo false 154 0 [.ref 430, .int (zi w), .null, .null] [] (zm V1 J1 d) = zN1 V' J1 d ∧ V' 430 10 = V (52 + 15 * w) 0 ∧ (0 ≤ V (52 + 15 * w) 0 ∧ V (52 + 15 * w) 0 ≤ 60) ∧ (∀ k, 0 ≤ k → k < V (52 + 15 * w) 0 → V' 433 k = V (53 + 15 * w) k ∧ 0 ≤ V (53 + 15 * w) k ∧ V (53 + 15 * w) k ≤ 9) ∧ mFr V1 V' := by
  obtain ⟨⟨n, b, F, A, fa, hx, h4, h5⟩, _⟩ := (hi.2.2.1 w hw).2.2.2.2.2.1 hr
  have ht := hi.1.1
  rw [← h1.1, ← h1.2] at ht
  obtain ⟨V', c', b', q1, q2, q3, q4, q5, q6⟩ := sp154 (V := V1) (J := J1) (d := d) ht (w := w) (by omega)
  rw [h1.1, h1.2] at q2 q5
  obtain ⟨e1, e2⟩ := yLx_un hx.1.1 q2
  subst e1
  refine ⟨V', q1, by rw [q3, hx.2.1], by rw [hx.2.1]; exact q2.1, fun k k0 k1 => ?_, q6⟩
  rw [hx.2.1] at k1
  rw [(q5 k k0 k1).1, ← show 52 + 15 * w + 1 = 53 + 15 * w by omega, (hx.2.2.2.2.2.1 k k0 k1).1]
  exact ⟨rfl, yK_rng _ _⟩
theorem m194r {d : Nat → Nat → UInt64} {x5 x6 t : Int} (hm : -2147483648 ≤ m ∧ m < 2147483648) (hv : -2147483648 ≤ v ∧ v < 2147483648) (ht : -1 ≤ t ∧ t ≤ 9) (h6 : x6 = 0 ∨ x6 = 1 ∧ 0 ≤ a ∧ a < 40) (h455 : x6 = 1 → -1 ≤ V 455 a ∧ V 455 a < 12) (h42 : 0 ≤ V 430 42 ∧ V 430 42 ≤ 200) : zGo false 194 60 [.ref 430, .int (zi a), .int (zi b), .int (zi m), .int (zi v), .int (zi x5), .int (zi x6), .null, .null] [.int (zi t)] (zm V J d) = (zGo false 150 0 [.ref 430, .int (zi x6), .int (zi (if oV m v then 1 else 0)), .int (zi (if x6 = 1 ∧ V 455 a ≠ -1 ∧ oF m t ∧ V 430 42 < 200 then 1 else 0))] [] (zm V J d)).bind (zGor false 194 150 [.ref 430, .int (zi a), .int (zi b), .int (zi m), .int (zi v), .int (zi x5), .int (zi x6), .int (zi t), .int (zi (if oF m t then 1 else 0))] []) := by
  have e195 := sp195 (V := V) (J := J) (d := d) hm hv
  have start : zGo false 194 60 [.ref 430, .int (zi a), .int (zi b), .int (zi m), .int (zi v), .int (zi x5), .int (zi x6), .null, .null] [.int (zi t)] (zm V J d) = zGo false 194 101 [.ref 430, .int (zi a), .int (zi b), .int (zi m), .int (zi v), .int (zi x5), .int (zi x6), .int (zi t), .null] [.int (zi (if oF m t then 1 else 0))] (zm V J d) := by
    by_cases m0 : m = 0
    · by_cases q : t = 0
      · rw [if_pos (Or.inl ⟨m0, q⟩)]
        simp (disch := first | omega | assumption | (simp (disch := omega) only [vup_fn, vup_o, vup_k, vup_at]; first | done | omega | assumption)) only [ze_194_60, ze_194_96, ze_194_100, Int.add_zero, ↓reduceIte, qw_id, zck_T, zck_t, zGor_v, zGor_n, zGor_e, zbs, vup_at, vup_vup, vup_self, vup_o, vup_k, vup_fn, ne_eq, not_true_eq_false, not_false_eq_true, and_true, true_and, and_self, and_false, false_and, or_true, true_or, or_self, or_false, false_or, xlt_t, xlt_f, xle_t, xle_f, xeq_t, xeq_f, xand_f, xor_t]
      · rw [if_neg (show ¬ oF m t by unfold oF; omega)]
        simp (disch := first | omega | assumption | (simp (disch := omega) only [vup_fn, vup_o, vup_k, vup_at]; first | done | omega | assumption)) only [ze_194_60, ze_194_96, ze_194_100, Int.add_zero, ↓reduceIte, qw_id, zck_T, zck_t, zGor_v, zGor_n, zGor_e, zbs, vup_at, vup_vup, vup_self, vup_o, vup_k, vup_fn, ne_eq, not_true_eq_false, not_false_eq_true, and_true, true_and, and_self, and_false, false_and, or_true, true_or, or_self, or_false, false_or, xlt_t, xlt_f, xle_t, xle_f, xeq_t, xeq_f, xand_f, xor_t]
    · by_cases q : t = 3
      · rw [if_pos (Or.inr ⟨m0, Or.inl q⟩)]
        simp (disch := first | omega | assumption | (simp (disch := omega) only [vup_fn, vup_o, vup_k, vup_at]; first | done | omega | assumption)) only [ze_194_60, ze_194_96, ze_194_100, Int.add_zero, ↓reduceIte, qw_id, zck_T, zck_t, zGor_v, zGor_n, zGor_e, zbs, vup_at, vup_vup, vup_self, vup_o, vup_k, vup_fn, ne_eq, not_true_eq_false, not_false_eq_true, and_true, true_and, and_self, and_false, false_and, or_true, true_or, or_self, or_false, false_or, xlt_t, xlt_f, xle_t, xle_f, xeq_t, xeq_f, xand_f, xor_t]
      · by_cases m3 : m = 3
        · by_cases q2 : t = 4
          · rw [if_pos (Or.inr ⟨m0, Or.inr ⟨m3, q2⟩⟩)]
            simp (disch := first | omega | assumption | (simp (disch := omega) only [vup_fn, vup_o, vup_k, vup_at]; first | done | omega | assumption)) only [ze_194_60, ze_194_96, ze_194_100, Int.add_zero, ↓reduceIte, qw_id, zck_T, zck_t, zGor_v, zGor_n, zGor_e, zbs, vup_at, vup_vup, vup_self, vup_o, vup_k, vup_fn, ne_eq, not_true_eq_false, not_false_eq_true, and_true, true_and, and_self, and_false, false_and, or_true, true_or, or_self, or_false, false_or, xlt_t, xlt_f, xle_t, xle_f, xeq_t, xeq_f, xand_f, xor_t]
          · rw [if_neg (show ¬ oF m t by unfold oF; omega)]
            simp (disch := first | omega | assumption | (simp (disch := omega) only [vup_fn, vup_o, vup_k, vup_at]; first | done | omega | assumption)) only [ze_194_60, ze_194_96, ze_194_100, Int.add_zero, ↓reduceIte, qw_id, zck_T, zck_t, zGor_v, zGor_n, zGor_e, zbs, vup_at, vup_vup, vup_self, vup_o, vup_k, vup_fn, ne_eq, not_true_eq_false, not_false_eq_true, and_true, true_and, and_self, and_false, false_and, or_true, true_or, or_self, or_false, false_or, xlt_t, xlt_f, xle_t, xle_f, xeq_t, xeq_f, xand_f, xor_t]
        · rw [if_neg (show ¬ oF m t by unfold oF; omega)]
          simp (disch := first | omega | assumption | (simp (disch := omega) only [vup_fn, vup_o, vup_k, vup_at]; first | done | omega | assumption)) only [ze_194_60, ze_194_96, ze_194_100, Int.add_zero, ↓reduceIte, qw_id, zck_T, zck_t, zGor_v, zGor_n, zGor_e, zbs, vup_at, vup_vup, vup_self, vup_o, vup_k, vup_fn, ne_eq, not_true_eq_false, not_false_eq_true, and_true, true_and, and_self, and_false, false_and, or_true, true_or, or_self, or_false, false_or, xlt_t, xlt_f, xle_t, xle_f, xeq_t, xeq_f, xand_f, xor_t]
  rw [start]
  generalize (if oV m v then (1 : Int) else 0) = g at *
  by_cases h0 : x6 = 1
  · have h7 : 0 ≤ a ∧ a < 40 := by omega
    have h8 := h455 h0
    by_cases q1 : V 455 a = -1
    · rw [if_neg (show ¬(x6 = 1 ∧ V 455 a ≠ -1 ∧ oF m t ∧ V 430 42 < 200) from fun w => w.2.1 q1)]
      simp (disch := first | omega | assumption | (simp (disch := omega) only [vup_fn, vup_o, vup_k, vup_at]; first | done | omega | assumption)) only [ze_194_101, ze_194_112, ze_194_146, ze_194_147, e195, Int.add_zero, ↓reduceIte, qw_id, zck_T, zck_t, zGor_v, zGor_n, zGor_e, zbs, vup_at, vup_vup, vup_self, vup_o, vup_k, vup_fn, ne_eq, not_true_eq_false, not_false_eq_true, and_true, true_and, and_self, and_false, false_and, or_true, true_or, or_self, or_false, false_or, xlt_t, xlt_f, xle_t, xle_f, xeq_t, xeq_f, xand_f, xor_t]
    · by_cases q2 : oF m t
      · by_cases q3 : V 430 42 < 200
        · rw [if_pos (show (x6 = 1 ∧ V 455 a ≠ -1 ∧ oF m t ∧ V 430 42 < 200) from ⟨h0, q1, q2, q3⟩), if_pos q2]
          simp (disch := first | omega | assumption | (simp (disch := omega) only [vup_fn, vup_o, vup_k, vup_at]; first | done | omega | assumption)) only [ze_194_101, ze_194_112, ze_194_146, ze_194_147, e195, Int.add_zero, ↓reduceIte, qw_id, zck_T, zck_t, zGor_v, zGor_n, zGor_e, zbs, vup_at, vup_vup, vup_self, vup_o, vup_k, vup_fn, ne_eq, not_true_eq_false, not_false_eq_true, and_true, true_and, and_self, and_false, false_and, or_true, true_or, or_self, or_false, false_or, xlt_t, xlt_f, xle_t, xle_f, xeq_t, xeq_f, xand_f, xor_t]
        · rw [if_neg (show ¬(x6 = 1 ∧ V 455 a ≠ -1 ∧ oF m t ∧ V 430 42 < 200) from fun w => q3 w.2.2.2), if_pos q2]
          simp (disch := first | omega | assumption | (simp (disch := omega) only [vup_fn, vup_o, vup_k, vup_at]; first | done | omega | assumption)) only [ze_194_101, ze_194_112, ze_194_146, ze_194_147, e195, Int.add_zero, ↓reduceIte, qw_id, zck_T, zck_t, zGor_v, zGor_n, zGor_e, zbs, vup_at, vup_vup, vup_self, vup_o, vup_k, vup_fn, ne_eq, not_true_eq_false, not_false_eq_true, and_true, true_and, and_self, and_false, false_and, or_true, true_or, or_self, or_false, false_or, xlt_t, xlt_f, xle_t, xle_f, xeq_t, xeq_f, xand_f, xor_t]
      · rw [if_neg (show ¬(x6 = 1 ∧ V 455 a ≠ -1 ∧ oF m t ∧ V 430 42 < 200) from fun w => q2 w.2.2.1), if_neg q2]
        simp (disch := first | omega | assumption | (simp (disch := omega) only [vup_fn, vup_o, vup_k, vup_at]; first | done | omega | assumption)) only [ze_194_101, ze_194_112, ze_194_146, ze_194_147, e195, Int.add_zero, ↓reduceIte, qw_id, zck_T, zck_t, zGor_v, zGor_n, zGor_e, zbs, vup_at, vup_vup, vup_self, vup_o, vup_k, vup_fn, ne_eq, not_true_eq_false, not_false_eq_true, and_true, true_and, and_self, and_false, false_and, or_true, true_or, or_self, or_false, false_or, xlt_t, xlt_f, xle_t, xle_f, xeq_t, xeq_f, xand_f, xor_t]
  · rw [if_neg (show ¬(x6 = 1 ∧ V 455 a ≠ -1 ∧ oF m t ∧ V 430 42 < 200) from fun w => h0 w.1)]
    generalize (if oF m t then (1 : Int) else 0) = f
    have h9 : x6 = 0 := by omega
    simp (disch := first | omega | assumption | (simp (disch := omega) only [vup_fn, vup_o, vup_k, vup_at]; first | done | omega | assumption)) only [ze_194_101, ze_194_112, ze_194_146, ze_194_147, e195, Int.add_zero, ↓reduceIte, qw_id, zck_T, zck_t, zGor_v, zGor_n, zGor_e, zbs, vup_at, vup_vup, vup_self, vup_o, vup_k, vup_fn, ne_eq, not_true_eq_false, not_false_eq_true, and_true, true_and, and_self, and_false, false_and, or_true, true_or, or_self, or_false, false_or, xlt_t, xlt_f, xle_t, xle_f, xeq_t, xeq_f, xand_f, xor_t]
theorem x116 (h : zInv N V J) (hN : N < 600) (ha : -2147483648 ≤ a ∧ a < 2147483648) (hb : -2147483648 ≤ b ∧ b < 2147483648) (hm : -2147483648 ≤ m ∧ m < 2147483648) (hv : -2147483648 ≤ v ∧ v < 2147483648) : zTw N V J 116 [.ref 0, .int (zi a), .int (zi b), .int (zi m), .int (zi v), .null, .null, .null] 194 [.ref 430, .int (zi a), .int (zi b), .int (zi m), .int (zi v), .null, .null, .null, .null] [0, 1, 2] := by
  intro d
  have e112 := cp112 (d := d) h ha
  have h37 := h.2.2.2.1
  have hcor := h.2.1
  by_cases hp : 0 ≤ a ∧ a < V 430 37
  · rw [if_pos hp] at e112
    obtain ⟨k, rfl⟩ : ∃ k : Nat, a = k := ⟨a.toNat, by omega⟩
    rw [Int.toNat_natCast] at e112
    have hk4 : k < 40 := by omega
    have hBc := zBk_copy hk4
    obtain ⟨_, k2, k3, k4, k5⟩ := iCp_ms h hp
    rw [Int.toNat_natCast] at k3 k4
    obtain ⟨w, hw⟩ : ∃ w : Nat, V 454 k = w := ⟨(V 454 k).toNat, by omega⟩
    have hw12 : w < 12 := by omega
    have hwt : ((w : Nat) : Int).toNat = w := by omega
    have hB := zBk_part hw12
    have hB10 := zBk_6row hB
    have hp3 := (h.2.2.1 w hw12).2.2.1.2 ⟨k, hp, hw⟩
    obtain ⟨n, b', A, fa, r1, r2, r3, r4⟩ := iPr_row h hw12 hp3
    have e52 : 50 + 15 * w + 2 = 52 + 15 * w := by omega
    have e53 : 52 + 15 * w + 1 = 53 + 15 * w := by omega
    have hk0 : V (230 + 5 * k) 0 = w := by rw [k3, hw]
    have hn : V (52 + 15 * w) 0 = n := r1.2.1
    have hn60 : 0 ≤ n ∧ n ≤ 60 := by
      obtain ⟨_, _, _, l3, _⟩ := mLex2 (V1 := V) (J1 := J) (d := d) h hw12 r3 ⟨rfl, rfl⟩
      omega
    have e86 := sp86 (V := V) (J := J) (d := d) (x := 50 + 15 * w + 2) (k := b) hB10 hb (by rw [e52, hn]; exact hn60)
    rw [e52, hn] at e86
    have e5 := sp5 (V := V) (J := J) (d := d) hm hv
    rw [e52] at hB10
    by_cases hq : 0 ≤ b ∧ b < n
    · rw [if_pos hq] at e86
      have hkd : V (53 + 15 * w) b = tK (yTt V w) b := by
        rw [← e53]
        exact (r1.2.2.2.2.2.1 b hq.1 hq.2).1
      have hkr : 0 ≤ V (53 + 15 * w) b ∧ V (53 + 15 * w) b ≤ 9 := by
        obtain ⟨_, _, _, _, l4, _⟩ := mLex2 (V1 := V) (J1 := J) (d := d) h hw12 r3 ⟨rfl, rfl⟩
        exact (l4 b hq.1 (by omega)).2
      have e7 := sp7 (V := V) (J := J) (d := d) (m := m) (t := V (53 + 15 * w) b) hm (by omega)
      by_cases hy : oV m v
      · rw [if_pos hy] at e5
        by_cases hok : V 455 k ≠ -1 ∧ oF m (V (53 + 15 * w) b) ∧ V 3 0 < 200
        · left
          obtain ⟨ho1, ho2, ho3⟩ := hok
          rw [if_pos ho2] at e7
          have hmc := (h.2.2.2.2.1 k hk4).1
          have hcm := ((h.2.2.2.2.1 k hk4).2.1 hp.2).2.2.2.2
          rw [hw, hwt] at hcm
          have ht := zt_ok h.1.1 (w := (w : Int)) (by omega)
          have r2c : aGood (yTt V w) (V (232 + 5 * k)) (V 4) (V 5) (V 6) (V 3 0) n := by
            obtain ⟨n2, b2, F2, A2, fa2, x1, x2, x3⟩ := hcm
            obtain ⟨u1, u2, u3, u4, u5⟩ := yTx_un r1.1 x1
            rw [u1, u3] at x2
            exact x2 rfl
          have hc0 : 0 ≤ V 3 0 := r2c.1.1
          unfold iMk at hmc
          rw [show 231 + 5 * k + 1 = 232 + 5 * k by omega] at hmc
          have z32 : V (232 + 5 * k) (V 3 0) = 0 := (hmc.1 _ hc0 ho3).2.2 (by rw [hcor.2.1]; exact Int.le_refl _)
          have e8 := sp8 (V := V) (J := J) (d := d) (x := b) (y := m) (z := v) ⟨hc0, ho3⟩
          have f1 : ∀ o : Nat, o ≠ 3 → o ≠ 4 → o ≠ 5 → o ≠ 6 → vup (vup (vup (vup V 4 (V 3 0) b) 5 (V 3 0) m) 6 (V 3 0) v) 3 0 (V 3 0 + 1) o = V o := fun o o1 o2 o3 o4 => by rw [vup_fn o1, vup_fn o4, vup_fn o3, vup_fn o2]
          have f13 : vup (vup (vup (vup V 4 (V 3 0) b) 5 (V 3 0) m) 6 (V 3 0) v) 3 0 (V 3 0 + 1) 3 0 = V 3 0 + 1 := vup_at _ _ _ _
          have f14 : ∀ c, vup (vup (vup (vup V 4 (V 3 0) b) 5 (V 3 0) m) 6 (V 3 0) v) 3 0 (V 3 0 + 1) 4 c = if c = V 3 0 then b else V 4 c := fun c => by
            rw [vup_o (by omega), vup_o (by omega), vup_o (by omega)]
            by_cases e : c = V 3 0
            · rw [if_pos e, e, vup_at]
            · rw [if_neg e, vup_k e]
          have f15 : ∀ c, vup (vup (vup (vup V 4 (V 3 0) b) 5 (V 3 0) m) 6 (V 3 0) v) 3 0 (V 3 0 + 1) 5 c = if c = V 3 0 then m else V 5 c := fun c => by
            rw [vup_o (by omega), vup_o (by omega)]
            by_cases e : c = V 3 0
            · rw [if_pos e, e, vup_at]
            · rw [if_neg e, vup_k e, vup_o (by omega)]
          have f16 : ∀ c, vup (vup (vup (vup V 4 (V 3 0) b) 5 (V 3 0) m) 6 (V 3 0) v) 3 0 (V 3 0 + 1) 6 c = if c = V 3 0 then v else V 6 c := fun c => by
            rw [vup_o (by omega)]
            by_cases e : c = V 3 0
            · rw [if_pos e, e, vup_at]
            · rw [if_neg e, vup_k e, vup_o (by omega), vup_o (by omega)]
          generalize vup (vup (vup (vup V 4 (V 3 0) b) 5 (V 3 0) m) 6 (V 3 0) v) 3 0 (V 3 0 + 1) = V1 at *
          have g31 : 230 + 5 * k + 1 = 231 + 5 * k := by omega
          have g32 : 230 + 5 * k + 1 + 1 = 232 + 5 * k := by omega
          have e28 := sp28 (V := V1) (J := J) (d := d) (X := 230 + 5 * k + 1) (k := V 3 0) (zBk_0marks hBc) ⟨hc0, ho3⟩ (by rw [g32, f1 _ (by omega) (by omega) (by omega) (by omega)]; exact Or.inl z32)
          rw [g32, g31, f1 (232 + 5 * k) (by omega) (by omega) (by omega) (by omega), f1 (231 + 5 * k) (by omega) (by omega) (by omega) (by omega), if_neg (fun q => q z32)] at e28
          have f2 : ∀ o : Nat, o ≠ 231 + 5 * k → o ≠ 232 + 5 * k → vup (vup V1 (232 + 5 * k) (V 3 0) 1) (231 + 5 * k) 1 (V (231 + 5 * k) 1 + 1) o = V1 o := fun o o1 o2 => by rw [vup_fn o1, vup_fn o2]
          have f231 : vup (vup V1 (232 + 5 * k) (V 3 0) 1) (231 + 5 * k) 1 (V (231 + 5 * k) 1 + 1) (231 + 5 * k) 1 = V (231 + 5 * k) 1 + 1 := vup_at _ _ _ _
          have f232 : vup (vup V1 (232 + 5 * k) (V 3 0) 1) (231 + 5 * k) 1 (V (231 + 5 * k) 1 + 1) (232 + 5 * k) = vup V (232 + 5 * k) (V 3 0) 1 (232 + 5 * k) := by
            rw [vup_fn (by omega)]
            funext x
            unfold vup
            rw [f1 (232 + 5 * k) (by omega) (by omega) (by omega) (by omega)]
          generalize vup (vup V1 (232 + 5 * k) (V 3 0) 1) (231 + 5 * k) 1 (V (231 + 5 * k) 1 + 1) = V2 at *
          have f3 : ∀ o : Nat, ¬(3 ≤ o ∧ o ≤ 6) → o ≠ 231 + 5 * k → o ≠ 232 + 5 * k → V2 o = V o := fun o o1 o2 o3 => by rw [f2 o o2 o3, f1 o (by omega) (by omega) (by omega) (by omega)]
          have hyt : yTt V2 w = yTt V w := yTt_fr (f3 431 (by omega) (by omega) (by omega)) (f3 432 (by omega) (by omega) (by omega))
          have f4 : ∀ o : Nat, 3 ≤ o → o ≤ 6 → V2 o = V1 o := fun o o1 o2 => f2 o (by omega) (by omega)
          obtain ⟨V3, J3, t1, t2, t3, t4⟩ := cp110 (d := d) (V := V2) (J := J) (w := w) (k := k) hw12 hk4 (by rw [f3 _ (by omega) (by omega) (by omega)]; exact hk0) (n := n) (b := b') (A := A) (fa := fa) (by rw [hyt, f3 432 (by omega) (by omega) (by omega)]; exact cRow_fr (fun o o1 o2 => f3 o (by omega) (by omega) (by omega)) r1) (by rw [hyt, f3 432 (by omega) (by omega) (by omega)]; exact ht) (by
            rw [hyt, f4 3 (by omega) (by omega), f4 4 (by omega) (by omega), f4 5 (by omega) (by omega), f4 6 (by omega) (by omega), f13, f232]
            refine aGood_n r2c ho3 (fun c c0 c1 => ⟨by rw [f14, if_neg (by omega)], by rw [f15, if_neg (by omega)], by rw [f16, if_neg (by omega)]⟩) (fun c hc => vup_k hc) (vup_at _ _ _ _) (by rw [f14, if_pos rfl]; exact hq) (by rw [f15, f16, if_pos rfl, if_pos rfl]; exact hy) ?_
            rw [f14, f15, if_pos rfl, if_pos rfl, ← hkd]
            exact ho2)
          refine ⟨V 3 0, V3, J3, ?_, ?_⟩
          · rw [← g31] at e28
            simp (disch := first | omega | assumption | (simp (disch := omega) only [vup_fn, vup_o, vup_k, vup_at]; first | done | omega | assumption)) only [ze_116_0, ze_116_5, ze_116_28, ze_116_51, ze_116_88, ze_116_104, ze_116_125, ze_116_137, ze_116_143, e112, hk0, hwt, e52, e86, e5, k4, e53, e7, e8, e28, t1, Int.add_zero, ↓reduceIte, qw_id, zck_T, zck_t, zGor_v, zGor_n, zGor_e, zbs, vup_at, vup_vup, vup_self, vup_o, vup_k, vup_fn, ne_eq, not_true_eq_false, not_false_eq_true, and_true, true_and, and_self, and_false, false_and, or_true, true_or, or_self, or_false, false_or, xlt_t, xlt_f, xle_t, xle_f, xeq_t, xeq_f, xand_f, xor_t]
          intro J4 d2 hj
          have g3 : ∀ o : Nat, 430 ≤ o → V3 o = V o := fun o ho => by rw [t2 o (by omega), f3 o (by omega) (by omega) (by omega)]
          have e189 := m189 (V := V3) (J := J4) (d := d2) (c := k) (by rw [g3 430 (by omega)]; exact h37.1) (by omega)
          rw [g3 430 (by omega), if_pos hp] at e189
          have h454 : V3 454 k = w := by rw [g3 454 (by omega)]; exact hw
          obtain ⟨V5, l1, l2, l3, l4, l5⟩ := mLex2 (V1 := V3) (J1 := J4) (d := d2) h hw12 r3 ⟨g3 431 (by omega), g3 432 (by omega)⟩
          rw [hn] at l2 l4
          have e147 := sp147 (V := V5) (J := J4) (d := d2) (a := b) (b := n) hb (by omega)
          rw [if_pos hq] at e147
          have l6 := (l4 b hq.1 hq.2).1
          have g455 : V5 455 = V 455 := by rw [l5.1 455 (by omega), g3 455 (by omega)]
          have g42 : V5 430 42 = V 3 0 := by rw [l5.2 42 (by omega), g3 430 (by omega)]; exact hcor.2.1.symm
          have er := m194r (V := V5) (J := J4) (d := d2) (a := k) (b := b) (m := m) (v := v) (x5 := 1) (x6 := 1) (t := V (53 + 15 * w) b) hm hv (by omega) (Or.inr ⟨rfl, by omega, by omega⟩) (fun _ => by rw [g455]; exact k5) (by rw [g42]; omega)
          rw [g455, g42, if_pos hy, if_pos ho2, if_pos ⟨rfl, ho1, ho2, ho3⟩] at er
          have e2 := sm150 (V := V5) (J := J4) (d := d2) (p := 1) (q := 1) (r := 1) (by omega) (by omega) (by omega)
          rw [if_pos (show gC 1 1 1 = 0 from rfl)] at e2
          have ec : V 3 0 + 1 - 1 = V 3 0 := by omega
          refine ⟨V 3 0, vup (vup (vup (vup (vup (vup V5 430 60 (gC 1 1 1)) 457 (V 3 0) b) 458 (V 3 0) m) 459 (V 3 0) v) 456 (200 * k + V 3 0) 1) 430 42 (V 3 0 + 1), J4, ?_, by rw [vup_k (by omega), vup_o (by omega), vup_o (by omega), vup_o (by omega), vup_o (by omega), vup_at]; rfl, ?_, rfl, fun _ => rfl⟩
          · simp (disch := first | omega | assumption | (simp (disch := omega) only [vup_fn, vup_o, vup_k, vup_at]; first | done | omega | assumption)) only [ze_194_0, ze_194_5, ze_194_22, ze_194_35, ze_194_42, ze_194_43, ze_194_150, e189, h454, l1, l2, e147, l6, er, e2, g42, ec, Int.add_zero, ↓reduceIte, qw_id, zck_T, zck_t, zGor_v, zGor_n, zGor_e, zbs, vup_at, vup_vup, vup_self, vup_o, vup_k, vup_fn, ne_eq, not_true_eq_false, not_false_eq_true, and_true, true_and, and_self, and_false, false_and, or_true, true_or, or_self, or_false, false_or, xlt_t, xlt_f, xle_t, xle_f, xeq_t, xeq_f, xand_f, xor_t]
          have hv1 : ∀ o : Nat, o ≠ 430 → ¬(456 ≤ o ∧ o ≤ 459) → ¬(433 ≤ o ∧ o ≤ 438) → vup (vup (vup (vup (vup (vup V5 430 60 (gC 1 1 1)) 457 (V 3 0) b) 458 (V 3 0) m) 459 (V 3 0) v) 456 (200 * k + V 3 0) 1) 430 42 (V 3 0 + 1) o = V3 o := fun o o1 o2 o3 => by
            rw [vup_fn o1, vup_fn (by omega), vup_fn (by omega), vup_fn (by omega), vup_fn (by omega), vup_fn o1]
            exact l5.1 o (by omega)
          have hc3 : ∀ o : Nat, o < 430 → ¬(12 ≤ o ∧ o ≤ 25) → o ≠ 233 + 5 * k → vup (vup (vup (vup (vup (vup V5 430 60 (gC 1 1 1)) 457 (V 3 0) b) 458 (V 3 0) m) 459 (V 3 0) v) 456 (200 * k + V 3 0) 1) 430 42 (V 3 0 + 1) o = V2 o := fun o o1 o2 o3 => by
            rw [hv1 o (by omega) (by omega) (by omega)]
            exact t2 o (by omega)
          have h4' : ∀ c, vup (vup (vup (vup (vup (vup V5 430 60 (gC 1 1 1)) 457 (V 3 0) b) 458 (V 3 0) m) 459 (V 3 0) v) 456 (200 * k + V 3 0) 1) 430 42 (V 3 0 + 1) 4 c = if c = V 3 0 then b else V 4 c := fun c => by rw [hc3 4 (by omega) (by omega) (by omega), f4 4 (by omega) (by omega), f14]
          have h5' : ∀ c, vup (vup (vup (vup (vup (vup V5 430 60 (gC 1 1 1)) 457 (V 3 0) b) 458 (V 3 0) m) 459 (V 3 0) v) 456 (200 * k + V 3 0) 1) 430 42 (V 3 0 + 1) 5 c = if c = V 3 0 then m else V 5 c := fun c => by rw [hc3 5 (by omega) (by omega) (by omega), f4 5 (by omega) (by omega), f15]
          have h6' : ∀ c, vup (vup (vup (vup (vup (vup V5 430 60 (gC 1 1 1)) 457 (V 3 0) b) 458 (V 3 0) m) 459 (V 3 0) v) 456 (200 * k + V 3 0) 1) 430 42 (V 3 0 + 1) 6 c = if c = V 3 0 then v else V 6 c := fun c => by rw [hc3 6 (by omega) (by omega) (by omega), f4 6 (by omega) (by omega), f16]
          have e457 : ∀ c, vup (vup (vup (vup (vup (vup V5 430 60 (gC 1 1 1)) 457 (V 3 0) b) 458 (V 3 0) m) 459 (V 3 0) v) 456 (200 * k + V 3 0) 1) 430 42 (V 3 0 + 1) 457 c = if c = V 3 0 then b else V 457 c := fun c => by
            rw [vup_o (by omega), vup_o (by omega), vup_o (by omega), vup_o (by omega)]
            by_cases e : c = V 3 0
            · rw [if_pos e, e, vup_at]
            · rw [if_neg e, vup_k e, vup_o (by omega), l5.1 457 (by omega), g3 457 (by omega)]
          have e458 : ∀ c, vup (vup (vup (vup (vup (vup V5 430 60 (gC 1 1 1)) 457 (V 3 0) b) 458 (V 3 0) m) 459 (V 3 0) v) 456 (200 * k + V 3 0) 1) 430 42 (V 3 0 + 1) 458 c = if c = V 3 0 then m else V 458 c := fun c => by
            rw [vup_o (by omega), vup_o (by omega), vup_o (by omega)]
            by_cases e : c = V 3 0
            · rw [if_pos e, e, vup_at]
            · rw [if_neg e, vup_k e, vup_o (by omega), vup_o (by omega), l5.1 458 (by omega), g3 458 (by omega)]
          have e459 : ∀ c, vup (vup (vup (vup (vup (vup V5 430 60 (gC 1 1 1)) 457 (V 3 0) b) 458 (V 3 0) m) 459 (V 3 0) v) 456 (200 * k + V 3 0) 1) 430 42 (V 3 0 + 1) 459 c = if c = V 3 0 then v else V 459 c := fun c => by
            rw [vup_o (by omega), vup_o (by omega)]
            by_cases e : c = V 3 0
            · rw [if_pos e, e, vup_at]
            · rw [if_neg e, vup_k e, vup_o (by omega), vup_o (by omega), vup_o (by omega), l5.1 459 (by omega), g3 459 (by omega)]
          have e456 : ∀ x, vup (vup (vup (vup (vup (vup V5 430 60 (gC 1 1 1)) 457 (V 3 0) b) 458 (V 3 0) m) 459 (V 3 0) v) 456 (200 * k + V 3 0) 1) 430 42 (V 3 0 + 1) 456 x = if x = 200 * k + V 3 0 then 1 else V 456 x := fun x => by
            rw [vup_o (by omega)]
            by_cases e : x = 200 * k + V 3 0
            · rw [if_pos e, e, vup_at]
            · rw [if_neg e, vup_k e, vup_o (by omega), vup_o (by omega), vup_o (by omega), vup_o (by omega), l5.1 456 (by omega), g3 456 (by omega)]
          have e430 : ∀ x, ¬(10 ≤ x ∧ x ≤ 12) → x ≠ 60 → x ≠ 42 → vup (vup (vup (vup (vup (vup V5 430 60 (gC 1 1 1)) 457 (V 3 0) b) 458 (V 3 0) m) 459 (V 3 0) v) 456 (200 * k + V 3 0) 1) 430 42 (V 3 0 + 1) 430 x = V 430 x := fun x x1 x2 x3 => by
            rw [vup_k x3, vup_o (by omega), vup_o (by omega), vup_o (by omega), vup_o (by omega), vup_k x2, l5.2 x x1, g3 430 (by omega)]
          have e42 : vup (vup (vup (vup (vup (vup V5 430 60 (gC 1 1 1)) 457 (V 3 0) b) 458 (V 3 0) m) 459 (V 3 0) v) 456 (200 * k + V 3 0) 1) 430 42 (V 3 0 + 1) 430 42 = V 430 42 + 1 := by rw [vup_at, hcor.2.1]
          generalize vup (vup (vup (vup (vup (vup V5 430 60 (gC 1 1 1)) 457 (V 3 0) b) 458 (V 3 0) m) 459 (V 3 0) v) 456 (200 * k + V 3 0) 1) 430 42 (V 3 0 + 1) = Vf at *
          refine zInv_up (zInv_pc (k := k) (t := b) (m := m) (v := v) h hp.2 ho3 ?_ ?_ ?_ h4' h5' h6' ?_ ?_ ?_ e456 ?_ ?_ ?_ ?_ ⟨e430 37 (by omega) (by omega) (by omega), e42, e430 46 (by omega) (by omega) (by omega), e430 52 (by omega) (by omega) (by omega), e430 59 (by omega) (by omega) (by omega)⟩) hN
          · intro o o1 o2 o3 o4 o5
            rw [hv1 o o3 o5 (by omega), t2 o (by omega)]
            exact f3 o (by omega) (by omega) (by omega)
          · intro o o1 o2 o3 o4
            rw [hj o (by omega)]
            exact t3 o o1
          · rw [hc3 3 (by omega) (by omega) (by omega), f4 3 (by omega) (by omega), f13]
          · funext c
            rw [e457, h4', hcor.2.2.1]
          · funext c
            rw [e458, h5', hcor.2.2.2.1]
          · funext c
            rw [e459, h6', hcor.2.2.2.2]
          · rw [hc3 _ (by omega) (by omega) (by omega), f3 _ (by omega) (by omega) (by omega)]
          · rw [hc3 _ (by omega) (by omega) (by omega), f232]
          · rw [hc3 _ (by omega) (by omega) (by omega), f231]
          · rw [hw, hwt, hc3 (232 + 5 * k) (by omega) (by omega) (by omega)]
            exact iMs_fr (hv1 _ (by omega) (by omega) (by omega)) (by rw [show 233 + 5 * k + 1 = 234 + 5 * k by omega]; exact hj _ (by omega)) (hv1 _ (by omega) (by omega) (by omega)) (hv1 _ (by omega) (by omega) (by omega)) (hv1 _ (by omega) (by omega) (by omega)) ⟨hv1 _ (by omega) (by omega) (by omega), hv1 _ (by omega) (by omega) (by omega), hv1 _ (by omega) (by omega) (by omega)⟩ t4
        · right
          refine ⟨2, 2, V, J, rfl, ?_, zRn_of h hN ?_⟩
          · by_cases ho1 : V 455 k = -1
            · simp (disch := first | omega | assumption | (simp (disch := omega) only [vup_fn, vup_o, vup_k, vup_at]; first | done | omega | assumption)) only [ze_116_0, ze_116_5, ze_116_28, ze_116_51, ze_116_88, ze_116_104, ze_116_125, ze_116_137, ze_116_143, e112, hk0, hwt, e52, e86, e5, k4, Int.add_zero, ↓reduceIte, qw_id, zck_T, zck_t, zGor_v, zGor_n, zGor_e, zbs, vup_at, vup_vup, vup_self, vup_o, vup_k, vup_fn, ne_eq, not_true_eq_false, not_false_eq_true, and_true, true_and, and_self, and_false, false_and, or_true, true_or, or_self, or_false, false_or, xlt_t, xlt_f, xle_t, xle_f, xeq_t, xeq_f, xand_f, xor_t]
            · by_cases ho2 : oF m (V (53 + 15 * w) b)
              · rw [if_pos ho2] at e7
                have ho3 : ¬ V 3 0 < 200 := fun q => hok ⟨ho1, ho2, q⟩
                have hc2 := hcor.1
                have hc3 := hcor.2.1
                simp (disch := first | omega | assumption | (simp (disch := omega) only [vup_fn, vup_o, vup_k, vup_at]; first | done | omega | assumption)) only [ze_116_0, ze_116_5, ze_116_28, ze_116_51, ze_116_88, ze_116_104, ze_116_125, ze_116_137, ze_116_143, e112, hk0, hwt, e52, e86, e5, k4, e53, e7, Int.add_zero, ↓reduceIte, qw_id, zck_T, zck_t, zGor_v, zGor_n, zGor_e, zbs, vup_at, vup_vup, vup_self, vup_o, vup_k, vup_fn, ne_eq, not_true_eq_false, not_false_eq_true, and_true, true_and, and_self, and_false, false_and, or_true, true_or, or_self, or_false, false_or, xlt_t, xlt_f, xle_t, xle_f, xeq_t, xeq_f, xand_f, xor_t]
              · rw [if_neg ho2] at e7
                simp (disch := first | omega | assumption | (simp (disch := omega) only [vup_fn, vup_o, vup_k, vup_at]; first | done | omega | assumption)) only [ze_116_0, ze_116_5, ze_116_28, ze_116_51, ze_116_88, ze_116_104, ze_116_125, ze_116_137, ze_116_143, e112, hk0, hwt, e52, e86, e5, k4, e53, e7, Int.add_zero, ↓reduceIte, qw_id, zck_T, zck_t, zGor_v, zGor_n, zGor_e, zbs, vup_at, vup_vup, vup_self, vup_o, vup_k, vup_fn, ne_eq, not_true_eq_false, not_false_eq_true, and_true, true_and, and_self, and_false, false_and, or_true, true_or, or_self, or_false, false_or, xlt_t, xlt_f, xle_t, xle_f, xeq_t, xeq_f, xand_f, xor_t]
          intro J4 d2 hj hi
          have e189 := m189 (V := V) (J := J4) (d := d2) (c := k) h37.1 (by omega)
          rw [if_pos hp] at e189
          obtain ⟨V5, l1, l2, l3, l4, l5⟩ := mLex2 (V1 := V) (J1 := J4) (d := d2) h hw12 r3 ⟨rfl, rfl⟩
          rw [hn] at l2 l4
          have e147 := sp147 (V := V5) (J := J4) (d := d2) (a := b) (b := n) hb (by omega)
          rw [if_pos hq] at e147
          have l6 := (l4 b hq.1 hq.2).1
          have g455 : V5 455 = V 455 := l5.1 455 (by omega)
          have g42 : V5 430 42 = V 3 0 := by rw [l5.2 42 (by omega)]; exact hcor.2.1.symm
          have er := m194r (V := V5) (J := J4) (d := d2) (a := k) (b := b) (m := m) (v := v) (x5 := 1) (x6 := 1) (t := V (53 + 15 * w) b) hm hv (by omega) (Or.inr ⟨rfl, by omega, by omega⟩) (fun _ => by rw [g455]; exact k5) (by rw [g42, hcor.2.1]; exact hcor.1)
          rw [g455, g42, if_pos hy, if_neg (fun q => hok q.2)] at er
          have e2 := sm150 (V := V5) (J := J4) (d := d2) (p := 1) (q := 1) (r := 0) (by omega) (by omega) (by omega)
          rw [if_neg (show ¬ gC 1 1 0 = 0 by decide)] at e2
          refine ⟨0, vup V5 430 60 (gC 1 1 0), J4, ?_, vup_at _ _ _ _, pM_t (pM_fr l5) pM_60, pC_t (pC_fr l5) pC_60, rfl, fun w => by omega⟩
          simp (disch := first | omega | assumption | (simp (disch := omega) only [vup_fn, vup_o, vup_k, vup_at]; first | done | omega | assumption)) only [ze_194_0, ze_194_5, ze_194_22, ze_194_35, ze_194_42, ze_194_43, ze_194_150, e189, hw, l1, l2, e147, l6, er, e2, Int.add_zero, ↓reduceIte, qw_id, zck_T, zck_t, zGor_v, zGor_n, zGor_e, zbs, vup_at, vup_vup, vup_self, vup_o, vup_k, vup_fn, ne_eq, not_true_eq_false, not_false_eq_true, and_true, true_and, and_self, and_false, false_and, or_true, true_or, or_self, or_false, false_or, xlt_t, xlt_f, xle_t, xle_f, xeq_t, xeq_f, xand_f, xor_t]
      · right
        rw [if_neg hy] at e5
        refine ⟨1, 1, V, J, rfl, ?_, zRn_of h hN ?_⟩
        · simp (disch := first | omega | assumption | (simp (disch := omega) only [vup_fn, vup_o, vup_k, vup_at]; first | done | omega | assumption)) only [ze_116_0, ze_116_5, ze_116_28, ze_116_51, ze_116_88, ze_116_104, ze_116_125, ze_116_137, ze_116_143, e112, hk0, hwt, e52, e86, e5, Int.add_zero, ↓reduceIte, qw_id, zck_T, zck_t, zGor_v, zGor_n, zGor_e, zbs, vup_at, vup_vup, vup_self, vup_o, vup_k, vup_fn, ne_eq, not_true_eq_false, not_false_eq_true, and_true, true_and, and_self, and_false, false_and, or_true, true_or, or_self, or_false, false_or, xlt_t, xlt_f, xle_t, xle_f, xeq_t, xeq_f, xand_f, xor_t]
        intro J4 d2 hj hi
        have e189 := m189 (V := V) (J := J4) (d := d2) (c := k) h37.1 (by omega)
        rw [if_pos hp] at e189
        obtain ⟨V5, l1, l2, l3, l4, l5⟩ := mLex2 (V1 := V) (J1 := J4) (d := d2) h hw12 r3 ⟨rfl, rfl⟩
        rw [hn] at l2 l4
        have e147 := sp147 (V := V5) (J := J4) (d := d2) (a := b) (b := n) hb (by omega)
        rw [if_pos hq] at e147
        have l6 := (l4 b hq.1 hq.2).1
        have g455 : V5 455 = V 455 := l5.1 455 (by omega)
        have g42 : V5 430 42 = V 3 0 := by rw [l5.2 42 (by omega)]; exact hcor.2.1.symm
        have er := m194r (V := V5) (J := J4) (d := d2) (a := k) (b := b) (m := m) (v := v) (x5 := 1) (x6 := 1) (t := V (53 + 15 * w) b) hm hv (by omega) (Or.inr ⟨rfl, by omega, by omega⟩) (fun _ => by rw [g455]; exact k5) (by rw [g42, hcor.2.1]; exact hcor.1)
        rw [if_neg hy] at er
        have hg01 : ∃ g : Int, (g = 0 ∨ g = 1) ∧ (if (1 : Int) = 1 ∧ V5 455 k ≠ -1 ∧ oF m (V (53 + 15 * w) b) ∧ V5 430 42 < 200 then (1 : Int) else 0) = g := ⟨_, by split <;> simp, rfl⟩
        obtain ⟨g, g0, g1⟩ := hg01
        rw [g1] at er
        have e2 := sm150 (V := V5) (J := J4) (d := d2) (p := 1) (q := 0) (r := g) (by omega) (by omega) g0
        have hgc : gC 1 0 g = 2 := rfl
        rw [if_neg (show ¬ gC 1 0 g = 0 by rw [hgc]; decide)] at e2
        refine ⟨0, vup V5 430 60 (gC 1 0 g), J4, ?_, vup_at _ _ _ _, pM_t (pM_fr l5) pM_60, pC_t (pC_fr l5) pC_60, rfl, fun w => by omega⟩
        simp (disch := first | omega | assumption | (simp (disch := omega) only [vup_fn, vup_o, vup_k, vup_at]; first | done | omega | assumption)) only [ze_194_0, ze_194_5, ze_194_22, ze_194_35, ze_194_42, ze_194_43, ze_194_150, e189, hw, l1, l2, e147, l6, er, e2, Int.add_zero, ↓reduceIte, qw_id, zck_T, zck_t, zGor_v, zGor_n, zGor_e, zbs, vup_at, vup_vup, vup_self, vup_o, vup_k, vup_fn, ne_eq, not_true_eq_false, not_false_eq_true, and_true, true_and, and_self, and_false, false_and, or_true, true_or, or_self, or_false, false_or, xlt_t, xlt_f, xle_t, xle_f, xeq_t, xeq_f, xand_f, xor_t]
    · right
      rw [if_neg hq] at e86
      refine ⟨0, 0, V, J, rfl, ?_, zRn_of h hN ?_⟩
      · simp (disch := first | omega | assumption | (simp (disch := omega) only [vup_fn, vup_o, vup_k, vup_at]; first | done | omega | assumption)) only [ze_116_0, ze_116_5, ze_116_28, ze_116_51, ze_116_88, ze_116_104, ze_116_125, ze_116_137, ze_116_143, e112, hk0, hwt, e52, e86, Int.add_zero, ↓reduceIte, qw_id, zck_T, zck_t, zGor_v, zGor_n, zGor_e, zbs, vup_at, vup_vup, vup_self, vup_o, vup_k, vup_fn, ne_eq, not_true_eq_false, not_false_eq_true, and_true, true_and, and_self, and_false, false_and, or_true, true_or, or_self, or_false, false_or, xlt_t, xlt_f, xle_t, xle_f, xeq_t, xeq_f, xand_f, xor_t]
      intro J4 d2 hj hi
      have e189 := m189 (V := V) (J := J4) (d := d2) (c := k) h37.1 (by omega)
      rw [if_pos hp] at e189
      obtain ⟨V5, l1, l2, l3, l4, l5⟩ := mLex2 (V1 := V) (J1 := J4) (d := d2) h hw12 r3 ⟨rfl, rfl⟩
      rw [hn] at l2 l4
      have e147 := sp147 (V := V5) (J := J4) (d := d2) (a := b) (b := n) hb (by omega)
      rw [if_neg hq] at e147
      have g42 : V5 430 42 = V 3 0 := by rw [l5.2 42 (by omega)]; exact hcor.2.1.symm
      have er := m194r (V := V5) (J := J4) (d := d2) (a := k) (b := b) (m := m) (v := v) (x5 := 1) (x6 := 0) (t := -1) hm hv (by omega) (Or.inl rfl) (fun q => by omega) (by rw [g42, hcor.2.1]; exact hcor.1)
      rw [if_neg (show ¬((0 : Int) = 1 ∧ V5 455 k ≠ -1 ∧ oF m (-1) ∧ V5 430 42 < 200) from fun q => by omega)] at er
      have hg01 : ∃ g : Int, (g = 0 ∨ g = 1) ∧ (if oV m v then (1 : Int) else 0) = g := ⟨_, by split <;> simp, rfl⟩
      obtain ⟨g, g0, g1⟩ := hg01
      rw [g1] at er
      have e2 := sm150 (V := V5) (J := J4) (d := d2) (p := 0) (q := g) (r := 0) (by omega) g0 (by omega)
      have hgc : gC 0 g 0 = 1 := rfl
      rw [if_neg (show ¬ gC 0 g 0 = 0 by rw [hgc]; decide)] at e2
      refine ⟨0, vup V5 430 60 (gC 0 g 0), J4, ?_, vup_at _ _ _ _, pM_t (pM_fr l5) pM_60, pC_t (pC_fr l5) pC_60, rfl, fun w => by omega⟩
      simp (disch := first | omega | assumption | (simp (disch := omega) only [vup_fn, vup_o, vup_k, vup_at]; first | done | omega | assumption)) only [ze_194_0, ze_194_5, ze_194_22, ze_194_35, ze_194_42, ze_194_43, ze_194_150, e189, hw, l1, l2, e147, er, e2, Int.add_zero, ↓reduceIte, qw_id, zck_T, zck_t, zGor_v, zGor_n, zGor_e, zbs, vup_at, vup_vup, vup_self, vup_o, vup_k, vup_fn, ne_eq, not_true_eq_false, not_false_eq_true, and_true, true_and, and_self, and_false, false_and, or_true, true_or, or_self, or_false, false_or, xlt_t, xlt_f, xle_t, xle_f, xeq_t, xeq_f, xand_f, xor_t]
  · right
    rw [if_neg hp] at e112
    refine ⟨0, 0, V, J, rfl, ?_, zRn_of h hN ?_⟩
    · simp (disch := first | omega | assumption | (simp (disch := omega) only [vup_fn, vup_o, vup_k, vup_at]; first | done | omega | assumption)) only [ze_116_0, ze_116_5, ze_116_28, ze_116_51, ze_116_88, ze_116_104, ze_116_125, ze_116_137, ze_116_143, e112, Int.add_zero, ↓reduceIte, qw_id, zck_T, zck_t, zGor_v, zGor_n, zGor_e, zbs, vup_at, vup_vup, vup_self, vup_o, vup_k, vup_fn, ne_eq, not_true_eq_false, not_false_eq_true, and_true, true_and, and_self, and_false, false_and, or_true, true_or, or_self, or_false, false_or, xlt_t, xlt_f, xle_t, xle_f, xeq_t, xeq_f, xand_f, xor_t]
    intro J4 d2 hj hi
    have e189 := m189 (V := V) (J := J4) (d := d2) (c := a) h37.1 ha
    rw [if_neg hp] at e189
    have er := m194r (V := V) (J := J4) (d := d2) (a := a) (b := b) (m := m) (v := v) (x5 := 0) (x6 := 0) (t := -1) hm hv (by omega) (Or.inl rfl) (fun q => by omega) hcor.1
    rw [if_neg (show ¬((0 : Int) = 1 ∧ V 455 a ≠ -1 ∧ oF m (-1) ∧ V 430 42 < 200) from fun q => by omega)] at er
    have hg01 : ∃ g : Int, (g = 0 ∨ g = 1) ∧ (if oV m v then (1 : Int) else 0) = g := ⟨_, by split <;> simp, rfl⟩
    obtain ⟨g, g0, g1⟩ := hg01
    rw [g1] at er
    have e2 := sm150 (V := V) (J := J4) (d := d2) (p := 0) (q := g) (r := 0) (by omega) g0 (by omega)
    have hgc : gC 0 g 0 = 1 := rfl
    rw [if_neg (show ¬ gC 0 g 0 = 0 by rw [hgc]; decide)] at e2
    refine ⟨0, vup V 430 60 (gC 0 g 0), J4, ?_, vup_at _ _ _ _, pM_60, pC_60, rfl, fun w => by omega⟩
    simp (disch := first | omega | assumption | (simp (disch := omega) only [vup_fn, vup_o, vup_k, vup_at]; first | done | omega | assumption)) only [ze_194_0, ze_194_5, ze_194_22, ze_194_35, ze_194_42, ze_194_43, ze_194_150, e189, er, e2, Int.add_zero, ↓reduceIte, qw_id, zck_T, zck_t, zGor_v, zGor_n, zGor_e, zbs, vup_at, vup_vup, vup_self, vup_o, vup_k, vup_fn, ne_eq, not_true_eq_false, not_false_eq_true, and_true, true_and, and_self, and_false, false_and, or_true, true_or, or_self, or_false, false_or, xlt_t, xlt_f, xle_t, xle_f, xeq_t, xeq_f, xand_f, xor_t]
end
