/-! part 33: letters; the reference's reading of a token -/
/-- a letter of a part's text: lengths L, letters X -/
def zt (L X : Int → Int) (w p : Int) : Int := if 0 ≤ p ∧ p < L w then X (160 * w + p) else 0
/-- the texts are in order -/
def zTx (L X : Int → Int) : Prop := ∀ w, 0 ≤ w → w < 12 → (0 ≤ L w ∧ L w ≤ 160) ∧ ∀ p, 0 ≤ p → p < L w → 32 ≤ X (160 * w + p) ∧ X (160 * w + p) ≤ 126
theorem zt_rng {L X : Int → Int} (h : zTx L X) {w : Int} (hw : 0 ≤ w ∧ w < 12) (p : Int) (hp : 0 ≤ p) : 0 ≤ zt L X w p ∧ zt L X w p ≤ 126 := by
  unfold zt
  split
  · rename_i q
    have := (h w hw.1 hw.2).2 p hp q.2
    omega
  · omega
theorem zt_end {L X : Int → Int} (h : zTx L X) {w : Int} (hw : 0 ≤ w ∧ w < 12) (p : Int) (hp : 160 ≤ p) : zt L X w p = 0 := by
  have := (h w hw.1 hw.2).1
  exact if_neg (by omega)
section
variable {V : zVt} {J : zJt} {d : Nat → Nat → UInt64}
theorem sp158 {a b c : Int} (ha : -100000 ≤ a ∧ a < 100000) (hb : 0 ≤ b ∧ b < 100) (hc : 0 ≤ c ∧ c < 100) : zGo false 158 0 [.int (zi a), .int (zi b), .int (zi c)] [] (zm V J d) = zI1 (if 48 + b ≤ a ∧ a ≤ 48 + c then 1 else 0) V J d := by
  by_cases h1 : a < 48 + b
  · simp (disch := first | omega | assumption | (simp (disch := omega) only [vup_fn, vup_o, vup_k, vup_at]; first | done | omega | assumption)) only [ze_158_0, ze_158_20, ze_158_21, Int.add_zero, ↓reduceIte, qw_id, zck_T, zck_t, zGor_v, zGor_n, zGor_e, zbs, vup_at, vup_vup, vup_self, vup_o, vup_k, vup_fn, ne_eq, not_true_eq_false, not_false_eq_true, and_true, true_and, and_self, and_false, false_and, or_true, true_or, or_self, or_false, false_or, xlt_t, xlt_f, xle_t, xle_f, xeq_t, xeq_f, xand_f, xor_t]
  · by_cases h2 : 48 + c < a
    · simp (disch := first | omega | assumption | (simp (disch := omega) only [vup_fn, vup_o, vup_k, vup_at]; first | done | omega | assumption)) only [ze_158_0, ze_158_20, ze_158_21, Int.add_zero, ↓reduceIte, qw_id, zck_T, zck_t, zGor_v, zGor_n, zGor_e, zbs, vup_at, vup_vup, vup_self, vup_o, vup_k, vup_fn, ne_eq, not_true_eq_false, not_false_eq_true, and_true, true_and, and_self, and_false, false_and, or_true, true_or, or_self, or_false, false_or, xlt_t, xlt_f, xle_t, xle_f, xeq_t, xeq_f, xand_f, xor_t]
    · simp (disch := first | omega | assumption | (simp (disch := omega) only [vup_fn, vup_o, vup_k, vup_at]; first | done | omega | assumption)) only [ze_158_0, ze_158_20, ze_158_21, Int.add_zero, ↓reduceIte, qw_id, zck_T, zck_t, zGor_v, zGor_n, zGor_e, zbs, vup_at, vup_vup, vup_self, vup_o, vup_k, vup_fn, ne_eq, not_true_eq_false, not_false_eq_true, and_true, true_and, and_self, and_false, false_and, or_true, true_or, or_self, or_false, false_or, xlt_t, xlt_f, xle_t, xle_f, xeq_t, xeq_f, xand_f, xor_t]
theorem sp147 {a b : Int} (ha : -2147483648 ≤ a ∧ a < 2147483648) (hb : -2147483648 ≤ b ∧ b < 2147483648) : zGo false 147 0 [.int (zi a), .int (zi b)] [] (zm V J d) = zI1 (if 0 ≤ a ∧ a < b then 1 else 0) V J d := by
  by_cases h1 : a < 0
  · simp (disch := first | omega | assumption | (simp (disch := omega) only [vup_fn, vup_o, vup_k, vup_at]; first | done | omega | assumption)) only [ze_147_0, ze_147_13, ze_147_14, Int.add_zero, ↓reduceIte, qw_id, zck_T, zck_t, zGor_v, zGor_n, zGor_e, zbs, vup_at, vup_vup, vup_self, vup_o, vup_k, vup_fn, ne_eq, not_true_eq_false, not_false_eq_true, and_true, true_and, and_self, and_false, false_and, or_true, true_or, or_self, or_false, false_or, xlt_t, xlt_f, xle_t, xle_f, xeq_t, xeq_f, xand_f, xor_t]
  · by_cases h2 : b ≤ a
    · simp (disch := first | omega | assumption | (simp (disch := omega) only [vup_fn, vup_o, vup_k, vup_at]; first | done | omega | assumption)) only [ze_147_0, ze_147_13, ze_147_14, Int.add_zero, ↓reduceIte, qw_id, zck_T, zck_t, zGor_v, zGor_n, zGor_e, zbs, vup_at, vup_vup, vup_self, vup_o, vup_k, vup_fn, ne_eq, not_true_eq_false, not_false_eq_true, and_true, true_and, and_self, and_false, false_and, or_true, true_or, or_self, or_false, false_or, xlt_t, xlt_f, xle_t, xle_f, xeq_t, xeq_f, xand_f, xor_t]
    · simp (disch := first | omega | assumption | (simp (disch := omega) only [vup_fn, vup_o, vup_k, vup_at]; first | done | omega | assumption)) only [ze_147_0, ze_147_13, ze_147_14, Int.add_zero, ↓reduceIte, qw_id, zck_T, zck_t, zGor_v, zGor_n, zGor_e, zbs, vup_at, vup_vup, vup_self, vup_o, vup_k, vup_fn, ne_eq, not_true_eq_false, not_false_eq_true, and_true, true_and, and_self, and_false, false_and, or_true, true_or, or_self, or_false, false_or, xlt_t, xlt_f, xle_t, xle_f, xeq_t, xeq_f, xand_f, xor_t]
theorem sp148 {a b c : Int} (ha : -2147483648 ≤ a ∧ a < 2147483648) (hb : -2147483648 ≤ b ∧ b < 2147483648) (hc : -2147483648 ≤ c ∧ c < 2147483648) : zGo false 148 0 [.int (zi a), .int (zi b), .int (zi c)] [] (zm V J d) = zI1 (if b ≤ a ∧ a ≤ c then 1 else 0) V J d := by
  by_cases h1 : a < b
  · simp (disch := first | omega | assumption | (simp (disch := omega) only [vup_fn, vup_o, vup_k, vup_at]; first | done | omega | assumption)) only [ze_148_0, ze_148_14, ze_148_15, Int.add_zero, ↓reduceIte, qw_id, zck_T, zck_t, zGor_v, zGor_n, zGor_e, zbs, vup_at, vup_vup, vup_self, vup_o, vup_k, vup_fn, ne_eq, not_true_eq_false, not_false_eq_true, and_true, true_and, and_self, and_false, false_and, or_true, true_or, or_self, or_false, false_or, xlt_t, xlt_f, xle_t, xle_f, xeq_t, xeq_f, xand_f, xor_t]
  · by_cases h2 : c < a
    · simp (disch := first | omega | assumption | (simp (disch := omega) only [vup_fn, vup_o, vup_k, vup_at]; first | done | omega | assumption)) only [ze_148_0, ze_148_14, ze_148_15, Int.add_zero, ↓reduceIte, qw_id, zck_T, zck_t, zGor_v, zGor_n, zGor_e, zbs, vup_at, vup_vup, vup_self, vup_o, vup_k, vup_fn, ne_eq, not_true_eq_false, not_false_eq_true, and_true, true_and, and_self, and_false, false_and, or_true, true_or, or_self, or_false, false_or, xlt_t, xlt_f, xle_t, xle_f, xeq_t, xeq_f, xand_f, xor_t]
    · simp (disch := first | omega | assumption | (simp (disch := omega) only [vup_fn, vup_o, vup_k, vup_at]; first | done | omega | assumption)) only [ze_148_0, ze_148_14, ze_148_15, Int.add_zero, ↓reduceIte, qw_id, zck_T, zck_t, zGor_v, zGor_n, zGor_e, zbs, vup_at, vup_vup, vup_self, vup_o, vup_k, vup_fn, ne_eq, not_true_eq_false, not_false_eq_true, and_true, true_and, and_self, and_false, false_and, or_true, true_or, or_self, or_false, false_or, xlt_t, xlt_f, xle_t, xle_f, xeq_t, xeq_f, xand_f, xor_t]
theorem sp155 (h : zTx (V 432) (V 431)) {w p : Int} (hw : 0 ≤ w ∧ w < 12) (hp : 0 ≤ p ∧ p < 100000) : zGo false 155 0 [.ref 430, .int (zi w), .int (zi p)] [] (zm V J d) = zI1 (zt (V 432) (V 431) w p) V J d := by
  have h1 := (h w hw.1 hw.2).1
  unfold zt
  by_cases h2 : p < V 432 w
  · rw [if_pos ⟨hp.1, h2⟩]
    simp (disch := first | omega | assumption | (simp (disch := omega) only [vup_fn, vup_o, vup_k, vup_at]; first | done | omega | assumption)) only [ze_155_0, ze_155_26, Int.add_zero, ↓reduceIte, qw_id, zck_T, zck_t, zGor_v, zGor_n, zGor_e, zbs, vup_at, vup_vup, vup_self, vup_o, vup_k, vup_fn, ne_eq, not_true_eq_false, not_false_eq_true, and_true, true_and, and_self, and_false, false_and, or_true, true_or, or_self, or_false, false_or, xlt_t, xlt_f, xle_t, xle_f, xeq_t, xeq_f, xand_f, xor_t]
  · rw [if_neg (fun q => h2 q.2)]
    simp (disch := first | omega | assumption | (simp (disch := omega) only [vup_fn, vup_o, vup_k, vup_at]; first | done | omega | assumption)) only [ze_155_0, ze_155_26, Int.add_zero, ↓reduceIte, qw_id, zck_T, zck_t, zGor_v, zGor_n, zGor_e, zbs, vup_at, vup_vup, vup_self, vup_o, vup_k, vup_fn, ne_eq, not_true_eq_false, not_false_eq_true, and_true, true_and, and_self, and_false, false_and, or_true, true_or, or_self, or_false, false_or, xlt_t, xlt_f, xle_t, xle_f, xeq_t, xeq_f, xand_f, xor_t]
end
/-- a length's ticks by its letter, then with a point -/
def yDur (c : Int) : Int := if c = 119 then 16 else if c = 104 then 8 else if c = 113 then 4 else if c = 101 then 2 else if c = 115 then 1 else 0
def yTk (c n : Int) : Int := if 1 < yDur c ∧ n = 46 then yDur c + yDur c / 2 else yDur c
def yTe (c n p : Int) : Int := if 1 < yDur c ∧ n = 46 then p + 2 else if yDur c = 0 then -1 else p + 1
theorem yDur_cs (c : Int) : (c = 119 ∧ yDur c = 16) ∨ (c = 104 ∧ yDur c = 8) ∨ (c = 113 ∧ yDur c = 4) ∨ (c = 101 ∧ yDur c = 2) ∨ (c = 115 ∧ yDur c = 1) ∨ ((c ≠ 119 ∧ c ≠ 104 ∧ c ≠ 113 ∧ c ≠ 101 ∧ c ≠ 115) ∧ yDur c = 0) := by
  unfold yDur
  repeat' split
  all_goals omega
theorem yDur_rng (c : Int) : 0 ≤ yDur c ∧ yDur c ≤ 16 := by
  unfold yDur
  repeat' split
  all_goals omega
theorem yTe_yTk (c n p : Int) : (yTe c n p = -1 ∧ yTk c n = 0 ∨ yTe c n p = p + 1 ∧ 1 ≤ yTk c n ∨ yTe c n p = p + 2 ∧ 1 ≤ yTk c n) ∧ 0 ≤ yTk c n ∧ yTk c n ≤ 24 ∨ p = -2 := by
  have := yDur_rng c
  unfold yTk yTe
  repeat' split
  all_goals omega
section
variable {V : zVt} {J : zJt} {d : Nat → Nat → UInt64}
theorem sp161 (h : zTx (V 432) (V 431)) {w p : Int} (hw : 0 ≤ w ∧ w < 12) (hp : 0 ≤ p ∧ p < 10000) : zGo false 161 0 [.ref 430, .int (zi w), .int (zi p), .null] [] (zm V J d) = zI1 (yTe (zt (V 432) (V 431) w p) (zt (V 432) (V 431) w (p + 1)) p) (vup V 430 12 (yTk (zt (V 432) (V 431) w p) (zt (V 432) (V 431) w (p + 1)))) J d := by
  have r1 := zt_rng h hw p hp.1
  have r2 := zt_rng h hw (p + 1) (by omega)
  unfold yTe yTk
  rcases yDur_cs (zt (V 432) (V 431) w p) with ⟨e1, e2⟩ | ⟨e1, e2⟩ | ⟨e1, e2⟩ | ⟨e1, e2⟩ | ⟨e1, e2⟩ | ⟨e1, e2⟩
  all_goals
    rw [e2]
    clear e2
    by_cases h2 : zt (V 432) (V 431) w (p + 1) = 46
    · simp (disch := first | omega | assumption | (simp (disch := omega) only [vup_fn, vup_o, vup_k, vup_at]; first | done | omega | assumption)) only [ze_161_0, ze_161_6, ze_161_61, ze_161_80, ze_161_104, ze_161_118, sp155, qdiv_p, Int.add_zero, ↓reduceIte, qw_id, zck_T, zck_t, zGor_v, zGor_n, zGor_e, zbs, vup_at, vup_vup, vup_self, vup_o, vup_k, vup_fn, ne_eq, not_true_eq_false, not_false_eq_true, and_true, true_and, and_self, and_false, false_and, or_true, true_or, or_self, or_false, false_or, xlt_t, xlt_f, xle_t, xle_f, xeq_t, xeq_f, xand_f, xor_t]
    · simp (disch := first | omega | assumption | (simp (disch := omega) only [vup_fn, vup_o, vup_k, vup_at]; first | done | omega | assumption)) only [ze_161_0, ze_161_6, ze_161_61, ze_161_80, ze_161_104, ze_161_118, sp155, qdiv_p, Int.add_zero, ↓reduceIte, qw_id, zck_T, zck_t, zGor_v, zGor_n, zGor_e, zbs, vup_at, vup_vup, vup_self, vup_o, vup_k, vup_fn, ne_eq, not_true_eq_false, not_false_eq_true, and_true, true_and, and_self, and_false, false_and, or_true, true_or, or_self, or_false, false_or, xlt_t, xlt_f, xle_t, xle_f, xeq_t, xeq_f, xand_f, xor_t]
end
/-- the five cells that a token's reading writes -/
def yIs (V : zVt) (n a b s t i : Int) : zVt := vup (vup (vup (vup (vup V 433 n a) 435 n b) 436 n s) 437 n t) 438 n i
theorem yIs_n {V : zVt} {n a b s t i : Int} {o : Nat} (h : o ≠ 433 ∧ o ≠ 435 ∧ o ≠ 436 ∧ o ≠ 437 ∧ o ≠ 438) : yIs V n a b s t i o = V o := by
  unfold yIs
  rw [vup_fn h.2.2.2.2, vup_fn h.2.2.2.1, vup_fn h.2.2.1, vup_fn h.2.1, vup_fn h.1]
theorem yIs_s (V : zVt) (n a b s t i s2 : Int) : vup (yIs V n a b s t i) 436 n s2 = yIs V n a b s2 t i := by
  unfold yIs
  funext o k
  simp only [vup]
  repeat' split
  all_goals first
    | rfl
    | omega
theorem yIs_t (V : zVt) (n a b s t i t2 : Int) : vup (yIs V n a b s t i) 437 n t2 = yIs V n a b s t2 i := by
  unfold yIs
  funext o k
  simp only [vup]
  repeat' split
  all_goals first
    | rfl
    | omega
theorem yIs_i (V : zVt) (n a b s t i i2 : Int) : vup (yIs V n a b s t i) 438 n i2 = yIs V n a b s t i2 := by
  unfold yIs
  exact vup_vup _ _ _ _ _
theorem yIs_i5 (V : zVt) (n a b s t i : Int) : yIs V n a b s t i 438 n = i := vup_at _ _ _ _
section
variable {V : zVt} {J : zJt} {d : Nat → Nat → UInt64}
theorem sp157 {a b c : Int} (hn : 0 ≤ V 430 10 ∧ V 430 10 < 60) : zGo false 157 0 [.ref 430, .int (zi a), .int (zi b), .int (zi c)] [] (zm V J d) = zI1 c (yIs V (V 430 10) a b 0 0 0) J d := by
  unfold yIs
  simp (disch := first | omega | assumption | (simp (disch := omega) only [vup_fn, vup_o, vup_k, vup_at]; first | done | omega | assumption)) only [ze_157_0, Int.add_zero, ↓reduceIte, qw_id, zck_T, zck_t, zGor_v, zGor_n, zGor_e, zbs, vup_at, vup_vup, vup_self, vup_o, vup_k, vup_fn, ne_eq, not_true_eq_false, not_false_eq_true, and_true, true_and, and_self, and_false, false_and, or_true, true_or, or_self, or_false, false_or, xlt_t, xlt_f, xle_t, xle_f, xeq_t, xeq_f, xand_f, xor_t]
end
def yMet (c1 c2 c3 : Int) : Int := if (49 ≤ c1 ∧ c1 ≤ 57) ∧ c2 = 47 ∧ c3 = 52 ∧ 4 * (c1 - 48) ≤ 16 then 4 * (c1 - 48) else if (49 ≤ c1 ∧ c1 ≤ 57) ∧ c2 = 47 ∧ c3 = 56 ∧ 2 * (c1 - 48) ≤ 16 then 2 * (c1 - 48) else 0
section
variable {V : zVt} {J : zJt} {d : Nat → Nat → UInt64}
theorem sp159 (h : zTx (V 432) (V 431)) {w p : Int} (hw : 0 ≤ w ∧ w < 12) (hp : 0 ≤ p ∧ p < 10000) (hn : 0 ≤ V 430 10 ∧ V 430 10 < 60) : zGo false 159 0 [.ref 430, .int (zi w), .int (zi p), .null, .null, .null, .null] [] (zm V J d) =
    if yMet (zt (V 432) (V 431) w (p + 1)) (zt (V 432) (V 431) w (p + 2)) (zt (V 432) (V 431) w (p + 3)) = 0 then zI1 (-1) V J d else zI1 (p + 4) (yIs V (V 430 10) 2 (yMet (zt (V 432) (V 431) w (p + 1)) (zt (V 432) (V 431) w (p + 2)) (zt (V 432) (V 431) w (p + 3))) 0 0 0) J d := by
  have r1 := zt_rng h hw (p + 1) (by omega)
  have r2 := zt_rng h hw (p + 2) (by omega)
  have r3 := zt_rng h hw (p + 3) (by omega)
  unfold yMet
  by_cases h1 : zt (V 432) (V 431) w (p + 1) < 49
  · by_cases h2 : zt (V 432) (V 431) w (p + 3) = 52
    · simp (disch := first | omega | assumption | (simp (disch := omega) only [vup_fn, vup_o, vup_k, vup_at]; first | done | omega | assumption)) only [ze_159_0, ze_159_8, ze_159_20, ze_159_38, ze_159_47, ze_159_58, ze_159_77, ze_159_85, ze_159_92, ze_159_93, ze_159_110, ze_159_114, sp155, sp148, sp157, Int.add_zero, ↓reduceIte, qw_id, zck_T, zck_t, zGor_v, zGor_n, zGor_e, zbs, vup_at, vup_vup, vup_self, vup_o, vup_k, vup_fn, ne_eq, not_true_eq_false, not_false_eq_true, and_true, true_and, and_self, and_false, false_and, or_true, true_or, or_self, or_false, false_or, xlt_t, xlt_f, xle_t, xle_f, xeq_t, xeq_f, xand_f, xor_t]
    · simp (disch := first | omega | assumption | (simp (disch := omega) only [vup_fn, vup_o, vup_k, vup_at]; first | done | omega | assumption)) only [ze_159_0, ze_159_8, ze_159_20, ze_159_38, ze_159_47, ze_159_58, ze_159_77, ze_159_85, ze_159_92, ze_159_93, ze_159_110, ze_159_114, sp155, sp148, sp157, Int.add_zero, ↓reduceIte, qw_id, zck_T, zck_t, zGor_v, zGor_n, zGor_e, zbs, vup_at, vup_vup, vup_self, vup_o, vup_k, vup_fn, ne_eq, not_true_eq_false, not_false_eq_true, and_true, true_and, and_self, and_false, false_and, or_true, true_or, or_self, or_false, false_or, xlt_t, xlt_f, xle_t, xle_f, xeq_t, xeq_f, xand_f, xor_t]
  · by_cases h1' : 57 < zt (V 432) (V 431) w (p + 1)
    · by_cases h2 : zt (V 432) (V 431) w (p + 3) = 52
      · simp (disch := first | omega | assumption | (simp (disch := omega) only [vup_fn, vup_o, vup_k, vup_at]; first | done | omega | assumption)) only [ze_159_0, ze_159_8, ze_159_20, ze_159_38, ze_159_47, ze_159_58, ze_159_77, ze_159_85, ze_159_92, ze_159_93, ze_159_110, ze_159_114, sp155, sp148, sp157, Int.add_zero, ↓reduceIte, qw_id, zck_T, zck_t, zGor_v, zGor_n, zGor_e, zbs, vup_at, vup_vup, vup_self, vup_o, vup_k, vup_fn, ne_eq, not_true_eq_false, not_false_eq_true, and_true, true_and, and_self, and_false, false_and, or_true, true_or, or_self, or_false, false_or, xlt_t, xlt_f, xle_t, xle_f, xeq_t, xeq_f, xand_f, xor_t]
      · simp (disch := first | omega | assumption | (simp (disch := omega) only [vup_fn, vup_o, vup_k, vup_at]; first | done | omega | assumption)) only [ze_159_0, ze_159_8, ze_159_20, ze_159_38, ze_159_47, ze_159_58, ze_159_77, ze_159_85, ze_159_92, ze_159_93, ze_159_110, ze_159_114, sp155, sp148, sp157, Int.add_zero, ↓reduceIte, qw_id, zck_T, zck_t, zGor_v, zGor_n, zGor_e, zbs, vup_at, vup_vup, vup_self, vup_o, vup_k, vup_fn, ne_eq, not_true_eq_false, not_false_eq_true, and_true, true_and, and_self, and_false, false_and, or_true, true_or, or_self, or_false, false_or, xlt_t, xlt_f, xle_t, xle_f, xeq_t, xeq_f, xand_f, xor_t]
    · by_cases h3 : zt (V 432) (V 431) w (p + 2) = 47
      · by_cases h2 : zt (V 432) (V 431) w (p + 3) = 52
        · by_cases h4 : 4 * (zt (V 432) (V 431) w (p + 1) - 48) ≤ 16
          · simp (disch := first | omega | assumption | (simp (disch := omega) only [vup_fn, vup_o, vup_k, vup_at]; first | done | omega | assumption)) only [ze_159_0, ze_159_8, ze_159_20, ze_159_38, ze_159_47, ze_159_58, ze_159_77, ze_159_85, ze_159_92, ze_159_93, ze_159_110, ze_159_114, sp155, sp148, sp157, Int.add_zero, ↓reduceIte, qw_id, zck_T, zck_t, zGor_v, zGor_n, zGor_e, zbs, vup_at, vup_vup, vup_self, vup_o, vup_k, vup_fn, ne_eq, not_true_eq_false, not_false_eq_true, and_true, true_and, and_self, and_false, false_and, or_true, true_or, or_self, or_false, false_or, xlt_t, xlt_f, xle_t, xle_f, xeq_t, xeq_f, xand_f, xor_t]
          · simp (disch := first | omega | assumption | (simp (disch := omega) only [vup_fn, vup_o, vup_k, vup_at]; first | done | omega | assumption)) only [ze_159_0, ze_159_8, ze_159_20, ze_159_38, ze_159_47, ze_159_58, ze_159_77, ze_159_85, ze_159_92, ze_159_93, ze_159_110, ze_159_114, sp155, sp148, sp157, Int.add_zero, ↓reduceIte, qw_id, zck_T, zck_t, zGor_v, zGor_n, zGor_e, zbs, vup_at, vup_vup, vup_self, vup_o, vup_k, vup_fn, ne_eq, not_true_eq_false, not_false_eq_true, and_true, true_and, and_self, and_false, false_and, or_true, true_or, or_self, or_false, false_or, xlt_t, xlt_f, xle_t, xle_f, xeq_t, xeq_f, xand_f, xor_t]
        · by_cases h5 : zt (V 432) (V 431) w (p + 3) = 56
          · by_cases h4 : 2 * (zt (V 432) (V 431) w (p + 1) - 48) ≤ 16
            · simp (disch := first | omega | assumption | (simp (disch := omega) only [vup_fn, vup_o, vup_k, vup_at]; first | done | omega | assumption)) only [ze_159_0, ze_159_8, ze_159_20, ze_159_38, ze_159_47, ze_159_58, ze_159_77, ze_159_85, ze_159_92, ze_159_93, ze_159_110, ze_159_114, sp155, sp148, sp157, Int.add_zero, ↓reduceIte, qw_id, zck_T, zck_t, zGor_v, zGor_n, zGor_e, zbs, vup_at, vup_vup, vup_self, vup_o, vup_k, vup_fn, ne_eq, not_true_eq_false, not_false_eq_true, and_true, true_and, and_self, and_false, false_and, or_true, true_or, or_self, or_false, false_or, xlt_t, xlt_f, xle_t, xle_f, xeq_t, xeq_f, xand_f, xor_t]
            · simp (disch := first | omega | assumption | (simp (disch := omega) only [vup_fn, vup_o, vup_k, vup_at]; first | done | omega | assumption)) only [ze_159_0, ze_159_8, ze_159_20, ze_159_38, ze_159_47, ze_159_58, ze_159_77, ze_159_85, ze_159_92, ze_159_93, ze_159_110, ze_159_114, sp155, sp148, sp157, Int.add_zero, ↓reduceIte, qw_id, zck_T, zck_t, zGor_v, zGor_n, zGor_e, zbs, vup_at, vup_vup, vup_self, vup_o, vup_k, vup_fn, ne_eq, not_true_eq_false, not_false_eq_true, and_true, true_and, and_self, and_false, false_and, or_true, true_or, or_self, or_false, false_or, xlt_t, xlt_f, xle_t, xle_f, xeq_t, xeq_f, xand_f, xor_t]
          · simp (disch := first | omega | assumption | (simp (disch := omega) only [vup_fn, vup_o, vup_k, vup_at]; first | done | omega | assumption)) only [ze_159_0, ze_159_8, ze_159_20, ze_159_38, ze_159_47, ze_159_58, ze_159_77, ze_159_85, ze_159_92, ze_159_93, ze_159_110, ze_159_114, sp155, sp148, sp157, Int.add_zero, ↓reduceIte, qw_id, zck_T, zck_t, zGor_v, zGor_n, zGor_e, zbs, vup_at, vup_vup, vup_self, vup_o, vup_k, vup_fn, ne_eq, not_true_eq_false, not_false_eq_true, and_true, true_and, and_self, and_false, false_and, or_true, true_or, or_self, or_false, false_or, xlt_t, xlt_f, xle_t, xle_f, xeq_t, xeq_f, xand_f, xor_t]
      · by_cases h2 : zt (V 432) (V 431) w (p + 3) = 52
        · simp (disch := first | omega | assumption | (simp (disch := omega) only [vup_fn, vup_o, vup_k, vup_at]; first | done | omega | assumption)) only [ze_159_0, ze_159_8, ze_159_20, ze_159_38, ze_159_47, ze_159_58, ze_159_77, ze_159_85, ze_159_92, ze_159_93, ze_159_110, ze_159_114, sp155, sp148, sp157, Int.add_zero, ↓reduceIte, qw_id, zck_T, zck_t, zGor_v, zGor_n, zGor_e, zbs, vup_at, vup_vup, vup_self, vup_o, vup_k, vup_fn, ne_eq, not_true_eq_false, not_false_eq_true, and_true, true_and, and_self, and_false, false_and, or_true, true_or, or_self, or_false, false_or, xlt_t, xlt_f, xle_t, xle_f, xeq_t, xeq_f, xand_f, xor_t]
        · simp (disch := first | omega | assumption | (simp (disch := omega) only [vup_fn, vup_o, vup_k, vup_at]; first | done | omega | assumption)) only [ze_159_0, ze_159_8, ze_159_20, ze_159_38, ze_159_47, ze_159_58, ze_159_77, ze_159_85, ze_159_92, ze_159_93, ze_159_110, ze_159_114, sp155, sp148, sp157, Int.add_zero, ↓reduceIte, qw_id, zck_T, zck_t, zGor_v, zGor_n, zGor_e, zbs, vup_at, vup_vup, vup_self, vup_o, vup_k, vup_fn, ne_eq, not_true_eq_false, not_false_eq_true, and_true, true_and, and_self, and_false, false_and, or_true, true_or, or_self, or_false, false_or, xlt_t, xlt_f, xle_t, xle_f, xeq_t, xeq_f, xand_f, xor_t]
theorem sp160 (h : zTx (V 432) (V 431)) {w p : Int} (hw : 0 ≤ w ∧ w < 12) (hp : 0 ≤ p ∧ p < 9000) (hn : 0 ≤ V 430 10 ∧ V 430 10 < 60) : zGo false 160 0 [.ref 430, .int (zi w), .int (zi p), .null] [] (zm V J d) =
    if yTe (zt (V 432) (V 431) w (p + 1)) (zt (V 432) (V 431) w (p + 2)) (p + 1) = -1 then zI1 (-1) (vup V 430 12 (yTk (zt (V 432) (V 431) w (p + 1)) (zt (V 432) (V 431) w (p + 2)))) J d else zI1 (yTe (zt (V 432) (V 431) w (p + 1)) (zt (V 432) (V 431) w (p + 2)) (p + 1)) (yIs (vup V 430 12 (yTk (zt (V 432) (V 431) w (p + 1)) (zt (V 432) (V 431) w (p + 2)))) (V 430 10) 4 0 0 (yTk (zt (V 432) (V 431) w (p + 1)) (zt (V 432) (V 431) w (p + 2))) 0) J d := by
  have e0 := sp161 (J := J) (d := d) h hw (p := p + 1) (by omega)
  rw [show p + 1 + 1 = p + 2 by omega] at e0
  have hr := yTe_yTk (zt (V 432) (V 431) w (p + 1)) (zt (V 432) (V 431) w (p + 2)) (p + 1)
  generalize yTe (zt (V 432) (V 431) w (p + 1)) (zt (V 432) (V 431) w (p + 2)) (p + 1) = e at *
  generalize yTk (zt (V 432) (V 431) w (p + 1)) (zt (V 432) (V 431) w (p + 2)) = t at *
  by_cases h1 : e = -1
  · simp (disch := first | omega | assumption | (simp (disch := omega) only [vup_fn, vup_o, vup_k, vup_at]; first | done | omega | assumption)) only [ze_160_0, ze_160_8, ze_160_23, e0, sp157, yIs_n, yIs_t, Int.add_zero, ↓reduceIte, qw_id, zck_T, zck_t, zGor_v, zGor_n, zGor_e, zbs, vup_at, vup_vup, vup_self, vup_o, vup_k, vup_fn, ne_eq, not_true_eq_false, not_false_eq_true, and_true, true_and, and_self, and_false, false_and, or_true, true_or, or_self, or_false, false_or, xlt_t, xlt_f, xle_t, xle_f, xeq_t, xeq_f, xand_f, xor_t]
  · simp (disch := first | omega | assumption | (simp (disch := omega) only [vup_fn, vup_o, vup_k, vup_at]; first | done | omega | assumption)) only [ze_160_0, ze_160_8, ze_160_23, e0, sp157, yIs_n, yIs_t, Int.add_zero, ↓reduceIte, qw_id, zck_T, zck_t, zGor_v, zGor_n, zGor_e, zbs, vup_at, vup_vup, vup_self, vup_o, vup_k, vup_fn, ne_eq, not_true_eq_false, not_false_eq_true, and_true, true_and, and_self, and_false, false_and, or_true, true_or, or_self, or_false, false_or, xlt_t, xlt_f, xle_t, xle_f, xeq_t, xeq_f, xand_f, xor_t]
end
