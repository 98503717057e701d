/-! part 46: corrections: folds; the class's applying -/
/-- the last of the first n corrections of the set H for token k whose kind lies in lo..hi: its value, or b -/
def fo (H q m v : Int → Int) (k lo hi b : Int) : Nat → Int
  | 0 => b
  | c + 1 => if H c ≠ 0 ∧ q c = k ∧ lo ≤ m c ∧ m c ≤ hi then (if v c = 100 then b else v c) else fo H q m v k lo hi b c
abbrev foi (H q m v : Int → Int) (k lo hi b n : Int) : Int := fo H q m v k lo hi b n.toNat
theorem foi_s {H q m v : Int → Int} {k lo hi b c : Int} (h : 0 ≤ c) : foi H q m v k lo hi b (c + 1) = if H c ≠ 0 ∧ q c = k ∧ lo ≤ m c ∧ m c ≤ hi then (if v c = 100 then b else v c) else foi H q m v k lo hi b c := by
  show fo H q m v k lo hi b (c + 1).toNat = _
  rw [toNat_s h]
  show (if H ((c.toNat : Nat) : Int) ≠ 0 ∧ q ((c.toNat : Nat) : Int) = k ∧ lo ≤ m ((c.toNat : Nat) : Int) ∧ m ((c.toNat : Nat) : Int) ≤ hi then (if v ((c.toNat : Nat) : Int) = 100 then b else v ((c.toNat : Nat) : Int)) else fo H q m v k lo hi b c.toNat) = _
  rw [toNat_c h]
theorem foi_0 {H q m v : Int → Int} {k lo hi b : Int} : foi H q m v k lo hi b 0 = b := rfl
/-- what a fold may be -/
theorem foi_cs {H q m v : Int → Int} {k lo hi b n : Int} (hn : 0 ≤ n) : foi H q m v k lo hi b n = b ∨ ∃ c, (0 ≤ c ∧ c < n) ∧ H c ≠ 0 ∧ q c = k ∧ (lo ≤ m c ∧ m c ≤ hi) ∧ v c ≠ 100 ∧ foi H q m v k lo hi b n = v c := by
  have key : ∀ j : Nat, foi H q m v k lo hi b j = b ∨ ∃ c, (0 ≤ c ∧ c < (j : Int)) ∧ H c ≠ 0 ∧ q c = k ∧ (lo ≤ m c ∧ m c ≤ hi) ∧ v c ≠ 100 ∧ foi H q m v k lo hi b j = v c := by
    intro j
    induction j with
    | zero => exact Or.inl rfl
    | succ j ih =>
      rw [show ((j + 1 : Nat) : Int) = (j : Int) + 1 by omega, foi_s (by omega)]
      split
      · rename_i h
        split
        · exact Or.inl rfl
        · rename_i h2
          exact Or.inr ⟨j, by omega, h.1, h.2.1, h.2.2, h2, rfl⟩
      · rcases ih with ih | ⟨c, c1, c2⟩
        · exact Or.inl ih
        · exact Or.inr ⟨c, by omega, c2⟩
  have := key n.toNat
  rwa [toNat_c hn] at this
/-- a fold by other bounds that catch the same -/
theorem foi_eq {H q m v H2 q2 m2 v2 : Int → Int} {k lo hi lo2 hi2 b n : Int} (hn : 0 ≤ n) (h : ∀ c, 0 ≤ c → c < n → ((H c ≠ 0 ∧ q c = k ∧ lo ≤ m c ∧ m c ≤ hi) ↔ (H2 c ≠ 0 ∧ q2 c = k ∧ lo2 ≤ m2 c ∧ m2 c ≤ hi2)) ∧ (H c ≠ 0 ∧ q c = k ∧ lo ≤ m c ∧ m c ≤ hi → v c = v2 c)) : foi H q m v k lo hi b n = foi H2 q2 m2 v2 k lo2 hi2 b n := by
  have key : ∀ j : Nat, (j : Int) ≤ n → foi H q m v k lo hi b j = foi H2 q2 m2 v2 k lo2 hi2 b j := by
    intro j
    induction j with
    | zero => intro _; rfl
    | succ j ih =>
      intro hj
      rw [show ((j + 1 : Nat) : Int) = (j : Int) + 1 by omega] at hj ⊢
      rw [foi_s (by omega), foi_s (by omega), ih (by omega)]
      have hh := h j (by omega) (by omega)
      by_cases hc : H j ≠ 0 ∧ q j = k ∧ lo ≤ m j ∧ m j ≤ hi
      · rw [if_pos hc, if_pos (hh.1.mp hc), hh.2 hc]
      · rw [if_neg hc, if_neg (fun w => hc (hh.1.mpr w))]
  have := key n.toNat (by omega)
  rwa [toNat_c hn] at this
/-- corrections that are none any more -/
theorem foi_more {H q m v : Int → Int} {k lo hi b n n2 : Int} (hn : 0 ≤ n) (h2 : n ≤ n2) (h : ∀ c, n ≤ c → c < n2 → H c = 0) : foi H q m v k lo hi b n2 = foi H q m v k lo hi b n := by
  have key : ∀ j : Nat, n + j ≤ n2 → foi H q m v k lo hi b (n + j) = foi H q m v k lo hi b n := by
    intro j
    induction j with
    | zero => intro _; rw [show n + ((0 : Nat) : Int) = n by omega]
    | succ j ih =>
      intro hj
      rw [show n + ((j + 1 : Nat) : Int) = n + (j : Int) + 1 by omega] at hj ⊢
      rw [foi_s (by omega), ih (by omega), if_neg (fun w => w.1 (h (n + j) (by omega) (by omega)))]
  have := key (n2 - n).toNat (by omega)
  rwa [show n + ((n2 - n).toNat : Int) = n2 by omega] at this
section
variable {J : zJt} {d : Nat → Nat → UInt64}
/-- a row copied into row 13 -/
theorem sl88 {x : Nat} (hb : zBk 10 x) (hx : 26 ≤ x) {n : Int} (hn : 0 ≤ n ∧ n ≤ 60) (j : Nat) : ∀ (V : zVt) (p : Int), (0 ≤ p ∧ p ≤ n) → n - p < j → V 13 0 = n → (∀ k, 0 ≤ k → k < n → V (x + 7) k = 0 ∨ V (x + 7) k = 1) →
    ∃ V', zGo false 88 34 [.ref 13, .ref x, .int (zi p)] [] (zm V J d) = zN1 V' J d ∧ (∀ k, V' 13 k = V 13 k) ∧ (∀ i : Nat, 1 ≤ i → i ≤ 8 → ∀ k, (p ≤ k → k < n → V' (13 + i) k = V (x + i) k) ∧ (k < p → V' (13 + i) k = V (13 + i) k)) ∧ ∀ o : Nat, ¬(13 ≤ o ∧ o ≤ 21) → V' o = V o := by
  induction j with
  | zero => intro V p hp hj; omega
  | succ j ih =>
    intro V p hp hj h0 h7
    by_cases hpn : p = n
    · refine ⟨V, ?_, fun _ => rfl, fun i i1 i2 k => ⟨fun k1 k2 => by omega, fun _ => rfl⟩, fun _ _ => rfl⟩
      rw [ze_88_34 _ _ _ zBk_13 hb]
      simp (disch := first | omega | assumption | (simp (disch := omega) only [vup_fn, vup_o, vup_k, vup_at]; first | done | omega | assumption)) only [h0, Int.add_zero, ↓reduceIte, qw_id, zck_T, zck_t, zGor_v, zGor_n, zGor_e, zbs, vup_at, vup_vup, vup_self, vup_o, vup_k, vup_fn, ne_eq, not_true_eq_false, not_false_eq_true, and_true, true_and, and_self, and_false, false_and, or_true, true_or, or_self, or_false, false_or, xlt_t, xlt_f, xle_t, xle_f, xeq_t, xeq_f, xand_f, xor_t]
    · have e7 := h7 p hp.1 (by omega)
      obtain ⟨V', q1, q2, q3, q4⟩ := ih (vup (vup (vup (vup (vup (vup (vup (vup V 14 p (V (x + 1) p)) 15 p (V (x + 2) p)) 16 p (V (x + 3) p)) 17 p (V (x + 4) p)) 18 p (V (x + 5) p)) 19 p (V (x + 6) p)) 20 p (V (x + 7) p)) 21 p (V (x + 8) p)) (p + 1) (by omega) (by omega) (by simp (disch := decide) only [vup_o]; exact h0) (by
        intro k k1 k2
        simp (disch := omega) only [vup_o]
        exact h7 k k1 k2)
      refine ⟨V', ?_, ?_, ?_, ?_⟩
      · rw [← q1, ze_88_34 _ _ _ zBk_13 hb]
        rcases e7 with e7 | e7
        · simp (disch := first | omega | assumption | (simp (disch := omega) only [vup_fn, vup_o, vup_k, vup_at]; first | done | omega | assumption)) only [h0, e7, Int.add_zero, ↓reduceIte, qw_id, zck_T, zck_t, zGor_v, zGor_n, zGor_e, zbs, vup_at, vup_vup, vup_self, vup_o, vup_k, vup_fn, ne_eq, not_true_eq_false, not_false_eq_true, and_true, true_and, and_self, and_false, false_and, or_true, true_or, or_self, or_false, false_or, xlt_t, xlt_f, xle_t, xle_f, xeq_t, xeq_f, xand_f, xor_t]
        · simp (disch := first | omega | assumption | (simp (disch := omega) only [vup_fn, vup_o, vup_k, vup_at]; first | done | omega | assumption)) only [h0, e7, Int.add_zero, ↓reduceIte, qw_id, zck_T, zck_t, zGor_v, zGor_n, zGor_e, zbs, vup_at, vup_vup, vup_self, vup_o, vup_k, vup_fn, ne_eq, not_true_eq_false, not_false_eq_true, and_true, true_and, and_self, and_false, false_and, or_true, true_or, or_self, or_false, false_or, xlt_t, xlt_f, xle_t, xle_f, xeq_t, xeq_f, xand_f, xor_t]
      · intro k
        rw [q2]
        simp (disch := decide) only [vup_o]
      · intro i i1 i2 k
        have hq := q3 i i1 i2 k
        constructor
        · intro k1 k2
          by_cases hkp : k = p
          · subst hkp
            rw [hq.2 (by omega)]
            rcases (show i = 1 ∨ i = 2 ∨ i = 3 ∨ i = 4 ∨ i = 5 ∨ i = 6 ∨ i = 7 ∨ i = 8 by omega) with rfl | rfl | rfl | rfl | rfl | rfl | rfl | rfl
            all_goals simp (disch := omega) only [Nat.reduceAdd, vup_o, vup_at]
          · rw [hq.1 (by omega) k2]
            simp (disch := omega) only [vup_o]
        · intro k1
          rw [hq.2 (by omega)]
          simp (disch := omega) only [vup_k]
      · intro o ho
        rw [q4 o ho]
        simp (disch := omega) only [vup_fn]
theorem sp88 {V : zVt} {x : Nat} (hb : zBk 10 x) (hx : 26 ≤ x) {n : Int} (hn : 0 ≤ n ∧ n ≤ 60) (h0 : V x 0 = n) (h7 : ∀ k, 0 ≤ k → k < n → V (x + 7) k = 0 ∨ V (x + 7) k = 1) :
    ∃ V', zGo false 88 0 [.ref 13, .ref x, .null] [] (zm V J d) = zN1 V' J d ∧ (V' 13 0 = n ∧ V' 13 1 = V x 1 ∧ V' 13 2 = V x 2 ∧ V' 13 3 = V x 3) ∧ (∀ i : Nat, 1 ≤ i → i ≤ 8 → ∀ k, 0 ≤ k → k < n → V' (13 + i) k = V (x + i) k) ∧ ∀ o : Nat, ¬(13 ≤ o ∧ o ≤ 21) → V' o = V o := by
  obtain ⟨V', q1, q2, q3, q4⟩ := sl88 (J := J) (d := d) hb hx hn 100 (vup (vup (vup (vup V 13 0 n) 13 1 (V x 1)) 13 2 (V x 2)) 13 3 (V x 3)) 0 (by omega) (by omega) (by simp (disch := decide) only [vup_k, vup_at]) (by
    intro k k1 k2
    simp (disch := omega) only [vup_o]
    exact h7 k k1 k2)
  refine ⟨V', ?_, ⟨?_, ?_, ?_, ?_⟩, ?_, ?_⟩
  · rw [← q1, ze_88_0 _ _ zBk_13 hb]
    simp (disch := first | omega | assumption | (simp (disch := omega) only [vup_fn, vup_o, vup_k, vup_at]; first | done | omega | assumption)) only [h0, Int.add_zero, ↓reduceIte, qw_id, zck_T, zck_t, zGor_v, zGor_n, zGor_e, zbs, vup_at, vup_vup, vup_self, vup_o, vup_k, vup_fn, ne_eq, not_true_eq_false, not_false_eq_true, and_true, true_and, and_self, and_false, false_and, or_true, true_or, or_self, or_false, false_or, xlt_t, xlt_f, xle_t, xle_f, xeq_t, xeq_f, xand_f, xor_t]
  · rw [q2]
    simp (disch := decide) only [vup_k, vup_at]
  · rw [q2]
    simp (disch := decide) only [vup_k, vup_at]
  · rw [q2]
    simp (disch := decide) only [vup_k, vup_at]
  · rw [q2]
    simp (disch := decide) only [vup_at]
  · intro i i1 i2 k k1 k2
    rw [(q3 i i1 i2 k).1 k1 k2]
    simp (disch := omega) only [vup_o]
  · intro o ho
    rw [q4 o ho]
    simp (disch := omega) only [vup_fn]
/-- one correction applied to row 13 -/
def cAp (V : zVt) (x : Nat) (at_ m v : Int) : zVt :=
  if m = 0 then vup V 16 at_ (if v = 100 then V (x + 3) at_ else v)
  else if m = 1 then vup V 17 at_ (if v = 100 then V (x + 4) at_ else v)
  else if m = 2 then vup V 18 at_ (if v = 100 then V (x + 5) at_ else v)
  else if m = 3 then vup V 19 at_ (if v = 100 then V (x + 6) at_ else v)
  else vup V 14 at_ (if v = 1 then 4 else 3)
theorem sp4 {V : zVt} {x : Nat} (hb : zBk 10 x) {c a m v : Int} (hc : 0 ≤ c ∧ c < 200) (e4 : V 4 c = a) (e5 : V 5 c = m) (e6 : V 6 c = v) (ha : 0 ≤ a ∧ a < 60) (hm : 0 ≤ m ∧ m ≤ 4) (hv : -9 ≤ v ∧ v ≤ 100) : zGo false 4 0 [.ref 3, .int (zi c), .ref x, .ref 13, .null, .null, .null] [] (zm V J d) = zN1 (cAp V x a m v) J d := by
  unfold cAp
  have h13 := zBk_13
  have z14 : zS0 14 = (13, 60) := rfl
  have z16 : zS0 16 = (13, 60) := rfl
  have z17 : zS0 17 = (13, 60) := rfl
  have z18 : zS0 18 = (13, 60) := rfl
  have z19 : zS0 19 = (13, 60) := rfl
  rcases (show m = 0 ∨ m = 1 ∨ m = 2 ∨ m = 3 ∨ m = 4 by omega) with h | h | h | h | h
  · by_cases h1 : v = 100
    · simp (disch := first | omega | assumption | (simp (disch := omega) only [vup_fn, vup_o, vup_k, vup_at]; first | done | omega | assumption)) only [ze_4_0, ze_4_28, ze_4_91, ze_4_118, ze_4_145, ze_4_172, ze_4_193, ze_4_194, e4, e5, e6, h, Nat.reduceAdd, Int.add_zero, ↓reduceIte, qw_id, zck_T, zck_t, zGor_v, zGor_n, zGor_e, zbs, vup_at, vup_vup, vup_self, vup_o, vup_k, vup_fn, ne_eq, not_true_eq_false, not_false_eq_true, and_true, true_and, and_self, and_false, false_and, or_true, true_or, or_self, or_false, false_or, xlt_t, xlt_f, xle_t, xle_f, xeq_t, xeq_f, xand_f, xor_t]
    · simp (disch := first | omega | assumption | (simp (disch := omega) only [vup_fn, vup_o, vup_k, vup_at]; first | done | omega | assumption)) only [ze_4_0, ze_4_28, ze_4_91, ze_4_118, ze_4_145, ze_4_172, ze_4_193, ze_4_194, e4, e5, e6, h, Nat.reduceAdd, Int.add_zero, ↓reduceIte, qw_id, zck_T, zck_t, zGor_v, zGor_n, zGor_e, zbs, vup_at, vup_vup, vup_self, vup_o, vup_k, vup_fn, ne_eq, not_true_eq_false, not_false_eq_true, and_true, true_and, and_self, and_false, false_and, or_true, true_or, or_self, or_false, false_or, xlt_t, xlt_f, xle_t, xle_f, xeq_t, xeq_f, xand_f, xor_t]
  · by_cases h1 : v = 100
    · simp (disch := first | omega | assumption | (simp (disch := omega) only [vup_fn, vup_o, vup_k, vup_at]; first | done | omega | assumption)) only [ze_4_0, ze_4_28, ze_4_91, ze_4_118, ze_4_145, ze_4_172, ze_4_193, ze_4_194, e4, e5, e6, h, Nat.reduceAdd, Int.add_zero, ↓reduceIte, qw_id, zck_T, zck_t, zGor_v, zGor_n, zGor_e, zbs, vup_at, vup_vup, vup_self, vup_o, vup_k, vup_fn, ne_eq, not_true_eq_false, not_false_eq_true, and_true, true_and, and_self, and_false, false_and, or_true, true_or, or_self, or_false, false_or, xlt_t, xlt_f, xle_t, xle_f, xeq_t, xeq_f, xand_f, xor_t]
    · simp (disch := first | omega | assumption | (simp (disch := omega) only [vup_fn, vup_o, vup_k, vup_at]; first | done | omega | assumption)) only [ze_4_0, ze_4_28, ze_4_91, ze_4_118, ze_4_145, ze_4_172, ze_4_193, ze_4_194, e4, e5, e6, h, Nat.reduceAdd, Int.add_zero, ↓reduceIte, qw_id, zck_T, zck_t, zGor_v, zGor_n, zGor_e, zbs, vup_at, vup_vup, vup_self, vup_o, vup_k, vup_fn, ne_eq, not_true_eq_false, not_false_eq_true, and_true, true_and, and_self, and_false, false_and, or_true, true_or, or_self, or_false, false_or, xlt_t, xlt_f, xle_t, xle_f, xeq_t, xeq_f, xand_f, xor_t]
  · by_cases h1 : v = 100
    · simp (disch := first | omega | assumption | (simp (disch := omega) only [vup_fn, vup_o, vup_k, vup_at]; first | done | omega | assumption)) only [ze_4_0, ze_4_28, ze_4_91, ze_4_118, ze_4_145, ze_4_172, ze_4_193, ze_4_194, e4, e5, e6, h, Nat.reduceAdd, Int.add_zero, ↓reduceIte, qw_id, zck_T, zck_t, zGor_v, zGor_n, zGor_e, zbs, vup_at, vup_vup, vup_self, vup_o, vup_k, vup_fn, ne_eq, not_true_eq_false, not_false_eq_true, and_true, true_and, and_self, and_false, false_and, or_true, true_or, or_self, or_false, false_or, xlt_t, xlt_f, xle_t, xle_f, xeq_t, xeq_f, xand_f, xor_t]
    · simp (disch := first | omega | assumption | (simp (disch := omega) only [vup_fn, vup_o, vup_k, vup_at]; first | done | omega | assumption)) only [ze_4_0, ze_4_28, ze_4_91, ze_4_118, ze_4_145, ze_4_172, ze_4_193, ze_4_194, e4, e5, e6, h, Nat.reduceAdd, Int.add_zero, ↓reduceIte, qw_id, zck_T, zck_t, zGor_v, zGor_n, zGor_e, zbs, vup_at, vup_vup, vup_self, vup_o, vup_k, vup_fn, ne_eq, not_true_eq_false, not_false_eq_true, and_true, true_and, and_self, and_false, false_and, or_true, true_or, or_self, or_false, false_or, xlt_t, xlt_f, xle_t, xle_f, xeq_t, xeq_f, xand_f, xor_t]
  · by_cases h1 : v = 100
    · simp (disch := first | omega | assumption | (simp (disch := omega) only [vup_fn, vup_o, vup_k, vup_at]; first | done | omega | assumption)) only [ze_4_0, ze_4_28, ze_4_91, ze_4_118, ze_4_145, ze_4_172, ze_4_193, ze_4_194, e4, e5, e6, h, Nat.reduceAdd, Int.add_zero, ↓reduceIte, qw_id, zck_T, zck_t, zGor_v, zGor_n, zGor_e, zbs, vup_at, vup_vup, vup_self, vup_o, vup_k, vup_fn, ne_eq, not_true_eq_false, not_false_eq_true, and_true, true_and, and_self, and_false, false_and, or_true, true_or, or_self, or_false, false_or, xlt_t, xlt_f, xle_t, xle_f, xeq_t, xeq_f, xand_f, xor_t]
    · simp (disch := first | omega | assumption | (simp (disch := omega) only [vup_fn, vup_o, vup_k, vup_at]; first | done | omega | assumption)) only [ze_4_0, ze_4_28, ze_4_91, ze_4_118, ze_4_145, ze_4_172, ze_4_193, ze_4_194, e4, e5, e6, h, Nat.reduceAdd, Int.add_zero, ↓reduceIte, qw_id, zck_T, zck_t, zGor_v, zGor_n, zGor_e, zbs, vup_at, vup_vup, vup_self, vup_o, vup_k, vup_fn, ne_eq, not_true_eq_false, not_false_eq_true, and_true, true_and, and_self, and_false, false_and, or_true, true_or, or_self, or_false, false_or, xlt_t, xlt_f, xle_t, xle_f, xeq_t, xeq_f, xand_f, xor_t]
  · by_cases h1 : v = 1
    · simp (disch := first | omega | assumption | (simp (disch := omega) only [vup_fn, vup_o, vup_k, vup_at]; first | done | omega | assumption)) only [ze_4_0, ze_4_28, ze_4_91, ze_4_118, ze_4_145, ze_4_172, ze_4_193, ze_4_194, e4, e5, e6, h, Nat.reduceAdd, Int.add_zero, ↓reduceIte, qw_id, zck_T, zck_t, zGor_v, zGor_n, zGor_e, zbs, vup_at, vup_vup, vup_self, vup_o, vup_k, vup_fn, ne_eq, not_true_eq_false, not_false_eq_true, and_true, true_and, and_self, and_false, false_and, or_true, true_or, or_self, or_false, false_or, xlt_t, xlt_f, xle_t, xle_f, xeq_t, xeq_f, xand_f, xor_t]
    · by_cases h2 : v = 100
      · simp (disch := first | omega | assumption | (simp (disch := omega) only [vup_fn, vup_o, vup_k, vup_at]; first | done | omega | assumption)) only [ze_4_0, ze_4_28, ze_4_91, ze_4_118, ze_4_145, ze_4_172, ze_4_193, ze_4_194, e4, e5, e6, h, Nat.reduceAdd, Int.add_zero, ↓reduceIte, qw_id, zck_T, zck_t, zGor_v, zGor_n, zGor_e, zbs, vup_at, vup_vup, vup_self, vup_o, vup_k, vup_fn, ne_eq, not_true_eq_false, not_false_eq_true, and_true, true_and, and_self, and_false, false_and, or_true, true_or, or_self, or_false, false_or, xlt_t, xlt_f, xle_t, xle_f, xeq_t, xeq_f, xand_f, xor_t]
      · simp (disch := first | omega | assumption | (simp (disch := omega) only [vup_fn, vup_o, vup_k, vup_at]; first | done | omega | assumption)) only [ze_4_0, ze_4_28, ze_4_91, ze_4_118, ze_4_145, ze_4_172, ze_4_193, ze_4_194, e4, e5, e6, h, Nat.reduceAdd, Int.add_zero, ↓reduceIte, qw_id, zck_T, zck_t, zGor_v, zGor_n, zGor_e, zbs, vup_at, vup_vup, vup_self, vup_o, vup_k, vup_fn, ne_eq, not_true_eq_false, not_false_eq_true, and_true, true_and, and_self, and_false, false_and, or_true, true_or, or_self, or_false, false_or, xlt_t, xlt_f, xle_t, xle_f, xeq_t, xeq_f, xand_f, xor_t]
end
