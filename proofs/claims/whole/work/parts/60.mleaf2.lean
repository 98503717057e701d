/-! part 60: the reference's singing: leaves -/
def yPi (b : Int) : Int := if b = 0 then -2 else if 128 ≤ b then b - 128 else b
def yBg (b : Int) : Int := if 128 ≤ b then 1 else 0
def yMb (b : Int) : Int := if b = 0 then 0 else if 128 ≤ b then b - 126 else b + 2
theorem yBg_01 (b : Int) : yBg b = 0 ∨ yBg b = 1 := by
  unfold yBg
  split <;> omega
section
variable {V : zVt} {J : zJt} {d : Nat → Nat → UInt64}
theorem sp170 {g : Int} (hg : -100 ≤ g ∧ g ≤ 100) : zGo false 170 0 [.int (zi g)] [] (zm V J d) = zI1 (yCh g) V J d := by
  unfold yCh
  by_cases h1 : g = 1
  · simp (disch := first | omega | assumption | (simp (disch := omega) only [vup_fn, vup_o, vup_k, vup_at]; first | done | omega | assumption)) only [ze_170_0, ze_170_19, Int.add_zero, ↓reduceIte, qw_id, zck_T, zck_t, zGor_v, zGor_n, zGor_e, zbs, vup_at, vup_vup, vup_self, vup_o, vup_k, vup_fn, ne_eq, not_true_eq_false, not_false_eq_true, and_true, true_and, and_self, and_false, false_and, or_true, true_or, or_self, or_false, false_or, xlt_t, xlt_f, xle_t, xle_f, xeq_t, xeq_f, xand_f, xor_t]
  · by_cases h2 : g = 2
    · simp (disch := first | omega | assumption | (simp (disch := omega) only [vup_fn, vup_o, vup_k, vup_at]; first | done | omega | assumption)) only [ze_170_0, ze_170_19, Int.add_zero, ↓reduceIte, qw_id, zck_T, zck_t, zGor_v, zGor_n, zGor_e, zbs, vup_at, vup_vup, vup_self, vup_o, vup_k, vup_fn, ne_eq, not_true_eq_false, not_false_eq_true, and_true, true_and, and_self, and_false, false_and, or_true, true_or, or_self, or_false, false_or, xlt_t, xlt_f, xle_t, xle_f, xeq_t, xeq_f, xand_f, xor_t]
    · simp (disch := first | omega | assumption | (simp (disch := omega) only [vup_fn, vup_o, vup_k, vup_at]; first | done | omega | assumption)) only [ze_170_0, ze_170_19, Int.add_zero, ↓reduceIte, qw_id, zck_T, zck_t, zGor_v, zGor_n, zGor_e, zbs, vup_at, vup_vup, vup_self, vup_o, vup_k, vup_fn, ne_eq, not_true_eq_false, not_false_eq_true, and_true, true_and, and_self, and_false, false_and, or_true, true_or, or_self, or_false, false_or, xlt_t, xlt_f, xle_t, xle_f, xeq_t, xeq_f, xand_f, xor_t]
theorem sp171 {l key : Int} (hl : 0 ≤ l ∧ l ≤ 6) (e : V 435 1 = key) (hk : -7 ≤ key ∧ key ≤ 7) : zGo false 171 0 [.ref 430, .int (zi l), .null, .null] [] (zm V J d) = zI1 (yKey l key) V J d := by
  unfold yKey
  have h2 := qrem_p (a := 2 * l + 1) (b := 7) (by omega) (by omega)
  have h3 : 0 ≤ (2 * l + 1) % 7 ∧ (2 * l + 1) % 7 ≤ 6 := by omega
  generalize (2 * l + 1) % 7 = r at *
  by_cases h4 : 0 < key
  · by_cases h5 : r < key
    · rw [if_pos (by omega)]
      simp (disch := first | omega | assumption | (simp (disch := omega) only [vup_fn, vup_o, vup_k, vup_at]; first | done | omega | assumption)) only [ze_171_0, ze_171_29, ze_171_46, ze_171_47, h2, e, Int.add_zero, ↓reduceIte, qw_id, zck_T, zck_t, zGor_v, zGor_n, zGor_e, zbs, vup_at, vup_vup, vup_self, vup_o, vup_k, vup_fn, ne_eq, not_true_eq_false, not_false_eq_true, and_true, true_and, and_self, and_false, false_and, or_true, true_or, or_self, or_false, false_or, xlt_t, xlt_f, xle_t, xle_f, xeq_t, xeq_f, xand_f, xor_t]
    · rw [if_neg (by omega), if_neg (by omega)]
      simp (disch := first | omega | assumption | (simp (disch := omega) only [vup_fn, vup_o, vup_k, vup_at]; first | done | omega | assumption)) only [ze_171_0, ze_171_29, ze_171_46, ze_171_47, h2, e, Int.add_zero, ↓reduceIte, qw_id, zck_T, zck_t, zGor_v, zGor_n, zGor_e, zbs, vup_at, vup_vup, vup_self, vup_o, vup_k, vup_fn, ne_eq, not_true_eq_false, not_false_eq_true, and_true, true_and, and_self, and_false, false_and, or_true, true_or, or_self, or_false, false_or, xlt_t, xlt_f, xle_t, xle_f, xeq_t, xeq_f, xand_f, xor_t]
  · rw [if_neg (by omega)]
    by_cases h5 : key < 0
    · by_cases h6 : 6 - r < -key
      · rw [if_pos (by omega)]
        simp (disch := first | omega | assumption | (simp (disch := omega) only [vup_fn, vup_o, vup_k, vup_at]; first | done | omega | assumption)) only [ze_171_0, ze_171_29, ze_171_46, ze_171_47, h2, e, Int.add_zero, ↓reduceIte, qw_id, zck_T, zck_t, zGor_v, zGor_n, zGor_e, zbs, vup_at, vup_vup, vup_self, vup_o, vup_k, vup_fn, ne_eq, not_true_eq_false, not_false_eq_true, and_true, true_and, and_self, and_false, false_and, or_true, true_or, or_self, or_false, false_or, xlt_t, xlt_f, xle_t, xle_f, xeq_t, xeq_f, xand_f, xor_t]
      · rw [if_neg (by omega)]
        simp (disch := first | omega | assumption | (simp (disch := omega) only [vup_fn, vup_o, vup_k, vup_at]; first | done | omega | assumption)) only [ze_171_0, ze_171_29, ze_171_46, ze_171_47, h2, e, Int.add_zero, ↓reduceIte, qw_id, zck_T, zck_t, zGor_v, zGor_n, zGor_e, zbs, vup_at, vup_vup, vup_self, vup_o, vup_k, vup_fn, ne_eq, not_true_eq_false, not_false_eq_true, and_true, true_and, and_self, and_false, false_and, or_true, true_or, or_self, or_false, false_or, xlt_t, xlt_f, xle_t, xle_f, xeq_t, xeq_f, xand_f, xor_t]
    · rw [if_neg (by omega)]
      simp (disch := first | omega | assumption | (simp (disch := omega) only [vup_fn, vup_o, vup_k, vup_at]; first | done | omega | assumption)) only [ze_171_0, ze_171_29, ze_171_46, ze_171_47, h2, e, Int.add_zero, ↓reduceIte, qw_id, zck_T, zck_t, zGor_v, zGor_n, zGor_e, zbs, vup_at, vup_vup, vup_self, vup_o, vup_k, vup_fn, ne_eq, not_true_eq_false, not_false_eq_true, and_true, true_and, and_self, and_false, false_and, or_true, true_or, or_self, or_false, false_or, xlt_t, xlt_f, xle_t, xle_f, xeq_t, xeq_f, xand_f, xor_t]
theorem sp172 {s c : Int} (hs : 0 ≤ s ∧ s < 1000) : zGo false 172 0 [.int (zi s), .int (zi c), .null] [] (zm V J d) = zI1 (12 * (s / 7) + yLp (s % 7) + c) V J d := by
  have h2 := qrem_p (a := s) (b := 7) (by omega) (by omega)
  have h3 := qdiv_p (a := s) (b := 7) (by omega) (by omega)
  unfold yLp
  by_cases h : 2 < s % 7
  · have e : 12 * (s / 7) + (2 * (s % 7) - 1) + c = 12 * (s / 7) + 2 * (s % 7) - 1 + c := by omega
    rw [if_pos h, e]
    simp (disch := first | omega | assumption | (simp (disch := omega) only [vup_fn, vup_o, vup_k, vup_at]; first | done | omega | assumption)) only [ze_172_0, ze_172_26, h2, h3, Int.add_zero, ↓reduceIte, qw_id, zck_T, zck_t, zGor_v, zGor_n, zGor_e, zbs, vup_at, vup_vup, vup_self, vup_o, vup_k, vup_fn, ne_eq, not_true_eq_false, not_false_eq_true, and_true, true_and, and_self, and_false, false_and, or_true, true_or, or_self, or_false, false_or, xlt_t, xlt_f, xle_t, xle_f, xeq_t, xeq_f, xand_f, xor_t]
  · have e : 12 * (s / 7) + (2 * (s % 7) - 0) + c = 12 * (s / 7) + 2 * (s % 7) - 0 + c := by omega
    rw [if_neg h, e]
    simp (disch := first | omega | assumption | (simp (disch := omega) only [vup_fn, vup_o, vup_k, vup_at]; first | done | omega | assumption)) only [ze_172_0, ze_172_26, h2, h3, Int.add_zero, ↓reduceIte, qw_id, zck_T, zck_t, zGor_v, zGor_n, zGor_e, zbs, vup_at, vup_vup, vup_self, vup_o, vup_k, vup_fn, ne_eq, not_true_eq_false, not_false_eq_true, and_true, true_and, and_self, and_false, false_and, or_true, true_or, or_self, or_false, false_or, xlt_t, xlt_f, xle_t, xle_f, xeq_t, xeq_f, xand_f, xor_t]
theorem sp173 {f t : Int} (h : V 430 13 = 0) : zGo false 173 0 [.ref 430, .int (zi f), .int (zi t)] [] (zm V J d) = zN1 (vup (vup V 430 13 f) 430 14 t) J d := by
  simp (disch := first | omega | assumption | (simp (disch := omega) only [vup_fn, vup_o, vup_k, vup_at]; first | done | omega | assumption)) only [ze_173_0, ze_173_17, h, Int.add_zero, ↓reduceIte, qw_id, zck_T, zck_t, zGor_v, zGor_n, zGor_e, zbs, vup_at, vup_vup, vup_self, vup_o, vup_k, vup_fn, ne_eq, not_true_eq_false, not_false_eq_true, and_true, true_and, and_self, and_false, false_and, or_true, true_or, or_self, or_false, false_or, xlt_t, xlt_f, xle_t, xle_f, xeq_t, xeq_f, xand_f, xor_t]
theorem sp173n {f t F : Int} (h : V 430 13 = F) (hF : F ≠ 0) (hr : -100 ≤ F ∧ F ≤ 100) : zGo false 173 0 [.ref 430, .int (zi f), .int (zi t)] [] (zm V J d) = zN1 V J d := by
  simp (disch := first | omega | assumption | (simp (disch := omega) only [vup_fn, vup_o, vup_k, vup_at]; first | done | omega | assumption)) only [ze_173_0, ze_173_17, h, Int.add_zero, ↓reduceIte, qw_id, zck_T, zck_t, zGor_v, zGor_n, zGor_e, zbs, vup_at, vup_vup, vup_self, vup_o, vup_k, vup_fn, ne_eq, not_true_eq_false, not_false_eq_true, and_true, true_and, and_self, and_false, false_and, or_true, true_or, or_self, or_false, false_or, xlt_t, xlt_f, xle_t, xle_f, xeq_t, xeq_f, xand_f, xor_t]
/-- no signs -/
def mNs (V : zVt) (p : Int) : zVt := vst V 447 (fun s => if 0 ≤ s ∧ s < p then 9 else V 447 s)
theorem sl168 (n : Nat) : ∀ p : Int, 0 ≤ p → p ≤ 64 → 64 - p < n → zGo false 168 2 [.ref 430, .int (zi p)] [] (zm (mNs V p) J d) = zN1 (mNs V 64) J d := by
  induction n with
  | zero => intro p h1 h2 h3; omega
  | succ n ih =>
    intro p h1 h2 h3
    by_cases hp : p = 64
    · subst hp
      rw [ze_168_2]
      simp (disch := first | omega | assumption | (simp (disch := omega) only [vup_fn, vup_o, vup_k, vup_at]; first | done | omega | assumption)) only [Int.add_zero, ↓reduceIte, qw_id, zck_T, zck_t, zGor_v, zGor_n, zGor_e, zbs, vup_at, vup_vup, vup_self, vup_o, vup_k, vup_fn, ne_eq, not_true_eq_false, not_false_eq_true, and_true, true_and, and_self, and_false, false_and, or_true, true_or, or_self, or_false, false_or, xlt_t, xlt_f, xle_t, xle_f, xeq_t, xeq_f, xand_f, xor_t]
    · have q := ih (p + 1) (by omega) (by omega) (by omega)
      have e : vup (mNs V p) 447 p 9 = mNs V (p + 1) := by
        unfold mNs
        funext o t
        by_cases ho : o = 447
        · subst ho
          rw [vst_at]
          by_cases ht : t = p
          · rw [ht, vup_at]
            show _ = (if 0 ≤ p ∧ p < p + 1 then (9 : Int) else _)
            rw [if_pos (by omega)]
          · rw [vup_k ht, vst_at]
            show (if 0 ≤ t ∧ t < p then (9 : Int) else V 447 t) = (if 0 ≤ t ∧ t < p + 1 then (9 : Int) else V 447 t)
            by_cases hc : 0 ≤ t ∧ t < p
            · rw [if_pos hc, if_pos (by omega)]
            · rw [if_neg hc, if_neg (by omega)]
        · rw [vup_o ho, vst_o ho, vst_o ho]
      rw [← e] at q
      rw [← q, ze_168_2]
      simp (disch := first | omega | assumption | (simp (disch := omega) only [vup_fn, vup_o, vup_k, vup_at]; first | done | omega | assumption)) only [Int.add_zero, ↓reduceIte, qw_id, zck_T, zck_t, zGor_v, zGor_n, zGor_e, zbs, vup_at, vup_vup, vup_self, vup_o, vup_k, vup_fn, ne_eq, not_true_eq_false, not_false_eq_true, and_true, true_and, and_self, and_false, false_and, or_true, true_or, or_self, or_false, false_or, xlt_t, xlt_f, xle_t, xle_f, xeq_t, xeq_f, xand_f, xor_t]
theorem sp168 : zGo false 168 0 [.ref 430, .null] [] (zm V J d) = zN1 (mNs V 64) J d := by
  have q := sl168 (J := J) (d := d) (V := V) 100 0 (by omega) (by omega) (by omega)
  have e : mNs V 0 = V := by
    unfold mNs
    funext o t
    by_cases ho : o = 447
    · subst ho
      rw [vst_at]
      show (if 0 ≤ t ∧ t < 0 then (9 : Int) else _) = _
      rw [if_neg (by omega)]
    · rw [vst_o ho]
  rw [e] at q
  rw [← q, ze_168_0]
end
section
variable {J : zJt} {d : Nat → Nat → UInt64}
/-- filling -/
theorem sl174 {a c fl p z : Int} (ha : 0 ≤ a ∧ a < 60) (hf : 0 ≤ fl) (hu : fl + c ≤ 16) (hz : z = 0 ∨ z = 1) (n : Nat) : ∀ (V : zVt) (k : Int), 0 ≤ k → k ≤ c → c - k < n → V 430 24 = fl + k → V 437 a = c →
    ∃ V', zGo false 174 29 [.ref 430, .int (zi a), .int (zi p), .int (zi z), .int (zi k)] [] (zm V J d) = zN1 V' J d ∧ V' 430 24 = fl + c ∧ (∀ o : Nat, o ≠ 430 → o ≠ 445 → o ≠ 446 → V' o = V o) ∧ (∀ j, j ≠ 24 → V' 430 j = V 430 j) ∧ ∀ t, (fl + k ≤ t → t < fl + c → V' 445 t = p ∧ V' 446 t = if t = fl then z else 0) ∧ (t < fl + k → V' 445 t = V 445 t ∧ V' 446 t = V 446 t) := by
  induction n with
  | zero => intro V k h1 h2 h3; omega
  | succ n ih =>
    intro V k h1 h2 h3 h24 h37
    by_cases hk : k = c
    · subst hk
      refine ⟨V, ?_, h24, fun _ _ _ _ => rfl, fun _ _ => rfl, fun t => ⟨fun t0 t1 => by omega, fun _ => ⟨rfl, rfl⟩⟩⟩
      rw [ze_174_29]
      simp (disch := first | omega | assumption | (simp (disch := omega) only [vup_fn, vup_o, vup_k, vup_at]; first | done | omega | assumption)) only [h37, Int.add_zero, ↓reduceIte, qw_id, zck_T, zck_t, zGor_v, zGor_n, zGor_e, zbs, vup_at, vup_vup, vup_self, vup_o, vup_k, vup_fn, ne_eq, not_true_eq_false, not_false_eq_true, and_true, true_and, and_self, and_false, false_and, or_true, true_or, or_self, or_false, false_or, xlt_t, xlt_f, xle_t, xle_f, xeq_t, xeq_f, xand_f, xor_t]
    · obtain ⟨V', q1, q2, q3, q4, q5⟩ := ih (vup (vup (vup V 445 (fl + k) p) 446 (fl + k) (if k = 0 then z else 0)) 430 24 (fl + k + 1)) (k + 1) (by omega) (by omega) (by omega) (by rw [vup_at]; omega) (by simp (disch := decide) only [vup_o]; exact h37)
      refine ⟨V', ?_, q2, ?_, ?_, ?_⟩
      · rw [← q1, ze_174_29]
        rcases hz with rfl | rfl
        · by_cases hk0 : k = 0
          · simp (disch := first | omega | assumption | (simp (disch := omega) only [vup_fn, vup_o, vup_k, vup_at]; first | done | omega | assumption)) only [h37, h24, ze_174_71, ze_174_72, Int.add_zero, ↓reduceIte, qw_id, zck_T, zck_t, zGor_v, zGor_n, zGor_e, zbs, vup_at, vup_vup, vup_self, vup_o, vup_k, vup_fn, ne_eq, not_true_eq_false, not_false_eq_true, and_true, true_and, and_self, and_false, false_and, or_true, true_or, or_self, or_false, false_or, xlt_t, xlt_f, xle_t, xle_f, xeq_t, xeq_f, xand_f, xor_t]
          · simp (disch := first | omega | assumption | (simp (disch := omega) only [vup_fn, vup_o, vup_k, vup_at]; first | done | omega | assumption)) only [h37, h24, ze_174_71, ze_174_72, Int.add_zero, ↓reduceIte, qw_id, zck_T, zck_t, zGor_v, zGor_n, zGor_e, zbs, vup_at, vup_vup, vup_self, vup_o, vup_k, vup_fn, ne_eq, not_true_eq_false, not_false_eq_true, and_true, true_and, and_self, and_false, false_and, or_true, true_or, or_self, or_false, false_or, xlt_t, xlt_f, xle_t, xle_f, xeq_t, xeq_f, xand_f, xor_t]
        · by_cases hk0 : k = 0
          · simp (disch := first | omega | assumption | (simp (disch := omega) only [vup_fn, vup_o, vup_k, vup_at]; first | done | omega | assumption)) only [h37, h24, ze_174_71, ze_174_72, Int.add_zero, ↓reduceIte, qw_id, zck_T, zck_t, zGor_v, zGor_n, zGor_e, zbs, vup_at, vup_vup, vup_self, vup_o, vup_k, vup_fn, ne_eq, not_true_eq_false, not_false_eq_true, and_true, true_and, and_self, and_false, false_and, or_true, true_or, or_self, or_false, false_or, xlt_t, xlt_f, xle_t, xle_f, xeq_t, xeq_f, xand_f, xor_t]
          · simp (disch := first | omega | assumption | (simp (disch := omega) only [vup_fn, vup_o, vup_k, vup_at]; first | done | omega | assumption)) only [h37, h24, ze_174_71, ze_174_72, Int.add_zero, ↓reduceIte, qw_id, zck_T, zck_t, zGor_v, zGor_n, zGor_e, zbs, vup_at, vup_vup, vup_self, vup_o, vup_k, vup_fn, ne_eq, not_true_eq_false, not_false_eq_true, and_true, true_and, and_self, and_false, false_and, or_true, true_or, or_self, or_false, false_or, xlt_t, xlt_f, xle_t, xle_f, xeq_t, xeq_f, xand_f, xor_t]
      · intro o o1 o2 o3
        rw [q3 o o1 o2 o3]
        simp (disch := omega) only [vup_fn]
      · intro j hj
        rw [q4 j hj, vup_k hj, vup_o (by decide), vup_o (by decide)]
      · intro t
        have hq := q5 t
        constructor
        · intro t0 t1
          by_cases ht : t = fl + k
          · have w := hq.2 (by omega)
            rw [w.1, w.2, ht]
            simp (disch := decide) only [vup_o, vup_at]
            refine ⟨trivial, ?_⟩
            by_cases hk0 : k = 0
            · rw [if_pos hk0, if_pos (by omega)]
            · rw [if_neg hk0, if_neg (by omega)]
          · exact hq.1 (by omega) t1
        · intro t0
          have w := hq.2 (by omega)
          rw [w.1, w.2]
          simp (disch := omega) only [vup_o, vup_k]
          exact ⟨trivial, trivial⟩
theorem sp174 {V : zVt} {a c fl mt p z : Int} (ha : 0 ≤ a ∧ a < 60) (e24 : V 430 24 = fl) (e23 : V 430 23 = mt) (e37 : V 437 a = c) (e13 : V 430 13 = 0) (hf : 0 ≤ fl ∧ fl ≤ mt) (hm : mt ≤ 16) (hc : 1 ≤ c ∧ c ≤ 24) (hz : z = 0 ∨ z = 1) :
    (mt < fl + c → zGo false 174 0 [.ref 430, .int (zi a), .int (zi p), .int (zi z), .null] [] (zm V J d) = zN1 (vup (vup V 430 13 7) 430 14 a) J d) ∧
    (fl + c ≤ mt → ∃ V', zGo false 174 0 [.ref 430, .int (zi a), .int (zi p), .int (zi z), .null] [] (zm V J d) = zN1 V' J d ∧ V' 430 24 = fl + c ∧ (∀ o : Nat, o ≠ 430 → o ≠ 445 → o ≠ 446 → V' o = V o) ∧ (∀ j, j ≠ 24 → V' 430 j = V 430 j) ∧ ∀ t, (fl ≤ t → t < fl + c → V' 445 t = p ∧ V' 446 t = if t = fl then z else 0) ∧ (t < fl → V' 445 t = V 445 t ∧ V' 446 t = V 446 t)) := by
  constructor
  · intro h
    have e := sp173 (V := V) (J := J) (d := d) (f := 7) (t := a) e13
    rw [ze_174_0]
    simp (disch := first | omega | assumption | (simp (disch := omega) only [vup_fn, vup_o, vup_k, vup_at]; first | done | omega | assumption)) only [e24, e23, e37, e, ze_174_25, Int.add_zero, ↓reduceIte, qw_id, zck_T, zck_t, zGor_v, zGor_n, zGor_e, zbs, vup_at, vup_vup, vup_self, vup_o, vup_k, vup_fn, ne_eq, not_true_eq_false, not_false_eq_true, and_true, true_and, and_self, and_false, false_and, or_true, true_or, or_self, or_false, false_or, xlt_t, xlt_f, xle_t, xle_f, xeq_t, xeq_f, xand_f, xor_t]
  · intro h
    obtain ⟨V', q1, q2, q3, q4, q5⟩ := sl174 (J := J) (d := d) (p := p) ha hf.1 (show fl + c ≤ 16 by omega) hz 100 V 0 (by omega) (by omega) (by omega) (by omega) e37
    refine ⟨V', ?_, q2, q3, q4, ?_⟩
    · rw [← q1, ze_174_0]
      simp (disch := first | omega | assumption | (simp (disch := omega) only [vup_fn, vup_o, vup_k, vup_at]; first | done | omega | assumption)) only [e24, e23, e37, Int.add_zero, ↓reduceIte, qw_id, zck_T, zck_t, zGor_v, zGor_n, zGor_e, zbs, vup_at, vup_vup, vup_self, vup_o, vup_k, vup_fn, ne_eq, not_true_eq_false, not_false_eq_true, and_true, true_and, and_self, and_false, false_and, or_true, true_or, or_self, or_false, false_or, xlt_t, xlt_f, xle_t, xle_f, xeq_t, xeq_f, xand_f, xor_t]
    · intro t
      have hq := q5 t
      rw [Int.add_zero] at hq
      exact hq
/-- a bar packed: before place k of it, from above -/
theorem sl176 {V : zVt} {s w mt fl nb : Int} (hs : 0 ≤ s ∧ s < 5) (e23 : V 430 23 = mt) (e24 : V 430 24 = fl) (e25 : V 430 25 = nb) (hf : 1 ≤ fl ∧ fl ≤ mt) (hm : mt ≤ 16) (hn : 0 ≤ nb ∧ nb < 40) {B : Int → Int} (hB : ∀ t, 0 ≤ t → t < 16 → yByte (B t) ∧ (t < mt - fl → B t = 0) ∧ (mt ≤ t → B t = 0)) (hV : ∀ t, mt - fl ≤ t → t < mt → V 445 (t - (mt - fl)) = yPi (B t) ∧ V 446 (t - (mt - fl)) = yBg (B t)) (n : Nat) : ∀ (k : Int) (lo up : Int64) (st : Int) (x10 x11 : Value), -1 ≤ k → k < mt → k + 1 < n →
      (∀ r, 0 ≤ r → r < 8 → zby lo r = (if k + 1 + r < 8 then yMb (B (k + 1 + r)) else 0)) →
      (∀ r, 0 ≤ r → r < 8 → zby up r = (if 8 ≤ k + 1 then (if k + 1 + r < 16 then yMb (B (k + 1 + r)) else 0) else yMb (B (8 + r)))) →
      st = ((2 ^ (k + 1).toNat : Nat) : Int) * yHr (fun t => yBg (B t)) (15 - k).toNat →
    ∃ V' J', zGo false 176 44 [.ref 430, .int (zi s), .int (zi w), .int (zi (mt - fl)), .long lo, .null, .long up, .null, .int (zi st), .int (zi k), x10, x11] [] (zm V J d) = zN1 V' J' d ∧ V' = vup (vup (vup V 453 (40 * s + nb) (yHr (fun t => yBg (B t)) 16)) 430 25 (nb + 1)) 430 24 0 ∧ (∃ l u, J' = jup (jup J 451 (40 * s + nb) l) 452 (40 * s + nb) u ∧ ∀ r, 0 ≤ r → r < 8 → zby l r = yMb (B r) ∧ zby u r = yMb (B (r + 8))) := by
  have hg : yB01 (fun t => yBg (B t)) := fun t _ _ => yBg_01 _
  induction n with
  | zero => intro k lo up st x10 x11 h1 h2 h3; omega
  | succ n ih =>
    intro k lo up st x10 x11 h1 h2 h3 hlo hup hst
    have hr := yHr_rng hg (15 - k).toNat (by omega)
    have hst2 : 0 ≤ st ∧ st < 65536 := by
      have e1 : ((2 ^ 16 : Nat) : Int) = ((2 ^ (k + 1).toNat : Nat) : Int) * ((2 ^ (15 - k).toNat : Nat) : Int) := by
        rw [← Int.natCast_mul, ← Nat.pow_add, show (k + 1).toNat + (15 - k).toNat = 16 by omega]
      have e2 : (0 : Int) < ((2 ^ (k + 1).toNat : Nat) : Int) := by
        have := Nat.two_pow_pos (k + 1).toNat
        omega
      constructor
      · rw [hst]
        exact Int.mul_nonneg (by omega) hr.1
      · rw [hst, show (65536 : Int) = ((2 ^ 16 : Nat) : Int) from rfl, e1]
        exact Int.mul_lt_mul_of_pos_left hr.2 e2
    by_cases hk : k = -1
    · subst hk
      refine ⟨_, _, ?_, rfl, ⟨lo, up, rfl, ?_⟩⟩
      · have e : st = yHr (fun t => yBg (B t)) 16 := by
          rw [hst]
          show ((2 ^ 0 : Nat) : Int) * yHr _ 16 = _
          rw [show ((2 ^ 0 : Nat) : Int) = 1 from rfl, Int.one_mul]
        rw [ze_176_44, ← e]
        simp (disch := first | omega | assumption | (simp (disch := omega) only [vup_fn, vup_o, vup_k, vup_at]; first | done | omega | assumption)) only [e25, Int.add_zero, ↓reduceIte, qw_id, zck_T, zck_t, zGor_v, zGor_n, zGor_e, zbs, vup_at, vup_vup, vup_self, vup_o, vup_k, vup_fn, ne_eq, not_true_eq_false, not_false_eq_true, and_true, true_and, and_self, and_false, false_and, or_true, true_or, or_self, or_false, false_or, xlt_t, xlt_f, xle_t, xle_f, xeq_t, xeq_f, xand_f, xor_t]
      · intro r r0 r1
        have a1 := hlo r r0 r1
        have a2 := hup r r0 r1
        rw [if_pos (by omega), show (-1 : Int) + 1 + r = r by omega] at a1
        rw [if_neg (by omega), show 8 + r = r + 8 by omega] at a2
        exact ⟨a1, a2⟩
    · have hBk := hB k (by omega) (by omega)
      have hmr : 0 ≤ yMb (B k) ∧ yMb (B k) < 256 := by
        have := hBk.1
        unfold yMb
        repeat' split
        all_goals omega
      -- the next numbers
      have hlo' : k < 8 → ∀ r, 0 ≤ r → r < 8 → zby (lo * Int64.ofNat 256 + (zi (yMb (B k))).toInt64) r = (if k - 1 + 1 + r < 8 then yMb (B (k - 1 + 1 + r)) else 0) := by
        intro hk8 r r0 r1
        rw [zby_mul hmr ⟨r0, r1⟩]
        by_cases hr0 : r = 0
        · rw [if_pos hr0, if_pos (by omega), show k - 1 + 1 + r = k by omega]
        · rw [if_neg hr0, hlo (r - 1) (by omega) (by omega), show k + 1 + (r - 1) = k - 1 + 1 + r by omega]
      have hup' : 8 ≤ k → ∀ r, 0 ≤ r → r < 8 → zby (up * Int64.ofNat 256 + (zi (yMb (B k))).toInt64) r = (if 8 ≤ k - 1 + 1 then (if k - 1 + 1 + r < 16 then yMb (B (k - 1 + 1 + r)) else 0) else yMb (B (8 + r))) := by
        intro hk8 r r0 r1
        rw [zby_mul hmr ⟨r0, r1⟩, if_pos (show 8 ≤ k - 1 + 1 by omega)]
        by_cases hr0 : r = 0
        · rw [if_pos hr0, if_pos (by omega), show k - 1 + 1 + r = k by omega]
        · rw [if_neg hr0, hup (r - 1) (by omega) (by omega), if_pos (show 8 ≤ k + 1 by omega), show k + 1 + (r - 1) = k - 1 + 1 + r by omega]
      have hst' : st + yBg (B k) * ((2 ^ k.toNat : Nat) : Int) = ((2 ^ (k - 1 + 1).toNat : Nat) : Int) * yHr (fun t => yBg (B t)) (15 - (k - 1)).toNat := by
        rw [show (15 - (k - 1)).toNat = (15 - k).toNat + 1 by omega, show k - 1 + 1 = k by omega, hst, show (k + 1).toNat = k.toNat + 1 by omega]
        show _ = ((2 ^ k.toNat : Nat) : Int) * (2 * yHr (fun t => yBg (B t)) (15 - k).toNat + yBg (B (15 - ((15 - k).toNat : Int))))
        rw [show 15 - ((15 - k).toNat : Int) = k by omega, Nat.pow_succ, Int.natCast_mul, Int.mul_add, Int.mul_comm (yBg (B k)), ← Int.mul_assoc]
        rfl
      have hor : ∀ g : Int, (g = 0 ∨ g = 1) → qor st (if g = 0 then 0 else qshl 1 k) = st + g * ((2 ^ k.toNat : Nat) : Int) := by
        intro g hg'
        rcases hg' with rfl | rfl
        · rw [if_pos rfl, qor_0 hst2, Int.zero_mul, Int.add_zero]
        · rw [if_neg (by decide), qshl_1 ⟨by omega, by omega⟩, Int.one_mul]
          refine qor_p (a := (yHr (fun t => yBg (B t)) (15 - k).toNat).toNat) (by omega) ?_ hst2.2
          rw [Int.natCast_mul, Int.toNat_of_nonneg hr.1, show k.toNat + 1 = (k + 1).toNat by omega]
          exact hst
      by_cases hth : mt - fl ≤ k
      · have hv := hV k hth h2
        have hb8 : (if yPi (B k) = -2 then 0 else yPi (B k) + 2) = yMb (B k) := by
          have := hBk.1
          unfold yPi yMb
          repeat' split
          all_goals omega
        have hb01 := yBg_01 (B k)
        have hpr : -2 ≤ yPi (B k) ∧ yPi (B k) ≤ 85 := by
          have := hBk.1
          unfold yPi
          repeat' split
          all_goals omega
        have s1 : zGo false 176 44 [.ref 430, .int (zi s), .int (zi w), .int (zi (mt - fl)), .long lo, .null, .long up, .null, .int (zi st), .int (zi k), x10, x11] [] (zm V J d) = zGo false 176 96 [.ref 430, .int (zi s), .int (zi w), .int (zi (mt - fl)), .long lo, .null, .long up, .null, .int (zi st), .int (zi k), .int (zi 1), x11] [.int (zi (yMb (B k)))] (zm V J d) := by
          rw [← hb8, ze_176_44]
          by_cases hp2 : yPi (B k) = -2
          · simp (disch := first | omega | assumption | (simp (disch := omega) only [vup_fn, vup_o, vup_k, vup_at]; first | done | omega | assumption)) only [ze_176_60, ze_176_81, hv.1, hp2, Int.add_zero, ↓reduceIte, qw_id, zck_T, zck_t, zGor_v, zGor_n, zGor_e, zbs, vup_at, vup_vup, vup_self, vup_o, vup_k, vup_fn, ne_eq, not_true_eq_false, not_false_eq_true, and_true, true_and, and_self, and_false, false_and, or_true, true_or, or_self, or_false, false_or, xlt_t, xlt_f, xle_t, xle_f, xeq_t, xeq_f, xand_f, xor_t]
          · simp (disch := first | omega | assumption | (simp (disch := omega) only [vup_fn, vup_o, vup_k, vup_at]; first | done | omega | assumption)) only [ze_176_60, ze_176_81, hv.1, Int.add_zero, ↓reduceIte, qw_id, zck_T, zck_t, zGor_v, zGor_n, zGor_e, zbs, vup_at, vup_vup, vup_self, vup_o, vup_k, vup_fn, ne_eq, not_true_eq_false, not_false_eq_true, and_true, true_and, and_self, and_false, false_and, or_true, true_or, or_self, or_false, false_or, xlt_t, xlt_f, xle_t, xle_f, xeq_t, xeq_f, xand_f, xor_t]
        have s3 : ∀ lo2 up2 : Int64, zGo false 176 144 [.ref 430, .int (zi s), .int (zi w), .int (zi (mt - fl)), .long lo, .null, .long up2, .null, .int (zi st), .int (zi k), .int (zi 1), .int (zi (yMb (B k)))] [.long lo2] (zm V J d) = zGo false 176 44 [.ref 430, .int (zi s), .int (zi w), .int (zi (mt - fl)), .long lo2, .null, .long up2, .null, .int (zi (st + yBg (B k) * ((2 ^ k.toNat : Nat) : Int))), .int (zi (k - 1)), .int (zi 1), .int (zi (yMb (B k)))] [] (zm V J d) := by
          intro lo2 up2
          rw [← hor _ hb01]
          rcases hb01 with h01 | h01
          · rw [h01]
            simp (disch := first | omega | assumption | (simp (disch := omega) only [vup_fn, vup_o, vup_k, vup_at]; first | done | omega | assumption)) only [ze_176_144, hv.2, h01, ze_176_172, ze_176_173, show k + -1 = k - 1 by omega, Int.add_zero, ↓reduceIte, qw_id, zck_T, zck_t, zGor_v, zGor_n, zGor_e, zbs, vup_at, vup_vup, vup_self, vup_o, vup_k, vup_fn, ne_eq, not_true_eq_false, not_false_eq_true, and_true, true_and, and_self, and_false, false_and, or_true, true_or, or_self, or_false, false_or, xlt_t, xlt_f, xle_t, xle_f, xeq_t, xeq_f, xand_f, xor_t]
          · rw [h01]
            simp (disch := first | omega | assumption | (simp (disch := omega) only [vup_fn, vup_o, vup_k, vup_at]; first | done | omega | assumption)) only [ze_176_144, hv.2, h01, ze_176_172, ze_176_173, show k + -1 = k - 1 by omega, Int.add_zero, ↓reduceIte, qw_id, zck_T, zck_t, zGor_v, zGor_n, zGor_e, zbs, vup_at, vup_vup, vup_self, vup_o, vup_k, vup_fn, ne_eq, not_true_eq_false, not_false_eq_true, and_true, true_and, and_self, and_false, false_and, or_true, true_or, or_self, or_false, false_or, xlt_t, xlt_f, xle_t, xle_f, xeq_t, xeq_f, xand_f, xor_t]
        by_cases hk8 : 8 ≤ k
        · obtain ⟨V', J', q1, q2⟩ := ih (k - 1) lo (up * Int64.ofNat 256 + (zi (yMb (B k))).toInt64) (st + yBg (B k) * ((2 ^ k.toNat : Nat) : Int)) (.int (zi 1)) (.int (zi (yMb (B k)))) (by omega) (by omega) (by omega) (by
            intro r r0 r1
            rw [hlo r r0 r1, if_neg (by omega), if_neg (by omega)]) (hup' hk8) hst'
          refine ⟨V', J', ?_, q2⟩
          rw [s1, ← q1, ← s3]
          simp (disch := first | omega | assumption | (simp (disch := omega) only [vup_fn, vup_o, vup_k, vup_at]; first | done | omega | assumption)) only [ze_176_96, ze_176_120, Int.add_zero, ↓reduceIte, qw_id, zck_T, zck_t, zGor_v, zGor_n, zGor_e, zbs, vup_at, vup_vup, vup_self, vup_o, vup_k, vup_fn, ne_eq, not_true_eq_false, not_false_eq_true, and_true, true_and, and_self, and_false, false_and, or_true, true_or, or_self, or_false, false_or, xlt_t, xlt_f, xle_t, xle_f, xeq_t, xeq_f, xand_f, xor_t]
        · obtain ⟨V', J', q1, q2⟩ := ih (k - 1) (lo * Int64.ofNat 256 + (zi (yMb (B k))).toInt64) up (st + yBg (B k) * ((2 ^ k.toNat : Nat) : Int)) (.int (zi 1)) (.int (zi (yMb (B k)))) (by omega) (by omega) (by omega) (hlo' (by omega)) (by
            intro r r0 r1
            rw [hup r r0 r1, if_neg (show ¬ 8 ≤ k - 1 + 1 by omega)]
            by_cases h7 : k = 7
            · rw [if_pos (by omega), if_pos (by omega), h7, show (7 : Int) + 1 + r = 8 + r by omega]
            · rw [if_neg (by omega)]) hst'
          refine ⟨V', J', ?_, q2⟩
          rw [s1, ← q1, ← s3]
          simp (disch := first | omega | assumption | (simp (disch := omega) only [vup_fn, vup_o, vup_k, vup_at]; first | done | omega | assumption)) only [ze_176_96, ze_176_120, Int.add_zero, ↓reduceIte, qw_id, zck_T, zck_t, zGor_v, zGor_n, zGor_e, zbs, vup_at, vup_vup, vup_self, vup_o, vup_k, vup_fn, ne_eq, not_true_eq_false, not_false_eq_true, and_true, true_and, and_self, and_false, false_and, or_true, true_or, or_self, or_false, false_or, xlt_t, xlt_f, xle_t, xle_f, xeq_t, xeq_f, xand_f, xor_t]
      · have hb0 := hBk.2.1 (by omega)
        have hm0 : yMb (B k) = 0 := by rw [hb0]; rfl
        have hg0 : yBg (B k) = 0 := by rw [hb0]; rfl
        rw [hg0, Int.zero_mul, Int.add_zero] at hst'
        rw [hm0] at hlo' hup'
        have h0 := qor_0 hst2
        have s1 : zGo false 176 44 [.ref 430, .int (zi s), .int (zi w), .int (zi (mt - fl)), .long lo, .null, .long up, .null, .int (zi st), .int (zi k), x10, x11] [] (zm V J d) = zGo false 176 96 [.ref 430, .int (zi s), .int (zi w), .int (zi (mt - fl)), .long lo, .null, .long up, .null, .int (zi st), .int (zi k), .int (zi 0), x11] [.int (zi 0)] (zm V J d) := by
          rw [ze_176_44]
          simp (disch := first | omega | assumption | (simp (disch := omega) only [vup_fn, vup_o, vup_k, vup_at]; first | done | omega | assumption)) only [ze_176_60, ze_176_81, Int.add_zero, ↓reduceIte, qw_id, zck_T, zck_t, zGor_v, zGor_n, zGor_e, zbs, vup_at, vup_vup, vup_self, vup_o, vup_k, vup_fn, ne_eq, not_true_eq_false, not_false_eq_true, and_true, true_and, and_self, and_false, false_and, or_true, true_or, or_self, or_false, false_or, xlt_t, xlt_f, xle_t, xle_f, xeq_t, xeq_f, xand_f, xor_t]
        by_cases hk8 : 8 ≤ k
        · obtain ⟨V', J', q1, q2⟩ := ih (k - 1) lo (up * Int64.ofNat 256 + (zi 0).toInt64) st (.int (zi 0)) (.int (zi 0)) (by omega) (by omega) (by omega) (by
            intro r r0 r1
            rw [hlo r r0 r1, if_neg (by omega), if_neg (by omega)]) (hup' hk8) hst'
          refine ⟨V', J', ?_, q2⟩
          rw [s1, ← q1]
          simp (disch := first | omega | assumption | (simp (disch := omega) only [vup_fn, vup_o, vup_k, vup_at]; first | done | omega | assumption)) only [ze_176_96, ze_176_120, ze_176_144, ze_176_172, ze_176_173, h0, show k + -1 = k - 1 by omega, Int.add_zero, ↓reduceIte, qw_id, zck_T, zck_t, zGor_v, zGor_n, zGor_e, zbs, vup_at, vup_vup, vup_self, vup_o, vup_k, vup_fn, ne_eq, not_true_eq_false, not_false_eq_true, and_true, true_and, and_self, and_false, false_and, or_true, true_or, or_self, or_false, false_or, xlt_t, xlt_f, xle_t, xle_f, xeq_t, xeq_f, xand_f, xor_t]
        · obtain ⟨V', J', q1, q2⟩ := ih (k - 1) (lo * Int64.ofNat 256 + (zi 0).toInt64) up st (.int (zi 0)) (.int (zi 0)) (by omega) (by omega) (by omega) (hlo' (by omega)) (by
            intro r r0 r1
            rw [hup r r0 r1, if_neg (show ¬ 8 ≤ k - 1 + 1 by omega)]
            by_cases h7 : k = 7
            · rw [if_pos (by omega), if_pos (by omega), h7, show (7 : Int) + 1 + r = 8 + r by omega]
            · rw [if_neg (by omega)]) hst'
          refine ⟨V', J', ?_, q2⟩
          rw [s1, ← q1]
          simp (disch := first | omega | assumption | (simp (disch := omega) only [vup_fn, vup_o, vup_k, vup_at]; first | done | omega | assumption)) only [ze_176_96, ze_176_120, ze_176_144, ze_176_172, ze_176_173, h0, show k + -1 = k - 1 by omega, Int.add_zero, ↓reduceIte, qw_id, zck_T, zck_t, zGor_v, zGor_n, zGor_e, zbs, vup_at, vup_vup, vup_self, vup_o, vup_k, vup_fn, ne_eq, not_true_eq_false, not_false_eq_true, and_true, true_and, and_self, and_false, false_and, or_true, true_or, or_self, or_false, false_or, xlt_t, xlt_f, xle_t, xle_f, xeq_t, xeq_f, xand_f, xor_t]
theorem sp176 {V : zVt} {s w mt fl nb : Int} (hs : 0 ≤ s ∧ s < 5) (e23 : V 430 23 = mt) (e24 : V 430 24 = fl) (e25 : V 430 25 = nb) (hf : 1 ≤ fl ∧ fl ≤ mt) (hm : mt ≤ 16) (hn : 0 ≤ nb ∧ nb < 40) {B : Int → Int} (hB : ∀ t, 0 ≤ t → t < 16 → yByte (B t) ∧ (t < mt - fl → B t = 0) ∧ (mt ≤ t → B t = 0)) (hV : ∀ t, mt - fl ≤ t → t < mt → V 445 (t - (mt - fl)) = yPi (B t) ∧ V 446 (t - (mt - fl)) = yBg (B t)) :
    ∃ J', zGo false 176 0 [.ref 430, .int (zi s), .int (zi w), .null, .null, .null, .null, .null, .null, .null, .null, .null] [] (zm V J d) = zN1 (vup (vup (vup V 453 (40 * s + nb) (yHr (fun t => yBg (B t)) 16)) 430 25 (nb + 1)) 430 24 0) J' d ∧ (∃ l u, J' = jup (jup J 451 (40 * s + nb) l) 452 (40 * s + nb) u ∧ ∀ r, 0 ≤ r → r < 8 → zby l r = yMb (B r) ∧ zby u r = yMb (B (r + 8))) := by
  have hz : ∀ t, mt ≤ t → t < 16 → yMb (B t) = 0 := by
    intro t t0 t1
    rw [(hB t (by omega) t1).2.2 t0]
    rfl
  have hz2 : ∀ j : Nat, mt ≤ 16 - (j : Int) → j ≤ 16 → yHr (fun t => yBg (B t)) j = 0 := by
    intro j
    induction j with
    | zero => intro _ _; rfl
    | succ j ih =>
      intro h1 h2
      show 2 * yHr (fun t => yBg (B t)) j + yBg (B (15 - (j : Int))) = 0
      rw [ih (by omega) (by omega), (hB (15 - j) (by omega) (by omega)).2.2 (by omega)]
      rfl
  obtain ⟨V', J', q1, q2, q3⟩ := sl176 (J := J) (d := d) (w := w) hs e23 e24 e25 hf hm hn hB hV 100 (mt - 1) (Int64.ofNat 0) (Int64.ofNat 0) 0 .null .null (by omega) (by omega) (by omega) (by
    intro r r0 r1
    rw [zby_0]
    split
    · rw [hz _ (by omega) (by omega)]
    · rfl) (by
    intro r r0 r1
    rw [zby_0]
    split
    · split
      · rw [hz _ (by omega) (by omega)]
      · rfl
    · rw [hz _ (by omega) (by omega)]) (by
    rw [hz2 _ (by omega) (by omega), Int.mul_zero])
  refine ⟨J', ?_, q3⟩
  rw [← q2, ← q1, ze_176_0]
  simp (disch := first | omega | assumption | (simp (disch := omega) only [vup_fn, vup_o, vup_k, vup_at]; first | done | omega | assumption)) only [e23, e24, e25, Int.add_zero, ↓reduceIte, qw_id, zck_T, zck_t, zGor_v, zGor_n, zGor_e, zbs, vup_at, vup_vup, vup_self, vup_o, vup_k, vup_fn, ne_eq, not_true_eq_false, not_false_eq_true, and_true, true_and, and_self, and_false, false_and, or_true, true_or, or_self, or_false, false_or, xlt_t, xlt_f, xle_t, xle_f, xeq_t, xeq_f, xand_f, xor_t]
end
