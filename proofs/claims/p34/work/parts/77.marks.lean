/-! part 77: sets of corrections in the class -/
theorem yCt_cong {H H' : Int → Int} : ∀ n : Nat, (∀ x : Int, 0 ≤ x → x < n → (H' x ≠ 0 ↔ H x ≠ 0)) → yCt H' n = yCt H n
  | 0, _ => rfl
  | n + 1, h => by
    have e := yCt_cong n (fun x x0 x1 => h x x0 (by omega))
    have g := h n (by omega) (by omega)
    show yCt H' n + (if H' n ≠ 0 then 1 else 0) = yCt H n + (if H n ≠ 0 then 1 else 0)
    rw [e]
    by_cases q : H n ≠ 0
    · rw [if_pos q, if_pos (g.2 q)]
    · rw [if_neg q, if_neg (fun w => q (g.1 w))]
theorem yCt_set {H H' : Int → Int} {c : Int} (hc : 0 ≤ c) (h0 : H c = 0) (h1 : H' c ≠ 0) (hs : ∀ x, x ≠ c → H' x = H x) : ∀ n : Nat, yCt H' n = yCt H n + if c < n then 1 else 0
  | 0 => by rw [if_neg (by omega)]; rfl
  | n + 1 => by
    have e := yCt_set hc h0 h1 hs n
    show yCt H' n + (if H' n ≠ 0 then 1 else 0) = yCt H n + (if H n ≠ 0 then 1 else 0) + _
    rw [e]
    by_cases q : (n : Int) = c
    · rw [q, if_neg (show ¬ c < c by omega), if_pos h1, if_neg (show ¬ H c ≠ 0 from fun w => w h0), if_pos (by omega)]
    · rw [hs n q]
      by_cases r : c < n
      · rw [if_pos r, if_pos (show c < ((n + 1 : Nat) : Int) by omega)]
        omega
      · rw [if_neg r, if_neg (show ¬ c < ((n + 1 : Nat) : Int) by omega)]
        omega
theorem yCt_rng (H : Int → Int) : ∀ n : Nat, 0 ≤ yCt H n ∧ yCt H n ≤ n
  | 0 => ⟨Int.le_refl 0, Int.le_refl 0⟩
  | n + 1 => by
    have e := yCt_rng H n
    show 0 ≤ yCt H n + (if H n ≠ 0 then 1 else 0) ∧ yCt H n + (if H n ≠ 0 then 1 else 0) ≤ ((n + 1 : Nat) : Int)
    split
    · omega
    · omega
theorem yCt_0 {H : Int → Int} : ∀ n : Nat, (∀ x : Int, 0 ≤ x → x < n → H x = 0) → yCt H n = 0
  | 0, _ => rfl
  | n + 1, h => by
    have e := yCt_0 n (fun x x0 x1 => h x x0 (by omega))
    show yCt H n + (if H n ≠ 0 then 1 else 0) = 0
    rw [e, if_neg (fun w => w (h n (by omega) (by omega)))]
    rfl
section
variable {J : zJt} {d : Nat → Nat → UInt64}
theorem sl26 {X Y : Nat} (hX : zBk 4 X) (hY : zBk 4 Y) (hne : X ≠ Y) (h1 : X ≠ Y + 1) (h2 : X + 1 ≠ Y) (n : Nat) : ∀ (V : zVt) (k : Int), 0 ≤ k → 200 = k + n → (∀ c, 0 ≤ c → c < 200 → V (Y + 1) c = 0 ∨ V (Y + 1) c = 1) → ∃ V', zGo false 26 2 [.ref X, .ref Y, .int (zi k)] [] (zm V J d) = zN1 V' J d ∧ (∀ c, k ≤ c → c < 200 → V' (X + 1) c = V (Y + 1) c) ∧ (∀ c, ¬(k ≤ c ∧ c < 200) → V' (X + 1) c = V (X + 1) c) ∧ V' X 1 = V Y 1 ∧ (∀ x, x ≠ 1 → V' X x = V X x) ∧ ∀ o : Nat, o ≠ X → o ≠ X + 1 → V' o = V o := by
  induction n with
  | zero =>
    intro V k k0 hk hV
    refine ⟨vup V X 1 (V Y 1), ?_, fun c c0 c1 => by omega, fun c _ => vup_o (by omega), vup_at _ _ _ _, fun x hx => vup_k hx, fun o o1 _ => vup_fn o1⟩
    rw [ze_26_2 _ _ _ hX hY]
    simp (disch := first | omega | assumption | (simp (disch := omega) only [vup_fn, vup_o, vup_k, vup_at]; first | done | omega | assumption)) only [Int.add_zero, ↓reduceIte, qw_id, zck_T, zck_t, zGor_v, zGor_n, zGor_e, zbs, vup_at, vup_vup, vup_self, vup_o, vup_k, vup_fn, ne_eq, not_true_eq_false, not_false_eq_true, and_true, true_and, and_self, and_false, false_and, or_true, true_or, or_self, or_false, false_or, xlt_t, xlt_f, xle_t, xle_f, xeq_t, xeq_f, xand_f, xor_t]
  | succ n ih =>
    intro V k k0 hk hV
    have hy := hV k k0 (by omega)
    obtain ⟨V', q1, q2, q3, q4, q5, q6⟩ := ih (vup V (X + 1) k (V (Y + 1) k)) (k + 1) (by omega) (by omega) (fun c c0 c1 => by rw [vup_o (by omega)]; exact hV c c0 c1)
    refine ⟨V', ?_, ?_, ?_, ?_, ?_, ?_⟩
    · rw [ze_26_2 _ _ _ hX hY]
      simp (disch := first | omega | assumption | (simp (disch := omega) only [vup_fn, vup_o, vup_k, vup_at]; first | done | omega | assumption)) only [q1, Int.add_zero, ↓reduceIte, qw_id, zck_T, zck_t, zGor_v, zGor_n, zGor_e, zbs, vup_at, vup_vup, vup_self, vup_o, vup_k, vup_fn, ne_eq, not_true_eq_false, not_false_eq_true, and_true, true_and, and_self, and_false, false_and, or_true, true_or, or_self, or_false, false_or, xlt_t, xlt_f, xle_t, xle_f, xeq_t, xeq_f, xand_f, xor_t]
    · intro c c0 c1
      by_cases e : c = k
      · rw [q3 c (by omega), e, vup_at]
      · rw [q2 c (by omega) c1, vup_o (by omega)]
    · intro c hc
      rw [q3 c (by omega), vup_k (by omega)]
    · rw [q4, vup_o (by omega)]
    · intro x hx
      rw [q5 x hx, vup_o (by omega)]
    · intro o o1 o2
      rw [q6 o o1 o2, vup_fn o2]
theorem sp28 {V : zVt} {X : Nat} {k : Int} (hX : zBk 4 X) (hk : 0 ≤ k ∧ k < 200) (hv : V (X + 1) k = 0 ∨ V (X + 1) k = 1) : zGo false 28 0 [.ref X, .int (zi k)] [] (zm V J d) = zN1 (if V (X + 1) k ≠ 0 then V else vup (vup V (X + 1) k 1) X 1 (V X 1 + 1)) J d := by
  by_cases h : V (X + 1) k ≠ 0
  · rw [if_pos h]
    simp (disch := first | omega | assumption | (simp (disch := omega) only [vup_fn, vup_o, vup_k, vup_at]; first | done | omega | assumption)) only [ze_28_0, ze_28_37, Int.add_zero, ↓reduceIte, qw_id, zck_T, zck_t, zGor_v, zGor_n, zGor_e, zbs, vup_at, vup_vup, vup_self, vup_o, vup_k, vup_fn, ne_eq, not_true_eq_false, not_false_eq_true, and_true, true_and, and_self, and_false, false_and, or_true, true_or, or_self, or_false, false_or, xlt_t, xlt_f, xle_t, xle_f, xeq_t, xeq_f, xand_f, xor_t]
  · rw [if_neg h]
    simp (disch := first | omega | assumption | (simp (disch := omega) only [vup_fn, vup_o, vup_k, vup_at]; first | done | omega | assumption)) only [ze_28_0, ze_28_37, Int.add_zero, ↓reduceIte, qw_id, zck_T, zck_t, zGor_v, zGor_n, zGor_e, zbs, vup_at, vup_vup, vup_self, vup_o, vup_k, vup_fn, ne_eq, not_true_eq_false, not_false_eq_true, and_true, true_and, and_self, and_false, false_and, or_true, true_or, or_self, or_false, false_or, xlt_t, xlt_f, xle_t, xle_f, xeq_t, xeq_f, xand_f, xor_t]
theorem sl27 {X Y : Nat} {x2 : Int} (hX : zBk 4 X) (hY : zBk 4 Y) (hne : X ≠ Y) (h1 : X ≠ Y + 1) (h2 : X + 1 ≠ Y) (n : Nat) : ∀ (V : zVt) (k : Int), 0 ≤ k → 200 = k + n → (∀ c, 0 ≤ c → c < 200 → V (Y + 1) c = 0 ∨ V (Y + 1) c = 1) → (∀ c, 0 ≤ c → c < 200 → V (X + 1) c = 0 ∨ V (X + 1) c = 1) → V X 1 = yCt (V (X + 1)) 200 → ∃ V', zGo false 27 7 [.ref X, .ref Y, .int (zi x2), .int (zi k)] [] (zm V J d) = zI1 (V' X 1 - x2) V' J d ∧ (∀ c, k ≤ c → c < 200 → V' (X + 1) c = if V (Y + 1) c ≠ 0 then 1 else V (X + 1) c) ∧ (∀ c, ¬(k ≤ c ∧ c < 200) → V' (X + 1) c = V (X + 1) c) ∧ V' X 1 = yCt (V' (X + 1)) 200 ∧ (∀ x, x ≠ 1 → V' X x = V X x) ∧ ∀ o : Nat, o ≠ X → o ≠ X + 1 → V' o = V o := by
  induction n with
  | zero =>
    intro V k k0 hk hV hW hs
    refine ⟨V, ?_, fun c c0 c1 => by omega, fun c _ => rfl, hs, fun x hx => rfl, fun o o1 _ => rfl⟩
    rw [ze_27_7 _ _ _ _ hX hY]
    simp (disch := first | omega | assumption | (simp (disch := omega) only [vup_fn, vup_o, vup_k, vup_at]; first | done | omega | assumption)) only [Int.add_zero, ↓reduceIte, qw_id, zck_T, zck_t, zGor_v, zGor_n, zGor_e, zbs, vup_at, vup_vup, vup_self, vup_o, vup_k, vup_fn, ne_eq, not_true_eq_false, not_false_eq_true, and_true, true_and, and_self, and_false, false_and, or_true, true_or, or_self, or_false, false_or, xlt_t, xlt_f, xle_t, xle_f, xeq_t, xeq_f, xand_f, xor_t]
  | succ n ih =>
    intro V k k0 hk hV hW hs
    have hy := hV k k0 (by omega)
    have hx := hW k k0 (by omega)
    have e28 := sp28 (J := J) (d := d) hX ⟨k0, by omega⟩ hx
    by_cases a : V (Y + 1) k ≠ 0
    · by_cases b : V (X + 1) k ≠ 0
      · rw [if_pos b] at e28
        obtain ⟨V', q1, q2, q3, q4, q5, q6⟩ := ih V (k + 1) (by omega) (by omega) hV hW hs
        refine ⟨V', ?_, ?_, fun c hc => q3 c (by omega), q4, q5, q6⟩
        · rw [ze_27_7 _ _ _ _ hX hY]
          simp (disch := first | omega | assumption | (simp (disch := omega) only [vup_fn, vup_o, vup_k, vup_at]; first | done | omega | assumption)) only [e28, ze_27_28, q1, Int.add_zero, ↓reduceIte, qw_id, zck_T, zck_t, zGor_v, zGor_n, zGor_e, zbs, vup_at, vup_vup, vup_self, vup_o, vup_k, vup_fn, ne_eq, not_true_eq_false, not_false_eq_true, and_true, true_and, and_self, and_false, false_and, or_true, true_or, or_self, or_false, false_or, xlt_t, xlt_f, xle_t, xle_f, xeq_t, xeq_f, xand_f, xor_t]
        · intro c c0 c1
          by_cases e : c = k
          · rw [q3 c (by omega), e, if_pos a]
            omega
          · exact q2 c (by omega) c1
      · rw [if_neg b] at e28
        have b0 : V (X + 1) k = 0 := by omega
        obtain ⟨V', q1, q2, q3, q4, q5, q6⟩ := ih (vup (vup V (X + 1) k 1) X 1 (V X 1 + 1)) (k + 1) (by omega) (by omega) (fun c c0 c1 => by rw [vup_o (by omega), vup_o (by omega)]; exact hV c c0 c1) (fun c c0 c1 => by
          rw [vup_o (by omega)]
          by_cases e : c = k
          · rw [e, vup_at]; exact Or.inr rfl
          · rw [vup_k e]; exact hW c c0 c1) (by
          rw [vup_at, vup_fn (show X + 1 ≠ X by omega), yCt_set (H := V (X + 1)) k0 b0 (by rw [vup_at]; decide) (fun x hx => vup_k hx) 200, if_pos (by omega), hs])
        refine ⟨V', ?_, ?_, ?_, q4, ?_, ?_⟩
        · rw [ze_27_7 _ _ _ _ hX hY]
          simp (disch := first | omega | assumption | (simp (disch := omega) only [vup_fn, vup_o, vup_k, vup_at]; first | done | omega | assumption)) only [e28, ze_27_28, q1, Int.add_zero, ↓reduceIte, qw_id, zck_T, zck_t, zGor_v, zGor_n, zGor_e, zbs, vup_at, vup_vup, vup_self, vup_o, vup_k, vup_fn, ne_eq, not_true_eq_false, not_false_eq_true, and_true, true_and, and_self, and_false, false_and, or_true, true_or, or_self, or_false, false_or, xlt_t, xlt_f, xle_t, xle_f, xeq_t, xeq_f, xand_f, xor_t]
        · intro c c0 c1
          by_cases e : c = k
          · rw [q3 c (by omega), e, if_pos a, vup_o (by omega), vup_at]
          · rw [q2 c (by omega) c1, vup_o (by omega), vup_o (by omega), vup_o (by omega), vup_k e]
        · intro c hc
          rw [q3 c (by omega), vup_o (by omega), vup_k (by omega)]
        · intro x hx
          rw [q5 x hx, vup_k hx, vup_o (by omega)]
        · intro o o1 o2
          rw [q6 o o1 o2, vup_fn o1, vup_fn o2]
    · obtain ⟨V', q1, q2, q3, q4, q5, q6⟩ := ih V (k + 1) (by omega) (by omega) hV hW hs
      refine ⟨V', ?_, ?_, fun c hc => q3 c (by omega), q4, q5, q6⟩
      · rw [ze_27_7 _ _ _ _ hX hY]
        simp (disch := first | omega | assumption | (simp (disch := omega) only [vup_fn, vup_o, vup_k, vup_at]; first | done | omega | assumption)) only [ze_27_28, q1, Int.add_zero, ↓reduceIte, qw_id, zck_T, zck_t, zGor_v, zGor_n, zGor_e, zbs, vup_at, vup_vup, vup_self, vup_o, vup_k, vup_fn, ne_eq, not_true_eq_false, not_false_eq_true, and_true, true_and, and_self, and_false, false_and, or_true, true_or, or_self, or_false, false_or, xlt_t, xlt_f, xle_t, xle_f, xeq_t, xeq_f, xand_f, xor_t]
      · intro c c0 c1
        by_cases e : c = k
        · rw [q3 c (by omega), e, if_neg a]
        · exact q2 c (by omega) c1
end
