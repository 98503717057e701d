/-! part 92: judging in the class -/
/-- copy j is lent, of piece p -/
abbrev oLe (V : zVt) (p j : Int) : Prop := (0 ≤ j ∧ j < V 480 37) ∧ V 455 j ≠ -1 ∧ V 454 j / 4 = p
/-- two musics are sung alike -/
def oAk (V : zVt) (J : zJt) (M1 M2 : Nat) : Prop := V M1 2 = V M2 2 ∧ ∀ b, 0 ≤ b → b < V M1 2 → J (M1 + 1) (2 * b) = J (M2 + 1) (2 * b) ∧ J (M1 + 1) (2 * b + 1) = J (M2 + 1) (2 * b + 1)
/-- two musics are even -/
def oEv (V : zVt) (M1 M2 : Nat) : Prop := V M1 2 = V M2 2 ∧ (V M1 2 = 0 ∨ V M1 3 = V M2 3)
def oP1 (V : zVt) (p : Int) : Prop := ∀ v, 0 ≤ v → v < 4 → ∃ j, oLe V p j ∧ V 454 j % 4 = v
def oP2 (V : zVt) (p : Int) : Prop := ∃ j, oLe V p j ∧ V (233 + 5 * j.toNat) 0 ≠ 0
def oP3 (V : zVt) (J : zJt) (p : Int) : Prop := ∃ j o, o < j ∧ oLe V p j ∧ oLe V p o ∧ V 454 j = V 454 o ∧ ¬ oAk V J (233 + 5 * j.toNat) (233 + 5 * o.toNat)
def oP4 (V : zVt) (p : Int) : Prop := ∃ j o, o < j ∧ oLe V p j ∧ oLe V p o ∧ ¬ oEv V (233 + 5 * j.toNat) (233 + 5 * o.toNat)
def oP5 (V : zVt) (J : zJt) (p : Int) : Prop := ∃ j b, oLe V p j ∧ (0 ≤ b ∧ b < V (233 + 5 * j.toNat) 2) ∧ oKi V J ((V 455 j * 12 + V 454 j) * 40 + b) (233 + 5 * j.toNat) b = 0
/-- the verdict -/
def oVd (V : zVt) (J : zJt) (p x : Int) : Prop := x = 1 ∧ ¬ oP1 V p ∨ x = 2 ∧ oP1 V p ∧ oP2 V p ∨ x = 3 ∧ oP1 V p ∧ ¬ oP2 V p ∧ oP3 V J p ∨ x = 4 ∧ oP1 V p ∧ ¬ oP2 V p ∧ ¬ oP3 V J p ∧ oP4 V p ∨ x = 5 ∧ oP1 V p ∧ ¬ oP2 V p ∧ ¬ oP3 V J p ∧ ¬ oP4 V p ∧ oP5 V J p ∨ x = 0 ∧ oP1 V p ∧ ¬ oP2 V p ∧ ¬ oP3 V J p ∧ ¬ oP4 V p ∧ ¬ oP5 V J p
theorem oVd_un {V : zVt} {J : zJt} {p x y : Int} (h : oVd V J p x) (h2 : oVd V J p y) : x = y := by
  rcases h with ⟨a, b⟩ | ⟨a, b, c⟩ | ⟨a, b, c, e⟩ | ⟨a, b, c, e, f⟩ | ⟨a, b, c, e, f, g⟩ | ⟨a, b, c, e, f, g⟩ <;> rcases h2 with ⟨a', b'⟩ | ⟨a', b', c'⟩ | ⟨a', b', c', e'⟩ | ⟨a', b', c', e', f'⟩ | ⟨a', b', c', e', f', g'⟩ | ⟨a', b', c', e', f', g'⟩ <;> first | exact a.trans a'.symm | contradiction
theorem oVd_rng {V : zVt} {J : zJt} {p x : Int} (h : oVd V J p x) : 0 ≤ x ∧ x ≤ 5 := by
  rcases h with ⟨a, _⟩ | ⟨a, _⟩ | ⟨a, _⟩ | ⟨a, _⟩ | ⟨a, _⟩ | ⟨a, _⟩ <;> omega
theorem oAk_s {V : zVt} {J : zJt} {M1 M2 : Nat} (h : oAk V J M1 M2) : oAk V J M2 M1 := ⟨h.1.symm, fun b b0 b1 => by
  have q := h.2 b b0 (by rw [h.1]; exact b1)
  exact ⟨q.1.symm, q.2.symm⟩⟩
theorem oAk_t {V : zVt} {J : zJt} {M1 M2 M3 : Nat} (h : oAk V J M1 M2) (h2 : oAk V J M2 M3) : oAk V J M1 M3 := ⟨h.1.trans h2.1, fun b b0 b1 => by
  have q := h.2 b b0 b1
  have q2 := h2.2 b b0 (by rw [← h.1]; exact b1)
  exact ⟨q.1.trans q2.1, q.2.trans q2.2⟩⟩
theorem oEv_s {V : zVt} {M1 M2 : Nat} (h : oEv V M1 M2) : oEv V M2 M1 := by
  unfold oEv at *
  omega
theorem oEv_t {V : zVt} {M1 M2 M3 : Nat} (h : oEv V M1 M2) (h2 : oEv V M2 M3) : oEv V M1 M3 := by
  unfold oEv at *
  omega
theorem cUn_0 {V : zVt} {J : zJt} {M1 M2 : Nat} : ∀ n : Nat, (∀ b : Int, 0 ≤ b → b < n → cDf V J M1 M2 b = 0) ↔ cUn V J M1 M2 n = 0
  | 0 => ⟨fun _ => rfl, fun _ b b0 b1 => by omega⟩
  | n + 1 => by
    have ih := cUn_0 (V := V) (J := J) (M1 := M1) (M2 := M2) n
    have r := cUn_rng V J M1 M2 n
    have r2 := cDf_01 V J M1 M2 n
    show _ ↔ cUn V J M1 M2 n + cDf V J M1 M2 n = 0
    constructor
    · intro h
      have h1 := ih.1 (fun b b0 b1 => h b b0 (by omega))
      have h2 := h n (by omega) (by omega)
      omega
    · intro h b b0 b1
      by_cases e : b = n
      · rw [e]
        omega
      · exact ih.2 (by omega) b b0 (by omega)
theorem cUn_ak {V : zVt} {J : zJt} {M1 M2 : Nat} (r1 : 0 ≤ V M1 2) (r2 : 0 ≤ V M2 2) : cUn V J M1 M2 (cMx (V M1 2) (V M2 2)).toNat = 0 ↔ oAk V J M1 M2 := by
  have hmx : cMx (V M1 2) (V M2 2) = V M1 2 ∧ V M2 2 ≤ V M1 2 ∨ cMx (V M1 2) (V M2 2) = V M2 2 ∧ V M1 2 ≤ V M2 2 := by
    unfold cMx
    split
    · right; omega
    · left; omega
  rw [← cUn_0]
  have hcd : ∀ b, cDf V J M1 M2 b = 0 ↔ (b < V M1 2 ∧ b < V M2 2) ∧ J (M1 + 1) (2 * b) = J (M2 + 1) (2 * b) ∧ J (M1 + 1) (2 * b + 1) = J (M2 + 1) (2 * b + 1) := fun b => by
    unfold cDf
    split
    · rename_i q
      exact ⟨fun _ => q, fun _ => rfl⟩
    · rename_i q
      exact ⟨fun w => absurd w (by decide), fun w => absurd w q⟩
  constructor
  · intro h
    have he : V M1 2 = V M2 2 := by
      by_cases e : V M1 2 = V M2 2
      · exact e
      · have := (hcd (cMx (V M1 2) (V M2 2) - 1)).1 (h _ (by omega) (by omega))
        omega
    exact ⟨he, fun b b0 b1 => ((hcd b).1 (h b b0 (by omega))).2⟩
  · intro h b b0 b1
    have h1 := h.1
    exact (hcd b).2 ⟨by omega, h.2 b b0 (by omega)⟩
theorem os15 : ∀ x : Fin 16, ∀ v : Fin 4, qor ((x : Nat) : Int) (qshl 1 ((v : Nat) : Int)) = if ((x : Nat) : Int) / ((2 ^ (v : Nat) : Nat) : Int) % 2 = 1 then ((x : Nat) : Int) else ((x : Nat) : Int) + ((2 ^ (v : Nat) : Nat) : Int) := by decide
theorem qor_4 {x v : Int} (hx : 0 ≤ x ∧ x < 16) (hv : 0 ≤ v ∧ v < 4) : qor x (qshl 1 v) = if x / ((2 ^ v.toNat : Nat) : Int) % 2 = 1 then x else x + ((2 ^ v.toNat : Nat) : Int) := by
  have h := os15 ⟨x.toNat, by omega⟩ ⟨v.toNat, by omega⟩
  simp only [Int.toNat_of_nonneg hx.1, Int.toNat_of_nonneg hv.1] at h
  exact h
section
variable {V : zVt} {J : zJt} {N p : Int} {d : Nat → Nat → UInt64}
theorem sp1 (h : zInv N V J) {k : Nat} (hk : (k : Int) < V 480 37) (hp : -2147483648 ≤ p ∧ p < 2147483648) : zGo false 1 0 [.ref (230 + 5 * k), .int (zi p)] [] (zm V J d) = zI1 (if V 455 k ≠ -1 ∧ V 454 k / 4 = p then 1 else 0) V J d := by
  have h37 := h.2.2.2.1
  obtain ⟨_, c2, c3, c4, c5⟩ := iCp_ms h (c := k) ⟨by omega, hk⟩
  rw [Int.toNat_natCast] at c3 c4
  have hB := zBk_copy (i := k) (by omega)
  have hdv := qdiv_p (a := V 454 k) (b := 4) (by omega) (by omega)
  by_cases h1 : V 455 k = -1
  · rw [if_neg (fun w => w.1 h1)]
    simp (disch := first | omega | assumption | (simp (disch := omega) only [vup_fn, vup_o, vup_k, vup_at]; first | done | omega | assumption)) only [ze_1_0, ze_1_22, ze_1_23, c4, Int.add_zero, ↓reduceIte, qw_id, zck_T, zck_t, zGor_v, zGor_n, zGor_e, zbs, vup_at, vup_vup, vup_self, vup_o, vup_k, vup_fn, ne_eq, not_true_eq_false, not_false_eq_true, and_true, true_and, and_self, and_false, false_and, or_true, true_or, or_self, or_false, false_or, xlt_t, xlt_f, xle_t, xle_f, xeq_t, xeq_f, xand_f, xor_t]
  · by_cases h2 : V 454 k / 4 = p
    · rw [if_pos ⟨h1, h2⟩]
      simp (disch := first | omega | assumption | (simp (disch := omega) only [vup_fn, vup_o, vup_k, vup_at]; first | done | omega | assumption)) only [ze_1_0, ze_1_22, ze_1_23, c3, c4, hdv, Int.add_zero, ↓reduceIte, qw_id, zck_T, zck_t, zGor_v, zGor_n, zGor_e, zbs, vup_at, vup_vup, vup_self, vup_o, vup_k, vup_fn, ne_eq, not_true_eq_false, not_false_eq_true, and_true, true_and, and_self, and_false, false_and, or_true, true_or, or_self, or_false, false_or, xlt_t, xlt_f, xle_t, xle_f, xeq_t, xeq_f, xand_f, xor_t]
    · rw [if_neg (fun w => h2 w.2)]
      simp (disch := first | omega | assumption | (simp (disch := omega) only [vup_fn, vup_o, vup_k, vup_at]; first | done | omega | assumption)) only [ze_1_0, ze_1_22, ze_1_23, c3, c4, hdv, Int.add_zero, ↓reduceIte, qw_id, zck_T, zck_t, zGor_v, zGor_n, zGor_e, zbs, vup_at, vup_vup, vup_self, vup_o, vup_k, vup_fn, ne_eq, not_true_eq_false, not_false_eq_true, and_true, true_and, and_self, and_false, false_and, or_true, true_or, or_self, or_false, false_or, xlt_t, xlt_f, xle_t, xle_f, xeq_t, xeq_f, xand_f, xor_t]
theorem sl137 (h : zInv N V J) (hp : -2147483648 ≤ p ∧ p < 2147483648) (n : Nat) : ∀ (k : Nat) (x : Int), V 480 37 = k + n → (0 ≤ x ∧ x < 16) → ((x % 2 = 1 ↔ ∃ j : Int, (j < k ∧ oLe V p j) ∧ V 454 j % 4 = 0) ∧ (x / 2 % 2 = 1 ↔ ∃ j : Int, (j < k ∧ oLe V p j) ∧ V 454 j % 4 = 1) ∧ (x / 4 % 2 = 1 ↔ ∃ j : Int, (j < k ∧ oLe V p j) ∧ V 454 j % 4 = 2) ∧ (x / 8 % 2 = 1 ↔ ∃ j : Int, (j < k ∧ oLe V p j) ∧ V 454 j % 4 = 3)) → ∃ y : Int, (y = 0 ∨ y = 1) ∧ (y = 1 ↔ oP1 V p) ∧ zGo false 137 4 [.ref 0, .int (zi p), .int (zi x), .int (zi k)] [] (zm V J d) = zI1 y V J d := by
  have h37 := h.2.2.2.1
  induction n with
  | zero =>
    intro k x hk hx hb
    obtain ⟨b0, b1, b2, b3⟩ := hb
    have hs : ∀ v : Int, (∃ j, (j < (k : Int) ∧ oLe V p j) ∧ V 454 j % 4 = v) ↔ ∃ j, oLe V p j ∧ V 454 j % 4 = v := fun v => ⟨fun ⟨j, j1, j2⟩ => ⟨j, j1.2, j2⟩, fun ⟨j, j1, j2⟩ => ⟨j, ⟨by have := j1.1; omega, j1⟩, j2⟩⟩
    rw [hs] at b0 b1 b2 b3
    by_cases q : x = 15
    · refine ⟨1, Or.inr rfl, ⟨fun _ => ?_, fun _ => rfl⟩, ?_⟩
      · have c0 := b0.1 (by omega)
        have c1 := b1.1 (by omega)
        have c2 := b2.1 (by omega)
        have c3 := b3.1 (by omega)
        intro v v0 v1
        rcases (show v = 0 ∨ v = 1 ∨ v = 2 ∨ v = 3 by omega) with e | e | e | e
        · rw [e]; exact c0
        · rw [e]; exact c1
        · rw [e]; exact c2
        · rw [e]; exact c3
      · clear b0 b1 b2 b3
        rw [ze_137_4]
        simp (disch := first | omega | assumption | (simp (disch := omega) only [vup_fn, vup_o, vup_k, vup_at]; first | done | omega | assumption)) only [ze_137_58, Int.add_zero, ↓reduceIte, qw_id, zck_T, zck_t, zGor_v, zGor_n, zGor_e, zbs, vup_at, vup_vup, vup_self, vup_o, vup_k, vup_fn, ne_eq, not_true_eq_false, not_false_eq_true, and_true, true_and, and_self, and_false, false_and, or_true, true_or, or_self, or_false, false_or, xlt_t, xlt_f, xle_t, xle_f, xeq_t, xeq_f, xand_f, xor_t]
    · refine ⟨0, Or.inl rfl, ⟨fun w => absurd w (by decide), fun w => ?_⟩, ?_⟩
      · have c0 := b0.2 (w 0 (by decide) (by decide))
        have c1 := b1.2 (w 1 (by decide) (by decide))
        have c2 := b2.2 (w 2 (by decide) (by decide))
        have c3 := b3.2 (w 3 (by decide) (by decide))
        clear b0 b1 b2 b3 w
        omega
      · clear b0 b1 b2 b3
        rw [ze_137_4]
        simp (disch := first | omega | assumption | (simp (disch := omega) only [vup_fn, vup_o, vup_k, vup_at]; first | done | omega | assumption)) only [ze_137_58, Int.add_zero, ↓reduceIte, qw_id, zck_T, zck_t, zGor_v, zGor_n, zGor_e, zbs, vup_at, vup_vup, vup_self, vup_o, vup_k, vup_fn, ne_eq, not_true_eq_false, not_false_eq_true, and_true, true_and, and_self, and_false, false_and, or_true, true_or, or_self, or_false, false_or, xlt_t, xlt_f, xle_t, xle_f, xeq_t, xeq_f, xand_f, xor_t]
  | succ n ih =>
    intro k x hk hx hb
    have e1 := sp1 (d := d) h (k := k) (p := p) (by omega) hp
    obtain ⟨_, c2, c3, c4, c5⟩ := iCp_ms h (c := k) ⟨by omega, by omega⟩
    rw [Int.toNat_natCast] at c3
    have hkn : ((k : Nat) : Int).toNat = k := by omega
    have hk1 : ((k : Nat) : Int) + 1 = ((k + 1 : Nat) : Int) := by omega
    have hstep : ∀ v : Int, (∃ j, (j < ((k + 1 : Nat) : Int) ∧ oLe V p j) ∧ V 454 j % 4 = v) ↔ ((∃ j, (j < (k : Int) ∧ oLe V p j) ∧ V 454 j % 4 = v) ∨ (V 455 k ≠ -1 ∧ V 454 k / 4 = p) ∧ V 454 k % 4 = v) := fun v => by
      constructor
      · rintro ⟨j, j1, j2⟩
        by_cases e : j = k
        · rw [e] at j1 j2
          exact Or.inr ⟨j1.2.2, j2⟩
        · exact Or.inl ⟨j, ⟨by have := j1.1; omega, j1.2⟩, j2⟩
      · rintro (⟨j, j1, j2⟩ | ⟨q1, q2⟩)
        · exact ⟨j, ⟨by have := j1.1; omega, j1.2⟩, j2⟩
        · exact ⟨k, ⟨by omega, ⟨by omega, by omega⟩, q1⟩, q2⟩
    by_cases hl : V 455 k ≠ -1 ∧ V 454 k / 4 = p
    · rw [if_pos hl] at e1
      obtain ⟨v, hv⟩ : ∃ v, V 454 k % 4 = v := ⟨_, rfl⟩
      have hv4 : 0 ≤ v ∧ v < 4 := by omega
      have hrm := qrem_p (a := V 454 k) (b := 4) (by omega) (by omega)
      rw [hv] at hrm
      have hor := qor_4 hx hv4
      obtain ⟨z, hz⟩ : ∃ z, qor x (qshl 1 v) = z := ⟨_, rfl⟩
      obtain ⟨y, y1, y2, y3⟩ := ih (k + 1) z (by omega) (by
        rw [hz] at hor
        rcases (show v = 0 ∨ v = 1 ∨ v = 2 ∨ v = 3 by omega) with e | e | e | e
        · subst e
          rw [show ((2 ^ (0 : Int).toNat : Nat) : Int) = 1 from rfl] at hor
          split at hor <;> omega
        · subst e
          rw [show ((2 ^ (1 : Int).toNat : Nat) : Int) = 2 from rfl] at hor
          split at hor <;> omega
        · subst e
          rw [show ((2 ^ (2 : Int).toNat : Nat) : Int) = 4 from rfl] at hor
          split at hor <;> omega
        · subst e
          rw [show ((2 ^ (3 : Int).toNat : Nat) : Int) = 8 from rfl] at hor
          split at hor <;> omega) (by
        rw [hz] at hor
        rw [hstep, hstep, hstep, hstep, ← hb.1, ← hb.2.1, ← hb.2.2.1, ← hb.2.2.2, hv]
        clear hb hstep ih
        have q1 : (V 455 k ≠ -1 ∧ V 454 k / 4 = p) = True := eq_true hl
        rw [q1]
        simp only [true_and]
        rcases (show v = 0 ∨ v = 1 ∨ v = 2 ∨ v = 3 by omega) with e | e | e | e
        · subst e
          rw [show ((2 ^ (0 : Int).toNat : Nat) : Int) = 1 from rfl] at hor
          split at hor <;> omega
        · subst e
          rw [show ((2 ^ (1 : Int).toNat : Nat) : Int) = 2 from rfl] at hor
          split at hor <;> omega
        · subst e
          rw [show ((2 ^ (2 : Int).toNat : Nat) : Int) = 4 from rfl] at hor
          split at hor <;> omega
        · subst e
          rw [show ((2 ^ (3 : Int).toNat : Nat) : Int) = 8 from rfl] at hor
          split at hor <;> omega)
      refine ⟨y, y1, y2, ?_⟩
      clear hb hstep ih y2
      rw [ze_137_4]
      simp (disch := first | omega | assumption | (simp (disch := omega) only [vup_fn, vup_o, vup_k, vup_at]; first | done | omega | assumption)) only [hkn, e1, ze_137_22, c3, hrm, hz, ze_137_41, hk1, y3, Int.add_zero, ↓reduceIte, qw_id, zck_T, zck_t, zGor_v, zGor_n, zGor_e, zbs, vup_at, vup_vup, vup_self, vup_o, vup_k, vup_fn, ne_eq, not_true_eq_false, not_false_eq_true, and_true, true_and, and_self, and_false, false_and, or_true, true_or, or_self, or_false, false_or, xlt_t, xlt_f, xle_t, xle_f, xeq_t, xeq_f, xand_f, xor_t]
    · rw [if_neg hl] at e1
      obtain ⟨y, y1, y2, y3⟩ := ih (k + 1) x (by omega) hx (by
        have q1 : (V 455 k ≠ -1 ∧ V 454 k / 4 = p) = False := eq_false hl
        rw [hstep, hstep, hstep, hstep, q1]
        simp only [false_and, or_false]
        exact hb)
      refine ⟨y, y1, y2, ?_⟩
      clear hb hstep ih y2
      rw [ze_137_4]
      simp (disch := first | omega | assumption | (simp (disch := omega) only [vup_fn, vup_o, vup_k, vup_at]; first | done | omega | assumption)) only [hkn, e1, ze_137_22, ze_137_41, hk1, y3, Int.add_zero, ↓reduceIte, qw_id, zck_T, zck_t, zGor_v, zGor_n, zGor_e, zbs, vup_at, vup_vup, vup_self, vup_o, vup_k, vup_fn, ne_eq, not_true_eq_false, not_false_eq_true, and_true, true_and, and_self, and_false, false_and, or_true, true_or, or_self, or_false, false_or, xlt_t, xlt_f, xle_t, xle_f, xeq_t, xeq_f, xand_f, xor_t]
theorem sp137 (h : zInv N V J) (hp : -2147483648 ≤ p ∧ p < 2147483648) : ∃ y : Int, (y = 0 ∨ y = 1) ∧ (y = 1 ↔ oP1 V p) ∧ zGo false 137 0 [.ref 0, .int (zi p), .null, .null] [] (zm V J d) = zI1 y V J d := by
  have h37 := h.2.2.2.1
  have hno : ∀ v : Int, ¬∃ j, (j < ((0 : Nat) : Int) ∧ oLe V p j) ∧ V 454 j % 4 = v := fun v ⟨j, j1, j2⟩ => by
    have a1 := j1.1
    have a2 := j1.2.1.1
    omega
  obtain ⟨y, y1, y2, y3⟩ := sl137 (d := d) h hp (V 480 37).toNat 0 0 (by omega) (by omega) ⟨⟨fun w => absurd w (by decide), fun w => absurd w (hno 0)⟩, ⟨fun w => absurd w (by decide), fun w => absurd w (hno 1)⟩, ⟨fun w => absurd w (by decide), fun w => absurd w (hno 2)⟩, ⟨fun w => absurd w (by decide), fun w => absurd w (hno 3)⟩⟩
  exact ⟨y, y1, y2, by rw [ze_137_0]; exact y3⟩
/-- the music of a copy -/
theorem iCp_mk (h : zInv N V J) {k : Nat} (hk : (k : Int) < V 480 37) : zBk 5 (230 + 5 * k + 3) ∧ cMok V (233 + 5 * k) ∧ V (230 + 5 * k) 0 = V 454 k ∧ V (230 + 5 * k) 1 = V 455 k ∧ (0 ≤ V 454 k ∧ V 454 k < 12) ∧ (-1 ≤ V 455 k ∧ V 455 k < 12) ∧ iMs V J (233 + 5 * k) (V 454 k).toNat (V (232 + 5 * k)) ∧ zBk 0 (230 + 5 * k) ∧ k < 40 := by
  have h37 := h.2.2.2.1
  obtain ⟨c1, c2, c3, c4, c5⟩ := iCp_ms h (c := k) ⟨by omega, hk⟩
  rw [Int.toNat_natCast] at c1 c3 c4
  have hB := zBk_copy (i := k) (by omega)
  exact ⟨zBk_0music hB, iMs_mok h (by omega) c1, c3, c4, c2, c5, c1, hB, by omega⟩
theorem sl138 (h : zInv N V J) (hp : -2147483648 ≤ p ∧ p < 2147483648) (n : Nat) : ∀ k : Nat, V 480 37 = k + n → (∀ j, j < (k : Int) → oLe V p j → V (233 + 5 * j.toNat) 0 = 0) → ∃ y : Int, (y = 0 ∨ y = 1) ∧ (y = 1 ↔ oP2 V p) ∧ zGo false 138 2 [.ref 0, .int (zi p), .int (zi k)] [] (zm V J d) = zI1 y V J d := by
  have h37 := h.2.2.2.1
  induction n with
  | zero =>
    intro k hk hb
    refine ⟨0, Or.inl rfl, ⟨fun w => absurd w (by decide), fun ⟨j, j1, j2⟩ => absurd (hb j (by have := j1.1; omega) j1) j2⟩, ?_⟩
    rw [ze_138_2]
    simp (disch := first | omega | assumption | (simp (disch := omega) only [vup_fn, vup_o, vup_k, vup_at]; first | done | omega | assumption)) only [Int.add_zero, ↓reduceIte, qw_id, zck_T, zck_t, zGor_v, zGor_n, zGor_e, zbs, vup_at, vup_vup, vup_self, vup_o, vup_k, vup_fn, ne_eq, not_true_eq_false, not_false_eq_true, and_true, true_and, and_self, and_false, false_and, or_true, true_or, or_self, or_false, false_or, xlt_t, xlt_f, xle_t, xle_f, xeq_t, xeq_f, xand_f, xor_t]
  | succ n ih =>
    intro k hk hb
    have e1 := sp1 (d := d) h (k := k) (p := p) (by omega) hp
    obtain ⟨b5, mk, c3, c4, c2, c5, c1, hB, k40⟩ := iCp_mk h (k := k) (by omega)
    have hkn : ((k : Nat) : Int).toNat = k := by omega
    have hk1 : ((k : Nat) : Int) + 1 = ((k + 1 : Nat) : Int) := by omega
    have f233 : 230 + 5 * k + 3 = 233 + 5 * k := by omega
    have mk0 := mk.1
    by_cases hl : V 455 k ≠ -1 ∧ V 454 k / 4 = p
    · rw [if_pos hl] at e1
      by_cases hw : V (233 + 5 * k) 0 = 0
      · obtain ⟨y, y1, y2, y3⟩ := ih (k + 1) (by omega) (fun j j1 j2 => by
          by_cases e : j = k
          · rw [e, hkn]
            exact hw
          · exact hb j (by omega) j2)
        refine ⟨y, y1, y2, ?_⟩
        rw [ze_138_2]
        simp (disch := first | omega | assumption | (simp (disch := omega) only [vup_fn, vup_o, vup_k, vup_at]; first | done | omega | assumption)) only [hkn, e1, ze_138_20, f233, ze_138_40, hk1, y3, Int.add_zero, ↓reduceIte, qw_id, zck_T, zck_t, zGor_v, zGor_n, zGor_e, zbs, vup_at, vup_vup, vup_self, vup_o, vup_k, vup_fn, ne_eq, not_true_eq_false, not_false_eq_true, and_true, true_and, and_self, and_false, false_and, or_true, true_or, or_self, or_false, false_or, xlt_t, xlt_f, xle_t, xle_f, xeq_t, xeq_f, xand_f, xor_t]
      · refine ⟨1, Or.inr rfl, ⟨fun _ => ⟨k, ⟨⟨by omega, by omega⟩, hl⟩, by rw [hkn]; exact hw⟩, fun _ => rfl⟩, ?_⟩
        rw [ze_138_2]
        simp (disch := first | omega | assumption | (simp (disch := omega) only [vup_fn, vup_o, vup_k, vup_at]; first | done | omega | assumption)) only [hkn, e1, ze_138_20, f233, Int.add_zero, ↓reduceIte, qw_id, zck_T, zck_t, zGor_v, zGor_n, zGor_e, zbs, vup_at, vup_vup, vup_self, vup_o, vup_k, vup_fn, ne_eq, not_true_eq_false, not_false_eq_true, and_true, true_and, and_self, and_false, false_and, or_true, true_or, or_self, or_false, false_or, xlt_t, xlt_f, xle_t, xle_f, xeq_t, xeq_f, xand_f, xor_t]
    · rw [if_neg hl] at e1
      obtain ⟨y, y1, y2, y3⟩ := ih (k + 1) (by omega) (fun j j1 j2 => by
        by_cases e : j = k
        · rw [e] at j2
          exact absurd j2.2 hl
        · exact hb j (by omega) j2)
      refine ⟨y, y1, y2, ?_⟩
      rw [ze_138_2]
      simp (disch := first | omega | assumption | (simp (disch := omega) only [vup_fn, vup_o, vup_k, vup_at]; first | done | omega | assumption)) only [hkn, e1, ze_138_20, ze_138_40, hk1, y3, Int.add_zero, ↓reduceIte, qw_id, zck_T, zck_t, zGor_v, zGor_n, zGor_e, zbs, vup_at, vup_vup, vup_self, vup_o, vup_k, vup_fn, ne_eq, not_true_eq_false, not_false_eq_true, and_true, true_and, and_self, and_false, false_and, or_true, true_or, or_self, or_false, false_or, xlt_t, xlt_f, xle_t, xle_f, xeq_t, xeq_f, xand_f, xor_t]
theorem sl139o (h : zInv N V J) (hp : -2147483648 ≤ p ∧ p < 2147483648) {k : Nat} (hk : (k : Int) < V 480 37) (n : Nat) : ∀ o : Nat, k = o + n → (∀ i, i < (o : Int) → oLe V p k → oLe V p i → V 454 k = V 454 i → oAk V J (233 + 5 * k) (233 + 5 * i.toNat)) → (zGo false 139 12 [.ref 0, .int (zi p), .int (zi k), .int (zi o)] [] (zm V J d) = zI1 1 V J d ∧ oP3 V J p) ∨ (zGo false 139 12 [.ref 0, .int (zi p), .int (zi k), .int (zi o)] [] (zm V J d) = zGo false 139 2 [.ref 0, .int (zi p), .int (zi (k + 1)), .int (zi k)] [] (zm V J d) ∧ ∀ i, i < (k : Int) → oLe V p k → oLe V p i → V 454 k = V 454 i → oAk V J (233 + 5 * k) (233 + 5 * i.toNat)) := by
  have h37 := h.2.2.2.1
  have e1 := sp1 (d := d) h (k := k) (p := p) (by omega) hp
  obtain ⟨b5, mk, c3, c4, c2, c5, c1, hB, k40⟩ := iCp_mk h (k := k) (by omega)
  have hkn : ((k : Nat) : Int).toNat = k := by omega
  induction n with
  | zero =>
    intro o ho hb
    obtain rfl : k = o := by omega
    right
    refine ⟨?_, hb⟩
    rw [ze_139_12]
    simp (disch := first | omega | assumption | (simp (disch := omega) only [vup_fn, vup_o, vup_k, vup_at]; first | done | omega | assumption)) only [Int.add_zero, ↓reduceIte, qw_id, zck_T, zck_t, zGor_v, zGor_n, zGor_e, zbs, vup_at, vup_vup, vup_self, vup_o, vup_k, vup_fn, ne_eq, not_true_eq_false, not_false_eq_true, and_true, true_and, and_self, and_false, false_and, or_true, true_or, or_self, or_false, false_or, xlt_t, xlt_f, xle_t, xle_f, xeq_t, xeq_f, xand_f, xor_t]
  | succ n ih =>
    intro o ho hb
    have e2 := sp1 (d := d) h (k := o) (p := p) (by omega) hp
    obtain ⟨ob5, omk, oc3, oc4, oc2, oc5, oc1, oB, o40⟩ := iCp_mk h (k := o) (by omega)
    have hon : ((o : Nat) : Int).toNat = o := by omega
    have ho1 : ((o : Nat) : Int) + 1 = ((o + 1 : Nat) : Int) := by omega
    have f233 : 230 + 5 * k + 3 = 233 + 5 * k := by omega
    have g233 : 230 + 5 * o + 3 = 233 + 5 * o := by omega
    have e39 := sp39 (V := V) (J := J) (d := d) b5 ob5 (by rw [f233]; exact mk.2.2.1) (by rw [g233]; exact omk.2.2.1)
    have hak := cUn_ak (J := J) mk.2.2.1.1 omk.2.2.1.1
    have hur := cUn_rng V J (233 + 5 * k) (233 + 5 * o) (cMx (V (233 + 5 * k) 2) (V (233 + 5 * o) 2)).toNat
    have hmx : 0 ≤ cMx (V (233 + 5 * k) 2) (V (233 + 5 * o) 2) ∧ cMx (V (233 + 5 * k) 2) (V (233 + 5 * o) 2) ≤ 40 := by
      have q1 := mk.2.2.1
      have q2 := omk.2.2.1
      unfold cMx
      split <;> omega
    rw [f233, g233] at e39
    rw [f233] at b5
    rw [g233] at ob5
    generalize cUn V J (233 + 5 * k) (233 + 5 * o) (cMx (V (233 + 5 * k) 2) (V (233 + 5 * o) 2)).toNat = u at *
    have hnext : (oLe V p k → oLe V p o → V 454 k = V 454 o → oAk V J (233 + 5 * k) (233 + 5 * o)) → ∀ i, i < ((o + 1 : Nat) : Int) → oLe V p k → oLe V p i → V 454 k = V 454 i → oAk V J (233 + 5 * k) (233 + 5 * i.toNat) := fun q i i1 i2 i3 i4 => by
      by_cases e : i = o
      · rw [e] at i3 i4
        rw [e, hon]
        exact q i2 i3 i4
      · exact hb i (by omega) i2 i3 i4
    by_cases hl : V 455 k ≠ -1 ∧ V 454 k / 4 = p
    · rw [if_pos hl] at e1
      by_cases hl2 : V 455 o ≠ -1 ∧ V 454 o / 4 = p
      · rw [if_pos hl2] at e2
        by_cases hs : V 454 k = V 454 o
        · by_cases hu : u = 0
          · have ih2 := ih (o + 1) (by omega) (hnext (fun _ _ _ => hak.1 hu))
            have hst : zGo false 139 12 [.ref 0, .int (zi p), .int (zi k), .int (zi o)] [] (zm V J d) = zGo false 139 12 [.ref 0, .int (zi p), .int (zi k), .int (zi (o + 1 : Nat))] [] (zm V J d) := by
              rw [hu] at e39
              rw [ze_139_12]
              simp (disch := first | omega | assumption | (simp (disch := omega) only [vup_fn, vup_o, vup_k, vup_at]; first | done | omega | assumption)) only [hkn, hon, e1, ze_139_27, e2, ze_139_40, c3, oc3, hs, f233, g233, e39, ze_139_85, ze_139_90, ho1, Int.add_zero, ↓reduceIte, qw_id, zck_T, zck_t, zGor_v, zGor_n, zGor_e, zbs, vup_at, vup_vup, vup_self, vup_o, vup_k, vup_fn, ne_eq, not_true_eq_false, not_false_eq_true, and_true, true_and, and_self, and_false, false_and, or_true, true_or, or_self, or_false, false_or, xlt_t, xlt_f, xle_t, xle_f, xeq_t, xeq_f, xand_f, xor_t]
            rw [hst]
            exact ih2
          · left
            refine ⟨?_, ⟨k, o, by omega, ⟨⟨by omega, by omega⟩, hl⟩, ⟨⟨by omega, by omega⟩, hl2⟩, hs, by rw [hkn, hon]; exact fun w => hu (hak.2 w)⟩⟩
            rw [ze_139_12]
            simp (disch := first | omega | assumption | (simp (disch := omega) only [vup_fn, vup_o, vup_k, vup_at]; first | done | omega | assumption)) only [hkn, hon, e1, ze_139_27, e2, ze_139_40, c3, oc3, hs, f233, g233, e39, ze_139_85, Int.add_zero, ↓reduceIte, qw_id, zck_T, zck_t, zGor_v, zGor_n, zGor_e, zbs, vup_at, vup_vup, vup_self, vup_o, vup_k, vup_fn, ne_eq, not_true_eq_false, not_false_eq_true, and_true, true_and, and_self, and_false, false_and, or_true, true_or, or_self, or_false, false_or, xlt_t, xlt_f, xle_t, xle_f, xeq_t, xeq_f, xand_f, xor_t]
        · have ih2 := ih (o + 1) (by omega) (hnext (fun _ _ w => absurd w hs))
          have hst : zGo false 139 12 [.ref 0, .int (zi p), .int (zi k), .int (zi o)] [] (zm V J d) = zGo false 139 12 [.ref 0, .int (zi p), .int (zi k), .int (zi (o + 1 : Nat))] [] (zm V J d) := by
            rw [ze_139_12]
            simp (disch := first | omega | assumption | (simp (disch := omega) only [vup_fn, vup_o, vup_k, vup_at]; first | done | omega | assumption)) only [hkn, hon, e1, ze_139_27, e2, ze_139_40, c3, oc3, ze_139_90, ho1, Int.add_zero, ↓reduceIte, qw_id, zck_T, zck_t, zGor_v, zGor_n, zGor_e, zbs, vup_at, vup_vup, vup_self, vup_o, vup_k, vup_fn, ne_eq, not_true_eq_false, not_false_eq_true, and_true, true_and, and_self, and_false, false_and, or_true, true_or, or_self, or_false, false_or, xlt_t, xlt_f, xle_t, xle_f, xeq_t, xeq_f, xand_f, xor_t]
          rw [hst]
          exact ih2
      · rw [if_neg hl2] at e2
        have ih2 := ih (o + 1) (by omega) (hnext (fun _ w _ => absurd w.2 hl2))
        have hst : zGo false 139 12 [.ref 0, .int (zi p), .int (zi k), .int (zi o)] [] (zm V J d) = zGo false 139 12 [.ref 0, .int (zi p), .int (zi k), .int (zi (o + 1 : Nat))] [] (zm V J d) := by
          rw [ze_139_12]
          simp (disch := first | omega | assumption | (simp (disch := omega) only [vup_fn, vup_o, vup_k, vup_at]; first | done | omega | assumption)) only [hkn, hon, e1, ze_139_27, e2, ze_139_40, ze_139_90, ho1, Int.add_zero, ↓reduceIte, qw_id, zck_T, zck_t, zGor_v, zGor_n, zGor_e, zbs, vup_at, vup_vup, vup_self, vup_o, vup_k, vup_fn, ne_eq, not_true_eq_false, not_false_eq_true, and_true, true_and, and_self, and_false, false_and, or_true, true_or, or_self, or_false, false_or, xlt_t, xlt_f, xle_t, xle_f, xeq_t, xeq_f, xand_f, xor_t]
        rw [hst]
        exact ih2
    · rw [if_neg hl] at e1
      have ih2 := ih (o + 1) (by omega) (hnext (fun w _ _ => absurd w.2 hl))
      have hst : zGo false 139 12 [.ref 0, .int (zi p), .int (zi k), .int (zi o)] [] (zm V J d) = zGo false 139 12 [.ref 0, .int (zi p), .int (zi k), .int (zi (o + 1 : Nat))] [] (zm V J d) := by
        rw [ze_139_12]
        simp (disch := first | omega | assumption | (simp (disch := omega) only [vup_fn, vup_o, vup_k, vup_at]; first | done | omega | assumption)) only [hkn, e1, ze_139_27, ze_139_90, ho1, Int.add_zero, ↓reduceIte, qw_id, zck_T, zck_t, zGor_v, zGor_n, zGor_e, zbs, vup_at, vup_vup, vup_self, vup_o, vup_k, vup_fn, ne_eq, not_true_eq_false, not_false_eq_true, and_true, true_and, and_self, and_false, false_and, or_true, true_or, or_self, or_false, false_or, xlt_t, xlt_f, xle_t, xle_f, xeq_t, xeq_f, xand_f, xor_t]
      rw [hst]
      exact ih2
theorem sl139 (h : zInv N V J) (hp : -2147483648 ≤ p ∧ p < 2147483648) (n : Nat) : ∀ (k : Nat) (x : Value), V 480 37 = k + n → (∀ j i, j < (k : Int) → i < j → oLe V p j → oLe V p i → V 454 j = V 454 i → oAk V J (233 + 5 * j.toNat) (233 + 5 * i.toNat)) → ∃ y : Int, (y = 0 ∨ y = 1) ∧ (y = 1 ↔ oP3 V J p) ∧ zGo false 139 2 [.ref 0, .int (zi p), .int (zi k), x] [] (zm V J d) = zI1 y V J d := by
  have h37 := h.2.2.2.1
  induction n with
  | zero =>
    intro k x hk hb
    refine ⟨0, Or.inl rfl, ⟨fun w => absurd w (by decide), fun ⟨j, o, j1, j2, j3, j4, j5⟩ => absurd (hb j o (by have := j2.1; omega) j1 j2 j3 j4) j5⟩, ?_⟩
    rw [ze_139_2]
    simp (disch := first | omega | assumption | (simp (disch := omega) only [vup_fn, vup_o, vup_k, vup_at]; first | done | omega | assumption)) only [Int.add_zero, ↓reduceIte, qw_id, zck_T, zck_t, zGor_v, zGor_n, zGor_e, zbs, vup_at, vup_vup, vup_self, vup_o, vup_k, vup_fn, ne_eq, not_true_eq_false, not_false_eq_true, and_true, true_and, and_self, and_false, false_and, or_true, true_or, or_self, or_false, false_or, xlt_t, xlt_f, xle_t, xle_f, xeq_t, xeq_f, xand_f, xor_t]
  | succ n ih =>
    intro k x hk hb
    have hk1 : ((k : Nat) : Int) + 1 = ((k + 1 : Nat) : Int) := by omega
    rcases sl139o (d := d) h hp (k := k) (by omega) k 0 (by omega) (fun i i1 _ i3 => by have := i3.1; omega) with ⟨a1, a2⟩ | ⟨a1, a2⟩
    · refine ⟨1, Or.inr rfl, ⟨fun _ => a2, fun _ => rfl⟩, ?_⟩
      rw [ze_139_2]
      rw [show ((0 : Nat) : Int) = 0 from rfl] at a1
      simp (disch := first | omega | assumption | (simp (disch := omega) only [vup_fn, vup_o, vup_k, vup_at]; first | done | omega | assumption)) only [a1, Int.add_zero, ↓reduceIte, qw_id, zck_T, zck_t, zGor_v, zGor_n, zGor_e, zbs, vup_at, vup_vup, vup_self, vup_o, vup_k, vup_fn, ne_eq, not_true_eq_false, not_false_eq_true, and_true, true_and, and_self, and_false, false_and, or_true, true_or, or_self, or_false, false_or, xlt_t, xlt_f, xle_t, xle_f, xeq_t, xeq_f, xand_f, xor_t]
    · obtain ⟨y, y1, y2, y3⟩ := ih (k + 1) (.int (zi k)) (by omega) (fun j i j1 i1 j2 i2 e => by
        by_cases q : j = k
        · subst q
          rw [Int.toNat_natCast]
          exact a2 i i1 j2 i2 e
        · exact hb j i (by omega) i1 j2 i2 e)
      refine ⟨y, y1, y2, ?_⟩
      rw [ze_139_2]
      rw [show ((0 : Nat) : Int) = 0 from rfl, hk1] at a1
      simp (disch := first | omega | assumption | (simp (disch := omega) only [vup_fn, vup_o, vup_k, vup_at]; first | done | omega | assumption)) only [a1, y3, Int.add_zero, ↓reduceIte, qw_id, zck_T, zck_t, zGor_v, zGor_n, zGor_e, zbs, vup_at, vup_vup, vup_self, vup_o, vup_k, vup_fn, ne_eq, not_true_eq_false, not_false_eq_true, and_true, true_and, and_self, and_false, false_and, or_true, true_or, or_self, or_false, false_or, xlt_t, xlt_f, xle_t, xle_f, xeq_t, xeq_f, xand_f, xor_t]
end
