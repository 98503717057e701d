/-! part 93: judging in the class, the rest -/
section
variable {V : zVt} {J : zJt} {N p : Int} {d : Nat → Nat → UInt64}
theorem sp139 (h : zInv N V J) (hp : -2147483648 ≤ p ∧ p < 2147483648) : ∃ y : Int, (y = 0 ∨ y = 1) ∧ (y = 1 ↔ oP3 V J p) ∧ zGo false 139 0 [.ref 0, .int (zi p), .null, .null] [] (zm V J d) = zI1 y V J d := by
  have h37 := h.2.2.2.1
  obtain ⟨y, y1, y2, y3⟩ := sl139 (d := d) h hp (V 480 37).toNat 0 .null (by omega) (fun j i j1 i1 j2 => by have := j2.1; omega)
  exact ⟨y, y1, y2, by rw [ze_139_0]; exact y3⟩
theorem sp138 (h : zInv N V J) (hp : -2147483648 ≤ p ∧ p < 2147483648) : ∃ y : Int, (y = 0 ∨ y = 1) ∧ (y = 1 ↔ oP2 V p) ∧ zGo false 138 0 [.ref 0, .int (zi p), .null] [] (zm V J d) = zI1 y V J d := by
  have h37 := h.2.2.2.1
  obtain ⟨y, y1, y2, y3⟩ := sl138 (d := d) h hp (V 480 37).toNat 0 (by omega) (fun j j1 j2 => by have := j2.1; omega)
  exact ⟨y, y1, y2, by rw [ze_138_0]; exact y3⟩
theorem sp42 {M1 M2 : Nat} (h1 : zBk 5 M1) (h2 : zBk 5 M2) (k1 : cMok V M1) (k2 : cMok V M2) : ∃ y : Int, (y = 0 ∨ y = 1) ∧ (y = 1 ↔ oEv V M1 M2) ∧ zGo false 42 0 [.ref M1, .ref M2] [] (zm V J d) = zI1 y V J d := by
  unfold cMok at k1 k2
  unfold oEv
  by_cases a : V M1 2 = V M2 2
  · by_cases b : V M1 2 = 0
    · refine ⟨1, Or.inr rfl, ⟨fun _ => ⟨a, Or.inl b⟩, fun _ => rfl⟩, ?_⟩
      simp (disch := first | omega | assumption | (simp (disch := omega) only [vup_fn, vup_o, vup_k, vup_at]; first | done | omega | assumption)) only [ze_42_0, ze_42_29, ze_42_33, ze_42_34, Int.add_zero, ↓reduceIte, qw_id, zck_T, zck_t, zGor_v, zGor_n, zGor_e, zbs, vup_at, vup_vup, vup_self, vup_o, vup_k, vup_fn, ne_eq, not_true_eq_false, not_false_eq_true, and_true, true_and, and_self, and_false, false_and, or_true, true_or, or_self, or_false, false_or, xlt_t, xlt_f, xle_t, xle_f, xeq_t, xeq_f, xand_f, xor_t]
    · by_cases c : V M1 3 = V M2 3
      · refine ⟨1, Or.inr rfl, ⟨fun _ => ⟨a, Or.inr c⟩, fun _ => rfl⟩, ?_⟩
        simp (disch := first | omega | assumption | (simp (disch := omega) only [vup_fn, vup_o, vup_k, vup_at]; first | done | omega | assumption)) only [ze_42_0, ze_42_29, ze_42_33, ze_42_34, Int.add_zero, ↓reduceIte, qw_id, zck_T, zck_t, zGor_v, zGor_n, zGor_e, zbs, vup_at, vup_vup, vup_self, vup_o, vup_k, vup_fn, ne_eq, not_true_eq_false, not_false_eq_true, and_true, true_and, and_self, and_false, false_and, or_true, true_or, or_self, or_false, false_or, xlt_t, xlt_f, xle_t, xle_f, xeq_t, xeq_f, xand_f, xor_t]
      · refine ⟨0, Or.inl rfl, ⟨fun w => absurd w (by decide), fun w => w.2.elim (fun q => absurd q b) (fun q => absurd q c)⟩, ?_⟩
        simp (disch := first | omega | assumption | (simp (disch := omega) only [vup_fn, vup_o, vup_k, vup_at]; first | done | omega | assumption)) only [ze_42_0, ze_42_29, ze_42_33, ze_42_34, Int.add_zero, ↓reduceIte, qw_id, zck_T, zck_t, zGor_v, zGor_n, zGor_e, zbs, vup_at, vup_vup, vup_self, vup_o, vup_k, vup_fn, ne_eq, not_true_eq_false, not_false_eq_true, and_true, true_and, and_self, and_false, false_and, or_true, true_or, or_self, or_false, false_or, xlt_t, xlt_f, xle_t, xle_f, xeq_t, xeq_f, xand_f, xor_t]
  · refine ⟨0, Or.inl rfl, ⟨fun w => absurd w (by decide), fun w => absurd w.1 a⟩, ?_⟩
    simp (disch := first | omega | assumption | (simp (disch := omega) only [vup_fn, vup_o, vup_k, vup_at]; first | done | omega | assumption)) only [ze_42_0, ze_42_29, ze_42_33, ze_42_34, Int.add_zero, ↓reduceIte, qw_id, zck_T, zck_t, zGor_v, zGor_n, zGor_e, zbs, vup_at, vup_vup, vup_self, vup_o, vup_k, vup_fn, ne_eq, not_true_eq_false, not_false_eq_true, and_true, true_and, and_self, and_false, false_and, or_true, true_or, or_self, or_false, false_or, xlt_t, xlt_f, xle_t, xle_f, xeq_t, xeq_f, xand_f, xor_t]
theorem sl140o (h : zInv N V J) (hp : -2147483648 ≤ p ∧ p < 2147483648) {k : Nat} (hk : (k : Int) < V 480 37) (n : Nat) : ∀ o : Nat, k = o + n → (∀ i, i < (o : Int) → oLe V p k → oLe V p i → oEv V (233 + 5 * k) (233 + 5 * i.toNat)) → (zGo false 140 12 [.ref 0, .int (zi p), .int (zi k), .int (zi o)] [] (zm V J d) = zI1 1 V J d ∧ oP4 V p) ∨ (zGo false 140 12 [.ref 0, .int (zi p), .int (zi k), .int (zi o)] [] (zm V J d) = zGo false 140 2 [.ref 0, .int (zi p), .int (zi (k + 1)), .int (zi k)] [] (zm V J d) ∧ ∀ i, i < (k : Int) → oLe V p k → oLe V p i → oEv V (233 + 5 * k) (233 + 5 * i.toNat)) := by
  have h37 := h.2.2.2.1
  have e1 := sp1 (d := d) h (k := k) (p := p) (by omega) hp
  obtain ⟨b5, mk, c3, c4, c2, c5, c1, hB, k40⟩ := iCp_mk h (k := k) (by omega)
  have hkn : ((k : Nat) : Int).toNat = k := by omega
  induction n with
  | zero =>
    intro o ho hb
    obtain rfl : k = o := by omega
    right
    refine ⟨?_, hb⟩
    rw [ze_140_12]
    simp (disch := first | omega | assumption | (simp (disch := omega) only [vup_fn, vup_o, vup_k, vup_at]; first | done | omega | assumption)) only [Int.add_zero, ↓reduceIte, qw_id, zck_T, zck_t, zGor_v, zGor_n, zGor_e, zbs, vup_at, vup_vup, vup_self, vup_o, vup_k, vup_fn, ne_eq, not_true_eq_false, not_false_eq_true, and_true, true_and, and_self, and_false, false_and, or_true, true_or, or_self, or_false, false_or, xlt_t, xlt_f, xle_t, xle_f, xeq_t, xeq_f, xand_f, xor_t]
  | succ n ih =>
    intro o ho hb
    have e2 := sp1 (d := d) h (k := o) (p := p) (by omega) hp
    obtain ⟨ob5, omk, oc3, oc4, oc2, oc5, oc1, oB, o40⟩ := iCp_mk h (k := o) (by omega)
    have hon : ((o : Nat) : Int).toNat = o := by omega
    have ho1 : ((o : Nat) : Int) + 1 = ((o + 1 : Nat) : Int) := by omega
    have f233 : 230 + 5 * k + 3 = 233 + 5 * k := by omega
    have g233 : 230 + 5 * o + 3 = 233 + 5 * o := by omega
    rw [f233] at b5
    rw [g233] at ob5
    obtain ⟨u, u1, u2, e42⟩ := sp42 (V := V) (J := J) (d := d) b5 ob5 mk omk
    have hnext : (oLe V p k → oLe V p o → oEv V (233 + 5 * k) (233 + 5 * o)) → ∀ i, i < ((o + 1 : Nat) : Int) → oLe V p k → oLe V p i → oEv V (233 + 5 * k) (233 + 5 * i.toNat) := fun q i i1 i2 i3 => by
      by_cases e : i = o
      · rw [e] at i3
        rw [e, hon]
        exact q i2 i3
      · exact hb i (by omega) i2 i3
    by_cases hl : V 455 k ≠ -1 ∧ V 454 k / 4 = p
    · rw [if_pos hl] at e1
      by_cases hl2 : V 455 o ≠ -1 ∧ V 454 o / 4 = p
      · rw [if_pos hl2] at e2
        by_cases hu : u = 1
        · have ih2 := ih (o + 1) (by omega) (hnext (fun _ _ => u2.1 hu))
          have hst : zGo false 140 12 [.ref 0, .int (zi p), .int (zi k), .int (zi o)] [] (zm V J d) = zGo false 140 12 [.ref 0, .int (zi p), .int (zi k), .int (zi (o + 1 : Nat))] [] (zm V J d) := by
            rw [hu] at e42
            rw [ze_140_12]
            simp (disch := first | omega | assumption | (simp (disch := omega) only [vup_fn, vup_o, vup_k, vup_at]; first | done | omega | assumption)) only [hkn, hon, e1, ze_140_27, e2, ze_140_40, f233, g233, e42, ze_140_64, ze_140_69, ho1, Int.add_zero, ↓reduceIte, qw_id, zck_T, zck_t, zGor_v, zGor_n, zGor_e, zbs, vup_at, vup_vup, vup_self, vup_o, vup_k, vup_fn, ne_eq, not_true_eq_false, not_false_eq_true, and_true, true_and, and_self, and_false, false_and, or_true, true_or, or_self, or_false, false_or, xlt_t, xlt_f, xle_t, xle_f, xeq_t, xeq_f, xand_f, xor_t]
          rw [hst]
          exact ih2
        · left
          have hu0 : u = 0 := u1.resolve_right hu
          refine ⟨?_, ⟨k, o, by omega, ⟨⟨by omega, by omega⟩, hl⟩, ⟨⟨by omega, by omega⟩, hl2⟩, by rw [hkn, hon]; exact fun w => hu (u2.2 w)⟩⟩
          rw [hu0] at e42
          rw [ze_140_12]
          simp (disch := first | omega | assumption | (simp (disch := omega) only [vup_fn, vup_o, vup_k, vup_at]; first | done | omega | assumption)) only [hkn, hon, e1, ze_140_27, e2, ze_140_40, f233, g233, e42, ze_140_64, Int.add_zero, ↓reduceIte, qw_id, zck_T, zck_t, zGor_v, zGor_n, zGor_e, zbs, vup_at, vup_vup, vup_self, vup_o, vup_k, vup_fn, ne_eq, not_true_eq_false, not_false_eq_true, and_true, true_and, and_self, and_false, false_and, or_true, true_or, or_self, or_false, false_or, xlt_t, xlt_f, xle_t, xle_f, xeq_t, xeq_f, xand_f, xor_t]
      · rw [if_neg hl2] at e2
        have ih2 := ih (o + 1) (by omega) (hnext (fun _ w => absurd w.2 hl2))
        have hst : zGo false 140 12 [.ref 0, .int (zi p), .int (zi k), .int (zi o)] [] (zm V J d) = zGo false 140 12 [.ref 0, .int (zi p), .int (zi k), .int (zi (o + 1 : Nat))] [] (zm V J d) := by
          rw [ze_140_12]
          simp (disch := first | omega | assumption | (simp (disch := omega) only [vup_fn, vup_o, vup_k, vup_at]; first | done | omega | assumption)) only [hkn, hon, e1, ze_140_27, e2, ze_140_40, ze_140_69, ho1, Int.add_zero, ↓reduceIte, qw_id, zck_T, zck_t, zGor_v, zGor_n, zGor_e, zbs, vup_at, vup_vup, vup_self, vup_o, vup_k, vup_fn, ne_eq, not_true_eq_false, not_false_eq_true, and_true, true_and, and_self, and_false, false_and, or_true, true_or, or_self, or_false, false_or, xlt_t, xlt_f, xle_t, xle_f, xeq_t, xeq_f, xand_f, xor_t]
        rw [hst]
        exact ih2
    · rw [if_neg hl] at e1
      have ih2 := ih (o + 1) (by omega) (hnext (fun w _ => absurd w.2 hl))
      have hst : zGo false 140 12 [.ref 0, .int (zi p), .int (zi k), .int (zi o)] [] (zm V J d) = zGo false 140 12 [.ref 0, .int (zi p), .int (zi k), .int (zi (o + 1 : Nat))] [] (zm V J d) := by
        rw [ze_140_12]
        simp (disch := first | omega | assumption | (simp (disch := omega) only [vup_fn, vup_o, vup_k, vup_at]; first | done | omega | assumption)) only [hkn, e1, ze_140_27, ze_140_69, ho1, Int.add_zero, ↓reduceIte, qw_id, zck_T, zck_t, zGor_v, zGor_n, zGor_e, zbs, vup_at, vup_vup, vup_self, vup_o, vup_k, vup_fn, ne_eq, not_true_eq_false, not_false_eq_true, and_true, true_and, and_self, and_false, false_and, or_true, true_or, or_self, or_false, false_or, xlt_t, xlt_f, xle_t, xle_f, xeq_t, xeq_f, xand_f, xor_t]
      rw [hst]
      exact ih2
theorem sl140 (h : zInv N V J) (hp : -2147483648 ≤ p ∧ p < 2147483648) (n : Nat) : ∀ (k : Nat) (x : Value), V 480 37 = k + n → (∀ j i, j < (k : Int) → i < j → oLe V p j → oLe V p i → oEv V (233 + 5 * j.toNat) (233 + 5 * i.toNat)) → ∃ y : Int, (y = 0 ∨ y = 1) ∧ (y = 1 ↔ oP4 V p) ∧ zGo false 140 2 [.ref 0, .int (zi p), .int (zi k), x] [] (zm V J d) = zI1 y V J d := by
  have h37 := h.2.2.2.1
  induction n with
  | zero =>
    intro k x hk hb
    refine ⟨0, Or.inl rfl, ⟨fun w => absurd w (by decide), fun ⟨j, o, j1, j2, j3, j4⟩ => absurd (hb j o (by have := j2.1; omega) j1 j2 j3) j4⟩, ?_⟩
    rw [ze_140_2]
    simp (disch := first | omega | assumption | (simp (disch := omega) only [vup_fn, vup_o, vup_k, vup_at]; first | done | omega | assumption)) only [Int.add_zero, ↓reduceIte, qw_id, zck_T, zck_t, zGor_v, zGor_n, zGor_e, zbs, vup_at, vup_vup, vup_self, vup_o, vup_k, vup_fn, ne_eq, not_true_eq_false, not_false_eq_true, and_true, true_and, and_self, and_false, false_and, or_true, true_or, or_self, or_false, false_or, xlt_t, xlt_f, xle_t, xle_f, xeq_t, xeq_f, xand_f, xor_t]
  | succ n ih =>
    intro k x hk hb
    have hk1 : ((k : Nat) : Int) + 1 = ((k + 1 : Nat) : Int) := by omega
    rcases sl140o (d := d) h hp (k := k) (by omega) k 0 (by omega) (fun i i1 _ i3 => by have := i3.1; omega) with ⟨a1, a2⟩ | ⟨a1, a2⟩
    · refine ⟨1, Or.inr rfl, ⟨fun _ => a2, fun _ => rfl⟩, ?_⟩
      rw [ze_140_2]
      rw [show ((0 : Nat) : Int) = 0 from rfl] at a1
      simp (disch := first | omega | assumption | (simp (disch := omega) only [vup_fn, vup_o, vup_k, vup_at]; first | done | omega | assumption)) only [a1, Int.add_zero, ↓reduceIte, qw_id, zck_T, zck_t, zGor_v, zGor_n, zGor_e, zbs, vup_at, vup_vup, vup_self, vup_o, vup_k, vup_fn, ne_eq, not_true_eq_false, not_false_eq_true, and_true, true_and, and_self, and_false, false_and, or_true, true_or, or_self, or_false, false_or, xlt_t, xlt_f, xle_t, xle_f, xeq_t, xeq_f, xand_f, xor_t]
    · obtain ⟨y, y1, y2, y3⟩ := ih (k + 1) (.int (zi k)) (by omega) (fun j i j1 i1 j2 i2 => by
        by_cases q : j = k
        · subst q
          rw [Int.toNat_natCast]
          exact a2 i i1 j2 i2
        · exact hb j i (by omega) i1 j2 i2)
      refine ⟨y, y1, y2, ?_⟩
      rw [ze_140_2]
      rw [show ((0 : Nat) : Int) = 0 from rfl, hk1] at a1
      simp (disch := first | omega | assumption | (simp (disch := omega) only [vup_fn, vup_o, vup_k, vup_at]; first | done | omega | assumption)) only [a1, y3, Int.add_zero, ↓reduceIte, qw_id, zck_T, zck_t, zGor_v, zGor_n, zGor_e, zbs, vup_at, vup_vup, vup_self, vup_o, vup_k, vup_fn, ne_eq, not_true_eq_false, not_false_eq_true, and_true, true_and, and_self, and_false, false_and, or_true, true_or, or_self, or_false, false_or, xlt_t, xlt_f, xle_t, xle_f, xeq_t, xeq_f, xand_f, xor_t]
theorem sp140 (h : zInv N V J) (hp : -2147483648 ≤ p ∧ p < 2147483648) : ∃ y : Int, (y = 0 ∨ y = 1) ∧ (y = 1 ↔ oP4 V p) ∧ zGo false 140 0 [.ref 0, .int (zi p), .null, .null] [] (zm V J d) = zI1 y V J d := by
  have h37 := h.2.2.2.1
  obtain ⟨y, y1, y2, y3⟩ := sl140 (d := d) h hp (V 480 37).toNat 0 .null (by omega) (fun j i j1 i1 j2 => by have := j2.1; omega)
  exact ⟨y, y1, y2, by rw [ze_140_0]; exact y3⟩
/-- knowsAll -/
theorem sl24 (h : zInv N V J) {M : Nat} (hM : zBk 5 M) (r : 0 ≤ V M 2 ∧ V M 2 ≤ 40) {s : Int} {w : Nat} (hs : 0 ≤ s ∧ s < 12) (hw : w < 12) (n : Nat) : ∀ b : Int, 0 ≤ b → V M 2 = b + n → (∀ i, 0 ≤ i → i < b → oKi V J ((s * 12 + w) * 40 + i) M i = 1) → ∃ y : Int, (y = 0 ∨ y = 1) ∧ (y = 0 ↔ ∃ b, (0 ≤ b ∧ b < V M 2) ∧ oKi V J ((s * 12 + w) * 40 + b) M b = 0) ∧ zGo false 24 3 [.ref 46, .int (zi s), .int (zi w), .ref M, .int (zi b)] [] (zm V J d) = zI1 y V J d := by
  have hN := h.2.2.2.2.2.2.2.2.2
  induction n with
  | zero =>
    intro b b0 hb hk
    refine ⟨1, Or.inr rfl, ⟨fun w => absurd w (by decide), fun ⟨i, i1, i2⟩ => ?_⟩, ?_⟩
    · have := hk i i1.1 (by omega)
      omega
    · rw [ze_24_3 _ _ _ _ hM]
      simp (disch := first | omega | assumption | (simp (disch := omega) only [vup_fn, vup_o, vup_k, vup_at]; first | done | omega | assumption)) only [Int.add_zero, ↓reduceIte, qw_id, zck_T, zck_t, zGor_v, zGor_n, zGor_e, zbs, vup_at, vup_vup, vup_self, vup_o, vup_k, vup_fn, ne_eq, not_true_eq_false, not_false_eq_true, and_true, true_and, and_self, and_false, false_and, or_true, true_or, or_self, or_false, false_or, xlt_t, xlt_f, xle_t, xle_f, xeq_t, xeq_f, xand_f, xor_t]
  | succ n ih =>
    intro b b0 hb hk
    obtain ⟨_, k2, _⟩ := iLrn_f h hs hw (b := b) (by omega)
    have e21 := sp21 (V := V) (J := J) (d := d) hM hs (w := w) (by omega) (b := b) (by omega) r (by omega)
    rcases oKi_01 V J ((s * 12 + w) * 40 + b) M b with q | q
    · refine ⟨0, Or.inl rfl, ⟨fun _ => ⟨b, by omega, q⟩, fun _ => rfl⟩, ?_⟩
      rw [q] at e21
      rw [ze_24_3 _ _ _ _ hM]
      simp (disch := first | omega | assumption | (simp (disch := omega) only [vup_fn, vup_o, vup_k, vup_at]; first | done | omega | assumption)) only [e21, ze_24_21, Int.add_zero, ↓reduceIte, qw_id, zck_T, zck_t, zGor_v, zGor_n, zGor_e, zbs, vup_at, vup_vup, vup_self, vup_o, vup_k, vup_fn, ne_eq, not_true_eq_false, not_false_eq_true, and_true, true_and, and_self, and_false, false_and, or_true, true_or, or_self, or_false, false_or, xlt_t, xlt_f, xle_t, xle_f, xeq_t, xeq_f, xand_f, xor_t]
    · obtain ⟨y, y1, y2, y3⟩ := ih (b + 1) (by omega) (by omega) (fun i i0 i1 => by
        by_cases e : i = b
        · rw [e]; exact q
        · exact hk i i0 (by omega))
      refine ⟨y, y1, y2, ?_⟩
      rw [q] at e21
      rw [ze_24_3 _ _ _ _ hM]
      simp (disch := first | omega | assumption | (simp (disch := omega) only [vup_fn, vup_o, vup_k, vup_at]; first | done | omega | assumption)) only [e21, ze_24_21, y3, Int.add_zero, ↓reduceIte, qw_id, zck_T, zck_t, zGor_v, zGor_n, zGor_e, zbs, vup_at, vup_vup, vup_self, vup_o, vup_k, vup_fn, ne_eq, not_true_eq_false, not_false_eq_true, and_true, true_and, and_self, and_false, false_and, or_true, true_or, or_self, or_false, false_or, xlt_t, xlt_f, xle_t, xle_f, xeq_t, xeq_f, xand_f, xor_t]
theorem sl141 (h : zInv N V J) (hp : -2147483648 ≤ p ∧ p < 2147483648) (n : Nat) : ∀ k : Nat, V 480 37 = k + n → (∀ j b, j < (k : Int) → oLe V p j → 0 ≤ b → b < V (233 + 5 * j.toNat) 2 → ¬ oKi V J ((V 455 j * 12 + V 454 j) * 40 + b) (233 + 5 * j.toNat) b = 0) → ∃ y : Int, (y = 0 ∨ y = 1) ∧ (y = 0 ↔ oP5 V J p) ∧ zGo false 141 2 [.ref 0, .int (zi p), .int (zi k)] [] (zm V J d) = zI1 y V J d := by
  have h37 := h.2.2.2.1
  induction n with
  | zero =>
    intro k hk hb
    refine ⟨1, Or.inr rfl, ⟨fun w => absurd w (by decide), fun ⟨j, b, j1, j2, j3⟩ => absurd j3 (hb j b (by have := j1.1; omega) j1 j2.1 j2.2)⟩, ?_⟩
    rw [ze_141_2]
    simp (disch := first | omega | assumption | (simp (disch := omega) only [vup_fn, vup_o, vup_k, vup_at]; first | done | omega | assumption)) only [Int.add_zero, ↓reduceIte, qw_id, zck_T, zck_t, zGor_v, zGor_n, zGor_e, zbs, vup_at, vup_vup, vup_self, vup_o, vup_k, vup_fn, ne_eq, not_true_eq_false, not_false_eq_true, and_true, true_and, and_self, and_false, false_and, or_true, true_or, or_self, or_false, false_or, xlt_t, xlt_f, xle_t, xle_f, xeq_t, xeq_f, xand_f, xor_t]
  | succ n ih =>
    intro k hk hb
    have e1 := sp1 (d := d) h (k := k) (p := p) (by omega) hp
    obtain ⟨b5, mk, c3, c4, c2, c5, c1, hB, k40⟩ := iCp_mk h (k := k) (by omega)
    have hkn : ((k : Nat) : Int).toNat = k := by omega
    have hk1 : ((k : Nat) : Int) + 1 = ((k + 1 : Nat) : Int) := by omega
    have f233 : 230 + 5 * k + 3 = 233 + 5 * k := by omega
    rw [f233] at b5
    by_cases hl : V 455 k ≠ -1 ∧ V 454 k / 4 = p
    · rw [if_pos hl] at e1
      obtain ⟨w, hw⟩ : ∃ w : Nat, V 454 k = w := ⟨(V 454 k).toNat, by omega⟩
      obtain ⟨z, z1, z2, z3⟩ := sl24 (d := d) h b5 mk.2.2.1 (s := V 455 k) (w := w) (by omega) (by omega) (V (233 + 5 * k) 2).toNat 0 (by omega) (by have := mk.2.2.1.1; omega) (fun i i0 i1 => by omega)
      rw [← hw] at z2 z3
      by_cases hz : z = 0
      · refine ⟨0, Or.inl rfl, ⟨fun _ => ?_, fun _ => rfl⟩, ?_⟩
        · obtain ⟨b, b1, b2⟩ := z2.1 hz
          exact ⟨k, b, ⟨⟨by omega, by omega⟩, hl⟩, by rw [hkn]; exact b1, by rw [hkn]; exact b2⟩
        · rw [hz] at z3
          rw [ze_141_2]
          simp (disch := first | omega | assumption | (simp (disch := omega) only [vup_fn, vup_o, vup_k, vup_at]; first | done | omega | assumption)) only [hkn, e1, ze_141_20, c3, c4, f233, ze_24_0, z3, ze_141_57, Int.add_zero, ↓reduceIte, qw_id, zck_T, zck_t, zGor_v, zGor_n, zGor_e, zbs, vup_at, vup_vup, vup_self, vup_o, vup_k, vup_fn, ne_eq, not_true_eq_false, not_false_eq_true, and_true, true_and, and_self, and_false, false_and, or_true, true_or, or_self, or_false, false_or, xlt_t, xlt_f, xle_t, xle_f, xeq_t, xeq_f, xand_f, xor_t]
      · obtain ⟨y, y1, y2, y3⟩ := ih (k + 1) (by omega) (fun j b j1 j2 b0 b1 => by
          by_cases e : j = k
          · rw [e, hkn] at b1
            rw [e, hkn]
            exact fun q => hz (z2.2 ⟨b, ⟨b0, b1⟩, q⟩)
          · exact hb j b (by omega) j2 b0 b1)
        refine ⟨y, y1, y2, ?_⟩
        rw [z1.resolve_left hz] at z3
        rw [ze_141_2]
        simp (disch := first | omega | assumption | (simp (disch := omega) only [vup_fn, vup_o, vup_k, vup_at]; first | done | omega | assumption)) only [hkn, e1, ze_141_20, c3, c4, f233, ze_24_0, z3, ze_141_57, ze_141_62, hk1, y3, Int.add_zero, ↓reduceIte, qw_id, zck_T, zck_t, zGor_v, zGor_n, zGor_e, zbs, vup_at, vup_vup, vup_self, vup_o, vup_k, vup_fn, ne_eq, not_true_eq_false, not_false_eq_true, and_true, true_and, and_self, and_false, false_and, or_true, true_or, or_self, or_false, false_or, xlt_t, xlt_f, xle_t, xle_f, xeq_t, xeq_f, xand_f, xor_t]
    · rw [if_neg hl] at e1
      obtain ⟨y, y1, y2, y3⟩ := ih (k + 1) (by omega) (fun j b j1 j2 b0 b1 => by
        by_cases e : j = k
        · rw [e] at j2
          exact absurd j2.2 hl
        · exact hb j b (by omega) j2 b0 b1)
      refine ⟨y, y1, y2, ?_⟩
      rw [ze_141_2]
      simp (disch := first | omega | assumption | (simp (disch := omega) only [vup_fn, vup_o, vup_k, vup_at]; first | done | omega | assumption)) only [hkn, e1, ze_141_20, ze_141_62, hk1, y3, Int.add_zero, ↓reduceIte, qw_id, zck_T, zck_t, zGor_v, zGor_n, zGor_e, zbs, vup_at, vup_vup, vup_self, vup_o, vup_k, vup_fn, ne_eq, not_true_eq_false, not_false_eq_true, and_true, true_and, and_self, and_false, false_and, or_true, true_or, or_self, or_false, false_or, xlt_t, xlt_f, xle_t, xle_f, xeq_t, xeq_f, xand_f, xor_t]
theorem sp141 (h : zInv N V J) (hp : -2147483648 ≤ p ∧ p < 2147483648) : ∃ y : Int, (y = 0 ∨ y = 1) ∧ (y = 0 ↔ oP5 V J p) ∧ zGo false 141 0 [.ref 0, .int (zi p), .null] [] (zm V J d) = zI1 y V J d := by
  have h37 := h.2.2.2.1
  obtain ⟨y, y1, y2, y3⟩ := sl141 (d := d) h hp (V 480 37).toNat 0 (by omega) (fun j b j1 j2 => by have := j2.1; omega)
  exact ⟨y, y1, y2, by rw [ze_141_0]; exact y3⟩
theorem sp136 (h : zInv N V J) (hp : -2147483648 ≤ p ∧ p < 2147483648) : ∃ x : Int, oVd V J p x ∧ zGo false 136 0 [.ref 0, .int (zi p)] [] (zm V J d) = zI1 x V J d := by
  obtain ⟨y1, a1, b1, e1⟩ := sp137 (d := d) h hp
  obtain ⟨y2, a2, b2, e2⟩ := sp138 (d := d) h hp
  obtain ⟨y3, a3, b3, e3⟩ := sp139 (d := d) h hp
  obtain ⟨y4, a4, b4, e4⟩ := sp140 (d := d) h hp
  obtain ⟨y5, a5, b5, e5⟩ := sp141 (d := d) h hp
  unfold oVd
  by_cases q1 : y1 = 1
  · have p1 := b1.1 q1
    rw [q1] at e1
    by_cases q2 : y2 = 1
    · have p2 := b2.1 q2
      rw [q2] at e2
      refine ⟨2, Or.inr (Or.inl ⟨rfl, p1, p2⟩), ?_⟩
      simp (disch := first | omega | assumption | (simp (disch := omega) only [vup_fn, vup_o, vup_k, vup_at]; first | done | omega | assumption)) only [ze_136_0, ze_136_5, ze_136_15, ze_136_25, ze_136_35, ze_136_45, ze_136_53, e1, e2, Int.add_zero, ↓reduceIte, qw_id, zck_T, zck_t, zGor_v, zGor_n, zGor_e, zbs, vup_at, vup_vup, vup_self, vup_o, vup_k, vup_fn, ne_eq, not_true_eq_false, not_false_eq_true, and_true, true_and, and_self, and_false, false_and, or_true, true_or, or_self, or_false, false_or, xlt_t, xlt_f, xle_t, xle_f, xeq_t, xeq_f, xand_f, xor_t]
    · have p2 : ¬ oP2 V p := fun w => q2 (b2.2 w)
      rw [a2.resolve_right q2] at e2
      by_cases q3 : y3 = 1
      · have p3 := b3.1 q3
        rw [q3] at e3
        refine ⟨3, Or.inr (Or.inr (Or.inl ⟨rfl, p1, p2, p3⟩)), ?_⟩
        simp (disch := first | omega | assumption | (simp (disch := omega) only [vup_fn, vup_o, vup_k, vup_at]; first | done | omega | assumption)) only [ze_136_0, ze_136_5, ze_136_15, ze_136_25, ze_136_35, ze_136_45, ze_136_53, e1, e2, e3, Int.add_zero, ↓reduceIte, qw_id, zck_T, zck_t, zGor_v, zGor_n, zGor_e, zbs, vup_at, vup_vup, vup_self, vup_o, vup_k, vup_fn, ne_eq, not_true_eq_false, not_false_eq_true, and_true, true_and, and_self, and_false, false_and, or_true, true_or, or_self, or_false, false_or, xlt_t, xlt_f, xle_t, xle_f, xeq_t, xeq_f, xand_f, xor_t]
      · have p3 : ¬ oP3 V J p := fun w => q3 (b3.2 w)
        rw [a3.resolve_right q3] at e3
        by_cases q4 : y4 = 1
        · have p4 := b4.1 q4
          rw [q4] at e4
          refine ⟨4, Or.inr (Or.inr (Or.inr (Or.inl ⟨rfl, p1, p2, p3, p4⟩))), ?_⟩
          simp (disch := first | omega | assumption | (simp (disch := omega) only [vup_fn, vup_o, vup_k, vup_at]; first | done | omega | assumption)) only [ze_136_0, ze_136_5, ze_136_15, ze_136_25, ze_136_35, ze_136_45, ze_136_53, e1, e2, e3, e4, Int.add_zero, ↓reduceIte, qw_id, zck_T, zck_t, zGor_v, zGor_n, zGor_e, zbs, vup_at, vup_vup, vup_self, vup_o, vup_k, vup_fn, ne_eq, not_true_eq_false, not_false_eq_true, and_true, true_and, and_self, and_false, false_and, or_true, true_or, or_self, or_false, false_or, xlt_t, xlt_f, xle_t, xle_f, xeq_t, xeq_f, xand_f, xor_t]
        · have p4 : ¬ oP4 V p := fun w => q4 (b4.2 w)
          rw [a4.resolve_right q4] at e4
          by_cases q5 : y5 = 0
          · have p5 := b5.1 q5
            rw [q5] at e5
            refine ⟨5, Or.inr (Or.inr (Or.inr (Or.inr (Or.inl ⟨rfl, p1, p2, p3, p4, p5⟩)))), ?_⟩
            simp (disch := first | omega | assumption | (simp (disch := omega) only [vup_fn, vup_o, vup_k, vup_at]; first | done | omega | assumption)) only [ze_136_0, ze_136_5, ze_136_15, ze_136_25, ze_136_35, ze_136_45, ze_136_53, e1, e2, e3, e4, e5, Int.add_zero, ↓reduceIte, qw_id, zck_T, zck_t, zGor_v, zGor_n, zGor_e, zbs, vup_at, vup_vup, vup_self, vup_o, vup_k, vup_fn, ne_eq, not_true_eq_false, not_false_eq_true, and_true, true_and, and_self, and_false, false_and, or_true, true_or, or_self, or_false, false_or, xlt_t, xlt_f, xle_t, xle_f, xeq_t, xeq_f, xand_f, xor_t]
          · have p5 : ¬ oP5 V J p := fun w => q5 (b5.2 w)
            rw [a5.resolve_left q5] at e5
            refine ⟨0, Or.inr (Or.inr (Or.inr (Or.inr (Or.inr ⟨rfl, p1, p2, p3, p4, p5⟩)))), ?_⟩
            simp (disch := first | omega | assumption | (simp (disch := omega) only [vup_fn, vup_o, vup_k, vup_at]; first | done | omega | assumption)) only [ze_136_0, ze_136_5, ze_136_15, ze_136_25, ze_136_35, ze_136_45, ze_136_53, e1, e2, e3, e4, e5, Int.add_zero, ↓reduceIte, qw_id, zck_T, zck_t, zGor_v, zGor_n, zGor_e, zbs, vup_at, vup_vup, vup_self, vup_o, vup_k, vup_fn, ne_eq, not_true_eq_false, not_false_eq_true, and_true, true_and, and_self, and_false, false_and, or_true, true_or, or_self, or_false, false_or, xlt_t, xlt_f, xle_t, xle_f, xeq_t, xeq_f, xand_f, xor_t]
  · have p1 : ¬ oP1 V p := fun w => q1 (b1.2 w)
    rw [a1.resolve_right q1] at e1
    refine ⟨1, Or.inl ⟨rfl, p1⟩, ?_⟩
    simp (disch := first | omega | assumption | (simp (disch := omega) only [vup_fn, vup_o, vup_k, vup_at]; first | done | omega | assumption)) only [ze_136_0, ze_136_5, ze_136_15, ze_136_25, ze_136_35, ze_136_45, ze_136_53, e1, Int.add_zero, ↓reduceIte, qw_id, zck_T, zck_t, zGor_v, zGor_n, zGor_e, zbs, vup_at, vup_vup, vup_self, vup_o, vup_k, vup_fn, ne_eq, not_true_eq_false, not_false_eq_true, and_true, true_and, and_self, and_false, false_and, or_true, true_or, or_self, or_false, false_or, xlt_t, xlt_f, xle_t, xle_f, xeq_t, xeq_f, xand_f, xor_t]
end
