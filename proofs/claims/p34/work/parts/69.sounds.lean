/-! part 69: what sounds, on both sides; pitch -/
/-- the byte of music M at bar b, tick t -/
def cSd (J : zJt) (M : Nat) (b t : Int) : Int := if t < 8 then zby (J (M + 1) (2 * b)) t else zby (J (M + 1) (2 * b + 1)) (t - 8)
theorem cSd_rng (J : zJt) (M : Nat) (b t : Int) : 0 ≤ cSd J M b t ∧ cSd J M b t < 256 := by
  unfold cSd
  split
  · exact zby_rng _ _
  · exact zby_rng _ _
theorem qand_127 {x : Int} (h : 0 ≤ x ∧ x < 2147483648) : qand x 127 = x % 128 := by
  unfold qand
  rw [zi_nI h.1, pk_andN (by omega) 7 (by decide), nI_toInt (by omega)]
  omega
theorem zs128 : ∀ i : Fin 16, ∀ j : Fin 16, qand (16 * ((i : Nat) : Int) + ((j : Nat) : Int)) 128 = if 8 ≤ (i : Nat) then 128 else 0 := by decide
theorem qand_128 {x : Int} (h : 0 ≤ x ∧ x < 256) : qand x 128 = if 128 ≤ x then 128 else 0 := by
  have e := zs128 ⟨(x / 16).toNat, by omega⟩ ⟨(x % 16).toNat, by omega⟩
  have e2 : 16 * (((x / 16).toNat : Nat) : Int) + (((x % 16).toNat : Nat) : Int) = x := by omega
  rw [show 16 * (((⟨(x / 16).toNat, by omega⟩ : Fin 16) : Nat) : Int) + (((⟨(x % 16).toNat, by omega⟩ : Fin 16) : Nat) : Int) = x from e2] at e
  rw [e]
  by_cases h1 : 128 ≤ x
  · rw [if_pos h1, if_pos (show 8 ≤ (x / 16).toNat by omega)]
  · rw [if_neg h1, if_neg (show ¬ 8 ≤ (x / 16).toNat by omega)]
section
variable {V : zVt} {J : zJt} {d : Nat → Nat → UInt64}
theorem sp30 {M : Nat} {b : Int} (hb : zBk 5 M) (h : -2147483648 ≤ b ∧ b < 2147483648) (hm : 0 ≤ V M 2 ∧ V M 2 ≤ 40) : zGo false 30 0 [.ref M, .int (zi b)] [] (zm V J d) = zI1 (if 0 ≤ b ∧ b < V M 2 then 1 else 0) V J d := by
  by_cases h1 : b < 0
  · rw [if_neg (by omega)]
    simp (disch := first | omega | assumption | (simp (disch := omega) only [vup_fn, vup_o, vup_k, vup_at]; first | done | omega | assumption)) only [ze_30_0, ze_30_16, ze_30_17, Int.add_zero, ↓reduceIte, qw_id, zck_T, zck_t, zGor_v, zGor_n, zGor_e, zbs, vup_at, vup_vup, vup_self, vup_o, vup_k, vup_fn, ne_eq, not_true_eq_false, not_false_eq_true, and_true, true_and, and_self, and_false, false_and, or_true, true_or, or_self, or_false, false_or, xlt_t, xlt_f, xle_t, xle_f, xeq_t, xeq_f, xand_f, xor_t]
  · by_cases h2 : V M 2 ≤ b
    · rw [if_neg (by omega)]
      simp (disch := first | omega | assumption | (simp (disch := omega) only [vup_fn, vup_o, vup_k, vup_at]; first | done | omega | assumption)) only [ze_30_0, ze_30_16, ze_30_17, Int.add_zero, ↓reduceIte, qw_id, zck_T, zck_t, zGor_v, zGor_n, zGor_e, zbs, vup_at, vup_vup, vup_self, vup_o, vup_k, vup_fn, ne_eq, not_true_eq_false, not_false_eq_true, and_true, true_and, and_self, and_false, false_and, or_true, true_or, or_self, or_false, false_or, xlt_t, xlt_f, xle_t, xle_f, xeq_t, xeq_f, xand_f, xor_t]
    · rw [if_pos (by omega)]
      simp (disch := first | omega | assumption | (simp (disch := omega) only [vup_fn, vup_o, vup_k, vup_at]; first | done | omega | assumption)) only [ze_30_0, ze_30_16, ze_30_17, Int.add_zero, ↓reduceIte, qw_id, zck_T, zck_t, zGor_v, zGor_n, zGor_e, zbs, vup_at, vup_vup, vup_self, vup_o, vup_k, vup_fn, ne_eq, not_true_eq_false, not_false_eq_true, and_true, true_and, and_self, and_false, false_and, or_true, true_or, or_self, or_false, false_or, xlt_t, xlt_f, xle_t, xle_f, xeq_t, xeq_f, xand_f, xor_t]
theorem sp107 {M : Nat} {b t : Int} (hb : zBk 5 M) (h : -2147483648 ≤ b ∧ b < 2147483648) (ht : -2147483648 ≤ t ∧ t < 2147483648) (hm : 0 ≤ V M 2 ∧ V M 2 ≤ 40) (hk : 0 ≤ V M 3 ∧ V M 3 ≤ 16) : zGo false 107 0 [.ref 0, .ref M, .int (zi b), .int (zi t)] [] (zm V J d) = if (0 ≤ b ∧ b < V M 2) ∧ 0 ≤ t ∧ t < V M 3 then zN1 V J d else zE1 0 V J d := by
  have e := sp30 (J := J) (d := d) hb h hm
  by_cases h1 : 0 ≤ b ∧ b < V M 2
  · rw [if_pos h1] at e
    by_cases h2 : t < 0
    · rw [if_neg (fun q => by omega)]
      simp (disch := first | omega | assumption | (simp (disch := omega) only [vup_fn, vup_o, vup_k, vup_at]; first | done | omega | assumption)) only [ze_107_0, ze_107_5, ze_107_20, e, Int.add_zero, ↓reduceIte, qw_id, zck_T, zck_t, zGor_v, zGor_n, zGor_e, zbs, vup_at, vup_vup, vup_self, vup_o, vup_k, vup_fn, ne_eq, not_true_eq_false, not_false_eq_true, and_true, true_and, and_self, and_false, false_and, or_true, true_or, or_self, or_false, false_or, xlt_t, xlt_f, xle_t, xle_f, xeq_t, xeq_f, xand_f, xor_t]
    · by_cases h3 : t < V M 3
      · rw [if_pos ⟨h1, by omega, h3⟩]
        simp (disch := first | omega | assumption | (simp (disch := omega) only [vup_fn, vup_o, vup_k, vup_at]; first | done | omega | assumption)) only [ze_107_0, ze_107_5, ze_107_20, e, Int.add_zero, ↓reduceIte, qw_id, zck_T, zck_t, zGor_v, zGor_n, zGor_e, zbs, vup_at, vup_vup, vup_self, vup_o, vup_k, vup_fn, ne_eq, not_true_eq_false, not_false_eq_true, and_true, true_and, and_self, and_false, false_and, or_true, true_or, or_self, or_false, false_or, xlt_t, xlt_f, xle_t, xle_f, xeq_t, xeq_f, xand_f, xor_t]
      · rw [if_neg (fun q => by omega)]
        simp (disch := first | omega | assumption | (simp (disch := omega) only [vup_fn, vup_o, vup_k, vup_at]; first | done | omega | assumption)) only [ze_107_0, ze_107_5, ze_107_20, e, Int.add_zero, ↓reduceIte, qw_id, zck_T, zck_t, zGor_v, zGor_n, zGor_e, zbs, vup_at, vup_vup, vup_self, vup_o, vup_k, vup_fn, ne_eq, not_true_eq_false, not_false_eq_true, and_true, true_and, and_self, and_false, false_and, or_true, true_or, or_self, or_false, false_or, xlt_t, xlt_f, xle_t, xle_f, xeq_t, xeq_f, xand_f, xor_t]
  · rw [if_neg h1] at e
    rw [if_neg (fun q => h1 q.1)]
    simp (disch := first | omega | assumption | (simp (disch := omega) only [vup_fn, vup_o, vup_k, vup_at]; first | done | omega | assumption)) only [ze_107_0, ze_107_5, ze_107_20, e, Int.add_zero, ↓reduceIte, qw_id, zck_T, zck_t, zGor_v, zGor_n, zGor_e, zbs, vup_at, vup_vup, vup_self, vup_o, vup_k, vup_fn, ne_eq, not_true_eq_false, not_false_eq_true, and_true, true_and, and_self, and_false, false_and, or_true, true_or, or_self, or_false, false_or, xlt_t, xlt_f, xle_t, xle_f, xeq_t, xeq_f, xand_f, xor_t]
theorem sp37 {M : Nat} {b t : Int} (hb : zBk 5 M) (h : 0 ≤ b ∧ b < 40) (ht : 0 ≤ t ∧ t < 16) (hm : 0 ≤ V M 2 ∧ V M 2 ≤ 40) : zGo false 37 0 [.ref M, .int (zi b), .int (zi t), .null, .null] [] (zm V J d) = zI1 (if b < V M 2 then cSd J M b t else 0) V J d := by
  have e := sp30 (J := J) (d := d) (b := b) hb (by omega) hm
  have ez := zby_shr (L := Int64.ofNat 0) ht
  rw [zby_0] at ez
  by_cases h1 : b < V M 2
  · rw [if_pos (show 0 ≤ b ∧ b < V M 2 from ⟨h.1, h1⟩)] at e
    rw [if_pos h1]
    unfold cSd
    by_cases h2 : t < 8
    · rw [if_pos h2]
      have e1 := zby_shr (L := J (M + 1) (2 * b)) ht
      rw [show t % 8 = t by omega] at e1
      simp (disch := first | omega | assumption | (simp (disch := omega) only [vup_fn, vup_o, vup_k, vup_at]; first | done | omega | assumption)) only [ze_37_0, ze_37_11, ze_37_19, ze_31_0, ze_31_5, ze_31_20, e, e1, Int.add_zero, ↓reduceIte, qw_id, zck_T, zck_t, zGor_v, zGor_n, zGor_e, zbs, vup_at, vup_vup, vup_self, vup_o, vup_k, vup_fn, ne_eq, not_true_eq_false, not_false_eq_true, and_true, true_and, and_self, and_false, false_and, or_true, true_or, or_self, or_false, false_or, xlt_t, xlt_f, xle_t, xle_f, xeq_t, xeq_f, xand_f, xor_t]
    · rw [if_neg h2]
      have e1 := zby_shr (L := J (M + 1) (2 * b + 1)) ht
      rw [show t % 8 = t - 8 by omega] at e1
      simp (disch := first | omega | assumption | (simp (disch := omega) only [vup_fn, vup_o, vup_k, vup_at]; first | done | omega | assumption)) only [ze_37_0, ze_37_11, ze_37_19, ze_32_0, ze_32_5, ze_32_22, e, e1, Int.add_zero, ↓reduceIte, qw_id, zck_T, zck_t, zGor_v, zGor_n, zGor_e, zbs, vup_at, vup_vup, vup_self, vup_o, vup_k, vup_fn, ne_eq, not_true_eq_false, not_false_eq_true, and_true, true_and, and_self, and_false, false_and, or_true, true_or, or_self, or_false, false_or, xlt_t, xlt_f, xle_t, xle_f, xeq_t, xeq_f, xand_f, xor_t]
  · rw [if_neg (show ¬(0 ≤ b ∧ b < V M 2) from fun q => h1 q.2)] at e
    rw [if_neg h1]
    by_cases h2 : t < 8
    · simp (disch := first | omega | assumption | (simp (disch := omega) only [vup_fn, vup_o, vup_k, vup_at]; first | done | omega | assumption)) only [ze_37_0, ze_37_11, ze_37_19, ze_31_0, ze_31_5, ze_31_20, e, ez, Int.add_zero, ↓reduceIte, qw_id, zck_T, zck_t, zGor_v, zGor_n, zGor_e, zbs, vup_at, vup_vup, vup_self, vup_o, vup_k, vup_fn, ne_eq, not_true_eq_false, not_false_eq_true, and_true, true_and, and_self, and_false, false_and, or_true, true_or, or_self, or_false, false_or, xlt_t, xlt_f, xle_t, xle_f, xeq_t, xeq_f, xand_f, xor_t]
    · simp (disch := first | omega | assumption | (simp (disch := omega) only [vup_fn, vup_o, vup_k, vup_at]; first | done | omega | assumption)) only [ze_37_0, ze_37_11, ze_37_19, ze_32_0, ze_32_5, ze_32_22, e, ez, Int.add_zero, ↓reduceIte, qw_id, zck_T, zck_t, zGor_v, zGor_n, zGor_e, zbs, vup_at, vup_vup, vup_self, vup_o, vup_k, vup_fn, ne_eq, not_true_eq_false, not_false_eq_true, and_true, true_and, and_self, and_false, false_and, or_true, true_or, or_self, or_false, false_or, xlt_t, xlt_f, xle_t, xle_f, xeq_t, xeq_f, xand_f, xor_t]
theorem sp36 {M : Nat} {b t : Int} (hb : zBk 5 M) (h : 0 ≤ b ∧ b < 40) (ht : 0 ≤ t ∧ t < 16) (hm : 0 ≤ V M 2 ∧ V M 2 ≤ 40) : zGo false 36 0 [.ref M, .int (zi b), .int (zi t), .null] [] (zm V J d) = zI1 (yPi (if b < V M 2 then cSd J M b t else 0)) V J d := by
  have e := sp37 (J := J) (d := d) hb h ht hm
  have hr : 0 ≤ (if b < V M 2 then cSd J M b t else 0) ∧ (if b < V M 2 then cSd J M b t else 0) < 256 := by
    have := cSd_rng J M b t
    split
    · exact this
    · omega
  generalize (if b < V M 2 then cSd J M b t else 0) = x at *
  unfold yPi
  by_cases h0 : x = 0
  · rw [if_pos h0]
    simp (disch := first | omega | assumption | (simp (disch := omega) only [vup_fn, vup_o, vup_k, vup_at]; first | done | omega | assumption)) only [ze_36_0, ze_36_6, ze_36_20, e, Int.add_zero, ↓reduceIte, qw_id, zck_T, zck_t, zGor_v, zGor_n, zGor_e, zbs, vup_at, vup_vup, vup_self, vup_o, vup_k, vup_fn, ne_eq, not_true_eq_false, not_false_eq_true, and_true, true_and, and_self, and_false, false_and, or_true, true_or, or_self, or_false, false_or, xlt_t, xlt_f, xle_t, xle_f, xeq_t, xeq_f, xand_f, xor_t]
  · rw [if_neg h0]
    have e2 := qand_127 (x := x) (by omega)
    by_cases h1 : 128 ≤ x
    · rw [if_pos h1, show x - 128 = x % 128 by omega]
      simp (disch := first | omega | assumption | (simp (disch := omega) only [vup_fn, vup_o, vup_k, vup_at]; first | done | omega | assumption)) only [ze_36_0, ze_36_6, ze_36_20, e, e2, Int.add_zero, ↓reduceIte, qw_id, zck_T, zck_t, zGor_v, zGor_n, zGor_e, zbs, vup_at, vup_vup, vup_self, vup_o, vup_k, vup_fn, ne_eq, not_true_eq_false, not_false_eq_true, and_true, true_and, and_self, and_false, false_and, or_true, true_or, or_self, or_false, false_or, xlt_t, xlt_f, xle_t, xle_f, xeq_t, xeq_f, xand_f, xor_t]
    · rw [if_neg h1, show zI1 x V J d = zI1 (x % 128) V J d by rw [show x % 128 = x by omega]]
      simp (disch := first | omega | assumption | (simp (disch := omega) only [vup_fn, vup_o, vup_k, vup_at]; first | done | omega | assumption)) only [ze_36_0, ze_36_6, ze_36_20, e, e2, Int.add_zero, ↓reduceIte, qw_id, zck_T, zck_t, zGor_v, zGor_n, zGor_e, zbs, vup_at, vup_vup, vup_self, vup_o, vup_k, vup_fn, ne_eq, not_true_eq_false, not_false_eq_true, and_true, true_and, and_self, and_false, false_and, or_true, true_or, or_self, or_false, false_or, xlt_t, xlt_f, xle_t, xle_f, xeq_t, xeq_f, xand_f, xor_t]
theorem sp38 {M : Nat} {b t : Int} (hb : zBk 5 M) (h : 0 ≤ b ∧ b < 40) (ht : 0 ≤ t ∧ t < 16) (hm : 0 ≤ V M 2 ∧ V M 2 ≤ 40) : zGo false 38 0 [.ref M, .int (zi b), .int (zi t)] [] (zm V J d) = zI1 (yBg (if b < V M 2 then cSd J M b t else 0)) V J d := by
  have e := sp37 (J := J) (d := d) hb h ht hm
  have hr : 0 ≤ (if b < V M 2 then cSd J M b t else 0) ∧ (if b < V M 2 then cSd J M b t else 0) < 256 := by
    have := cSd_rng J M b t
    split
    · exact this
    · omega
  generalize (if b < V M 2 then cSd J M b t else 0) = x at *
  unfold yBg
  have e2 := qand_128 hr
  by_cases h1 : 128 ≤ x
  · rw [if_pos h1] at e2
    rw [if_pos h1]
    simp (disch := first | omega | assumption | (simp (disch := omega) only [vup_fn, vup_o, vup_k, vup_at]; first | done | omega | assumption)) only [ze_38_0, ze_38_6, ze_38_18, e, e2, Int.add_zero, ↓reduceIte, qw_id, zck_T, zck_t, zGor_v, zGor_n, zGor_e, zbs, vup_at, vup_vup, vup_self, vup_o, vup_k, vup_fn, ne_eq, not_true_eq_false, not_false_eq_true, and_true, true_and, and_self, and_false, false_and, or_true, true_or, or_self, or_false, false_or, xlt_t, xlt_f, xle_t, xle_f, xeq_t, xeq_f, xand_f, xor_t]
  · rw [if_neg h1] at e2
    rw [if_neg h1]
    simp (disch := first | omega | assumption | (simp (disch := omega) only [vup_fn, vup_o, vup_k, vup_at]; first | done | omega | assumption)) only [ze_38_0, ze_38_6, ze_38_18, e, e2, Int.add_zero, ↓reduceIte, qw_id, zck_T, zck_t, zGor_v, zGor_n, zGor_e, zbs, vup_at, vup_vup, vup_self, vup_o, vup_k, vup_fn, ne_eq, not_true_eq_false, not_false_eq_true, and_true, true_and, and_self, and_false, false_and, or_true, true_or, or_self, or_false, false_or, xlt_t, xlt_f, xle_t, xle_f, xeq_t, xeq_f, xand_f, xor_t]
theorem yMb_2 {x : Int} (h : 0 ≤ x ∧ x < 256) : (yMb x = 0 ↔ x = 0) ∧ (x ≠ 0 → yMb x - 2 = yPi x) ∧ (x = 0 → yPi x = -2) ∧ 0 ≤ yMb x ∧ yMb x < 256 := by
  unfold yMb yPi
  by_cases h0 : x = 0
  · subst h0
    exact ⟨⟨fun _ => rfl, fun _ => rfl⟩, fun q => absurd rfl q, fun _ => rfl, by decide, by decide⟩
  · rw [if_neg h0, if_neg h0]
    by_cases h1 : 128 ≤ x
    · rw [if_pos h1, if_pos h1]
      omega
    · rw [if_neg h1, if_neg h1]
      omega
theorem rMus_by {M : Nat} {W : zVt} {K : zJt} {s b t : Int} (h : rMus V J M W K s) (hb : 0 ≤ b ∧ b < V M 2) (ht : 0 ≤ t ∧ t < 16) : (t < 8 → zby (K 451 (40 * s + b)) t = yMb (cSd J M b t)) ∧ (8 ≤ t → zby (K 452 (40 * s + b)) (t - 8) = yMb (cSd J M b t)) := by
  obtain ⟨_, _, _, B, hB, hm⟩ := h
  obtain ⟨m1, m2, m3⟩ := hm b hb.1 hb.2
  unfold cSd
  refine ⟨fun h8 => ?_, fun h8 => ?_⟩
  · rw [if_pos h8, (m1 t ht.1 h8).1]
    exact (m2 t ht.1 h8).1
  · rw [if_neg (by omega), (m1 (t - 8) (by omega) (by omega)).2]
    rw [show 16 * b + (t - 8) + 8 = 16 * b + (t - 8 + 8) by omega]
    exact (m2 (t - 8) (by omega) (by omega)).2
theorem rMus_bg {M : Nat} {W : zVt} {K : zJt} {s b : Int} (h : rMus V J M W K s) (hb : 0 ≤ b ∧ b < V M 2) : W 453 (40 * s + b) = yHr (fun t => yBg (cSd J M b t)) 16 := by
  obtain ⟨_, _, _, B, hB, hm⟩ := h
  obtain ⟨m1, m2, m3⟩ := hm b hb.1 hb.2
  rw [m3]
  refine yHr_cong 16 (by omega) (fun t t0 t1 => ?_)
  show yBg (B (16 * b + t)) = yBg (cSd J M b t)
  unfold cSd
  by_cases h8 : t < 8
  · rw [if_pos h8, (m1 t t0 h8).1]
  · rw [if_neg h8, (m1 (t - 8) (by omega) (by omega)).2, show 16 * b + (t - 8) + 8 = 16 * b + t by omega]
theorem yBg_b01 (g : Int → Int) : yB01 (fun t => yBg (g t)) := fun t _ _ => by
  show yBg (g t) = 0 ∨ yBg (g t) = 1
  unfold yBg
  split
  · exact Or.inr rfl
  · exact Or.inl rfl
end
