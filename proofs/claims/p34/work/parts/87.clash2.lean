/-! part 87: clashes in the class -/
def qH (V : zVt) (p v : Int) : Int := if V (50 + 15 * (p * 4 + v).toNat) 3 = 1 ∧ V (50 + 15 * (p * 4 + v).toNat + 13) 0 = 0 then 1 else 0
def qN (V : zVt) (p v : Int) : Int := if qH V p v = 1 then V (50 + 15 * (p * 4 + v).toNat + 13) 2 else 0
def qB (V : zVt) (p b v : Int) : Int := if b < qN V p v then 1 else 0
/-- voices that clash in meter -/
abbrev qU (V : zVt) (p b : Int) : Prop := ∃ v u : Int, (0 ≤ v ∧ v < 4) ∧ (0 ≤ u ∧ u < 4) ∧ b < qN V p v ∧ b < qN V p u ∧ V (50 + 15 * (p * 4 + v).toNat + 13) 3 ≠ V (50 + 15 * (p * 4 + u).toNat + 13) 3
def qW (V : zVt) (J : zJt) (p b k l u : Int) : Int := if b < qN V p u ∧ b < qN V p l then oS (qX J (50 + 15 * (p * 4 + u).toNat + 13) (50 + 15 * (p * 4 + l).toNat + 13) b k) (V (50 + 15 * (p * 4 + l).toNat + 13) 3).toNat else 0
def qZ (V : zVt) (J : zJt) (p b k : Int) : Int := oS (fun l => oS (qW V J p b k l) l.toNat) 4
theorem qH_01 (V : zVt) (p v : Int) : qH V p v = 0 ∨ qH V p v = 1 := by
  unfold qH
  split
  · exact Or.inr rfl
  · exact Or.inl rfl
theorem qB_01 (V : zVt) (p b v : Int) : qB V p b v = 0 ∨ qB V p b v = 1 := by
  unfold qB
  split
  · exact Or.inr rfl
  · exact Or.inl rfl
section
variable {V : zVt} {J : zJt} {N p b : Int} {d : Nat → Nat → UInt64}
/-- what is known of a voice -/
theorem qFa (h : zInv N V J) (hp : 0 ≤ p ∧ p < 3) {v : Int} (hv : 0 ≤ v ∧ v < 4) : zBk 6 (50 + 15 * (p * 4 + v).toNat) ∧ zBk 5 (50 + 15 * (p * 4 + v).toNat + 13) ∧ (V (50 + 15 * (p * 4 + v).toNat) 3 = 0 ∨ V (50 + 15 * (p * 4 + v).toNat) 3 = 1) ∧ (V (50 + 15 * (p * 4 + v).toNat) 3 = 1 → cMok V (50 + 15 * (p * 4 + v).toNat + 13)) ∧ (0 ≤ qN V p v ∧ qN V p v ≤ 40) := by
  have hw : (p * 4 + v).toNat < 12 := by omega
  have hB := zBk_part hw
  obtain ⟨a1, a2, a3, a4, a5, a6, a7⟩ := h.2.2.1 _ hw
  have hm : V (50 + 15 * (p * 4 + v).toNat) 3 = 1 → cMok V (50 + 15 * (p * 4 + v).toNat + 13) := fun q => by
    have := cMu_ok h hw (a7 q).1
    rw [show 63 + 15 * (p * 4 + v).toNat = 50 + 15 * (p * 4 + v).toNat + 13 by omega] at this
    exact this
  refine ⟨hB, zBk_6music hB, a2, hm, ?_⟩
  unfold qN qH
  by_cases q : V (50 + 15 * (p * 4 + v).toNat) 3 = 1 ∧ V (50 + 15 * (p * 4 + v).toNat + 13) 0 = 0
  · rw [if_pos q, if_pos rfl]
    exact (hm q.1).2.2.1
  · rw [if_neg q, if_neg (by decide)]
    decide
theorem sp44 (h : zInv N V J) (hp : 0 ≤ p ∧ p < 3) {v : Int} (hv : 0 ≤ v ∧ v < 4) : zGo false 44 0 [.ref (50 + 15 * (p * 4 + v).toNat)] [] (zm V J d) = zI1 (qH V p v) V J d := by
  obtain ⟨f1, f2, f3, f4, f5⟩ := qFa h hp hv
  unfold qH
  by_cases q : V (50 + 15 * (p * 4 + v).toNat) 3 = 1
  · have f6 := f4 q
    unfold cMok at f6
    by_cases q2 : V (50 + 15 * (p * 4 + v).toNat + 13) 0 = 0
    · rw [if_pos ⟨q, q2⟩]
      simp (disch := first | omega | assumption | (simp (disch := omega) only [vup_fn, vup_o, vup_k, vup_at]; first | done | omega | assumption)) only [ze_44_0, ze_44_21, ze_44_22, Int.add_zero, ↓reduceIte, qw_id, zck_T, zck_t, zGor_v, zGor_n, zGor_e, zbs, vup_at, vup_vup, vup_self, vup_o, vup_k, vup_fn, ne_eq, not_true_eq_false, not_false_eq_true, and_true, true_and, and_self, and_false, false_and, or_true, true_or, or_self, or_false, false_or, xlt_t, xlt_f, xle_t, xle_f, xeq_t, xeq_f, xand_f, xor_t]
    · rw [if_neg (fun w => q2 w.2)]
      simp (disch := first | omega | assumption | (simp (disch := omega) only [vup_fn, vup_o, vup_k, vup_at]; first | done | omega | assumption)) only [ze_44_0, ze_44_21, ze_44_22, Int.add_zero, ↓reduceIte, qw_id, zck_T, zck_t, zGor_v, zGor_n, zGor_e, zbs, vup_at, vup_vup, vup_self, vup_o, vup_k, vup_fn, ne_eq, not_true_eq_false, not_false_eq_true, and_true, true_and, and_self, and_false, false_and, or_true, true_or, or_self, or_false, false_or, xlt_t, xlt_f, xle_t, xle_f, xeq_t, xeq_f, xand_f, xor_t]
  · rw [if_neg (fun w => q w.1)]
    simp (disch := first | omega | assumption | (simp (disch := omega) only [vup_fn, vup_o, vup_k, vup_at]; first | done | omega | assumption)) only [ze_44_0, ze_44_21, ze_44_22, Int.add_zero, ↓reduceIte, qw_id, zck_T, zck_t, zGor_v, zGor_n, zGor_e, zbs, vup_at, vup_vup, vup_self, vup_o, vup_k, vup_fn, ne_eq, not_true_eq_false, not_false_eq_true, and_true, true_and, and_self, and_false, false_and, or_true, true_or, or_self, or_false, false_or, xlt_t, xlt_f, xle_t, xle_f, xeq_t, xeq_f, xand_f, xor_t]
theorem qN_has (h : qH V p b = 1) : qN V p b = V (50 + 15 * (p * 4 + b).toNat + 13) 2 := if_pos h
theorem sp30q (h : zInv N V J) (hp : 0 ≤ p ∧ p < 3) {v : Int} (hv : 0 ≤ v ∧ v < 4) (hb : 0 ≤ b ∧ b < 40) (hh : qH V p v = 1) : zGo false 30 0 [.ref (50 + 15 * (p * 4 + v).toNat + 13), .int (zi b)] [] (zm V J d) = zI1 (qB V p b v) V J d := by
  obtain ⟨f1, f2, f3, f4, f5⟩ := qFa h hp hv
  have e := qN_has hh
  rw [e] at f5
  have e30 := sp30 (V := V) (J := J) (d := d) (b := b) f2 (by omega) f5
  unfold qB
  rw [e]
  by_cases q : b < V (50 + 15 * (p * 4 + v).toNat + 13) 2
  · rw [if_pos q]
    rw [if_pos ⟨hb.1, q⟩] at e30
    exact e30
  · rw [if_neg q]
    rw [if_neg (fun w => q w.2)] at e30
    exact e30
theorem sl126 (h : zInv N V J) (hp : 0 ≤ p ∧ p < 3) (hb : 0 ≤ b ∧ b < 40) (n : Nat) : ∀ (v : Int) (x : Value), 0 ≤ v → 4 = v + n → zGo false 126 8 [.ref 0, .int (zi p), .int (zi b), .int (zi (oS (qH V p) v.toNat)), .int (zi (oS (qB V p b) v.toNat)), .int (zi v), x] [] (zm V J d) = zI1 (if 0 < oS (qB V p b) 4 ∧ oS (qB V p b) 4 < oS (qH V p) 4 then 1 else 0) V J d := by
  induction n with
  | zero =>
    intro v x v0 hv
    obtain rfl : v = 4 := by omega
    have r1 := oS_rng (f := qH V p) 4 (fun k _ _ => qH_01 V p k)
    have r2 := oS_rng (f := qB V p b) 4 (fun k _ _ => qB_01 V p b k)
    rw [show (4 : Int).toNat = 4 from rfl]
    by_cases a1 : 0 < oS (qB V p b) 4
    · by_cases a2 : oS (qB V p b) 4 < oS (qH V p) 4
      · rw [if_pos ⟨a1, a2⟩]
        simp (disch := first | omega | assumption | (simp (disch := omega) only [vup_fn, vup_o, vup_k, vup_at]; first | done | omega | assumption)) only [ze_126_0, ze_126_8, ze_126_32, ze_126_49, ze_126_57, ze_126_60, ze_126_81, ze_126_82, Int.add_zero, ↓reduceIte, qw_id, zck_T, zck_t, zGor_v, zGor_n, zGor_e, zbs, vup_at, vup_vup, vup_self, vup_o, vup_k, vup_fn, ne_eq, not_true_eq_false, not_false_eq_true, and_true, true_and, and_self, and_false, false_and, or_true, true_or, or_self, or_false, false_or, xlt_t, xlt_f, xle_t, xle_f, xeq_t, xeq_f, xand_f, xor_t]
      · rw [if_neg (fun w => a2 w.2)]
        simp (disch := first | omega | assumption | (simp (disch := omega) only [vup_fn, vup_o, vup_k, vup_at]; first | done | omega | assumption)) only [ze_126_0, ze_126_8, ze_126_32, ze_126_49, ze_126_57, ze_126_60, ze_126_81, ze_126_82, Int.add_zero, ↓reduceIte, qw_id, zck_T, zck_t, zGor_v, zGor_n, zGor_e, zbs, vup_at, vup_vup, vup_self, vup_o, vup_k, vup_fn, ne_eq, not_true_eq_false, not_false_eq_true, and_true, true_and, and_self, and_false, false_and, or_true, true_or, or_self, or_false, false_or, xlt_t, xlt_f, xle_t, xle_f, xeq_t, xeq_f, xand_f, xor_t]
    · rw [if_neg (fun w => a1 w.1)]
      simp (disch := first | omega | assumption | (simp (disch := omega) only [vup_fn, vup_o, vup_k, vup_at]; first | done | omega | assumption)) only [ze_126_0, ze_126_8, ze_126_32, ze_126_49, ze_126_57, ze_126_60, ze_126_81, ze_126_82, Int.add_zero, ↓reduceIte, qw_id, zck_T, zck_t, zGor_v, zGor_n, zGor_e, zbs, vup_at, vup_vup, vup_self, vup_o, vup_k, vup_fn, ne_eq, not_true_eq_false, not_false_eq_true, and_true, true_and, and_self, and_false, false_and, or_true, true_or, or_self, or_false, false_or, xlt_t, xlt_f, xle_t, xle_f, xeq_t, xeq_f, xand_f, xor_t]
  | succ n ih =>
    intro v x v0 hv
    have e := fun x => ih (v + 1) x (by omega) (by omega)
    rw [oS_s v0, oS_s v0] at e
    have r1 := oS_rng (f := qH V p) v.toNat (fun k _ _ => qH_01 V p k)
    have r2 := oS_rng (f := qB V p b) v.toNat (fun k _ _ => qB_01 V p b k)
    have hv4 : 0 ≤ v ∧ v < 4 := by omega
    obtain ⟨f1, f2, f3, f4, f5⟩ := qFa h hp hv4
    have e44 := sp44 (d := d) h hp hv4
    have e30 := fun q => sp30q (d := d) h hp hv4 hb q
    have hb0 : qH V p v = 0 → qB V p b v = 0 := fun q => by
      unfold qB qN
      rw [if_neg (show ¬ qH V p v = 1 by omega), if_neg (by omega)]
    rw [ze_126_8]
    rcases qH_01 V p v with q | q
    · rw [q, hb0 q, Int.add_zero, Int.add_zero] at e
      rw [q] at e44
      simp (disch := first | omega | assumption | (simp (disch := omega) only [vup_fn, vup_o, vup_k, vup_at]; first | done | omega | assumption)) only [e44, ze_126_32, ze_126_60, e, Int.add_zero, ↓reduceIte, qw_id, zck_T, zck_t, zGor_v, zGor_n, zGor_e, zbs, vup_at, vup_vup, vup_self, vup_o, vup_k, vup_fn, ne_eq, not_true_eq_false, not_false_eq_true, and_true, true_and, and_self, and_false, false_and, or_true, true_or, or_self, or_false, false_or, xlt_t, xlt_f, xle_t, xle_f, xeq_t, xeq_f, xand_f, xor_t]
    · have e3 := e30 q
      rw [q] at e e44
      rcases qB_01 V p b v with g | g
      · rw [g, Int.add_zero] at e
        rw [g] at e3
        simp (disch := first | omega | assumption | (simp (disch := omega) only [vup_fn, vup_o, vup_k, vup_at]; first | done | omega | assumption)) only [e44, ze_126_32, ze_126_49, ze_126_57, ze_126_60, e3, e, Int.add_zero, ↓reduceIte, qw_id, zck_T, zck_t, zGor_v, zGor_n, zGor_e, zbs, vup_at, vup_vup, vup_self, vup_o, vup_k, vup_fn, ne_eq, not_true_eq_false, not_false_eq_true, and_true, true_and, and_self, and_false, false_and, or_true, true_or, or_self, or_false, false_or, xlt_t, xlt_f, xle_t, xle_f, xeq_t, xeq_f, xand_f, xor_t]
      · rw [g] at e e3
        simp (disch := first | omega | assumption | (simp (disch := omega) only [vup_fn, vup_o, vup_k, vup_at]; first | done | omega | assumption)) only [e44, ze_126_32, ze_126_49, ze_126_57, ze_126_60, e3, e, Int.add_zero, ↓reduceIte, qw_id, zck_T, zck_t, zGor_v, zGor_n, zGor_e, zbs, vup_at, vup_vup, vup_self, vup_o, vup_k, vup_fn, ne_eq, not_true_eq_false, not_false_eq_true, and_true, true_and, and_self, and_false, false_and, or_true, true_or, or_self, or_false, false_or, xlt_t, xlt_f, xle_t, xle_f, xeq_t, xeq_f, xand_f, xor_t]
theorem sl127 (h : zInv N V J) (hp : 0 ≤ p ∧ p < 3) (hb : 0 ≤ b ∧ b < 40) (n : Nat) : ∀ (v t : Int) (x : Value), 0 ≤ v → 4 = v + n → (t = -1 ∧ (∀ u, 0 ≤ u → u < v → ¬ b < qN V p u) ∨ (0 ≤ t ∧ t ≤ 16) ∧ (∃ u, (0 ≤ u ∧ u < v) ∧ b < qN V p u) ∧ ∀ u, 0 ≤ u → u < v → b < qN V p u → V (50 + 15 * (p * 4 + u).toNat + 13) 3 = t) → ∃ y : Int, (y = 0 ∨ y = 1) ∧ (y = 1 ↔ qU V p b) ∧ zGo false 127 5 [.ref 0, .int (zi p), .int (zi b), .int (zi t), .int (zi v), x] [] (zm V J d) = zI1 y V J d := by
  induction n with
  | zero =>
    intro v t x v0 hv ht
    obtain rfl : v = 4 := by omega
    refine ⟨0, Or.inl rfl, ⟨fun q => by omega, fun ⟨v, u, v1, u1, v2, u2, ne⟩ => ?_⟩, ?_⟩
    · rcases ht with ⟨_, t2⟩ | ⟨_, _, t3⟩
      · exact absurd v2 (t2 v v1.1 v1.2)
      · exact absurd ((t3 v v1.1 v1.2 v2).trans (t3 u u1.1 u1.2 u2).symm) ne
    · simp (disch := first | omega | assumption | (simp (disch := omega) only [vup_fn, vup_o, vup_k, vup_at]; first | done | omega | assumption)) only [ze_127_0, ze_127_5, ze_127_29, ze_127_41, ze_127_63, ze_127_72, Int.add_zero, ↓reduceIte, qw_id, zck_T, zck_t, zGor_v, zGor_n, zGor_e, zbs, vup_at, vup_vup, vup_self, vup_o, vup_k, vup_fn, ne_eq, not_true_eq_false, not_false_eq_true, and_true, true_and, and_self, and_false, false_and, or_true, true_or, or_self, or_false, false_or, xlt_t, xlt_f, xle_t, xle_f, xeq_t, xeq_f, xand_f, xor_t]
  | succ n ih =>
    intro v t x v0 hv ht
    have hv4 : 0 ≤ v ∧ v < 4 := by omega
    obtain ⟨f1, f2, f3, f4, f5⟩ := qFa h hp hv4
    have e44 := sp44 (d := d) h hp hv4
    have e30 := fun q => sp30q (d := d) h hp hv4 hb q
    by_cases hn : b < qN V p v
    · have q : qH V p v = 1 := by
        rcases qH_01 V p v with q | q
        · unfold qN at hn
          rw [if_neg (show ¬ qH V p v = 1 by omega)] at hn
          omega
        · exact q
      have e3 := e30 q
      rw [show qB V p b v = 1 from if_pos hn] at e3
      rw [q] at e44
      have hmt : 0 ≤ V (50 + 15 * (p * 4 + v).toNat + 13) 3 ∧ V (50 + 15 * (p * 4 + v).toNat + 13) 3 ≤ 16 := by
        have q2 := q
        unfold qH at q2
        by_cases q3 : V (50 + 15 * (p * 4 + v).toNat) 3 = 1 ∧ V (50 + 15 * (p * 4 + v).toNat + 13) 0 = 0
        · exact (f4 q3.1).2.2.2.2.1
        · rw [if_neg q3] at q2
          omega
      by_cases hne : t ≠ -1 ∧ t ≠ V (50 + 15 * (p * 4 + v).toNat + 13) 3
      · refine ⟨1, Or.inr rfl, ⟨fun _ => ?_, fun _ => rfl⟩, ?_⟩
        · rcases ht with ⟨t1, _⟩ | ⟨_, ⟨u, u1, u2⟩, t3⟩
          · omega
          · exact ⟨v, u, hv4, ⟨u1.1, by omega⟩, hn, u2, fun w => hne.2 (by rw [w]; exact (t3 u u1.1 u1.2 u2).symm)⟩
        · have t1 := hne.1
          have t2 := hne.2
          have t3 : 0 ≤ t ∧ t ≤ 16 := by omega
          rw [ze_127_5]
          simp (disch := first | omega | assumption | (simp (disch := omega) only [vup_fn, vup_o, vup_k, vup_at]; first | done | omega | assumption)) only [e44, ze_127_29, e3, ze_127_41, Int.add_zero, ↓reduceIte, qw_id, zck_T, zck_t, zGor_v, zGor_n, zGor_e, zbs, vup_at, vup_vup, vup_self, vup_o, vup_k, vup_fn, ne_eq, not_true_eq_false, not_false_eq_true, and_true, true_and, and_self, and_false, false_and, or_true, true_or, or_self, or_false, false_or, xlt_t, xlt_f, xle_t, xle_f, xeq_t, xeq_f, xand_f, xor_t]
      · obtain ⟨y, y1, y2, y3⟩ := ih (v + 1) (V (50 + 15 * (p * 4 + v).toNat + 13) 3) (.ref (50 + 15 * (p * 4 + v).toNat)) (by omega) (by omega) (Or.inr ⟨hmt, ⟨v, by omega, hn⟩, fun u u0 u1 u2 => by
          by_cases e : u = v
          · rw [e]
          · rcases ht with ⟨_, t2⟩ | ⟨t1, _, t3⟩
            · exact absurd u2 (t2 u u0 (by omega))
            · have := t3 u u0 (by omega) u2
              omega⟩)
        refine ⟨y, y1, y2, ?_⟩
        rw [ze_127_5]
        by_cases t1 : t = -1
        · simp (disch := first | omega | assumption | (simp (disch := omega) only [vup_fn, vup_o, vup_k, vup_at]; first | done | omega | assumption)) only [e44, ze_127_29, e3, ze_127_41, ze_127_63, ze_127_72, y3, Int.add_zero, ↓reduceIte, qw_id, zck_T, zck_t, zGor_v, zGor_n, zGor_e, zbs, vup_at, vup_vup, vup_self, vup_o, vup_k, vup_fn, ne_eq, not_true_eq_false, not_false_eq_true, and_true, true_and, and_self, and_false, false_and, or_true, true_or, or_self, or_false, false_or, xlt_t, xlt_f, xle_t, xle_f, xeq_t, xeq_f, xand_f, xor_t]
        · have t2 : t = V (50 + 15 * (p * 4 + v).toNat + 13) 3 := Decidable.byContradiction (fun w => hne ⟨t1, w⟩)
          have t3 : 0 ≤ t ∧ t ≤ 16 := by rw [t2]; exact hmt
          simp (disch := first | omega | assumption | (simp (disch := omega) only [vup_fn, vup_o, vup_k, vup_at]; first | done | omega | assumption)) only [e44, ze_127_29, e3, ze_127_41, ze_127_63, ze_127_72, y3, Int.add_zero, ↓reduceIte, qw_id, zck_T, zck_t, zGor_v, zGor_n, zGor_e, zbs, vup_at, vup_vup, vup_self, vup_o, vup_k, vup_fn, ne_eq, not_true_eq_false, not_false_eq_true, and_true, true_and, and_self, and_false, false_and, or_true, true_or, or_self, or_false, false_or, xlt_t, xlt_f, xle_t, xle_f, xeq_t, xeq_f, xand_f, xor_t]
    · obtain ⟨y, y1, y2, y3⟩ := ih (v + 1) t (.ref (50 + 15 * (p * 4 + v).toNat)) (by omega) (by omega) (by
        rcases ht with ⟨t1, t2⟩ | ⟨t1, ⟨u, u1, u2⟩, t3⟩
        · refine Or.inl ⟨t1, fun u u0 u1 => ?_⟩
          by_cases e : u = v
          · rw [e]; exact hn
          · exact t2 u u0 (by omega)
        · refine Or.inr ⟨t1, ⟨u, by omega, u2⟩, fun u u0 u1 u2 => ?_⟩
          by_cases e : u = v
          · rw [e] at u2
            exact absurd u2 hn
          · exact t3 u u0 (by omega) u2)
      refine ⟨y, y1, y2, ?_⟩
      rw [ze_127_5]
      rcases qH_01 V p v with q | q
      · rw [q] at e44
        simp (disch := first | omega | assumption | (simp (disch := omega) only [vup_fn, vup_o, vup_k, vup_at]; first | done | omega | assumption)) only [e44, ze_127_29, ze_127_72, y3, Int.add_zero, ↓reduceIte, qw_id, zck_T, zck_t, zGor_v, zGor_n, zGor_e, zbs, vup_at, vup_vup, vup_self, vup_o, vup_k, vup_fn, ne_eq, not_true_eq_false, not_false_eq_true, and_true, true_and, and_self, and_false, false_and, or_true, true_or, or_self, or_false, false_or, xlt_t, xlt_f, xle_t, xle_f, xeq_t, xeq_f, xand_f, xor_t]
      · have e3 := e30 q
        rw [show qB V p b v = 0 from if_neg hn] at e3
        rw [q] at e44
        simp (disch := first | omega | assumption | (simp (disch := omega) only [vup_fn, vup_o, vup_k, vup_at]; first | done | omega | assumption)) only [e44, ze_127_29, e3, ze_127_41, ze_127_72, y3, Int.add_zero, ↓reduceIte, qw_id, zck_T, zck_t, zGor_v, zGor_n, zGor_e, zbs, vup_at, vup_vup, vup_self, vup_o, vup_k, vup_fn, ne_eq, not_true_eq_false, not_false_eq_true, and_true, true_and, and_self, and_false, false_and, or_true, true_or, or_self, or_false, false_or, xlt_t, xlt_f, xle_t, xle_f, xeq_t, xeq_f, xand_f, xor_t]
theorem sp127 (h : zInv N V J) (hp : 0 ≤ p ∧ p < 3) (hb : 0 ≤ b ∧ b < 40) : ∃ y : Int, (y = 0 ∨ y = 1) ∧ (y = 1 ↔ qU V p b) ∧ zGo false 127 0 [.ref 0, .int (zi p), .int (zi b), .null, .null, .null] [] (zm V J d) = zI1 y V J d := by
  obtain ⟨y, y1, y2, y3⟩ := sl127 (d := d) h hp hb 4 0 (-1) .null (by omega) (by omega) (Or.inl ⟨rfl, fun u u0 u1 => by omega⟩)
  exact ⟨y, y1, y2, by rw [ze_127_0]; exact y3⟩
theorem sp126 (h : zInv N V J) (hp : 0 ≤ p ∧ p < 3) (hb : 0 ≤ b ∧ b < 40) : zGo false 126 0 [.ref 0, .int (zi p), .int (zi b), .null, .null, .null, .null] [] (zm V J d) = zI1 (if 0 < oS (qB V p b) 4 ∧ oS (qB V p b) 4 < oS (qH V p) 4 then 1 else 0) V J d := by
  have e := sl126 (d := d) h hp hb 4 0 .null (by omega) (by omega)
  rw [show oS (qH V p) (0 : Int).toNat = 0 from rfl, show oS (qB V p b) (0 : Int).toNat = 0 from rfl] at e
  rw [ze_126_0]
  exact e
/-- the inner loop over upper voices -/
theorem sl125u (h : zInv N V J) (hp : 0 ≤ p ∧ p < 3) (hb : 0 ≤ b ∧ b < 40) {k x4 l : Int} (hk : k = 2 ∨ k = 3) (hl : 0 ≤ l ∧ l < 4) (hU : ¬ qU V p b) (n : Nat) : ∀ (u s : Int) (x8 x9 : Value), 0 ≤ u → l = u + n → ∃ y8 y9 : Value, zGo false 125 65 [.ref 0, .int (zi p), .int (zi b), .int (zi k), .int (zi x4), .int (zi (s + oS (qW V J p b k l) u.toNat)), .int (zi l), .int (zi u), x8, x9] [] (zm V J d) = zGo false 125 56 [.ref 0, .int (zi p), .int (zi b), .int (zi k), .int (zi x4), .int (zi (s + oS (qW V J p b k l) l.toNat)), .int (zi (l + 1)), .int (zi l), y8, y9] [] (zm V J d) := by
  induction n with
  | zero =>
    intro u s x8 x9 u0 hu
    obtain rfl : l = u := by omega
    refine ⟨x8, x9, ?_⟩
    rw [ze_125_65]
    simp (disch := first | omega | assumption | (simp (disch := omega) only [vup_fn, vup_o, vup_k, vup_at]; first | done | omega | assumption)) only [Int.add_zero, ↓reduceIte, qw_id, zck_T, zck_t, zGor_v, zGor_n, zGor_e, zbs, vup_at, vup_vup, vup_self, vup_o, vup_k, vup_fn, ne_eq, not_true_eq_false, not_false_eq_true, and_true, true_and, and_self, and_false, false_and, or_true, true_or, or_self, or_false, false_or, xlt_t, xlt_f, xle_t, xle_f, xeq_t, xeq_f, xand_f, xor_t]
  | succ n ih =>
    intro u s x8 x9 u0 hu
    have hu4 : 0 ≤ u ∧ u < 4 := by omega
    obtain ⟨y8, y9, e⟩ := ih (u + 1) s (.ref (50 + 15 * (p * 4 + u).toNat)) (.ref (50 + 15 * (p * 4 + l).toNat)) (by omega) (by omega)
    rw [oS_s u0, ← Int.add_assoc] at e
    refine ⟨y8, y9, ?_⟩
    obtain ⟨f1, f2, f3, f4, f5⟩ := qFa h hp hu4
    obtain ⟨g1, g2, g3, g4, g5⟩ := qFa h hp hl
    have e44 := sp44 (d := d) h hp hu4
    have e44l := sp44 (d := d) h hp hl
    have hw : qW V J p b k l u = if b < qN V p u ∧ b < qN V p l then oS (qX J (50 + 15 * (p * 4 + u).toNat + 13) (50 + 15 * (p * 4 + l).toNat + 13) b k) (V (50 + 15 * (p * 4 + l).toNat + 13) 3).toNat else 0 := rfl
    rw [ze_125_65]
    rcases qH_01 V p u with q | q
    · have z : qN V p u = 0 := if_neg (show ¬ qH V p u = 1 by omega)
      rw [if_neg (fun w => by omega)] at hw
      rw [hw, Int.add_zero] at e
      rw [q] at e44
      simp (disch := first | omega | assumption | (simp (disch := omega) only [vup_fn, vup_o, vup_k, vup_at]; first | done | omega | assumption)) only [e44, ze_125_103, ze_125_134, e, Int.add_zero, ↓reduceIte, qw_id, zck_T, zck_t, zGor_v, zGor_n, zGor_e, zbs, vup_at, vup_vup, vup_self, vup_o, vup_k, vup_fn, ne_eq, not_true_eq_false, not_false_eq_true, and_true, true_and, and_self, and_false, false_and, or_true, true_or, or_self, or_false, false_or, xlt_t, xlt_f, xle_t, xle_f, xeq_t, xeq_f, xand_f, xor_t]
    · rw [q] at e44
      rcases qH_01 V p l with r | r
      · have z : qN V p l = 0 := if_neg (show ¬ qH V p l = 1 by omega)
        rw [if_neg (fun w => by omega)] at hw
        rw [hw, Int.add_zero] at e
        rw [r] at e44l
        simp (disch := first | omega | assumption | (simp (disch := omega) only [vup_fn, vup_o, vup_k, vup_at]; first | done | omega | assumption)) only [e44, e44l, ze_125_103, ze_125_111, ze_125_134, e, Int.add_zero, ↓reduceIte, qw_id, zck_T, zck_t, zGor_v, zGor_n, zGor_e, zbs, vup_at, vup_vup, vup_self, vup_o, vup_k, vup_fn, ne_eq, not_true_eq_false, not_false_eq_true, and_true, true_and, and_self, and_false, false_and, or_true, true_or, or_self, or_false, false_or, xlt_t, xlt_f, xle_t, xle_f, xeq_t, xeq_f, xand_f, xor_t]
      · rw [r] at e44l
        have z1 := qN_has q
        have z2 := qN_has r
        have hmt : ∀ v, 0 ≤ v → v < 4 → qH V p v = 1 → cMok V (50 + 15 * (p * 4 + v).toNat + 13) := fun v v0 v1 v2 => by
          unfold qH at v2
          by_cases q3 : V (50 + 15 * (p * 4 + v).toNat) 3 = 1 ∧ V (50 + 15 * (p * 4 + v).toNat + 13) 0 = 0
          · exact (qFa h hp ⟨v0, v1⟩).2.2.2.1 q3.1
          · rw [if_neg q3] at v2
            omega
        have k1 := hmt u u0 (by omega) q
        have k2 := hmt l hl.1 hl.2 r
        have e40 := sp40 (V := V) (J := J) (d := d) f2 g2 (b := b) (k := k) hb k1.2.2.1 k2.2.2.1 k1.2.2.2.2.1 hk
        have hw2 : (if b < V (50 + 15 * (p * 4 + u).toNat + 13) 2 ∧ b < V (50 + 15 * (p * 4 + l).toNat + 13) 2 then oS (qX J (50 + 15 * (p * 4 + u).toNat + 13) (50 + 15 * (p * 4 + l).toNat + 13) b k) (V (50 + 15 * (p * 4 + u).toNat + 13) 3).toNat else 0) = qW V J p b k l u := by
          rw [hw, z1, z2]
          by_cases c : b < V (50 + 15 * (p * 4 + u).toNat + 13) 2 ∧ b < V (50 + 15 * (p * 4 + l).toNat + 13) 2
          · rw [if_pos c, if_pos c]
            by_cases c2 : V (50 + 15 * (p * 4 + u).toNat + 13) 3 = V (50 + 15 * (p * 4 + l).toNat + 13) 3
            · rw [show V (50 + 15 * (p * 4 + u).toNat + 13) 3 = V (50 + 15 * (p * 4 + l).toNat + 13) 3 from c2]
            · exact absurd ⟨u, l, hu4, hl, by omega, by omega, c2⟩ hU
          · rw [if_neg c, if_neg c]
        rw [hw2] at e40
        simp (disch := first | omega | assumption | (simp (disch := omega) only [vup_fn, vup_o, vup_k, vup_at]; first | done | omega | assumption)) only [e44, e44l, ze_125_103, ze_125_111, e40, ze_125_131, ze_125_134, e, Int.add_zero, ↓reduceIte, qw_id, zck_T, zck_t, zGor_v, zGor_n, zGor_e, zbs, vup_at, vup_vup, vup_self, vup_o, vup_k, vup_fn, ne_eq, not_true_eq_false, not_false_eq_true, and_true, true_and, and_self, and_false, false_and, or_true, true_or, or_self, or_false, false_or, xlt_t, xlt_f, xle_t, xle_f, xeq_t, xeq_f, xand_f, xor_t]
theorem sl125l (h : zInv N V J) (hp : 0 ≤ p ∧ p < 3) (hb : 0 ≤ b ∧ b < 40) {k x4 : Int} (hk : k = 2 ∨ k = 3) (hU : ¬ qU V p b) (n : Nat) : ∀ (l : Int) (x7 x8 x9 : Value), 0 ≤ l → 4 = l + n → zGo false 125 56 [.ref 0, .int (zi p), .int (zi b), .int (zi k), .int (zi x4), .int (zi (oS (fun l => oS (qW V J p b k l) l.toNat) l.toNat)), .int (zi l), x7, x8, x9] [] (zm V J d) = zI1 (qZ V J p b k) V J d := by
  induction n with
  | zero =>
    intro l x7 x8 x9 l0 hl
    obtain rfl : l = 4 := by omega
    rw [ze_125_56, show qZ V J p b k = oS (fun l => oS (qW V J p b k l) l.toNat) (4 : Int).toNat from rfl]
    simp (disch := first | omega | assumption | (simp (disch := omega) only [vup_fn, vup_o, vup_k, vup_at]; first | done | omega | assumption)) only [Int.add_zero, ↓reduceIte, qw_id, zck_T, zck_t, zGor_v, zGor_n, zGor_e, zbs, vup_at, vup_vup, vup_self, vup_o, vup_k, vup_fn, ne_eq, not_true_eq_false, not_false_eq_true, and_true, true_and, and_self, and_false, false_and, or_true, true_or, or_self, or_false, false_or, xlt_t, xlt_f, xle_t, xle_f, xeq_t, xeq_f, xand_f, xor_t]
  | succ n ih =>
    intro l x7 x8 x9 l0 hl
    obtain ⟨y8, y9, e⟩ := sl125u (d := d) h hp hb (x4 := x4) hk (l := l) (by omega) hU l.toNat 0 (oS (fun l => oS (qW V J p b k l) l.toNat) l.toNat) x8 x9 (by omega) (by omega)
    rw [show oS (qW V J p b k l) (0 : Int).toNat = 0 from rfl, Int.add_zero] at e
    have e2 := ih (l + 1) (.int (zi l)) y8 y9 (by omega) (by omega)
    rw [oS_s l0] at e2
    rw [ze_125_56]
    simp (disch := first | omega | assumption | (simp (disch := omega) only [vup_fn, vup_o, vup_k, vup_at]; first | done | omega | assumption)) only [e, e2, Int.add_zero, ↓reduceIte, qw_id, zck_T, zck_t, zGor_v, zGor_n, zGor_e, zbs, vup_at, vup_vup, vup_self, vup_o, vup_k, vup_fn, ne_eq, not_true_eq_false, not_false_eq_true, and_true, true_and, and_self, and_false, false_and, or_true, true_or, or_self, or_false, false_or, xlt_t, xlt_f, xle_t, xle_f, xeq_t, xeq_f, xand_f, xor_t]
/-- clashesIn as a function -/
def qC (V : zVt) (J : zJt) (p b k y : Int) : Int := if k = 0 then (if 0 < oS (qB V p b) 4 ∧ oS (qB V p b) 4 < oS (qH V p) 4 then 1 else 0) else if k = 1 then y else if y = 1 then 0 else qZ V J p b k
theorem sp125 (h : zInv N V J) (hp : 0 ≤ p ∧ p < 3) (hb : 0 ≤ b ∧ b < 40) {k y : Int} (hk : 0 ≤ k ∧ k ≤ 3) (hy : y = 0 ∨ y = 1) (hU : y = 1 ↔ qU V p b) : zGo false 125 0 [.ref 0, .int (zi p), .int (zi b), .int (zi k), .null, .null, .null, .null, .null, .null] [] (zm V J d) = zI1 (qC V J p b k y) V J d := by
  have e126 := sp126 (d := d) h hp hb
  obtain ⟨z, z1, z2, e127⟩ := sp127 (d := d) h hp hb
  have hzy : z = y := by
    by_cases q : qU V p b
    · have := hU.2 q
      have := z2.2 q
      omega
    · have a1 : ¬ z = 1 := fun w => q (z2.1 w)
      have a2 : ¬ y = 1 := fun w => q (hU.1 w)
      omega
  subst hzy
  unfold qC
  by_cases k0 : k = 0
  · rw [if_pos k0]
    by_cases a : 0 < oS (qB V p b) 4 ∧ oS (qB V p b) 4 < oS (qH V p) 4
    · rw [if_pos a] at e126
      rw [if_pos a]
      simp (disch := first | omega | assumption | (simp (disch := omega) only [vup_fn, vup_o, vup_k, vup_at]; first | done | omega | assumption)) only [ze_125_0, ze_125_10, ze_125_18, e126, Int.add_zero, ↓reduceIte, qw_id, zck_T, zck_t, zGor_v, zGor_n, zGor_e, zbs, vup_at, vup_vup, vup_self, vup_o, vup_k, vup_fn, ne_eq, not_true_eq_false, not_false_eq_true, and_true, true_and, and_self, and_false, false_and, or_true, true_or, or_self, or_false, false_or, xlt_t, xlt_f, xle_t, xle_f, xeq_t, xeq_f, xand_f, xor_t]
    · rw [if_neg a] at e126
      rw [if_neg a]
      simp (disch := first | omega | assumption | (simp (disch := omega) only [vup_fn, vup_o, vup_k, vup_at]; first | done | omega | assumption)) only [ze_125_0, ze_125_10, ze_125_18, e126, Int.add_zero, ↓reduceIte, qw_id, zck_T, zck_t, zGor_v, zGor_n, zGor_e, zbs, vup_at, vup_vup, vup_self, vup_o, vup_k, vup_fn, ne_eq, not_true_eq_false, not_false_eq_true, and_true, true_and, and_self, and_false, false_and, or_true, true_or, or_self, or_false, false_or, xlt_t, xlt_f, xle_t, xle_f, xeq_t, xeq_f, xand_f, xor_t]
  · rw [if_neg k0]
    by_cases k1 : k = 1
    · rw [if_pos k1]
      rcases hy with q | q
      · rw [q] at e127
        rw [q]
        simp (disch := first | omega | assumption | (simp (disch := omega) only [vup_fn, vup_o, vup_k, vup_at]; first | done | omega | assumption)) only [ze_125_0, ze_125_25, ze_125_42, e127, Int.add_zero, ↓reduceIte, qw_id, zck_T, zck_t, zGor_v, zGor_n, zGor_e, zbs, vup_at, vup_vup, vup_self, vup_o, vup_k, vup_fn, ne_eq, not_true_eq_false, not_false_eq_true, and_true, true_and, and_self, and_false, false_and, or_true, true_or, or_self, or_false, false_or, xlt_t, xlt_f, xle_t, xle_f, xeq_t, xeq_f, xand_f, xor_t]
      · rw [q] at e127
        rw [q]
        simp (disch := first | omega | assumption | (simp (disch := omega) only [vup_fn, vup_o, vup_k, vup_at]; first | done | omega | assumption)) only [ze_125_0, ze_125_25, ze_125_42, e127, Int.add_zero, ↓reduceIte, qw_id, zck_T, zck_t, zGor_v, zGor_n, zGor_e, zbs, vup_at, vup_vup, vup_self, vup_o, vup_k, vup_fn, ne_eq, not_true_eq_false, not_false_eq_true, and_true, true_and, and_self, and_false, false_and, or_true, true_or, or_self, or_false, false_or, xlt_t, xlt_f, xle_t, xle_f, xeq_t, xeq_f, xand_f, xor_t]
    · rw [if_neg k1]
      rcases hy with q | q
      · rw [if_neg (show ¬ z = 1 by omega)]
        have e := sl125l (d := d) h hp hb (x4 := 0) (k := k) (by omega) (fun w => by have := hU.2 w; omega) 3 1 .null .null .null (by omega) (by omega)
        rw [show oS (fun l => oS (qW V J p b k l) l.toNat) (1 : Int).toNat = 0 from rfl] at e
        rw [q] at e127
        simp (disch := first | omega | assumption | (simp (disch := omega) only [vup_fn, vup_o, vup_k, vup_at]; first | done | omega | assumption)) only [ze_125_0, ze_125_25, e127, e, Int.add_zero, ↓reduceIte, qw_id, zck_T, zck_t, zGor_v, zGor_n, zGor_e, zbs, vup_at, vup_vup, vup_self, vup_o, vup_k, vup_fn, ne_eq, not_true_eq_false, not_false_eq_true, and_true, true_and, and_self, and_false, false_and, or_true, true_or, or_self, or_false, false_or, xlt_t, xlt_f, xle_t, xle_f, xeq_t, xeq_f, xand_f, xor_t]
      · rw [if_pos q]
        rw [q] at e127
        simp (disch := first | omega | assumption | (simp (disch := omega) only [vup_fn, vup_o, vup_k, vup_at]; first | done | omega | assumption)) only [ze_125_0, ze_125_25, e127, Int.add_zero, ↓reduceIte, qw_id, zck_T, zck_t, zGor_v, zGor_n, zGor_e, zbs, vup_at, vup_vup, vup_self, vup_o, vup_k, vup_fn, ne_eq, not_true_eq_false, not_false_eq_true, and_true, true_and, and_self, and_false, false_and, or_true, true_or, or_self, or_false, false_or, xlt_t, xlt_f, xle_t, xle_f, xeq_t, xeq_f, xand_f, xor_t]
end
