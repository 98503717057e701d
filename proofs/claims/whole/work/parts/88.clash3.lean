/-! part 88: clashes in the reference -/
/-- the place of voice v of piece p in the reference -/
def mPv (V : zVt) (J : zJt) (p v : Int) (W : zVt) (K : zJt) : Prop := (0 ≤ W 448 v ∧ W 448 v ≤ 10) ∧ (W 448 v = 0 ↔ qH V p v = 1) ∧ W 449 v = qN V p v ∧ (qH V p v = 1 → W 450 v = V (50 + 15 * (p * 4 + v).toNat + 13) 3 ∧ rMus V J (50 + 15 * (p * 4 + v).toNat + 13) W K v)
def qL (V : zVt) (p b v : Int) : Int := if qH V p v = 1 ∧ qN V p v ≤ b then 1 else 0
theorem qL_01 (V : zVt) (p b v : Int) : qL V p b v = 0 ∨ qL V p b v = 1 := by
  unfold qL
  split
  · exact Or.inr rfl
  · exact Or.inl rfl
theorem qH_LB {V : zVt} {p b : Int} (hb : 0 ≤ b) (v : Int) : qH V p v = qL V p b v + qB V p b v := by
  unfold qL qB qN
  rcases qH_01 V p v with q | q
  · rw [q, if_neg (show ¬ (0 : Int) = 1 by decide), if_neg (by omega), if_neg (by omega)]
    rfl
  · rw [q, if_pos rfl]
    by_cases c : b < V (50 + 15 * (p * 4 + v).toNat + 13) 2
    · rw [if_pos c, if_neg (by omega)]
      rfl
    · rw [if_neg c, if_pos (by omega)]
      rfl
/-- pairs of voices unlike in meter, as far as the reference has looked -/
abbrev qQ (V : zVt) (p b v o : Int) : Prop := ∃ u t : Int, (0 ≤ u ∧ 0 ≤ t) ∧ (u < v ∧ t < u ∨ u = v ∧ t < o) ∧ b < qN V p u ∧ b < qN V p t ∧ V (50 + 15 * (p * 4 + u).toNat + 13) 3 ≠ V (50 + 15 * (p * 4 + t).toNat + 13) 3
theorem qQ_U {V : zVt} {p b : Int} : qQ V p b 4 0 ↔ qU V p b := by
  constructor
  · rintro ⟨u, t, h1, h2, h3, h4, h5⟩
    exact ⟨u, t, by omega, by omega, h3, h4, h5⟩
  · rintro ⟨v, u, h1, h2, h3, h4, h5⟩
    rcases (show v < u ∨ v = u ∨ u < v by omega) with c | c | c
    · exact ⟨u, v, by omega, by omega, h4, h3, h5.symm⟩
    · rw [c] at h5
      exact absurd rfl h5
    · exact ⟨v, u, by omega, by omega, h3, h4, h5⟩
section
variable {V : zVt} {J : zJt} {N p b : Int} {d : Nat → Nat → UInt64}
theorem rMus_48 {M : Nat} {W : zVt} {K : zJt} {s v x y : Int} (h : rMus V J M W K s) (hne : s ≠ v) : rMus V J M (vup (vup W 448 v x) 449 v y) K s := by
  unfold rMus mBar at h ⊢
  rw [vup_o (by decide), vup_k hne, vup_k hne, vup_o (by decide), vup_o (by decide), vup_o (by decide), vup_fn (by decide), vup_fn (by decide)]
  exact h
theorem pM_48 {W : zVt} {K : zJt} {v x y : Int} : pM W (vup (vup W 448 v x) 449 v y) K K := ⟨fun o ho => by rw [vup_fn (by omega), vup_fn (by omega)], ⟨by rw [vup_o (by omega), vup_o (by omega)], by rw [vup_o (by omega), vup_o (by omega)], by rw [vup_o (by omega), vup_o (by omega)], by rw [vup_o (by omega), vup_o (by omega)], by rw [vup_o (by omega), vup_o (by omega)]⟩, rfl, rfl⟩
theorem pC_48 {W : zVt} {K : zJt} {v x y : Int} : pC W (vup (vup W 448 v x) 449 v y) K K := ⟨fun o ho => by rw [vup_fn (by omega), vup_fn (by omega)], fun _ _ => rfl⟩
theorem ml208 (hi : zInv N V J) (hp : 0 ≤ p ∧ p < 3) (n : Nat) : ∀ (v : Int) (x : Value) (W : zVt) (K : zJt), 0 ≤ v → 4 = v + n → pM V W J K → pC V W J K → (∀ u, 0 ≤ u → u < v → mPv V J p u W K) → ∃ W' K', zGo false 208 2 [.ref 430, .int (zi p), .int (zi v), x] [] (zm W K d) = zN1 W' K' d ∧ pM V W' J K' ∧ pC V W' J K' ∧ K' 474 = K 474 ∧ W' 430 60 = W 430 60 ∧ ∀ u, 0 ≤ u → u < 4 → mPv V J p u W' K' := by
  induction n with
  | zero =>
    intro v x W K v0 hv hm hc hu
    obtain rfl : v = 4 := by omega
    refine ⟨W, K, ?_, hm, hc, rfl, rfl, hu⟩
    rw [ze_208_2]
    simp (disch := first | omega | assumption | (simp (disch := omega) only [vup_fn, vup_o, vup_k, vup_at]; first | done | omega | assumption)) only [Int.add_zero, ↓reduceIte, qw_id, zck_T, zck_t, zGor_v, zGor_n, zGor_e, zbs, vup_at, vup_vup, vup_self, vup_o, vup_k, vup_fn, ne_eq, not_true_eq_false, not_false_eq_true, and_true, true_and, and_self, and_false, false_and, or_true, true_or, or_self, or_false, false_or, xlt_t, xlt_f, xle_t, xle_f, xeq_t, xeq_f, xand_f, xor_t]
  | succ n ih =>
    intro v x W K v0 hv hm hc hu
    have hv4 : 0 ≤ v ∧ v < 4 := by omega
    obtain ⟨f1, f2, f3, f4, f5⟩ := qFa hi hp hv4
    have hw : (p * 4 + v).toNat < 12 := by omega
    have hwi : (((p * 4 + v).toNat : Nat) : Int) = 4 * p + v := by omega
    have e149 := m149 (d := d) (V1 := W) (J1 := K) hi hm.2.1.1 (hm.1 454 (by omega)) hw
    rw [hwi] at e149
    have hqH : qH V p v = if V (50 + 15 * (p * 4 + v).toNat) 3 = 1 ∧ V (50 + 15 * (p * 4 + v).toNat + 13) 0 = 0 then 1 else 0 := rfl
    by_cases q : V (50 + 15 * (p * 4 + v).toNat) 3 = 1
    · have hp2 := ((hi.2.2.1 _ hw).2.2.2.2.2.2 q).1
      have hmk := f4 q
      have hiW := zInv_fr hm hc hi
      obtain ⟨W1, K1, m1, m2, m3⟩ := mLib (d := d) hiW hw (by rw [hc.1 _ (by omega)]; exact hp2) (s := v) (by omega)
      rw [hwi] at m1
      have e63 : 63 + 15 * (p * 4 + v).toNat = 50 + 15 * (p * 4 + v).toNat + 13 := by omega
      rw [e63] at m1 m3
      have m4 : rMus V J (50 + 15 * (p * 4 + v).toNat + 13) W1 K1 v := rMus_st m3 (hc.1 _ (by omega)).symm (hc.2 _ (by omega)).symm
      obtain ⟨W', K', g1, g2, g3, g4, g5, g6⟩ := ih (v + 1) (.int (zi (4 * p + v))) W1 K1 (by omega) (by omega) (pM_t hm (mFm_pM m2)) (pC_t hc (mFm_pC m2)) (fun u u0 u1 => by
        by_cases e : u = v
        · subst e
          unfold cMok at hmk
          have hqN : qN V p u = V (50 + 15 * (p * 4 + u).toNat + 13) 2 := by
            unfold qN
            by_cases c : qH V p u = 1
            · exact if_pos c
            · rw [if_neg c]
              have : V (50 + 15 * (p * 4 + u).toNat + 13) 0 ≠ 0 := fun w => by
                rw [if_pos ⟨q, w⟩] at hqH
                exact c hqH
              exact (hmk.2.2.2.1 this).symm
          refine ⟨by rw [m4.1]; exact hmk.1, ?_, by rw [hqN]; exact m4.2.1, fun c => ⟨?_, m4⟩⟩
          · rw [m4.1]
            constructor
            · intro w
              rw [hqH, if_pos ⟨q, w⟩]
            · intro w
              rw [hqH] at w
              by_cases c : V (50 + 15 * (p * 4 + u).toNat) 3 = 1 ∧ V (50 + 15 * (p * 4 + u).toNat + 13) 0 = 0
              · exact c.2
              · rw [if_neg c] at w
                omega
          · refine m4.2.2.1 ?_
            rw [hqH] at c
            by_cases c2 : V (50 + 15 * (p * 4 + u).toNat) 3 = 1 ∧ V (50 + 15 * (p * 4 + u).toNat + 13) 0 = 0
            · exact c2.2
            · rw [if_neg c2] at c
              omega
        · obtain ⟨h1, h2, h3, h4⟩ := hu u u0 (by omega)
          have k := m2.2.2.2.1 u e
          refine ⟨by rw [k.1]; exact h1, by rw [k.1]; exact h2, by rw [k.2.1]; exact h3, fun c => ⟨by rw [k.2.2]; exact (h4 c).1, ?_⟩⟩
          have f6 := (qFa hi hp (v := u) (by omega)).2.2.2.2
          unfold qN at f6
          rw [if_pos c] at f6
          exact rMus_fr (h4 c).2 m2 e f6.2)
      have r0 : 0 ≤ W (50 + 15 * (p * 4 + v).toNat + 13) 0 ∧ W (50 + 15 * (p * 4 + v).toNat + 13) 0 ≤ 10 := by
        rw [hc.1 _ (by omega)]
        exact hmk.1
      refine ⟨W', K', ?_, g2, g3, g4.trans (mN5 m2), g5.trans (m2.2.1 60 (by omega)), g6⟩
      rw [q] at e149
      rw [ze_208_2]
      simp (disch := first | omega | assumption | (simp (disch := omega) only [vup_fn, vup_o, vup_k, vup_at]; first | done | omega | assumption)) only [e149, ze_208_18, m1, ze_208_27, ze_208_45, g1, Int.add_zero, ↓reduceIte, qw_id, zck_T, zck_t, zGor_v, zGor_n, zGor_e, zbs, vup_at, vup_vup, vup_self, vup_o, vup_k, vup_fn, ne_eq, not_true_eq_false, not_false_eq_true, and_true, true_and, and_self, and_false, false_and, or_true, true_or, or_self, or_false, false_or, xlt_t, xlt_f, xle_t, xle_f, xeq_t, xeq_f, xand_f, xor_t]
    · have q0 : V (50 + 15 * (p * 4 + v).toNat) 3 = 0 := by omega
      have hz : qH V p v = 0 := by
        rw [hqH, if_neg (fun w => q w.1)]
      obtain ⟨W', K', g1, g2, g3, g4, g5, g6⟩ := ih (v + 1) (.int (zi (4 * p + v))) (vup (vup W 448 v 1) 449 v 0) K (by omega) (by omega) (pM_t hm pM_48) (pC_t hc pC_48) (fun u u0 u1 => by
        by_cases e : u = v
        · subst e
          refine ⟨by rw [vup_o (by decide), vup_at]; omega, ?_, ?_, fun c => by omega⟩
          · rw [vup_o (by decide), vup_at]
            constructor
            · intro w
              omega
            · intro w
              omega
          · rw [vup_at]
            unfold qN
            rw [if_neg (by omega)]
        · obtain ⟨h1, h2, h3, h4⟩ := hu u u0 (by omega)
          refine ⟨by rw [vup_o (by decide), vup_k e]; exact h1, by rw [vup_o (by decide), vup_k e]; exact h2, by rw [vup_k e, vup_o (by decide)]; exact h3, fun c => ⟨by rw [vup_o (by decide), vup_o (by decide)]; exact (h4 c).1, rMus_48 (h4 c).2 e⟩⟩)
      refine ⟨W', K', ?_, g2, g3, g4, by rw [g5, vup_o (by decide), vup_o (by decide)], g6⟩
      rw [q0] at e149
      rw [ze_208_2]
      simp (disch := first | omega | assumption | (simp (disch := omega) only [vup_fn, vup_o, vup_k, vup_at]; first | done | omega | assumption)) only [e149, ze_208_18, ze_208_45, g1, Int.add_zero, ↓reduceIte, qw_id, zck_T, zck_t, zGor_v, zGor_n, zGor_e, zbs, vup_at, vup_vup, vup_self, vup_o, vup_k, vup_fn, ne_eq, not_true_eq_false, not_false_eq_true, and_true, true_and, and_self, and_false, false_and, or_true, true_or, or_self, or_false, false_or, xlt_t, xlt_f, xle_t, xle_f, xeq_t, xeq_f, xand_f, xor_t]
theorem m208 (hi : zInv N V J) (hp : 0 ≤ p ∧ p < 3) {W : zVt} {K : zJt} (hm : pM V W J K) (hc : pC V W J K) : ∃ W' K', zGo false 208 0 [.ref 430, .int (zi p), .null, .null] [] (zm W K d) = zN1 W' K' d ∧ pM V W' J K' ∧ pC V W' J K' ∧ K' 474 = K 474 ∧ W' 430 60 = W 430 60 ∧ ∀ u, 0 ≤ u → u < 4 → mPv V J p u W' K' := by
  obtain ⟨W', K', g1, g2⟩ := ml208 (d := d) hi hp 4 0 .null W K (by omega) (by omega) hm hc (fun u u0 u1 => by omega)
  exact ⟨W', K', by rw [ze_208_0]; exact g1, g2⟩
section
variable {W : zVt} {K : zJt}
/-- what is known of the reference's places -/
theorem mPv_f (hi : zInv N V J) (hp : 0 ≤ p ∧ p < 3) {v : Int} (hv : 0 ≤ v ∧ v < 4) (h : mPv V J p v W K) : (0 ≤ W 449 v ∧ W 449 v ≤ 40) ∧ (0 ≤ b → b < qN V p v → qH V p v = 1 ∧ b < V (50 + 15 * (p * 4 + v).toNat + 13) 2 ∧ V (50 + 15 * (p * 4 + v).toNat + 13) 2 ≤ 40 ∧ (2 ≤ V (50 + 15 * (p * 4 + v).toNat + 13) 3 ∧ V (50 + 15 * (p * 4 + v).toNat + 13) 3 ≤ 16)) := by
  obtain ⟨f1, f2, f3, f4, f5⟩ := qFa hi hp hv
  refine ⟨by rw [h.2.2.1]; exact f5, fun b0 b1 => ?_⟩
  rcases qH_01 V p v with q | q
  · unfold qN at b1
    rw [if_neg (show ¬ qH V p v = 1 by omega)] at b1
    omega
  · have e := qN_has q
    rw [e] at b1 f5
    refine ⟨q, b1, f5.2, ?_⟩
    unfold qH at q
    by_cases c : V (50 + 15 * (p * 4 + v).toNat) 3 = 1 ∧ V (50 + 15 * (p * 4 + v).toNat + 13) 0 = 0
    · have k := f4 c.1
      exact ⟨k.2.2.2.2.2 c.2, k.2.2.2.2.1.2⟩
    · rw [if_neg c] at q
      omega
theorem ml209o (hi : zInv N V J) (hp : 0 ≤ p ∧ p < 3) (hb : 0 ≤ b ∧ b < 40) (hm : ∀ u, 0 ≤ u → u < 4 → mPv V J p u W K) {k x3 x4 x5 x8 v : Int} (hv : 0 ≤ v ∧ v < 4) (n : Nat) : ∀ o f : Int, 0 ≤ o → v = o + n → (f = 0 ∨ f = 1) → (f = 1 ↔ qQ V p b v o) → ∃ f' : Int, (f' = 0 ∨ f' = 1) ∧ (f' = 1 ↔ qQ V p b (v + 1) 0) ∧ zGo false 209 85 [.ref 430, .int (zi b), .int (zi k), .int (zi x3), .int (zi x4), .int (zi x5), .int (zi f), .int (zi v), .int (zi x8), .int (zi o), .null, .null] [] (zm W K d) = zGo false 209 14 [.ref 430, .int (zi b), .int (zi k), .int (zi x3), .int (zi x4), .int (zi x5), .int (zi f'), .int (zi (v + 1)), .int (zi x8), .int (zi v), .null, .null] [] (zm W K d) := by
  induction n with
  | zero =>
    intro o f o0 ho hf he
    obtain rfl : v = o := by omega
    refine ⟨f, hf, ?_, ?_⟩
    · rw [he]
      constructor
      · rintro ⟨u, t, h1, h2, h3⟩
        exact ⟨u, t, h1, by omega, h3⟩
      · rintro ⟨u, t, h1, h2, h3⟩
        exact ⟨u, t, h1, by omega, h3⟩
    · rw [ze_209_85]
      simp (disch := first | omega | assumption | (simp (disch := omega) only [vup_fn, vup_o, vup_k, vup_at]; first | done | omega | assumption)) only [Int.add_zero, ↓reduceIte, qw_id, zck_T, zck_t, zGor_v, zGor_n, zGor_e, zbs, vup_at, vup_vup, vup_self, vup_o, vup_k, vup_fn, ne_eq, not_true_eq_false, not_false_eq_true, and_true, true_and, and_self, and_false, false_and, or_true, true_or, or_self, or_false, false_or, xlt_t, xlt_f, xle_t, xle_f, xeq_t, xeq_f, xand_f, xor_t]
  | succ n ih =>
    intro o f o0 ho hf he
    have hv1 := hm v hv.1 hv.2
    have ho1 := hm o o0 (by omega)
    have kv := mPv_f (b := b) hi hp hv hv1
    have ko := mPv_f (b := b) hi hp (v := o) (by omega) ho1
    by_cases hn : b < qN V p v ∧ b < qN V p o ∧ V (50 + 15 * (p * 4 + v).toNat + 13) 3 ≠ V (50 + 15 * (p * 4 + o).toNat + 13) 3
    · obtain ⟨f', i1, i2, i3⟩ := ih (o + 1) 1 (by omega) (by omega) (Or.inr rfl) ⟨fun _ => ⟨v, o, by omega, by omega, hn⟩, fun _ => rfl⟩
      refine ⟨f', i1, i2, ?_⟩
      have h1 := kv.2 hb.1 hn.1
      have h2 := ko.2 hb.1 hn.2.1
      have h3 := (hv1.2.2.2 h1.1).1
      have h4 := (ho1.2.2.2 h2.1).1
      have h5 := hv1.2.2.1
      have h6 := ho1.2.2.1
      have h7 := hn.1
      have h8 := hn.2.1
      have h9 := hn.2.2
      rw [ze_209_85]
      clear he i2 ih
      rcases hf with c | c
      · simp (disch := first | omega | assumption | (simp (disch := omega) only [vup_fn, vup_o, vup_k, vup_at]; first | done | omega | assumption)) only [ze_209_136, ze_209_141, i3, Int.add_zero, ↓reduceIte, qw_id, zck_T, zck_t, zGor_v, zGor_n, zGor_e, zbs, vup_at, vup_vup, vup_self, vup_o, vup_k, vup_fn, ne_eq, not_true_eq_false, not_false_eq_true, and_true, true_and, and_self, and_false, false_and, or_true, true_or, or_self, or_false, false_or, xlt_t, xlt_f, xle_t, xle_f, xeq_t, xeq_f, xand_f, xor_t]
      · simp (disch := first | omega | assumption | (simp (disch := omega) only [vup_fn, vup_o, vup_k, vup_at]; first | done | omega | assumption)) only [ze_209_136, ze_209_141, i3, Int.add_zero, ↓reduceIte, qw_id, zck_T, zck_t, zGor_v, zGor_n, zGor_e, zbs, vup_at, vup_vup, vup_self, vup_o, vup_k, vup_fn, ne_eq, not_true_eq_false, not_false_eq_true, and_true, true_and, and_self, and_false, false_and, or_true, true_or, or_self, or_false, false_or, xlt_t, xlt_f, xle_t, xle_f, xeq_t, xeq_f, xand_f, xor_t]
    · have he2 : f = 1 ↔ qQ V p b v (o + 1) := by
        rw [he]
        constructor
        · rintro ⟨u, t, h1, h2, h3⟩
          exact ⟨u, t, h1, by omega, h3⟩
        · rintro ⟨u, t, h1, h2, h3⟩
          by_cases c : u = v ∧ t = o
          · rw [c.1, c.2] at h3
            exact absurd h3 hn
          · exact ⟨u, t, h1, by omega, h3⟩
      obtain ⟨f', i1, i2, i3⟩ := ih (o + 1) f (by omega) (by omega) hf he2
      refine ⟨f', i1, i2, ?_⟩
      have h5 := hv1.2.2.1
      have h6 := ho1.2.2.1
      rw [ze_209_85]
      clear he he2 i2 ih
      by_cases c : f = 0
      · by_cases c1 : b < qN V p v
        · by_cases c2 : b < qN V p o
          · have h1 := kv.2 hb.1 c1
            have h2 := ko.2 hb.1 c2
            have h3 := (hv1.2.2.2 h1.1).1
            have h4 := (ho1.2.2.2 h2.1).1
            have c3 : V (50 + 15 * (p * 4 + v).toNat + 13) 3 = V (50 + 15 * (p * 4 + o).toNat + 13) 3 := Decidable.byContradiction (fun w => hn ⟨c1, c2, w⟩)
            rw [c] at i3
            simp (disch := first | omega | assumption | (simp (disch := omega) only [vup_fn, vup_o, vup_k, vup_at]; first | done | omega | assumption)) only [ze_209_140, ze_209_141, i3, Int.add_zero, ↓reduceIte, qw_id, zck_T, zck_t, zGor_v, zGor_n, zGor_e, zbs, vup_at, vup_vup, vup_self, vup_o, vup_k, vup_fn, ne_eq, not_true_eq_false, not_false_eq_true, and_true, true_and, and_self, and_false, false_and, or_true, true_or, or_self, or_false, false_or, xlt_t, xlt_f, xle_t, xle_f, xeq_t, xeq_f, xand_f, xor_t]
          · rw [c] at i3
            simp (disch := first | omega | assumption | (simp (disch := omega) only [vup_fn, vup_o, vup_k, vup_at]; first | done | omega | assumption)) only [ze_209_140, ze_209_141, i3, Int.add_zero, ↓reduceIte, qw_id, zck_T, zck_t, zGor_v, zGor_n, zGor_e, zbs, vup_at, vup_vup, vup_self, vup_o, vup_k, vup_fn, ne_eq, not_true_eq_false, not_false_eq_true, and_true, true_and, and_self, and_false, false_and, or_true, true_or, or_self, or_false, false_or, xlt_t, xlt_f, xle_t, xle_f, xeq_t, xeq_f, xand_f, xor_t]
        · rw [c] at i3
          simp (disch := first | omega | assumption | (simp (disch := omega) only [vup_fn, vup_o, vup_k, vup_at]; first | done | omega | assumption)) only [ze_209_140, ze_209_141, i3, Int.add_zero, ↓reduceIte, qw_id, zck_T, zck_t, zGor_v, zGor_n, zGor_e, zbs, vup_at, vup_vup, vup_self, vup_o, vup_k, vup_fn, ne_eq, not_true_eq_false, not_false_eq_true, and_true, true_and, and_self, and_false, false_and, or_true, true_or, or_self, or_false, false_or, xlt_t, xlt_f, xle_t, xle_f, xeq_t, xeq_f, xand_f, xor_t]
      · have c1 : f = 1 := hf.resolve_left c
        rw [c1] at i3
        simp (disch := first | omega | assumption | (simp (disch := omega) only [vup_fn, vup_o, vup_k, vup_at]; first | done | omega | assumption)) only [ze_209_136, ze_209_141, i3, Int.add_zero, ↓reduceIte, qw_id, zck_T, zck_t, zGor_v, zGor_n, zGor_e, zbs, vup_at, vup_vup, vup_self, vup_o, vup_k, vup_fn, ne_eq, not_true_eq_false, not_false_eq_true, and_true, true_and, and_self, and_false, false_and, or_true, true_or, or_self, or_false, false_or, xlt_t, xlt_f, xle_t, xle_f, xeq_t, xeq_f, xand_f, xor_t]
theorem ml209v (hi : zInv N V J) (hp : 0 ≤ p ∧ p < 3) (hb : 0 ≤ b ∧ b < 40) (hm : ∀ u, 0 ≤ u → u < 4 → mPv V J p u W K) {k x5 : Int} (n : Nat) : ∀ (v f : Int) (x8 x9 : Value), 0 ≤ v → 4 = v + n → (f = 0 ∨ f = 1) → (f = 1 ↔ qQ V p b v 0) → ∃ (f' : Int) (y8 y9 : Value), (f' = 0 ∨ f' = 1) ∧ (f' = 1 ↔ qQ V p b 4 0) ∧ zGo false 209 14 [.ref 430, .int (zi b), .int (zi k), .int (zi (oS (qL V p b) v.toNat)), .int (zi (oS (qB V p b) v.toNat)), .int (zi x5), .int (zi f), .int (zi v), x8, x9, .null, .null] [] (zm W K d) = zGo false 209 14 [.ref 430, .int (zi b), .int (zi k), .int (zi (oS (qL V p b) 4)), .int (zi (oS (qB V p b) 4)), .int (zi x5), .int (zi f'), .int (zi 4), y8, y9, .null, .null] [] (zm W K d) := by
  induction n with
  | zero =>
    intro v f x8 x9 v0 hv hf he
    obtain rfl : v = 4 := by omega
    exact ⟨f, x8, x9, hf, he, rfl⟩
  | succ n ih =>
    intro v f x8 x9 v0 hv hf he
    have hv4 : 0 ≤ v ∧ v < 4 := by omega
    have hv1 := hm v hv4.1 hv4.2
    have kv := mPv_f (b := b) hi hp hv4 hv1
    have h5 := hv1.2.2.1
    have h6 := hv1.2.1
    have h7 := hv1.1
    have r1 := oS_rng (f := qL V p b) v.toNat (fun k _ _ => qL_01 V p b k)
    have r2 := oS_rng (f := qB V p b) v.toNat (fun k _ _ => qB_01 V p b k)
    have hL : qL V p b v = if qH V p v = 1 ∧ qN V p v ≤ b then 1 else 0 := rfl
    have hB : qB V p b v = if b < qN V p v then 1 else 0 := rfl
    by_cases q : qH V p v = 1
    · obtain ⟨f1, g1, g2, g3⟩ := ml209o (d := d) hi hp hb hm (k := k) (x3 := oS (qL V p b) v.toNat + qL V p b v) (x4 := oS (qB V p b) v.toNat + qB V p b v) (x5 := x5) (x8 := 1) hv4 v.toNat 0 f (by omega) (by omega) hf he
      obtain ⟨f', y8, y9, i1, i2, i3⟩ := ih (v + 1) f1 (.int (zi 1)) (.int (zi v)) (by omega) (by omega) g1 g2
      rw [oS_s v0, oS_s v0] at i3
      refine ⟨f', y8, y9, i1, i2, ?_⟩
      have h8 := h6.2 q
      rw [ze_209_14]
      by_cases c : b < qN V p v
      · rw [if_neg (fun w => by omega)] at hL
        rw [if_pos c] at hB
        rw [hL, hB] at g3 i3
        rw [Int.add_zero] at g3 i3
        simp (disch := first | omega | assumption | (simp (disch := omega) only [vup_fn, vup_o, vup_k, vup_at]; first | done | omega | assumption)) only [ze_209_35, ze_209_58, ze_209_59, ze_209_79, g3, i3, Int.add_zero, ↓reduceIte, qw_id, zck_T, zck_t, zGor_v, zGor_n, zGor_e, zbs, vup_at, vup_vup, vup_self, vup_o, vup_k, vup_fn, ne_eq, not_true_eq_false, not_false_eq_true, and_true, true_and, and_self, and_false, false_and, or_true, true_or, or_self, or_false, false_or, xlt_t, xlt_f, xle_t, xle_f, xeq_t, xeq_f, xand_f, xor_t]
      · rw [if_pos ⟨q, by omega⟩] at hL
        rw [if_neg c] at hB
        rw [hL, hB] at g3 i3
        rw [Int.add_zero] at g3 i3
        simp (disch := first | omega | assumption | (simp (disch := omega) only [vup_fn, vup_o, vup_k, vup_at]; first | done | omega | assumption)) only [ze_209_35, ze_209_58, ze_209_59, ze_209_79, g3, i3, Int.add_zero, ↓reduceIte, qw_id, zck_T, zck_t, zGor_v, zGor_n, zGor_e, zbs, vup_at, vup_vup, vup_self, vup_o, vup_k, vup_fn, ne_eq, not_true_eq_false, not_false_eq_true, and_true, true_and, and_self, and_false, false_and, or_true, true_or, or_self, or_false, false_or, xlt_t, xlt_f, xle_t, xle_f, xeq_t, xeq_f, xand_f, xor_t]
    · obtain ⟨f1, g1, g2, g3⟩ := ml209o (d := d) hi hp hb hm (k := k) (x3 := oS (qL V p b) v.toNat + qL V p b v) (x4 := oS (qB V p b) v.toNat + qB V p b v) (x5 := x5) (x8 := 0) hv4 v.toNat 0 f (by omega) (by omega) hf he
      obtain ⟨f', y8, y9, i1, i2, i3⟩ := ih (v + 1) f1 (.int (zi 0)) (.int (zi v)) (by omega) (by omega) g1 g2
      rw [oS_s v0, oS_s v0] at i3
      refine ⟨f', y8, y9, i1, i2, ?_⟩
      have h8 : ¬ W 448 v = 0 := fun w => q (h6.1 w)
      have h9 : qN V p v = 0 := if_neg q
      rw [if_neg (fun w => q w.1)] at hL
      rw [if_neg (by omega)] at hB
      rw [hL, hB] at g3 i3
      rw [Int.add_zero, Int.add_zero] at g3 i3
      rw [ze_209_14]
      simp (disch := first | omega | assumption | (simp (disch := omega) only [vup_fn, vup_o, vup_k, vup_at]; first | done | omega | assumption)) only [ze_209_35, ze_209_58, ze_209_59, ze_209_79, g3, i3, Int.add_zero, ↓reduceIte, qw_id, zck_T, zck_t, zGor_v, zGor_n, zGor_e, zbs, vup_at, vup_vup, vup_self, vup_o, vup_k, vup_fn, ne_eq, not_true_eq_false, not_false_eq_true, and_true, true_and, and_self, and_false, false_and, or_true, true_or, or_self, or_false, false_or, xlt_t, xlt_f, xle_t, xle_f, xeq_t, xeq_f, xand_f, xor_t]
end
end
