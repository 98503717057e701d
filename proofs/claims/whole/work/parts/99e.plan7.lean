/-! part 99e: plan -/
section
variable {U V : zVt} {I J : zJt} {N r : Int}
/-- both sides at request r, which has no room yet -/
theorem tw_plan (h : zInv N U I) {c : Int} (hB : ∀ i, 0 ≤ i → i < 5760 → U 47 i ≤ c) (hc : 0 ≤ c ∧ c + 1 ≤ 40 * N) (hr : 0 ≤ r ∧ r < U 430 52) (hV : pC U V I J) (h467 : U 467 r = -1) (d : Nat → Nat → UInt64) : ∃ (y : Int) (V' : zVt) (J' : zJt) (U' : zVt) (I' : zJt), (y = 0 ∨ y = 1) ∧ zGo false 92 0 [.ref 0, .int (zi r), .null, .null] [] (zm V J d) = zI1 y V' J' d ∧ pC U' V' I' J' ∧ (∀ o : Nat, 430 ≤ o → V' o = V o ∧ J' o = J o) ∧ zInv N U' I' ∧ (∀ i, 0 ≤ i → i < 5760 → U' 47 i ≤ c + 1) ∧ U' 430 52 = U 430 52 ∧ ∀ (W : zVt) (K : zJt) (d1 : Nat → Nat → UInt64) (x1 : Int) (x3 x4 : Value), pM U W I K → ∃ W' K' y3 y4, zGo false 215 9 [.ref 430, .int (zi x1), .int (zi r), x3, x4] [] (zm W K d1) = zGo false 215 9 [.ref 430, .int (zi (x1 + y)), .int (zi (r + 1)), y3, y4] [] (zm W' K' d1) ∧ pM U' W' I' K' ∧ (∀ o : Nat, o < 430 → W' o = W o ∧ K' o = K o) ∧ W' 430 60 = W 430 60 ∧ K' 474 = K 474 := by
  obtain ⟨S, hS⟩ := oSi_ex U r
  obtain ⟨g, hg, hcase⟩ := cp92 (d := d) h hV hr
  have hgS : ∀ s, 0 ≤ s → s < 12 → (g s = 1 ↔ S s ≠ -1) := fun s s0 s1 => oSi_g hS hg ⟨s0, s1⟩
  rcases hcase with ⟨e1, e2⟩ | ⟨e1, t, q, V', J', htq, hf, hfirst, e2, eL, e45, e44, e42, eo, ej⟩
  · refine ⟨0, V, J, U, I, Or.inl rfl, e2, hV, fun _ _ => ⟨rfl, rfl⟩, h, fun i i0 i1 => by have := hB i i0 i1; omega, rfl, fun W K d1 x1 x3 x4 hm => ?_⟩
    obtain ⟨W', K', y3, y4, g1, g2⟩ := (m215r (d := d1) (x1 := x1) h hr hS hg h467 hm x3 x4).1 e1
    exact ⟨W', K', y3, y4, by rw [Int.add_zero]; exact g1, g2⟩
  · obtain ⟨⟨t0, t1⟩, q0, q1⟩ := htq
    obtain ⟨W0, K0, _, _, _, hD, _, _, _⟩ := (m215r (d := fun _ _ => 0) (x1 := 0) h hr hS hg h467 pM_r .null .null).2 e1 t q t0 t1 q0 q1 hf hfirst
    have hU' : ∃ U' : zVt, (∀ o : Nat, o < 430 → U' o = V' o) ∧ ∀ o : Nat, 430 ≤ o → U' o = W0 o := ⟨fun o => if o < 430 then V' o else W0 o, fun o ho => if_pos ho, fun o ho => if_neg (by omega)⟩
    obtain ⟨U', u1, u2⟩ := hU'
    have hI' : ∃ I' : zJt, (∀ o : Nat, o < 430 → I' o = J' o) ∧ ∀ o : Nat, 430 ≤ o → I' o = K0 o := ⟨fun o => if o < 430 then J' o else K0 o, fun o ho => if_pos ho, fun o ho => if_neg (by omega)⟩
    obtain ⟨I', i1, i2⟩ := hI'
    have hD2 := hD
    obtain ⟨hp, h462, hLD, h461, h467'⟩ := hD2
    obtain ⟨b1, b2, b3, b4, b5, b6, b7, b8⟩ := h.2.2.2.2.2.2.1
    have hN := h.2.2.2.2.2.2.2.2.2
    have vo : ∀ o : Nat, (o ≤ 6 ∨ (37 ≤ o ∧ o ≤ 429)) → o ≠ 42 → o ≠ 44 → o ≠ 45 → o ≠ 47 → U' o = U o := fun o o1 o2 o3 o4 o5 => by rw [u1 o (by omega), eo o o2 o3 o4 o5]; exact hV.1 o o1
    have wo : ∀ o : Nat, (o = 431 ∨ o = 432 ∨ (454 ≤ o ∧ o ≤ 460) ∨ (463 ≤ o ∧ o ≤ 466) ∨ o = 468 ∨ o = 469) → U' o = U o := fun o ho => by rw [u2 o (by omega)]; exact hp.1 o ho
    have jo : ∀ o : Nat, 37 ≤ o → o ≠ 48 → o ≠ 49 → o < 430 → I' o = I o := fun o o1 o2 o3 o4 => by rw [i1 o o4, ej o o2 o3]; exact hV.2 o (by omega)
    have u47 : U' 47 = V' 47 := u1 47 (by omega)
    have hnew : ∀ i, (∀ j, oCn U r j i → U' 47 i = oNv U I j i ∧ U' 472 i = oNv U I j i ∧ U' 471 i = U (233 + 5 * j.toNat) 3 ∧ U' 470 i = yHr (fun t => yBg (cSd I (233 + 5 * j.toNat) (i % 40) t)) 16 ∧ I' 48 i = I (234 + 5 * j.toNat) (2 * (i % 40)) ∧ I' 49 i = I (234 + 5 * j.toNat) (2 * (i % 40) + 1) ∧ ∀ q, 0 ≤ q → q < 8 → zby (I' 468 i) q = yMb (cSd I (233 + 5 * j.toNat) (i % 40) q) ∧ zby (I' 469 i) q = yMb (cSd I (233 + 5 * j.toNat) (i % 40) (q + 8))) ∧ ((∀ j, ¬ oCn U r j i) → U' 47 i = U 47 i ∧ U' 472 i = U 472 i ∧ U' 471 i = U 471 i ∧ U' 470 i = U 470 i ∧ I' 48 i = I 48 i ∧ I' 49 i = I 49 i ∧ I' 468 i = I 468 i ∧ I' 469 i = I 469 i) := fun i => by
      obtain ⟨l1, l2⟩ := eL i
      obtain ⟨m1, m2⟩ := hLD i
      rw [u47, u2 472 (by omega), u2 471 (by omega), u2 470 (by omega), i1 48 (by omega), i1 49 (by omega), i2 468 (by omega), i2 469 (by omega)]
      refine ⟨fun j jc => ?_, fun w => ?_⟩
      · have rj := (iCp_rg h j jc.1.1.1.1 jc.1.1.1.2).2.2
        obtain ⟨c1, c2, c3⟩ := l1 j jc.1.1.1.2 jc
        obtain ⟨d1, d2, d3, d4⟩ := m1 j rj jc
        exact ⟨c1, d1, d2, d3, c2, c3, d4⟩
      · obtain ⟨c1, c2, c3⟩ := l2 (fun j _ => w j)
        obtain ⟨d1, d2, d3, d4, d5⟩ := m2 (fun j _ => w j)
        exact ⟨c1, d1, d2, d3, c2, c3, d4, d5⟩
    have hnr : ∀ i j, 0 ≤ i → i < 5760 → 1 ≤ oNv U I j i ∧ oNv U I j i ≤ c + 1 := fun i j i0 i1 => by
      have := hB i i0 i1
      have k2 := (h.2.2.2.2.2.2.2.1 i i0 i1).2.1
      unfold oNv
      split <;> omega
    refine ⟨1, V', J', U', I', Or.inr rfl, e2, ⟨fun o ho => (u1 o (by omega)).symm, fun o ho => (i1 o (by omega)).symm⟩, fun o ho => ⟨eo o (by omega) (by omega) (by omega) (by omega), ej o (by omega) (by omega)⟩, ?_, fun i i0 i1' => ?_, by rw [u2 430 (by omega)]; exact hp.2.2.2.2.1, fun W K d1 x1 x3 x4 hm => ?_⟩
    · refine zInv_pl h (fun o h1 h2 h3 h4 h5 h6 h7 h8 h9 h10 h11 => ?_) jo ⟨?_, ?_, ?_⟩ ?_ ?_
      · by_cases c : o < 430
        · exact vo o (by omega) h1 h2 h3 h4
        · exact wo o (by omega)
      · rw [u2 430 (by omega)]; exact hp.2.1
      · rw [u2 430 (by omega)]; exact hp.2.2.1
      · rw [u2 430 (by omega)]; exact hp.2.2.2.2.2
      · unfold iReh
        rw [vo 43 (by omega) (by omega) (by omega) (by omega) (by omega), wo 460 (by omega), vo 37 (by omega) (by omega) (by omega) (by omega) (by omega), vo 38 (by omega) (by omega) (by omega) (by omega) (by omega), vo 39 (by omega) (by omega) (by omega) (by omega) (by omega), vo 40 (by omega) (by omega) (by omega) (by omega) (by omega), vo 41 (by omega) (by omega) (by omega) (by omega) (by omega), wo 463 (by omega), wo 464 (by omega), wo 465 (by omega), wo 466 (by omega), u2 430 (by omega), hp.2.2.2.1, hp.2.2.2.2.1, u1 44 (by omega), u1 45 (by omega), u1 42 (by omega), u2 461 (by omega), u2 462 (by omega), u2 467 (by omega)]
        refine ⟨b1, fun k k0 k1 => ?_, fun u v0 v1 => ⟨?_, fun s s0 s1 => ?_⟩, b4, b5, b6, b7, fun k k0 k1 => ?_⟩
        · rw [e44, h461]
          by_cases c : k = 4 * t + q
          · rw [if_pos c, if_pos c]
            exact ⟨rfl, Or.inr rfl⟩
          · rw [if_neg c, if_neg c]
            exact b2 k k0 k1
        · rw [e45]
          by_cases c : u = t
          · rw [if_pos c]
            refine yHr_cong 16 (by omega) (fun s s0 s1 => ?_)
            show (if g s = 1 then 1 else oUs U t s) = if s < 12 then W0 462 (12 * u + s) else 0
            by_cases c2 : s < 12
            · rw [if_pos c2, h462, c, show 12 * t + s - 12 * t = s by omega]
              by_cases c3 : g s = 1
              · rw [if_pos c3, if_pos ⟨by omega, (hgS s s0 c2).1 c3⟩]
              · rw [if_neg c3, if_neg (fun w => c3 ((hgS s s0 c2).2 w.2))]
                unfold oUs
                rw [if_pos c2]
            · rw [if_neg c2, if_neg (by rw [hg.2.2 s (by omega)]; decide)]
              unfold oUs
              rw [if_neg c2]
          · rw [if_neg c, (b3 u v0 v1).1]
            refine yHr_cong 16 (by omega) (fun s s0 s1 => ?_)
            show (if s < 12 then U 462 (12 * u + s) else 0) = if s < 12 then W0 462 (12 * u + s) else 0
            by_cases c2 : s < 12
            · rw [if_pos c2, if_pos c2, h462, if_neg (fun w => by omega)]
            · rw [if_neg c2, if_neg c2]
        · rw [h462]
          by_cases c : (12 * t ≤ 12 * u + s ∧ 12 * u + s < 12 * t + 12) ∧ S (12 * u + s - 12 * t) ≠ -1
          · rw [if_pos c]
            exact Or.inr rfl
          · rw [if_neg c]
            exact (b3 u v0 v1).2 s s0 s1
        · obtain ⟨c1, c2, c3, c4, c5, c6, c7, c8, c9⟩ := b8 k k0 k1
          rw [e42, h467']
          refine ⟨c1, c2, c3, c4, ?_, c6, c7, c8, ?_⟩
          · by_cases c : k = r
            · rw [if_pos c, if_pos c, b4]
            · rw [if_neg c, if_neg c]
              exact c5
          · by_cases c : k = r
            · rw [if_pos c]
              omega
            · rw [if_neg c]
              exact c9
      · intro i i0 i1'
        obtain ⟨k1, k2, k3⟩ := h.2.2.2.2.2.2.2.1 i i0 i1'
        obtain ⟨n1, n2⟩ := hnew i
        rw [vo (50 + 15 * (i / 40 % 12).toNat) (by omega) (by omega) (by omega) (by omega) (by omega), yTt_fr (V := U) (wo 431 (by omega)) (wo 432 (by omega))]
        by_cases hex : ∃ j, oCn U r j i
        · obtain ⟨j, jc⟩ := hex
          obtain ⟨m1, m2, m3, m4, m5, m6, m7⟩ := n1 j jc
          have hr2 := hnr i j i0 i1'
          obtain ⟨k, hk⟩ : ∃ k : Nat, j = k := ⟨j.toNat, by have := jc.1.1.1.1; omega⟩
          subst hk
          have hkn : ((k : Nat) : Int).toNat = k := by omega
          rw [hkn] at m3 m4 m5 m6 m7
          obtain ⟨b5k, mk, c3, c4, c2, c5, c1, hBk, k40⟩ := iCp_mk h jc.1.1.1.2
          have z0 : U (233 + 5 * k) 0 = 0 := by have := jc.1.2.2.1; rw [hkn] at this; exact this
          have hto : U 466 r < U (233 + 5 * k) 2 := by have := jc.1.2.2.2; rw [hkn] at this; exact this
          have hwp : (i / 40 % 12).toNat = (U 454 k).toNat := by
            have := jc.2.1
            omega
          have hbi : 0 ≤ i % 40 ∧ i % 40 < U (233 + 5 * k) 2 := by
            have := jc.2.2
            omega
          rw [m1, m2]
          refine ⟨rfl, by omega, fun _ => ⟨?_, ?_, ?_⟩⟩
          · rw [hwp]
            exact (h.2.2.1 (U 454 k).toNat (by omega)).2.2.1.2 ⟨k, jc.1.1.1, by omega⟩
          · rw [m3, hwp]
            exact iMs_mt c1 z0
          · obtain ⟨W9, K9, _, _, _, _, _, _, hM9⟩ := m198v (d := fun _ _ => 0) h pM_r jc.1.1.1.2 (s := 0) (by omega)
            obtain ⟨_, _, _, B, hBy, hB2⟩ := hM9
            obtain ⟨hB3, _⟩ := hB2 (i % 40) hbi.1 hbi.2
            have f234 : 233 + 5 * k + 1 = 234 + 5 * k := by omega
            have hcs : ∀ x, 0 ≤ x → x < 16 → cSd I (233 + 5 * k) (i % 40) x = B (16 * (i % 40) + x) := fun x x0 x1 => by
              unfold cSd
              by_cases c : x < 8
              · rw [if_pos c]
                exact (hB3 x x0 c).1
              · rw [if_neg c, (hB3 (x - 8) (by omega) (by omega)).2, show 16 * (i % 40) + (x - 8) + 8 = 16 * (i % 40) + x by omega]
            refine ⟨fun x => B (16 * (i % 40) + x), fun x x0 x1 => hBy _ (by omega) (by omega), fun x x0 x1 => ⟨?_, ?_, ?_, ?_⟩, ?_⟩
            · rw [m5, ← f234]
              exact (hB3 x x0 x1).1
            · rw [m6, ← f234]
              show _ = B (16 * (i % 40) + (x + 8))
              rw [show 16 * (i % 40) + (x + 8) = 16 * (i % 40) + x + 8 by omega]
              exact (hB3 x x0 x1).2
            · rw [(m7 x x0 x1).1, hcs x x0 (by omega)]
            · rw [(m7 x x0 x1).2, hcs (x + 8) (by omega) (by omega)]
            · rw [m4]
              refine yHr_cong 16 (by omega) (fun x x0 x1 => ?_)
              show yBg (cSd I (233 + 5 * k) (i % 40) x) = yBg (B (16 * (i % 40) + x))
              rw [hcs x x0 x1]
        · obtain ⟨m1, m2, m3, m4, m5, m6, m7, m8⟩ := n2 (fun j jc => hex ⟨j, jc⟩)
          rw [m1, m2, m3]
          refine ⟨k1, k2, fun w => ?_⟩
          obtain ⟨a1, a2, a3⟩ := k3 w
          refine ⟨a1, a2, ?_⟩
          unfold iLb at *
          rw [m4, m5, m6, m7, m8]
          exact a3
    · obtain ⟨n1, n2⟩ := hnew i
      by_cases hex : ∃ j, oCn U r j i
      · obtain ⟨j, jc⟩ := hex
        rw [(n1 j jc).1]
        exact (hnr i j i0 i1').2
      · rw [(n2 (fun j jc => hex ⟨j, jc⟩)).1]
        have := hB i i0 i1'
        omega
    · obtain ⟨W', K', y3, y4, g1, g2, g3, g4, g5⟩ := (m215r (d := d1) (x1 := x1) h hr hS hg h467 hm x3 x4).2 e1 t q t0 t1 q0 q1 hf hfirst
      refine ⟨W', K', y3, y4, g1, ?_, g3, g4, g5⟩
      have hu := oDs_un h hD g2
      refine ⟨fun o ho => by rw [u2 o (by omega)]; exact hu.1 o ho, ?_, by rw [i2 468 (by omega)]; exact hu.2.2.1, by rw [i2 469 (by omega)]; exact hu.2.2.2⟩
      rw [u2 430 (by omega)]
      exact hu.2.1
theorem tw_plans {c0 : Int} (d : Nat → Nat → UInt64) (n : Nat) : ∀ (r : Nat) (x : Int) (U V : zVt) (I J : zJt), zInv N U I → (∀ i, 0 ≤ i → i < 5760 → U 47 i ≤ c0 + r) → (0 ≤ c0 ∧ c0 + 40 ≤ 40 * N) → U 430 52 = r + n → pC U V I J → ∃ (x' : Int) (V' : zVt) (J' : zJt) (U' : zVt) (I' : zJt), zGo false 91 4 [.ref 0, .int (zi x), .int (zi r)] [] (zm V J d) = zI1 x' V' J' d ∧ pC U' V' I' J' ∧ (∀ o : Nat, 430 ≤ o → V' o = V o ∧ J' o = J o) ∧ zInv N U' I' ∧ ∀ (W : zVt) (K : zJt) (d1 : Nat → Nat → UInt64) (x3 x4 : Value), pM U W I K → ∃ W' K', zGo false 215 9 [.ref 430, .int (zi x), .int (zi r), x3, x4] [] (zm W K d1) = zI1 x' W' K' d1 ∧ pM U' W' I' K' ∧ (∀ o : Nat, o < 430 → W' o = W o ∧ K' o = K o) ∧ W' 430 60 = W 430 60 ∧ K' 474 = K 474 := by
  induction n with
  | zero =>
    intro r x U V I J h hB hc hr hV
    obtain ⟨b1, b2, b3, b4, b5, b6, b7, b8⟩ := h.2.2.2.2.2.2.1
    have v5 : V 37 5 = U 430 52 := by rw [hV.1 37 (by omega)]; exact b6
    refine ⟨x, V, J, U, I, ?_, hV, fun _ _ => ⟨rfl, rfl⟩, h, fun W K d1 x3 x4 hm => ⟨W, K, ?_, hm, fun _ _ => ⟨rfl, rfl⟩, rfl, rfl⟩⟩
    · rw [ze_91_4]
      simp (disch := first | omega | assumption | (simp (disch := omega) only [vup_fn, vup_o, vup_k, vup_at]; first | done | omega | assumption)) only [v5, Int.add_zero, ↓reduceIte, qw_id, zck_T, zck_t, zGor_v, zGor_n, zGor_e, zbs, vup_at, vup_vup, vup_self, vup_o, vup_k, vup_fn, ne_eq, not_true_eq_false, not_false_eq_true, and_true, true_and, and_self, and_false, false_and, or_true, true_or, or_self, or_false, false_or, xlt_t, xlt_f, xle_t, xle_f, xeq_t, xeq_f, xand_f, xor_t]
    · have a52 : W 430 52 = U 430 52 := hm.2.1.2.2.2.1
      rw [ze_215_9]
      simp (disch := first | omega | assumption | (simp (disch := omega) only [vup_fn, vup_o, vup_k, vup_at]; first | done | omega | assumption)) only [Int.add_zero, ↓reduceIte, qw_id, zck_T, zck_t, zGor_v, zGor_n, zGor_e, zbs, vup_at, vup_vup, vup_self, vup_o, vup_k, vup_fn, ne_eq, not_true_eq_false, not_false_eq_true, and_true, true_and, and_self, and_false, false_and, or_true, true_or, or_self, or_false, false_or, xlt_t, xlt_f, xle_t, xle_f, xeq_t, xeq_f, xand_f, xor_t]
  | succ n ih =>
    intro r x U V I J h hB hc hr hV
    obtain ⟨b1, b2, b3, b4, b5, b6, b7, b8⟩ := h.2.2.2.2.2.2.1
    obtain ⟨q1, q2, q3, q4, q5, q6, q7, q8, q9⟩ := b8 r (by omega) (by omega)
    have hN := h.2.2.2.2.2.2.2.2.2
    have v5 : V 37 5 = U 430 52 := by rw [hV.1 37 (by omega)]; exact b6
    have v42 : V 42 r = U 467 r := by rw [hV.1 42 (by omega)]; exact q5
    have hr1 : ((r : Nat) : Int) + 1 = ((r + 1 : Nat) : Int) := by omega
    by_cases hg : U 467 r = -1
    · obtain ⟨y, V1, J1, U1, I1, y01, g1, g2, g3, g4, g5, g6, g7⟩ := tw_plan h hB ⟨by omega, by omega⟩ (r := r) ⟨by omega, by omega⟩ hV hg d
      obtain ⟨x', V', J', U', I', i1, i2, i3, i4, i5⟩ := ih (r + 1) (x + y) U1 V1 I1 J1 g4 (fun i i0 i1 => by have := g5 i i0 i1; omega) hc (by omega) g2
      refine ⟨x', V', J', U', I', ?_, i2, fun o ho => ⟨(i3 o ho).1.trans (g3 o ho).1, (i3 o ho).2.trans (g3 o ho).2⟩, i4, fun W K d1 x3 x4 hm => ?_⟩
      · clear ih g7 i5 hB b8 b1 b2 b3
        rw [ze_91_4]
        rcases y01 with e | e
        · rw [e] at g1 i1
          rw [Int.add_zero] at i1
          simp (disch := first | omega | assumption | (simp (disch := omega) only [vup_fn, vup_o, vup_k, vup_at]; first | done | omega | assumption)) only [v5, v42, g1, ze_91_33, ze_91_39, hr1, i1, Int.add_zero, ↓reduceIte, qw_id, zck_T, zck_t, zGor_v, zGor_n, zGor_e, zbs, vup_at, vup_vup, vup_self, vup_o, vup_k, vup_fn, ne_eq, not_true_eq_false, not_false_eq_true, and_true, true_and, and_self, and_false, false_and, or_true, true_or, or_self, or_false, false_or, xlt_t, xlt_f, xle_t, xle_f, xeq_t, xeq_f, xand_f, xor_t]
        · rw [e] at g1 i1
          simp (disch := first | omega | assumption | (simp (disch := omega) only [vup_fn, vup_o, vup_k, vup_at]; first | done | omega | assumption)) only [v5, v42, g1, ze_91_33, ze_91_39, hr1, i1, Int.add_zero, ↓reduceIte, qw_id, zck_T, zck_t, zGor_v, zGor_n, zGor_e, zbs, vup_at, vup_vup, vup_self, vup_o, vup_k, vup_fn, ne_eq, not_true_eq_false, not_false_eq_true, and_true, true_and, and_self, and_false, false_and, or_true, true_or, or_self, or_false, false_or, xlt_t, xlt_f, xle_t, xle_f, xeq_t, xeq_f, xand_f, xor_t]
      · obtain ⟨W1, K1, y3, y4, k1, k2, k3, k4, k5⟩ := g7 W K d1 x x3 x4 hm
        obtain ⟨W', K', l1, l2, l3, l4, l5⟩ := i5 W1 K1 d1 y3 y4 k2
        refine ⟨W', K', ?_, l2, fun o ho => ⟨(l3 o ho).1.trans (k3 o ho).1, (l3 o ho).2.trans (k3 o ho).2⟩, l4.trans k4, l5.trans k5⟩
        rw [k1, hr1]
        exact l1
    · obtain ⟨x', V', J', U', I', i1, i2, i3, i4, i5⟩ := ih (r + 1) x U V I J h (fun i i0 i1 => by have := hB i i0 i1; omega) hc (by omega) hV
      refine ⟨x', V', J', U', I', ?_, i2, i3, i4, fun W K d1 x3 x4 hm => ?_⟩
      · clear ih i5 hB b8 b1 b2 b3
        rw [ze_91_4]
        simp (disch := first | omega | assumption | (simp (disch := omega) only [vup_fn, vup_o, vup_k, vup_at]; first | done | omega | assumption)) only [v5, v42, ze_91_39, hr1, i1, Int.add_zero, ↓reduceIte, qw_id, zck_T, zck_t, zGor_v, zGor_n, zGor_e, zbs, vup_at, vup_vup, vup_self, vup_o, vup_k, vup_fn, ne_eq, not_true_eq_false, not_false_eq_true, and_true, true_and, and_self, and_false, false_and, or_true, true_or, or_self, or_false, false_or, xlt_t, xlt_f, xle_t, xle_f, xeq_t, xeq_f, xand_f, xor_t]
      · obtain ⟨W', K', l1, l2⟩ := i5 W K d1 (.int (zi 0)) (.int (zi 0)) hm
        refine ⟨W', K', ?_, l2⟩
        have a52 : W 430 52 = U 430 52 := hm.2.1.2.2.2.1
        have a467 : W 467 r = U 467 r := by rw [hm.1 467 (by omega)]
        clear ih i5 hB b8 b1 b2 b3 l2
        rw [ze_215_9]
        simp (disch := first | omega | assumption | (simp (disch := omega) only [vup_fn, vup_o, vup_k, vup_at]; first | done | omega | assumption)) only [a467, ze_215_36, ze_215_40, ze_215_99, hr1, l1, Int.add_zero, ↓reduceIte, qw_id, zck_T, zck_t, zGor_v, zGor_n, zGor_e, zbs, vup_at, vup_vup, vup_self, vup_o, vup_k, vup_fn, ne_eq, not_true_eq_false, not_false_eq_true, and_true, true_and, and_self, and_false, false_and, or_true, true_or, or_self, or_false, false_or, xlt_t, xlt_f, xle_t, xle_f, xeq_t, xeq_f, xand_f, xor_t]
theorem x91 (h : zInv N V J) (hN : N < 600) : zTw N V J 91 [.ref 0, .null, .null] 215 [.ref 430, .null, .null, .null, .null] [] := by
  intro d
  left
  have hu := zInv_up h hN
  have hN0 := h.2.2.2.2.2.2.2.2.2
  obtain ⟨b1, b2, b3, b4, b5, b6, b7, b8⟩ := h.2.2.2.2.2.2.1
  obtain ⟨x', V', J', U', I', i1, i2, i3, i4, i5⟩ := tw_plans (c0 := 40 * N) d (V 430 52).toNat 0 0 V V J J hu (fun i i0 i1 => by have := (h.2.2.2.2.2.2.2.1 i i0 i1).2.1; omega) (by omega) (by omega) pC_r
  rw [show ((0 : Nat) : Int) = 0 from rfl] at i1 i5
  refine ⟨x', V', J', by rw [ze_91_0]; exact i1, ?_⟩
  intro J2 d2 hj
  have hpm : pM V (vup V' 430 60 0) J J2 := by
    have g : ∀ o : Nat, 430 ≤ o → V' o = V o := fun o ho => (i3 o ho).1
    refine pM_t (V1 := V') (J1 := J2) ⟨fun o ho => g o (by omega), ⟨by rw [g 430 (by omega)], by rw [g 430 (by omega)], by rw [g 430 (by omega)], by rw [g 430 (by omega)], by rw [g 430 (by omega)]⟩, (hj 468 (by omega)).trans (i3 468 (by omega)).2, (hj 469 (by omega)).trans (i3 469 (by omega)).2⟩ pM_60
  obtain ⟨W', K', l1, l2, l3, l4, l5⟩ := i5 _ J2 d2 .null .null hpm
  refine ⟨x', W', K', by rw [ze_215_0]; exact l1, by rw [l4, vup_at], zInv_fr l2 ⟨fun o ho => ?_, fun o ho => ?_⟩ i4, l5, fun _ => rfl⟩
  · rw [(l3 o (by omega)).1, vup_fn (by omega)]
    exact i2.1 o ho
  · rw [(l3 o (by omega)).2, hj o (by omega)]
    exact i2.2 o ho
end
