/-! part 99a: finds and isFree of the reference -/
/-- the copies of singers for request r -/
def oSi (U : zVt) (r : Int) (S : Int → Int) : Prop := ∀ s, 0 ≤ s → s < 12 → (S s = -1 ∧ ¬∃ k, oSg U r k ∧ U 455 k = s) ∨ (oSg U r (S s) ∧ U 455 (S s) = s)
theorem oSi_ex (U : zVt) (r : Int) : ∃ S, oSi U r S := by
  have hex : ∀ s : Int, ∃ y, (y = -1 ∧ ¬∃ k, oSg U r k ∧ U 455 k = s) ∨ (oSg U r y ∧ U 455 y = s) := fun s => by
    by_cases q : ∃ k, oSg U r k ∧ U 455 k = s
    · obtain ⟨k, k1⟩ := q
      exact ⟨k, Or.inr k1⟩
    · exact ⟨-1, Or.inl ⟨rfl, q⟩⟩
  obtain ⟨S, hS⟩ := Classical.axiomOfChoice hex
  exact ⟨S, fun s _ _ => hS s⟩
section
variable {U W : zVt} {I K : zJt} {N r : Int} {d : Nat → Nat → UInt64}
theorem oSi_g {S g : Int → Int} (hS : oSi U r S) (hg : oGs U r (U 430 37) g) {s : Int} (hs : 0 ≤ s ∧ s < 12) : g s = 1 ↔ S s ≠ -1 := by
  rw [hg.2.1 s hs.1 hs.2]
  rcases hS s hs.1 hs.2 with ⟨a1, a2⟩ | ⟨a1, a2⟩
  · constructor
    · rintro ⟨j, j1, j2, j3⟩
      exact absurd ⟨j, j2, j3⟩ a2
    · intro w
      exact absurd a1 w
  · constructor
    · intro _ w
      have := a1.1.1.1
      omega
    · intro _
      exact ⟨S s, a1.1.1.2, a1, a2⟩
theorem ml216 (h : zInv N U I) (hr : 0 ≤ r ∧ r < U 430 52) {S g : Int → Int} (hS : oSi U r S) (hg : oGs U r (U 430 37) g) {C : zVt} {D : zJt} {t : Int} {k5 : Int → Int64} (n : Nat) : ∀ (s : Int) (W : zVt) (K : zJt) (x4 x5 : Value), 0 ≤ s → 12 = s + n → oSt U I W K C D t k5 → (∀ u, 0 ≤ u → u < s → W 473 u = S u) → ∃ W' K', zGo false 216 4 [.ref 430, .int (zi r), .int (zi (oS g s.toNat)), .int (zi s), x4, x5] [] (zm W K d) = zI1 (oS g 12) W' K' d ∧ oSt U I W' K' C D t k5 ∧ ∀ u, 0 ≤ u → u < 12 → W' 473 u = S u := by
  have h37 := h.2.2.2.1
  obtain ⟨b1, b2, b3, b4, b5', b6, b7, b8⟩ := h.2.2.2.2.2.2.1
  obtain ⟨q1, q2, q3, q4, q5, q6, q7, q8, q9⟩ := b8 r hr.1 hr.2
  induction n with
  | zero =>
    intro s W K x4 x5 s0 hs hst hu
    obtain rfl : s = 12 := by omega
    refine ⟨W, K, ?_, hst, hu⟩
    rw [ze_216_4]
    simp (disch := first | omega | assumption | (simp (disch := omega) only [vup_fn, vup_o, vup_k, vup_at]; first | done | omega | assumption)) only [Int.add_zero, ↓reduceIte, qw_id, zck_T, zck_t, zGor_v, zGor_n, zGor_e, zbs, vup_at, vup_vup, vup_self, vup_o, vup_k, vup_fn, ne_eq, not_true_eq_false, not_false_eq_true, and_true, true_and, and_self, and_false, false_and, or_true, true_or, or_self, or_false, false_or, xlt_t, xlt_f, xle_t, xle_f, xeq_t, xeq_f, xand_f, xor_t]
    rfl
  | succ n ih =>
    intro s W K x4 x5 s0 hs hst hu
    have hs12 : 0 ≤ s ∧ s < 12 := by omega
    have a37 : W 430 37 = U 430 37 := hst.1.2.1.1
    have a454 : W 454 = U 454 := hst.1.1 454 (by omega)
    have a455 : W 455 = U 455 := hst.1.1 455 (by omega)
    have a463 : W 463 r = U 463 r := by rw [hst.1.1 463 (by omega)]
    have a464 : W 464 r = U 464 r := by rw [hst.1.1 464 (by omega)]
    have a466 : W 466 r = U 466 r := by rw [hst.1.1 466 (by omega)]
    obtain ⟨z, z1, z2⟩ := m191 (V := W) (J := K) (d := d) (by rw [a37]; exact h37.1) (by rw [a37, a454, a455]; exact iCp_rg h) (s := s) (p := U 463 r) (by omega) (by omega)
    rw [a37, a454, a455] at z1
    have hgs := hg.1 s s0 (by omega)
    have hgS := oSi_g hS hg hs12
    have hsg : ∀ k, oSg U r k → U 455 k = s → k = z := fun k k1 k2 => by
      rcases z1 with ⟨_, c2⟩ | ⟨c1, c2, c3⟩
      · exact absurd ⟨k, k1.1.1, k2, k1.1.2.2⟩ c2
      · exact h.2.2.2.2.2.1 k z k1.1.1.1 k1.1.1.2 c1.1 c1.2 k1.1.2.1 (by rw [k2, c2]) (by rw [k1.1.2.2, c3])
    have hnext : ∀ (W1 : zVt) (K1 : zJt) (c f x5 : Int), oSt U I W1 K1 C D t k5 → (∀ u, 0 ≤ u → u < s → W1 473 u = S u) → (f = 0 ∨ f = 1) → f = g s → (if f = 0 then -1 else c) = S s → ∃ W' K', zGo false 216 93 [.ref 430, .int (zi r), .int (zi (oS g s.toNat)), .int (zi s), .int (zi c), .int (zi x5)] [.int (zi f)] (zm W1 K1 d) = zI1 (oS g 12) W' K' d ∧ oSt U I W' K' C D t k5 ∧ ∀ u, 0 ≤ u → u < 12 → W' 473 u = S u := fun W1 K1 c f x5 hst1 hu1 hf hfg hfS => by
      have hst2 : oSt U I (vup W1 473 s (S s)) K1 C D t k5 := by
        obtain ⟨p1, p2, p3, p4⟩ := hst1
        refine ⟨⟨fun o ho => by rw [vup_fn (by omega)]; exact p1.1 o ho, ?_, p1.2.2⟩, fun o ho => ⟨by rw [vup_fn (by omega)]; exact (p2 o ho).1, (p2 o ho).2⟩, by rw [vup_o (by omega)]; exact p3, p4⟩
        rw [vup_fn (by omega)]
        exact p1.2.1
      obtain ⟨W', K', i1, i2, i3⟩ := ih (s + 1) (vup W1 473 s (S s)) K1 (.int (zi c)) (.int (zi f)) (by omega) (by omega) hst2 (fun u u0 u1 => by
        by_cases e : u = s
        · rw [e, vup_at]
        · rw [vup_k e]
          exact hu1 u u0 (by omega))
      rw [oS_s s0, ← hfg] at i1
      refine ⟨W', K', ?_, i2, i3⟩
      clear ih hsg hgS hu hu1 hst hst1 hst2 i2 i3 hS hg
      rcases hf with e | e
      · rw [e, if_pos rfl] at hfS
        rw [e, ← hfS, Int.add_zero] at i1
        rw [e]
        simp (disch := first | omega | assumption | (simp (disch := omega) only [vup_fn, vup_o, vup_k, vup_at]; first | done | omega | assumption)) only [ze_216_93, ze_216_111, ze_216_123, i1, Int.add_zero, ↓reduceIte, qw_id, zck_T, zck_t, zGor_v, zGor_n, zGor_e, zbs, vup_at, vup_vup, vup_self, vup_o, vup_k, vup_fn, ne_eq, not_true_eq_false, not_false_eq_true, and_true, true_and, and_self, and_false, false_and, or_true, true_or, or_self, or_false, false_or, xlt_t, xlt_f, xle_t, xle_f, xeq_t, xeq_f, xand_f, xor_t]
      · rw [e, if_neg (by decide)] at hfS
        rw [e, ← hfS] at i1
        rw [e]
        simp (disch := first | omega | assumption | (simp (disch := omega) only [vup_fn, vup_o, vup_k, vup_at]; first | done | omega | assumption)) only [ze_216_93, ze_216_111, ze_216_123, i1, Int.add_zero, ↓reduceIte, qw_id, zck_T, zck_t, zGor_v, zGor_n, zGor_e, zbs, vup_at, vup_vup, vup_self, vup_o, vup_k, vup_fn, ne_eq, not_true_eq_false, not_false_eq_true, and_true, true_and, and_self, and_false, false_and, or_true, true_or, or_self, or_false, false_or, xlt_t, xlt_f, xle_t, xle_f, xeq_t, xeq_f, xand_f, xor_t]
    have hzr : -1 ≤ z ∧ z < 40 := by
      rcases z1 with ⟨c1, _⟩ | ⟨c1, _⟩ <;> omega
    have hno : ¬ oSg U r z ∨ z = -1 → S s = -1 ∧ g s = 0 := fun q => by
      have e1 : S s = -1 := by
        rcases hS s s0 hs12.2 with ⟨c1, _⟩ | ⟨c1, c2⟩
        · exact c1
        · have e := hsg _ c1 c2
          rcases q with q | q
          · rw [e] at c1
            exact absurd c1 q
          · rw [e]
            exact q
      refine ⟨e1, ?_⟩
      rcases hgs with e | e
      · exact e
      · exact absurd e1 (hgS.1 e)
    by_cases hz1 : z = -1
    · obtain ⟨n1, n2⟩ := hno (Or.inr hz1)
      obtain ⟨W', K', i1, i2, i3⟩ := hnext W K (-1) 0 0 hst hu (Or.inl rfl) n2.symm (by rw [if_pos rfl]; exact n1.symm)
      refine ⟨W', K', ?_, i2, i3⟩
      rw [hz1] at z2
      clear ih hsg hgS hu hst i2 i3 hS hg hnext hno z1 hgs
      rw [ze_216_4]
      simp (disch := first | omega | assumption | (simp (disch := omega) only [vup_fn, vup_o, vup_k, vup_at]; first | done | omega | assumption)) only [a463, z2, ze_216_21, ze_216_55, ze_216_56, ze_216_92, i1, Int.add_zero, ↓reduceIte, qw_id, zck_T, zck_t, zGor_v, zGor_n, zGor_e, zbs, vup_at, vup_vup, vup_self, vup_o, vup_k, vup_fn, ne_eq, not_true_eq_false, not_false_eq_true, and_true, true_and, and_self, and_false, false_and, or_true, true_or, or_self, or_false, false_or, xlt_t, xlt_f, xle_t, xle_f, xeq_t, xeq_f, xand_f, xor_t]
    · obtain ⟨k, hk⟩ : ∃ k : Nat, z = k := ⟨z.toNat, by omega⟩
      have hkl : (k : Int) < U 430 37 := by
        rcases z1 with ⟨c1, _⟩ | ⟨c1, _⟩ <;> omega
      have hzp : U 455 k = s ∧ U 454 k / 4 = U 463 r := by
        rcases z1 with ⟨c1, _⟩ | ⟨_, c2⟩
        · omega
        · rw [← hk]; exact c2
      subst hk
      obtain ⟨b5, mk, c3, c4, c2, c5, c1, hB, k40⟩ := iCp_mk h hkl
      have hkn : ((k : Nat) : Int).toNat = k := by omega
      have hdef : oSg U r k ↔ U 464 r / ((2 ^ (U 454 k % 4).toNat : Nat) : Int) % 2 = 1 ∧ U (233 + 5 * k) 0 = 0 ∧ U 466 r < U (233 + 5 * k) 2 := by
        unfold oSg
        rw [hkn]
        exact ⟨fun w => w.2, fun w => ⟨⟨⟨by omega, hkl⟩, by omega, hzp.2⟩, w⟩⟩
      have hrm := qrem_p (a := U 454 k) (b := 4) (by omega) (by omega)
      have hqb := qbit (x := U 464 r) (t := U 454 k % 4) (by omega) (by omega)
      have a454k : W 454 k = U 454 k := by rw [a454]
      have hbr : 0 ≤ U 464 r / ((2 ^ (U 454 k % 4).toNat : Nat) : Int) % 2 ∧ U 464 r / ((2 ^ (U 454 k % 4).toNat : Nat) : Int) % 2 < 2 := by omega
      generalize U 464 r / ((2 ^ (U 454 k % 4).toNat : Nat) : Int) % 2 = bt at *
      by_cases hbt : bt = 1
      · obtain ⟨W1, K1, m1, m2, m3, m4, m5, m6, m7⟩ := m198v (d := d) h hst.1 hkl (s := 0) (by omega)
        have hst1 := oSt_m hst m3 m4 m5 m6
        have u473 : ∀ u, 0 ≤ u → u < s → W1 473 u = S u := fun u u0 u1 => by rw [m2.1 473 (by omega)]; exact hu u u0 u1
        have h449 : W1 449 0 = U (233 + 5 * k) 2 := m7.2.1
        have b466 : W1 466 r = U 466 r := by rw [m3.1 466 (by omega)]
        have mk0 := mk.1
        have mk2 := mk.2.2.1
        by_cases hf : U (233 + 5 * k) 0 = 0 ∧ U 466 r < U (233 + 5 * k) 2
        · have hsk : oSg U r k := hdef.2 ⟨hbt, hf⟩
          have hSs : S s = k := by
            rcases hS s s0 hs12.2 with ⟨_, e2⟩ | ⟨e1, e2⟩
            · exact absurd ⟨k, hsk, hzp.1⟩ e2
            · exact hsg _ e1 e2
          have hg1 : g s = 1 := hgS.2 (by omega)
          obtain ⟨W', K', i1, i2, i3⟩ := hnext W1 K1 k 1 1 hst1 u473 (Or.inr rfl) hg1.symm (by rw [if_neg (by decide)]; exact hSs.symm)
          refine ⟨W', K', ?_, i2, i3⟩
          have f1 := hf.1
          have f2 := hf.2
          clear ih hsg hgS hu hst hst1 i2 i3 hS hg hnext hno z1 hgs hdef hsk u473
          rw [ze_216_4]
          simp (disch := first | omega | assumption | (simp (disch := omega) only [vup_fn, vup_o, vup_k, vup_at]; first | done | omega | assumption)) only [a463, z2, ze_216_21, a464, a454k, hrm, hqb, ze_216_56, m1, ze_216_70, h449, b466, i1, Int.add_zero, ↓reduceIte, qw_id, zck_T, zck_t, zGor_v, zGor_n, zGor_e, zbs, vup_at, vup_vup, vup_self, vup_o, vup_k, vup_fn, ne_eq, not_true_eq_false, not_false_eq_true, and_true, true_and, and_self, and_false, false_and, or_true, true_or, or_self, or_false, false_or, xlt_t, xlt_f, xle_t, xle_f, xeq_t, xeq_f, xand_f, xor_t]
        · obtain ⟨n1, n2⟩ := hno (Or.inl (fun w => hf (hdef.1 w).2))
          obtain ⟨W', K', i1, i2, i3⟩ := hnext W1 K1 k 0 1 hst1 u473 (Or.inl rfl) n2.symm (by rw [if_pos rfl]; exact n1.symm)
          refine ⟨W', K', ?_, i2, i3⟩
          clear ih hsg hgS hu hst hst1 i2 i3 hS hg hnext hno z1 hgs hdef u473
          rw [ze_216_4]
          by_cases f1 : U (233 + 5 * k) 0 = 0
          · have f2 : U (233 + 5 * k) 2 ≤ U 466 r := by omega
            simp (disch := first | omega | assumption | (simp (disch := omega) only [vup_fn, vup_o, vup_k, vup_at]; first | done | omega | assumption)) only [a463, z2, ze_216_21, a464, a454k, hrm, hqb, ze_216_56, m1, ze_216_70, h449, b466, ze_216_92, i1, Int.add_zero, ↓reduceIte, qw_id, zck_T, zck_t, zGor_v, zGor_n, zGor_e, zbs, vup_at, vup_vup, vup_self, vup_o, vup_k, vup_fn, ne_eq, not_true_eq_false, not_false_eq_true, and_true, true_and, and_self, and_false, false_and, or_true, true_or, or_self, or_false, false_or, xlt_t, xlt_f, xle_t, xle_f, xeq_t, xeq_f, xand_f, xor_t]
          · simp (disch := first | omega | assumption | (simp (disch := omega) only [vup_fn, vup_o, vup_k, vup_at]; first | done | omega | assumption)) only [a463, z2, ze_216_21, a464, a454k, hrm, hqb, ze_216_56, m1, ze_216_70, ze_216_92, i1, Int.add_zero, ↓reduceIte, qw_id, zck_T, zck_t, zGor_v, zGor_n, zGor_e, zbs, vup_at, vup_vup, vup_self, vup_o, vup_k, vup_fn, ne_eq, not_true_eq_false, not_false_eq_true, and_true, true_and, and_self, and_false, false_and, or_true, true_or, or_self, or_false, false_or, xlt_t, xlt_f, xle_t, xle_f, xeq_t, xeq_f, xand_f, xor_t]
      · obtain ⟨n1, n2⟩ := hno (Or.inl (fun w => hbt (hdef.1 w).1))
        obtain ⟨W', K', i1, i2, i3⟩ := hnext W K k 0 0 hst hu (Or.inl rfl) n2.symm (by rw [if_pos rfl]; exact n1.symm)
        refine ⟨W', K', ?_, i2, i3⟩
        clear ih hsg hgS hu hst i2 i3 hS hg hnext hno z1 hgs hdef
        rw [ze_216_4]
        simp (disch := first | omega | assumption | (simp (disch := omega) only [vup_fn, vup_o, vup_k, vup_at]; first | done | omega | assumption)) only [a463, z2, ze_216_21, a464, a454k, hrm, hqb, ze_216_55, ze_216_56, ze_216_92, i1, Int.add_zero, ↓reduceIte, qw_id, zck_T, zck_t, zGor_v, zGor_n, zGor_e, zbs, vup_at, vup_vup, vup_self, vup_o, vup_k, vup_fn, ne_eq, not_true_eq_false, not_false_eq_true, and_true, true_and, and_self, and_false, false_and, or_true, true_or, or_self, or_false, false_or, xlt_t, xlt_f, xle_t, xle_f, xeq_t, xeq_f, xand_f, xor_t]
theorem oCt_S (g : Int → Int) : oS g 12 = oCt g := by
  show 0 + g 0 + g 1 + g 2 + g 3 + g 4 + g 5 + g 6 + g 7 + g 8 + g 9 + g 10 + g 11 = oCt g
  rw [Int.zero_add]
theorem m216 (h : zInv N U I) (hr : 0 ≤ r ∧ r < U 430 52) {S g : Int → Int} (hS : oSi U r S) (hg : oGs U r (U 430 37) g) {C : zVt} {D : zJt} {t : Int} {k5 : Int → Int64} (hst : oSt U I W K C D t k5) : ∃ W' K', zGo false 216 0 [.ref 430, .int (zi r), .null, .null, .null, .null] [] (zm W K d) = zI1 (oCt g) W' K' d ∧ oSt U I W' K' C D t k5 ∧ ∀ u, 0 ≤ u → u < 12 → W' 473 u = S u := by
  obtain ⟨W', K', i1, i2, i3⟩ := ml216 (d := d) h hr hS hg 12 0 W K .null .null (by omega) (by omega) hst (fun u u0 u1 => by omega)
  rw [show oS g (0 : Int).toNat = 0 from rfl, oCt_S] at i1
  exact ⟨W', K', by rw [ze_216_0]; exact i1, i2, i3⟩
/-- isFree of the reference -/
theorem m217 (h : zInv N U I) {S g : Int → Int} (hg : yB01 g) (hgS : ∀ s, 0 ≤ s → s < 12 → (g s = 1 ↔ S s ≠ -1)) (hm : pM U W I K) (h473 : ∀ u, 0 ≤ u → u < 12 → W 473 u = S u) (hSr : ∀ u, 0 ≤ u → u < 12 → -1 ≤ S u ∧ S u < 40) {t q : Int} (ht : 0 ≤ t ∧ t < 4) (hq : 0 ≤ q ∧ q < 4) : ∃ y : Int, (y = 0 ∨ y = 1) ∧ (y = 1 ↔ oFr U g t q) ∧ zGo false 217 0 [.ref 430, .int (zi t), .int (zi q), .int (zi (oCt g)), .null, .null] [] (zm W K d) = zI1 y W K d := by
  obtain ⟨b1, b2, b3, _⟩ := h.2.2.2.2.2.2.1
  have a460 : W 460 = U 460 := hm.1 460 (by omega)
  have a461 : W 461 = U 461 := hm.1 461 (by omega)
  have a462 : W 462 = U 462 := hm.1 462 (by omega)
  have hcr := oCt_rng hg
  have r461 := (b2 (4 * t + q) (by omega) (by omega)).2
  rw [(b2 (4 * t + q) (by omega) (by omega)).1] at r461
  have r460 := (b1 q hq.1 hq.2).2
  rw [(b1 q hq.1 hq.2).1] at r460
  have r462 := (b3 t ht.1 ht.2).2
  have hloop : ∀ (n : Nat) (u f : Int), 0 ≤ u → 12 = u + n → (f = 0 ∨ f = 1) → (f = 1 ↔ (U 461 (4 * t + q) = 0 ∧ oCt g ≤ U 460 q) ∧ ∀ s, 0 ≤ s → s < u → ¬(U 462 (12 * t + s) = 1 ∧ g s = 1)) → ∃ y : Int, (y = 0 ∨ y = 1) ∧ (y = 1 ↔ oFr U g t q) ∧ zGo false 217 33 [.ref 430, .int (zi t), .int (zi q), .int (zi (oCt g)), .int (zi f), .int (zi u)] [] (zm W K d) = zI1 y W K d := by
    intro n
    induction n with
    | zero =>
      intro u f u0 hu hf he
      obtain rfl : u = 12 := by omega
      refine ⟨f, hf, ?_, ?_⟩
      · rw [he]
        unfold oFr
        exact ⟨fun w => ⟨w.2, w.1⟩, fun w => ⟨w.2, w.1⟩⟩
      · clear he
        rw [ze_217_33]
        simp (disch := first | omega | assumption | (simp (disch := omega) only [vup_fn, vup_o, vup_k, vup_at]; first | done | omega | assumption)) only [Int.add_zero, ↓reduceIte, qw_id, zck_T, zck_t, zGor_v, zGor_n, zGor_e, zbs, vup_at, vup_vup, vup_self, vup_o, vup_k, vup_fn, ne_eq, not_true_eq_false, not_false_eq_true, and_true, true_and, and_self, and_false, false_and, or_true, true_or, or_self, or_false, false_or, xlt_t, xlt_f, xle_t, xle_f, xeq_t, xeq_f, xand_f, xor_t]
    | succ n ih =>
      intro u f u0 hu hf he
      have a473 := h473 u u0 (by omega)
      have sr := hSr u u0 (by omega)
      have g1 := hgS u u0 (by omega)
      have r1 := r462 u u0 (by omega)
      have w462 : W 462 (12 * t + u) = U 462 (12 * t + u) := by rw [a462]
      by_cases hf1 : f = 1
      · have h1 := he.1 hf1
        by_cases hb : U 462 (12 * t + u) = 1 ∧ S u ≠ -1
        · obtain ⟨y, y1, y2, y3⟩ := ih (u + 1) 0 (by omega) (by omega) (Or.inl rfl) ⟨fun w => absurd w (by decide), fun w => absurd ⟨hb.1, g1.2 hb.2⟩ (w.2 u u0 (by omega))⟩
          refine ⟨y, y1, y2, ?_⟩
          rw [hf1]
          have k1 := hb.1
          have k2 := hb.2
          clear ih he h1 y2 g1 hgS hf1
          rw [ze_217_33]
          simp (disch := first | omega | assumption | (simp (disch := omega) only [vup_fn, vup_o, vup_k, vup_at]; first | done | omega | assumption)) only [a473, w462, ze_217_75, ze_217_76, y3, Int.add_zero, ↓reduceIte, qw_id, zck_T, zck_t, zGor_v, zGor_n, zGor_e, zbs, vup_at, vup_vup, vup_self, vup_o, vup_k, vup_fn, ne_eq, not_true_eq_false, not_false_eq_true, and_true, true_and, and_self, and_false, false_and, or_true, true_or, or_self, or_false, false_or, xlt_t, xlt_f, xle_t, xle_f, xeq_t, xeq_f, xand_f, xor_t]
        · obtain ⟨y, y1, y2, y3⟩ := ih (u + 1) 1 (by omega) (by omega) (Or.inr rfl) ⟨fun _ => ⟨h1.1, fun s s0 s1 => by
            by_cases e : s = u
            · rw [e]
              exact fun w => hb ⟨w.1, g1.1 w.2⟩
            · exact h1.2 s s0 (by omega)⟩, fun _ => rfl⟩
          refine ⟨y, y1, y2, ?_⟩
          rw [hf1]
          clear ih he h1 y2 g1 hgS hf1
          rw [ze_217_33]
          by_cases k2 : S u = -1
          · simp (disch := first | omega | assumption | (simp (disch := omega) only [vup_fn, vup_o, vup_k, vup_at]; first | done | omega | assumption)) only [a473, ze_217_71, ze_217_76, y3, Int.add_zero, ↓reduceIte, qw_id, zck_T, zck_t, zGor_v, zGor_n, zGor_e, zbs, vup_at, vup_vup, vup_self, vup_o, vup_k, vup_fn, ne_eq, not_true_eq_false, not_false_eq_true, and_true, true_and, and_self, and_false, false_and, or_true, true_or, or_self, or_false, false_or, xlt_t, xlt_f, xle_t, xle_f, xeq_t, xeq_f, xand_f, xor_t]
          · have k1 : U 462 (12 * t + u) = 0 := r1.resolve_right (fun w => hb ⟨w, k2⟩)
            simp (disch := first | omega | assumption | (simp (disch := omega) only [vup_fn, vup_o, vup_k, vup_at]; first | done | omega | assumption)) only [a473, w462, ze_217_71, ze_217_76, y3, Int.add_zero, ↓reduceIte, qw_id, zck_T, zck_t, zGor_v, zGor_n, zGor_e, zbs, vup_at, vup_vup, vup_self, vup_o, vup_k, vup_fn, ne_eq, not_true_eq_false, not_false_eq_true, and_true, true_and, and_self, and_false, false_and, or_true, true_or, or_self, or_false, false_or, xlt_t, xlt_f, xle_t, xle_f, xeq_t, xeq_f, xand_f, xor_t]
      · have hf0 := hf.resolve_right hf1
        obtain ⟨y, y1, y2, y3⟩ := ih (u + 1) 0 (by omega) (by omega) (Or.inl rfl) ⟨fun w => absurd w (by decide), fun w => absurd (he.2 ⟨w.1, fun s s0 s1 => w.2 s s0 (by omega)⟩) hf1⟩
        refine ⟨y, y1, y2, ?_⟩
        rw [hf0]
        clear ih he y2 g1 hgS hf1
        rw [ze_217_33]
        simp (disch := first | omega | assumption | (simp (disch := omega) only [vup_fn, vup_o, vup_k, vup_at]; first | done | omega | assumption)) only [ze_217_75, ze_217_76, y3, Int.add_zero, ↓reduceIte, qw_id, zck_T, zck_t, zGor_v, zGor_n, zGor_e, zbs, vup_at, vup_vup, vup_self, vup_o, vup_k, vup_fn, ne_eq, not_true_eq_false, not_false_eq_true, and_true, true_and, and_self, and_false, false_and, or_true, true_or, or_self, or_false, false_or, xlt_t, xlt_f, xle_t, xle_f, xeq_t, xeq_f, xand_f, xor_t]
  have w461 : W 461 (4 * t + q) = U 461 (4 * t + q) := by rw [a461]
  have w460 : W 460 q = U 460 q := by rw [a460]
  by_cases h1 : U 461 (4 * t + q) = 0
  · by_cases h2 : oCt g ≤ U 460 q
    · obtain ⟨y, y1, y2, y3⟩ := hloop 12 0 1 (by omega) (by omega) (Or.inr rfl) ⟨fun _ => ⟨⟨h1, h2⟩, fun s s0 s1 => by omega⟩, fun _ => rfl⟩
      refine ⟨y, y1, y2, ?_⟩
      clear hloop y2 hgS
      generalize oCt g = c at *
      simp (disch := first | omega | assumption | (simp (disch := omega) only [vup_fn, vup_o, vup_k, vup_at]; first | done | omega | assumption)) only [ze_217_0, ze_217_27, ze_217_28, w461, w460, y3, Int.add_zero, ↓reduceIte, qw_id, zck_T, zck_t, zGor_v, zGor_n, zGor_e, zbs, vup_at, vup_vup, vup_self, vup_o, vup_k, vup_fn, ne_eq, not_true_eq_false, not_false_eq_true, and_true, true_and, and_self, and_false, false_and, or_true, true_or, or_self, or_false, false_or, xlt_t, xlt_f, xle_t, xle_f, xeq_t, xeq_f, xand_f, xor_t]
    · obtain ⟨y, y1, y2, y3⟩ := hloop 12 0 0 (by omega) (by omega) (Or.inl rfl) ⟨fun w => absurd w (by decide), fun w => absurd w.1.2 h2⟩
      refine ⟨y, y1, y2, ?_⟩
      clear hloop y2 hgS
      generalize oCt g = c at *
      simp (disch := first | omega | assumption | (simp (disch := omega) only [vup_fn, vup_o, vup_k, vup_at]; first | done | omega | assumption)) only [ze_217_0, ze_217_27, ze_217_28, w461, w460, y3, Int.add_zero, ↓reduceIte, qw_id, zck_T, zck_t, zGor_v, zGor_n, zGor_e, zbs, vup_at, vup_vup, vup_self, vup_o, vup_k, vup_fn, ne_eq, not_true_eq_false, not_false_eq_true, and_true, true_and, and_self, and_false, false_and, or_true, true_or, or_self, or_false, false_or, xlt_t, xlt_f, xle_t, xle_f, xeq_t, xeq_f, xand_f, xor_t]
  · obtain ⟨y, y1, y2, y3⟩ := hloop 12 0 0 (by omega) (by omega) (Or.inl rfl) ⟨fun w => absurd w (by decide), fun w => absurd w.1.1 h1⟩
    refine ⟨y, y1, y2, ?_⟩
    clear hloop y2 hgS
    generalize oCt g = c at *
    simp (disch := first | omega | assumption | (simp (disch := omega) only [vup_fn, vup_o, vup_k, vup_at]; first | done | omega | assumption)) only [ze_217_0, ze_217_27, ze_217_28, w461, y3, Int.add_zero, ↓reduceIte, qw_id, zck_T, zck_t, zGor_v, zGor_n, zGor_e, zbs, vup_at, vup_vup, vup_self, vup_o, vup_k, vup_fn, ne_eq, not_true_eq_false, not_false_eq_true, and_true, true_and, and_self, and_false, false_and, or_true, true_or, or_self, or_false, false_or, xlt_t, xlt_f, xle_t, xle_f, xeq_t, xeq_f, xand_f, xor_t]
end
