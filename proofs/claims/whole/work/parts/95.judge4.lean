/-! part 95: judging in the reference, the rest; judge -/
section
variable {V : zVt} {J : zJt} {N p : Int} {d : Nat → Nat → UInt64}
theorem oSt_m {W W1 : zVt} {K K1 : zJt} {C : zVt} {D : zJt} {t : Int} {k5 : Int → Int64} (hs : oSt V J W K C D t k5) (m3 : pM V W1 J K1) (m4 : ∀ o : Nat, o < 430 → W1 o = W o ∧ K1 o = K o) (m5 : K1 474 = K 474) (m6 : W1 430 60 = W 430 60) : oSt V J W1 K1 C D t k5 := ⟨m3, fun o ho => ⟨(m4 o ho).1.trans (hs.2.1 o ho).1, (m4 o ho).2.trans (hs.2.1 o ho).2⟩, m6.trans hs.2.2.1, m5.trans hs.2.2.2⟩
theorem ml227v (hi : zInv N V J) (hp : 0 ≤ p ∧ p < 3) {F : Int → Int} (hF : oFs V p F) (h1 : oP1 V p) (h2 : ¬ oP2 V p) {C : zVt} {D : zJt} {t : Int} {k5 : Int → Int64} (n : Nat) : ∀ (v f : Int) (W : zVt) (K : zJt), 0 ≤ v → 4 = v + n → (f = 0 ∨ f = 1) → (f = 1 ↔ ∃ u, (0 ≤ u ∧ u < v) ∧ ¬ oEv V (233 + 5 * (F u).toNat) (233 + 5 * (F 0).toNat)) → (∀ u, 0 ≤ u → u < v → rMus V J (233 + 5 * (F u).toNat) W K u) → oSt V J W K C D t k5 → ∃ (f' : Int) (W' : zVt) (K' : zJt), (f' = 0 ∨ f' = 1) ∧ (f' = 1 ↔ oR4 V F) ∧ (∀ u, 0 ≤ u → u < 4 → rMus V J (233 + 5 * (F u).toNat) W' K' u) ∧ oSt V J W' K' C D t k5 ∧ zGo false 227 4 [.ref 430, .int (zi p), .int (zi f), .int (zi v)] [] (zm W K d) = zGo false 227 81 [.ref 430, .int (zi p), .int (zi f'), .int (zi 0)] [] (zm W' K' d) := by
  have h37 := hi.2.2.2.1
  have hf := (oP1_F hF).1 h1
  induction n with
  | zero =>
    intro v f W K v0 hv hf01 he hu hs
    obtain rfl : v = 4 := by omega
    refine ⟨f, W, K, hf01, he, hu, hs, ?_⟩
    rw [ze_227_4]
    simp (disch := first | omega | assumption | (simp (disch := omega) only [vup_fn, vup_o, vup_k, vup_at]; first | done | omega | assumption)) only [Int.add_zero, ↓reduceIte, qw_id, zck_T, zck_t, zGor_v, zGor_n, zGor_e, zbs, vup_at, vup_vup, vup_self, vup_o, vup_k, vup_fn, ne_eq, not_true_eq_false, not_false_eq_true, and_true, true_and, and_self, and_false, false_and, or_true, true_or, or_self, or_false, false_or, xlt_t, xlt_f, xle_t, xle_f, xeq_t, xeq_f, xand_f, xor_t]
  | succ n ih =>
    intro v f W K v0 hv hf01 he hu hs
    have hv4 : 0 ≤ v ∧ v < 4 := by omega
    obtain ⟨y, y1, y2⟩ := m226 (d := d) hi hs.1 (w := 4 * p + v) (by omega)
    have e := oFi_un y1 (hF v v0 hv4.2)
    subst e
    obtain ⟨k1, k2, k3⟩ := oFs_le hF hv4 (hf v v0 hv4.2)
    obtain ⟨l1, l2, l3⟩ := oFs_le hF (v := 0) (by decide) (hf 0 (by decide) (by decide))
    obtain ⟨kf, hkf⟩ : ∃ kf : Nat, F v = kf := ⟨(F v).toNat, by have := k1.1.1; omega⟩
    have hkn : (F v).toNat = kf := by omega
    obtain ⟨W1, K1, m1, m2, m3, m4, m5, m6, m7⟩ := m198v (d := d) hi hs.1 (k := kf) (by rw [← hkf]; exact k1.1.2) (s := v) (by omega)
    have hs1 := oSt_m hs m3 m4 m5 m6
    have hu1 : ∀ u, 0 ≤ u → u < v + 1 → rMus V J (233 + 5 * (F u).toNat) W1 K1 u := fun u u0 u1 => by
      by_cases e : u = v
      · rw [e, hkn]; exact m7
      · obtain ⟨g1, _, _⟩ := oFs_le hF (v := u) (by omega) (hf u u0 (by omega))
        obtain ⟨gf, hgf⟩ : ∃ gf : Nat, F u = gf := ⟨(F u).toNat, by have := g1.1.1; omega⟩
        have gm := (iCp_mk hi (k := gf) (by rw [← hgf]; exact g1.1.2)).2.1.2.2.1.2
        refine rMus_fr (hu u u0 (by omega)) m2 e ?_
        rw [show (F u).toNat = gf by omega]
        exact gm
    have hr0 := hu1 0 (by omega) (by omega)
    have hrv := hu1 v v0 (by omega)
    have z0 : V (233 + 5 * (F 0).toNat) 0 = 0 := Classical.byContradiction (fun c => h2 ⟨F 0, l1, c⟩)
    have zv : V (233 + 5 * (F v).toNat) 0 = 0 := Classical.byContradiction (fun c => h2 ⟨F v, k1, c⟩)
    have a1 := hr0.2.1
    have a2 := hr0.2.2.1 z0
    have b1 := hrv.2.1
    have b2 := hrv.2.2.1 zv
    have cm0 : cMok V (233 + 5 * (F 0).toNat) := by
      obtain ⟨g, hg⟩ : ∃ g : Nat, F 0 = g := ⟨(F 0).toNat, by have := l1.1.1; omega⟩
      rw [show (F 0).toNat = g by omega]
      exact (iCp_mk hi (k := g) (by rw [← hg]; exact l1.1.2)).2.1
    have cmv : cMok V (233 + 5 * (F v).toNat) := by
      rw [hkn]
      exact (iCp_mk hi (k := kf) (by rw [← hkf]; exact k1.1.2)).2.1
    have hEv : oEv V (233 + 5 * (F v).toNat) (233 + 5 * (F 0).toNat) ↔ (W1 449 v = W1 449 0 ∧ (W1 449 0 = 0 ∨ W1 450 v = W1 450 0)) := by
      rw [a1, a2, b1, b2]
      unfold oEv
      constructor
      · intro w; omega
      · intro w; omega
    have c1 : 0 ≤ W1 449 0 ∧ W1 449 0 ≤ 40 := by rw [a1]; exact cm0.2.2.1
    have c2 : 0 ≤ W1 449 v ∧ W1 449 v ≤ 40 := by rw [b1]; exact cmv.2.2.1
    have c3 : 0 ≤ W1 450 0 ∧ W1 450 0 ≤ 16 := by rw [a2]; exact cm0.2.2.2.2.1
    have c4 : 0 ≤ W1 450 v ∧ W1 450 v ≤ 16 := by rw [b2]; exact cmv.2.2.2.2.1
    have fr : 0 ≤ F v ∧ F v < 40 := by have := k1.1; omega
    rw [hkf] at y2
    have hstep : (∃ u, (0 ≤ u ∧ u < v + 1) ∧ ¬ oEv V (233 + 5 * (F u).toNat) (233 + 5 * (F 0).toNat)) ↔ (∃ u, (0 ≤ u ∧ u < v) ∧ ¬ oEv V (233 + 5 * (F u).toNat) (233 + 5 * (F 0).toNat)) ∨ ¬ oEv V (233 + 5 * (F v).toNat) (233 + 5 * (F 0).toNat) := by
      constructor
      · rintro ⟨u, u1, u2⟩
        by_cases e : u = v
        · rw [e] at u2
          exact Or.inr u2
        · exact Or.inl ⟨u, by omega, u2⟩
      · rintro (⟨u, u1, u2⟩ | u2)
        · exact ⟨u, by omega, u2⟩
        · exact ⟨v, by omega, u2⟩
    by_cases hf1 : f = 1
    · obtain ⟨f', W', K', g1, g2, g3, g4, g5⟩ := ih (v + 1) 1 W1 K1 (by omega) (by omega) (Or.inr rfl) (by rw [hstep]; exact ⟨fun _ => Or.inl (he.1 hf1), fun _ => rfl⟩) hu1 hs1
      refine ⟨f', W', K', g1, g2, g3, g4, ?_⟩
      rw [hf1]
      clear ih he hstep g2 hf1 hEv
      rw [ze_227_4]
      simp (disch := first | omega | assumption | (simp (disch := omega) only [vup_fn, vup_o, vup_k, vup_at]; first | done | omega | assumption)) only [y2, ze_227_20, m1, ze_227_23, ze_227_67, ze_227_72, g5, Int.add_zero, ↓reduceIte, qw_id, zck_T, zck_t, zGor_v, zGor_n, zGor_e, zbs, vup_at, vup_vup, vup_self, vup_o, vup_k, vup_fn, ne_eq, not_true_eq_false, not_false_eq_true, and_true, true_and, and_self, and_false, false_and, or_true, true_or, or_self, or_false, false_or, xlt_t, xlt_f, xle_t, xle_f, xeq_t, xeq_f, xand_f, xor_t]
    · have hf0 : f = 0 := hf01.resolve_right hf1
      have hno : ¬∃ u, (0 ≤ u ∧ u < v) ∧ ¬ oEv V (233 + 5 * (F u).toNat) (233 + 5 * (F 0).toNat) := fun w => hf1 (he.2 w)
      by_cases q : oEv V (233 + 5 * (F v).toNat) (233 + 5 * (F 0).toNat)
      · obtain ⟨f', W', K', g1, g2, g3, g4, g5⟩ := ih (v + 1) 0 W1 K1 (by omega) (by omega) (Or.inl rfl) (by rw [hstep]; exact ⟨fun w => absurd w (by decide), fun w => w.elim (fun w => absurd w hno) (fun w => absurd q w)⟩) hu1 hs1
        refine ⟨f', W', K', g1, g2, g3, g4, ?_⟩
        have q2 := hEv.1 q
        rw [hf0]
        clear ih he hstep g2 hf1 hEv hno
        rw [ze_227_4]
        by_cases q3 : W1 449 0 = 0
        · have q4 : W1 449 v = 0 := by omega
          simp (disch := first | omega | assumption | (simp (disch := omega) only [vup_fn, vup_o, vup_k, vup_at]; first | done | omega | assumption)) only [y2, ze_227_20, m1, ze_227_23, ze_227_71, ze_227_72, g5, Int.add_zero, ↓reduceIte, qw_id, zck_T, zck_t, zGor_v, zGor_n, zGor_e, zbs, vup_at, vup_vup, vup_self, vup_o, vup_k, vup_fn, ne_eq, not_true_eq_false, not_false_eq_true, and_true, true_and, and_self, and_false, false_and, or_true, true_or, or_self, or_false, false_or, xlt_t, xlt_f, xle_t, xle_f, xeq_t, xeq_f, xand_f, xor_t]
        · have q4 := q2.1
          have q5 : W1 450 v = W1 450 0 := q2.2.resolve_left q3
          simp (disch := first | omega | assumption | (simp (disch := omega) only [vup_fn, vup_o, vup_k, vup_at]; first | done | omega | assumption)) only [y2, ze_227_20, m1, ze_227_23, ze_227_71, ze_227_72, g5, Int.add_zero, ↓reduceIte, qw_id, zck_T, zck_t, zGor_v, zGor_n, zGor_e, zbs, vup_at, vup_vup, vup_self, vup_o, vup_k, vup_fn, ne_eq, not_true_eq_false, not_false_eq_true, and_true, true_and, and_self, and_false, false_and, or_true, true_or, or_self, or_false, false_or, xlt_t, xlt_f, xle_t, xle_f, xeq_t, xeq_f, xand_f, xor_t]
      · obtain ⟨f', W', K', g1, g2, g3, g4, g5⟩ := ih (v + 1) 1 W1 K1 (by omega) (by omega) (Or.inr rfl) (by rw [hstep]; exact ⟨fun _ => Or.inr q, fun _ => rfl⟩) hu1 hs1
        refine ⟨f', W', K', g1, g2, g3, g4, ?_⟩
        have q2 : ¬(W1 449 v = W1 449 0 ∧ (W1 449 0 = 0 ∨ W1 450 v = W1 450 0)) := fun w => q (hEv.2 w)
        rw [hf0]
        clear ih he hstep g2 hf1 hEv hno q
        rw [ze_227_4]
        by_cases q3 : W1 449 v = W1 449 0
        · have q4 : 0 < W1 449 0 := by omega
          have q5 : W1 450 v ≠ W1 450 0 := by omega
          simp (disch := first | omega | assumption | (simp (disch := omega) only [vup_fn, vup_o, vup_k, vup_at]; first | done | omega | assumption)) only [y2, ze_227_20, m1, ze_227_23, ze_227_67, ze_227_72, g5, Int.add_zero, ↓reduceIte, qw_id, zck_T, zck_t, zGor_v, zGor_n, zGor_e, zbs, vup_at, vup_vup, vup_self, vup_o, vup_k, vup_fn, ne_eq, not_true_eq_false, not_false_eq_true, and_true, true_and, and_self, and_false, false_and, or_true, true_or, or_self, or_false, false_or, xlt_t, xlt_f, xle_t, xle_f, xeq_t, xeq_f, xand_f, xor_t]
        · simp (disch := first | omega | assumption | (simp (disch := omega) only [vup_fn, vup_o, vup_k, vup_at]; first | done | omega | assumption)) only [y2, ze_227_20, m1, ze_227_23, ze_227_67, ze_227_72, g5, Int.add_zero, ↓reduceIte, qw_id, zck_T, zck_t, zGor_v, zGor_n, zGor_e, zbs, vup_at, vup_vup, vup_self, vup_o, vup_k, vup_fn, ne_eq, not_true_eq_false, not_false_eq_true, and_true, true_and, and_self, and_false, false_and, or_true, true_or, or_self, or_false, false_or, xlt_t, xlt_f, xle_t, xle_f, xeq_t, xeq_f, xand_f, xor_t]
theorem ml227k (hi : zInv N V J) (hp : 0 ≤ p ∧ p < 3) {F : Int → Int} (hF : oFs V p F) (h1 : oP1 V p) (h2 : ¬ oP2 V p) {C : zVt} {D : zJt} {t : Int} {k5 : Int → Int64} {f : Int} (hf01 : f = 0 ∨ f = 1) (n : Nat) : ∀ (k : Nat) (W : zVt) (K : zJt), V 430 37 = k + n → (∀ j, j < (k : Int) → oLe V p j → oAk V J (233 + 5 * j.toNat) (233 + 5 * (F (V 454 j % 4)).toNat)) → (∀ u, 0 ≤ u → u < 4 → rMus V J (233 + 5 * (F u).toNat) W K u) → oSt V J W K C D t k5 → ∃ (x : Int) (W' : zVt) (K' : zJt), (x = 3 ∧ oR3 V J p F ∨ x = (if f = 0 then 0 else 4) ∧ ¬ oR3 V J p F) ∧ oSt V J W' K' C D t k5 ∧ zGo false 227 81 [.ref 430, .int (zi p), .int (zi f), .int (zi k)] [] (zm W K d) = zI1 x W' K' d := by
  have h37 := hi.2.2.2.1
  have hf := (oP1_F hF).1 h1
  induction n with
  | zero =>
    intro k W K hk hb hu hs
    have a37 : W 430 37 = V 430 37 := hs.1.2.1.1
    refine ⟨if f = 0 then 0 else 4, W, K, Or.inr ⟨rfl, fun ⟨j, j1, j2⟩ => absurd (hb j (by have := j1.1; omega) j1) j2⟩, hs, ?_⟩
    rcases hf01 with q | q
    · rw [q]
      clear hb
      rw [ze_227_81]
      simp (disch := first | omega | assumption | (simp (disch := omega) only [vup_fn, vup_o, vup_k, vup_at]; first | done | omega | assumption)) only [ze_227_148, Int.add_zero, ↓reduceIte, qw_id, zck_T, zck_t, zGor_v, zGor_n, zGor_e, zbs, vup_at, vup_vup, vup_self, vup_o, vup_k, vup_fn, ne_eq, not_true_eq_false, not_false_eq_true, and_true, true_and, and_self, and_false, false_and, or_true, true_or, or_self, or_false, false_or, xlt_t, xlt_f, xle_t, xle_f, xeq_t, xeq_f, xand_f, xor_t]
    · rw [q]
      clear hb
      rw [ze_227_81]
      simp (disch := first | omega | assumption | (simp (disch := omega) only [vup_fn, vup_o, vup_k, vup_at]; first | done | omega | assumption)) only [ze_227_148, Int.add_zero, ↓reduceIte, qw_id, zck_T, zck_t, zGor_v, zGor_n, zGor_e, zbs, vup_at, vup_vup, vup_self, vup_o, vup_k, vup_fn, ne_eq, not_true_eq_false, not_false_eq_true, and_true, true_and, and_self, and_false, false_and, or_true, true_or, or_self, or_false, false_or, xlt_t, xlt_f, xle_t, xle_f, xeq_t, xeq_f, xand_f, xor_t]
  | succ n ih =>
    intro k W K hk hb hu hs
    have hk1 : ((k : Nat) : Int) + 1 = ((k + 1 : Nat) : Int) := by omega
    have hkn : ((k : Nat) : Int).toNat = k := by omega
    obtain ⟨b5, mk, c3, c4, c2, c5, c1, hB, k40⟩ := iCp_mk hi (k := k) (by omega)
    have a37 : W 430 37 = V 430 37 := hs.1.2.1.1
    have a455 : W 455 k = V 455 k := by rw [hs.1.1 455 (by omega)]
    have a454 : W 454 = V 454 := hs.1.1 454 (by omega)
    have e190 := m190 (V := W) (J := K) (d := d) (c := k) (by omega) (by rw [a454]; exact c2)
    rw [a454] at e190
    by_cases hl : V 455 k ≠ -1 ∧ V 454 k / 4 = p
    · obtain ⟨W1, K1, m1, m2, m3, m4, m5, m6, m7⟩ := m198v (d := d) hi hs.1 (k := k) (by omega) (s := 4) (by omega)
      have hs1 := oSt_m hs m3 m4 m5 m6
      have hle : oLe V p k := ⟨⟨by omega, by omega⟩, hl⟩
      obtain ⟨v, hv⟩ : ∃ v, V 454 k % 4 = v := ⟨_, rfl⟩
      have hv4 : 0 ≤ v ∧ v < 4 := by omega
      have hrm := qrem_p (a := V 454 k) (b := 4) (by omega) (by omega)
      rw [hv] at hrm
      have b454 : W1 454 k = V 454 k := by rw [m3.1 454 (by omega)]
      have hu1 : ∀ u, 0 ≤ u → u < 4 → rMus V J (233 + 5 * (F u).toNat) W1 K1 u := fun u u0 u1 => by
        obtain ⟨g1, _, _⟩ := oFs_le hF (v := u) (by omega) (hf u u0 (by omega))
        obtain ⟨gf, hgf⟩ : ∃ gf : Nat, F u = gf := ⟨(F u).toNat, by have := g1.1.1; omega⟩
        have gm := (iCp_mk hi (k := gf) (by rw [← hgf]; exact g1.1.2)).2.1.2.2.1.2
        refine rMus_fr (hu u u0 (by omega)) m2 (by omega) ?_
        rw [show (F u).toNat = gf by omega]
        exact gm
      obtain ⟨g1, g2, g3⟩ := oFs_le hF hv4 (hf v hv4.1 hv4.2)
      obtain ⟨gf, hgf⟩ : ∃ gf : Nat, F v = gf := ⟨(F v).toNat, by have := g1.1.1; omega⟩
      have hgn : (F v).toNat = gf := by omega
      obtain ⟨_, gm, _, _, _, _, gms, _, _⟩ := iCp_mk hi (k := gf) (by rw [← hgf]; exact g1.1.2)
      have hru := hu1 v hv4.1 hv4.2
      rw [hgn] at hru
      have z0 : V (233 + 5 * k) 0 = 0 := Classical.byContradiction (fun c => h2 ⟨k, hle, by rw [hkn]; exact c⟩)
      have zg : V (233 + 5 * gf) 0 = 0 := Classical.byContradiction (fun c => h2 ⟨F v, g1, by rw [hgn]; exact c⟩)
      have hsame : V 454 k = V 454 gf := by
        rw [← hgf, g2]
        have := hl.2
        omega
      have hmt : V (233 + 5 * k) 3 = V (233 + 5 * gf) 3 := by
        rw [iMs_mt c1 z0, iMs_mt gms zg, hsame]
      have e205 := m205 (d := d) m7 hru (by omega) (by omega) mk.2.2.1 gm.2.2.1 (fun _ _ => by
        rw [m7.2.2.1 z0, hru.2.2.1 zg, hmt]
        exact ⟨rfl, gm.2.2.2.2.1⟩)
      have hak := cUn_ak (J := J) mk.2.2.1.1 gm.2.2.1.1
      have hur := cUn_rng V J (233 + 5 * k) (233 + 5 * gf) (cMx (V (233 + 5 * k) 2) (V (233 + 5 * gf) 2)).toNat
      have hmx : 0 ≤ cMx (V (233 + 5 * k) 2) (V (233 + 5 * gf) 2) ∧ cMx (V (233 + 5 * k) 2) (V (233 + 5 * gf) 2) ≤ 40 := by
        have q1 := mk.2.2.1
        have q2 := gm.2.2.1
        unfold cMx
        split <;> omega
      generalize cUn V J (233 + 5 * k) (233 + 5 * gf) (cMx (V (233 + 5 * k) 2) (V (233 + 5 * gf) 2)).toNat = u at *
      have l1 := hl.1
      have l2 := hl.2
      have mk0 := mk.1
      by_cases hu0 : u = 0
      · obtain ⟨x, W', K', x1, x2, x3⟩ := ih (k + 1) W1 K1 (by omega) (fun j j1 j2 => by
          by_cases e : j = k
          · rw [e, hkn, hv, hgn]
            exact hak.1 hu0
          · exact hb j (by omega) j2) hu1 hs1
        refine ⟨x, W', K', x1, x2, ?_⟩
        rw [hu0] at e205
        clear ih hb x1
        rw [ze_227_81]
        simp (disch := first | omega | assumption | (simp (disch := omega) only [vup_fn, vup_o, vup_k, vup_at]; first | done | omega | assumption)) only [e190, ze_227_94, a455, m1, ze_227_114, b454, hrm, e205, ze_227_128, ze_227_133, hk1, x3, Int.add_zero, ↓reduceIte, qw_id, zck_T, zck_t, zGor_v, zGor_n, zGor_e, zbs, vup_at, vup_vup, vup_self, vup_o, vup_k, vup_fn, ne_eq, not_true_eq_false, not_false_eq_true, and_true, true_and, and_self, and_false, false_and, or_true, true_or, or_self, or_false, false_or, xlt_t, xlt_f, xle_t, xle_f, xeq_t, xeq_f, xand_f, xor_t]
      · refine ⟨3, W1, K1, Or.inl ⟨rfl, k, hle, ?_⟩, hs1, ?_⟩
        · rw [hkn, hv, hgn]
          exact fun w => hu0 (hak.2 w)
        · clear ih hb
          rw [ze_227_81]
          simp (disch := first | omega | assumption | (simp (disch := omega) only [vup_fn, vup_o, vup_k, vup_at]; first | done | omega | assumption)) only [e190, ze_227_94, a455, m1, ze_227_114, b454, hrm, e205, ze_227_128, Int.add_zero, ↓reduceIte, qw_id, zck_T, zck_t, zGor_v, zGor_n, zGor_e, zbs, vup_at, vup_vup, vup_self, vup_o, vup_k, vup_fn, ne_eq, not_true_eq_false, not_false_eq_true, and_true, true_and, and_self, and_false, false_and, or_true, true_or, or_self, or_false, false_or, xlt_t, xlt_f, xle_t, xle_f, xeq_t, xeq_f, xand_f, xor_t]
    · obtain ⟨x, W', K', x1, x2, x3⟩ := ih (k + 1) W K (by omega) (fun j j1 j2 => by
        by_cases e : j = k
        · rw [e] at j2
          exact absurd j2.2 hl
        · exact hb j (by omega) j2) hu hs
      refine ⟨x, W', K', x1, x2, ?_⟩
      clear ih hb x1
      rw [ze_227_81]
      by_cases l2 : V 454 k / 4 = p
      · have l1 : V 455 k = -1 := Decidable.byContradiction (fun w => hl ⟨w, l2⟩)
        simp (disch := first | omega | assumption | (simp (disch := omega) only [vup_fn, vup_o, vup_k, vup_at]; first | done | omega | assumption)) only [e190, ze_227_94, a455, ze_227_133, hk1, x3, Int.add_zero, ↓reduceIte, qw_id, zck_T, zck_t, zGor_v, zGor_n, zGor_e, zbs, vup_at, vup_vup, vup_self, vup_o, vup_k, vup_fn, ne_eq, not_true_eq_false, not_false_eq_true, and_true, true_and, and_self, and_false, false_and, or_true, true_or, or_self, or_false, false_or, xlt_t, xlt_f, xle_t, xle_f, xeq_t, xeq_f, xand_f, xor_t]
      · simp (disch := first | omega | assumption | (simp (disch := omega) only [vup_fn, vup_o, vup_k, vup_at]; first | done | omega | assumption)) only [e190, ze_227_94, ze_227_133, hk1, x3, Int.add_zero, ↓reduceIte, qw_id, zck_T, zck_t, zGor_v, zGor_n, zGor_e, zbs, vup_at, vup_vup, vup_self, vup_o, vup_k, vup_fn, ne_eq, not_true_eq_false, not_false_eq_true, and_true, true_and, and_self, and_false, false_and, or_true, true_or, or_self, or_false, false_or, xlt_t, xlt_f, xle_t, xle_f, xeq_t, xeq_f, xand_f, xor_t]
theorem m227 (hi : zInv N V J) (hp : 0 ≤ p ∧ p < 3) {F : Int → Int} (hF : oFs V p F) (h1 : oP1 V p) (h2 : ¬ oP2 V p) {C : zVt} {D : zJt} {t : Int} {k5 : Int → Int64} {W : zVt} {K : zJt} (hs : oSt V J W K C D t k5) : ∃ (x : Int) (W' : zVt) (K' : zJt), (x = 3 ∧ oP3 V J p ∨ x = 4 ∧ ¬ oP3 V J p ∧ oP4 V p ∨ x = 0 ∧ ¬ oP3 V J p ∧ ¬ oP4 V p) ∧ oSt V J W' K' C D t k5 ∧ zGo false 227 0 [.ref 430, .int (zi p), .null, .null] [] (zm W K d) = zI1 x W' K' d := by
  have h37 := hi.2.2.2.1
  obtain ⟨f, W1, K1, f01, f2, f3, f4, f5⟩ := ml227v (d := d) hi hp hF h1 h2 4 0 0 W K (by omega) (by omega) (Or.inl rfl) ⟨fun w => absurd w (by decide), fun ⟨u, u1, _⟩ => by omega⟩ (fun u u0 u1 => by omega) hs
  obtain ⟨x, W', K', x1, x2, x3⟩ := ml227k (d := d) hi hp hF h1 h2 f01 (V 430 37).toNat 0 W1 K1 (by omega) (fun j j1 j2 => by have := j2.1; omega) f3 f4
  refine ⟨x, W', K', ?_, x2, ?_⟩
  · rw [oR3_P3 hF h1] at x1
    rcases x1 with ⟨a1, a2⟩ | ⟨a1, a2⟩
    · exact Or.inl ⟨a1, a2⟩
    · rw [oR4_P4 hi hF h1 h2 a2] at f2
      by_cases q : f = 1
      · rw [if_neg (by omega)] at a1
        exact Or.inr (Or.inl ⟨a1, a2, f2.1 q⟩)
      · rw [if_pos (f01.resolve_right q)] at a1
        exact Or.inr (Or.inr ⟨a1, a2, fun w => q (f2.2 w)⟩)
  · rw [ze_227_0, f5]
    exact x3
/-- isUnlearned of the reference -/
theorem m228 (hi : zInv N V J) {k : Nat} (hk : (k : Int) < V 430 37) (hl : V 455 k ≠ -1) (h0 : V (233 + 5 * k) 0 = 0) {C : zVt} {D : zJt} {t : Int} {k5 : Int → Int64} {W : zVt} {K : zJt} (hs : oSt V J W K C D t k5) : ∃ (y : Int) (W' : zVt) (K' : zJt), (y = 0 ∨ y = 1) ∧ (y = 1 ↔ ∃ b, (0 ≤ b ∧ b < V (233 + 5 * k) 2) ∧ oKi V J ((V 455 k * 12 + V 454 k) * 40 + b) (233 + 5 * k) b = 0) ∧ oSt V J W' K' C D t k5 ∧ zGo false 228 0 [.ref 430, .int (zi k), .null, .null] [] (zm W K d) = zI1 y W' K' d := by
  have h37 := hi.2.2.2.1
  obtain ⟨b5, mk, c3, c4, c2, c5, c1, hB, k40⟩ := iCp_mk hi hk
  obtain ⟨W1, K1, m1, m2, m3, m4, m5, m6, m7⟩ := m198v (d := d) hi hs.1 hk (s := 0) (by omega)
  have hs1 := oSt_m hs m3 m4 m5 m6
  have a449 : W1 449 0 = V (233 + 5 * k) 2 := m7.2.1
  have r2 := mk.2.2.1
  have b454 : W1 454 k = V 454 k := by rw [m3.1 454 (by omega)]
  have b455 : W1 455 k = V 455 k := by rw [m3.1 455 (by omega)]
  obtain ⟨w, hw⟩ : ∃ w : Nat, V 454 k = w := ⟨(V 454 k).toNat, by omega⟩
  have hmt := iMs_mt c1 h0
  rw [show (V 454 k).toNat = w by omega] at hmt
  have hloop : ∀ (n : Nat) (b f : Int), 0 ≤ b → V (233 + 5 * k) 2 = b + n → (f = 0 ∨ f = 1) → (f = 1 ↔ ∃ i, (0 ≤ i ∧ i < b) ∧ oKi V J ((V 455 k * 12 + V 454 k) * 40 + i) (233 + 5 * k) i = 0) → ∃ y : Int, (y = 0 ∨ y = 1) ∧ (y = 1 ↔ ∃ b, (0 ≤ b ∧ b < V (233 + 5 * k) 2) ∧ oKi V J ((V 455 k * 12 + V 454 k) * 40 + b) (233 + 5 * k) b = 0) ∧ zGo false 228 11 [.ref 430, .int (zi k), .int (zi f), .int (zi b)] [] (zm W1 K1 d) = zI1 y W1 K1 d := by
    intro n
    induction n with
    | zero =>
      intro b f b0 hb hf he
      have eb : V (233 + 5 * k) 2 = b := by omega
      refine ⟨f, hf, by rw [he, eb], ?_⟩
      clear he
      rw [ze_228_11]
      simp (disch := first | omega | assumption | (simp (disch := omega) only [vup_fn, vup_o, vup_k, vup_at]; first | done | omega | assumption)) only [Int.add_zero, ↓reduceIte, qw_id, zck_T, zck_t, zGor_v, zGor_n, zGor_e, zbs, vup_at, vup_vup, vup_self, vup_o, vup_k, vup_fn, ne_eq, not_true_eq_false, not_false_eq_true, and_true, true_and, and_self, and_false, false_and, or_true, true_or, or_self, or_false, false_or, xlt_t, xlt_f, xle_t, xle_f, xeq_t, xeq_f, xand_f, xor_t]
    | succ n ih =>
      intro b f b0 hb hf he
      have e220 := m220 (d := d) hi (s := V 455 k) (by omega) (w := w) (by omega) b0 m3 (sl := 0) (by omega) m7 (by omega) r2.2 h0 hmt mk.2.2.2.2.1
      rw [← hw] at e220
      have hstep : (∃ i, (0 ≤ i ∧ i < b + 1) ∧ oKi V J ((V 455 k * 12 + V 454 k) * 40 + i) (233 + 5 * k) i = 0) ↔ (∃ i, (0 ≤ i ∧ i < b) ∧ oKi V J ((V 455 k * 12 + V 454 k) * 40 + i) (233 + 5 * k) i = 0) ∨ oKi V J ((V 455 k * 12 + V 454 k) * 40 + b) (233 + 5 * k) b = 0 := by
        constructor
        · rintro ⟨i, i1, i2⟩
          by_cases e : i = b
          · rw [e] at i2
            exact Or.inr i2
          · exact Or.inl ⟨i, by omega, i2⟩
        · rintro (⟨i, i1, i2⟩ | i2)
          · exact ⟨i, by omega, i2⟩
          · exact ⟨b, by omega, i2⟩
      by_cases hf1 : f = 1
      · obtain ⟨y, y1, y2, y3⟩ := ih (b + 1) 1 (by omega) (by omega) (Or.inr rfl) (by rw [hstep]; exact ⟨fun _ => Or.inl (he.1 hf1), fun _ => rfl⟩)
        refine ⟨y, y1, y2, ?_⟩
        rw [hf1]
        clear ih he hstep y2 hf1
        rw [ze_228_11]
        simp (disch := first | omega | assumption | (simp (disch := omega) only [vup_fn, vup_o, vup_k, vup_at]; first | done | omega | assumption)) only [ze_228_46, ze_228_51, y3, Int.add_zero, ↓reduceIte, qw_id, zck_T, zck_t, zGor_v, zGor_n, zGor_e, zbs, vup_at, vup_vup, vup_self, vup_o, vup_k, vup_fn, ne_eq, not_true_eq_false, not_false_eq_true, and_true, true_and, and_self, and_false, false_and, or_true, true_or, or_self, or_false, false_or, xlt_t, xlt_f, xle_t, xle_f, xeq_t, xeq_f, xand_f, xor_t]
      · have hf0 : f = 0 := hf.resolve_right hf1
        have hno : ¬∃ i, (0 ≤ i ∧ i < b) ∧ oKi V J ((V 455 k * 12 + V 454 k) * 40 + i) (233 + 5 * k) i = 0 := fun w => hf1 (he.2 w)
        rcases oKi_01 V J ((V 455 k * 12 + V 454 k) * 40 + b) (233 + 5 * k) b with q | q
        · obtain ⟨y, y1, y2, y3⟩ := ih (b + 1) 1 (by omega) (by omega) (Or.inr rfl) (by rw [hstep]; exact ⟨fun _ => Or.inr q, fun _ => rfl⟩)
          refine ⟨y, y1, y2, ?_⟩
          rw [hf0]
          rw [q] at e220
          clear ih he hstep y2 hf1 hno
          rw [ze_228_11]
          simp (disch := first | omega | assumption | (simp (disch := omega) only [vup_fn, vup_o, vup_k, vup_at]; first | done | omega | assumption)) only [b454, b455, e220, ze_228_43, ze_228_46, ze_228_51, y3, Int.add_zero, ↓reduceIte, qw_id, zck_T, zck_t, zGor_v, zGor_n, zGor_e, zbs, vup_at, vup_vup, vup_self, vup_o, vup_k, vup_fn, ne_eq, not_true_eq_false, not_false_eq_true, and_true, true_and, and_self, and_false, false_and, or_true, true_or, or_self, or_false, false_or, xlt_t, xlt_f, xle_t, xle_f, xeq_t, xeq_f, xand_f, xor_t]
        · obtain ⟨y, y1, y2, y3⟩ := ih (b + 1) 0 (by omega) (by omega) (Or.inl rfl) (by rw [hstep]; exact ⟨fun w => absurd w (by decide), fun w => w.elim (fun w => absurd w hno) (fun w => by omega)⟩)
          refine ⟨y, y1, y2, ?_⟩
          rw [hf0]
          rw [q] at e220
          clear ih he hstep y2 hf1 hno
          rw [ze_228_11]
          simp (disch := first | omega | assumption | (simp (disch := omega) only [vup_fn, vup_o, vup_k, vup_at]; first | done | omega | assumption)) only [b454, b455, e220, ze_228_43, ze_228_46, ze_228_51, y3, Int.add_zero, ↓reduceIte, qw_id, zck_T, zck_t, zGor_v, zGor_n, zGor_e, zbs, vup_at, vup_vup, vup_self, vup_o, vup_k, vup_fn, ne_eq, not_true_eq_false, not_false_eq_true, and_true, true_and, and_self, and_false, false_and, or_true, true_or, or_self, or_false, false_or, xlt_t, xlt_f, xle_t, xle_f, xeq_t, xeq_f, xand_f, xor_t]
  obtain ⟨y, y1, y2, y3⟩ := hloop (V (233 + 5 * k) 2).toNat 0 0 (by omega) (by omega) (Or.inl rfl) ⟨fun w => absurd w (by decide), fun ⟨i, i1, _⟩ => by omega⟩
  refine ⟨y, W1, K1, y1, y2, hs1, ?_⟩
  simp (disch := first | omega | assumption | (simp (disch := omega) only [vup_fn, vup_o, vup_k, vup_at]; first | done | omega | assumption)) only [ze_228_0, ze_228_6, m1, y3, Int.add_zero, ↓reduceIte, qw_id, zck_T, zck_t, zGor_v, zGor_n, zGor_e, zbs, vup_at, vup_vup, vup_self, vup_o, vup_k, vup_fn, ne_eq, not_true_eq_false, not_false_eq_true, and_true, true_and, and_self, and_false, false_and, or_true, true_or, or_self, or_false, false_or, xlt_t, xlt_f, xle_t, xle_f, xeq_t, xeq_f, xand_f, xor_t]
theorem ml225u (hi : zInv N V J) (hp : 0 ≤ p ∧ p < 3) (h2 : ¬ oP2 V p) {C : zVt} {D : zJt} {t x2 : Int} {k5 : Int → Int64} (n : Nat) : ∀ (k : Nat) (W : zVt) (K : zJt), V 430 37 = k + n → (∀ j b, j < (k : Int) → oLe V p j → 0 ≤ b → b < V (233 + 5 * j.toNat) 2 → ¬ oKi V J ((V 455 j * 12 + V 454 j) * 40 + b) (233 + 5 * j.toNat) b = 0) → oSt V J W K C D t k5 → ∃ (x : Int) (W' : zVt) (K' : zJt), (x = 5 ∧ oP5 V J p ∨ x = 0 ∧ ¬ oP5 V J p) ∧ oSt V J W' K' C D t k5 ∧ zGo false 225 101 [.ref 430, .int (zi p), .int (zi x2), .int (zi 0), .int (zi k)] [] (zm W K d) = zI1 x W' K' d := by
  have h37 := hi.2.2.2.1
  induction n with
  | zero =>
    intro k W K hk hb hs
    have a37 : W 430 37 = V 430 37 := hs.1.2.1.1
    refine ⟨0, W, K, Or.inr ⟨rfl, fun ⟨j, b, j1, j2, j3⟩ => absurd j3 (hb j b (by have := j1.1; omega) j1 j2.1 j2.2)⟩, hs, ?_⟩
    clear hb
    rw [ze_225_101]
    simp (disch := first | omega | assumption | (simp (disch := omega) only [vup_fn, vup_o, vup_k, vup_at]; first | done | omega | assumption)) only [ze_225_156, Int.add_zero, ↓reduceIte, qw_id, zck_T, zck_t, zGor_v, zGor_n, zGor_e, zbs, vup_at, vup_vup, vup_self, vup_o, vup_k, vup_fn, ne_eq, not_true_eq_false, not_false_eq_true, and_true, true_and, and_self, and_false, false_and, or_true, true_or, or_self, or_false, false_or, xlt_t, xlt_f, xle_t, xle_f, xeq_t, xeq_f, xand_f, xor_t]
  | succ n ih =>
    intro k W K hk hb hs
    have hk1 : ((k : Nat) : Int) + 1 = ((k + 1 : Nat) : Int) := by omega
    have hkn : ((k : Nat) : Int).toNat = k := by omega
    obtain ⟨b5, mk, c3, c4, c2, c5, c1, hB, k40⟩ := iCp_mk hi (k := k) (by omega)
    have a37 : W 430 37 = V 430 37 := hs.1.2.1.1
    have a455 : W 455 k = V 455 k := by rw [hs.1.1 455 (by omega)]
    have a454 : W 454 = V 454 := hs.1.1 454 (by omega)
    have e190 := m190 (V := W) (J := K) (d := d) (c := k) (by omega) (by rw [a454]; exact c2)
    rw [a454] at e190
    by_cases hl : V 455 k ≠ -1 ∧ V 454 k / 4 = p
    · have hle : oLe V p k := ⟨⟨by omega, by omega⟩, hl⟩
      have z0 : V (233 + 5 * k) 0 = 0 := Classical.byContradiction (fun c => h2 ⟨k, hle, by rw [hkn]; exact c⟩)
      obtain ⟨y, W1, K1, y1, y2, hs1, y3⟩ := m228 (d := d) hi (k := k) (by omega) hl.1 z0 hs
      have b37 : W1 430 37 = V 430 37 := hs1.1.2.1.1
      have l1 := hl.1
      have l2 := hl.2
      by_cases hy : y = 1
      · refine ⟨5, W1, K1, Or.inl ⟨rfl, ?_⟩, hs1, ?_⟩
        · obtain ⟨b, b1, b2⟩ := y2.1 hy
          exact ⟨k, b, hle, by rw [hkn]; exact b1, by rw [hkn]; exact b2⟩
        · rw [hy] at y3
          clear ih hb y2
          have hfin : zGo false 225 101 [.ref 430, .int (zi p), .int (zi x2), .int (zi 5), .int (zi (k + 1 : Nat))] [] (zm W1 K1 d) = zI1 5 W1 K1 d := by
            rw [ze_225_101]
            by_cases q : V 430 37 ≤ ((k + 1 : Nat) : Int)
            · simp (disch := first | omega | assumption | (simp (disch := omega) only [vup_fn, vup_o, vup_k, vup_at]; first | done | omega | assumption)) only [ze_225_156, Int.add_zero, ↓reduceIte, qw_id, zck_T, zck_t, zGor_v, zGor_n, zGor_e, zbs, vup_at, vup_vup, vup_self, vup_o, vup_k, vup_fn, ne_eq, not_true_eq_false, not_false_eq_true, and_true, true_and, and_self, and_false, false_and, or_true, true_or, or_self, or_false, false_or, xlt_t, xlt_f, xle_t, xle_f, xeq_t, xeq_f, xand_f, xor_t]
            · simp (disch := first | omega | assumption | (simp (disch := omega) only [vup_fn, vup_o, vup_k, vup_at]; first | done | omega | assumption)) only [ze_225_156, Int.add_zero, ↓reduceIte, qw_id, zck_T, zck_t, zGor_v, zGor_n, zGor_e, zbs, vup_at, vup_vup, vup_self, vup_o, vup_k, vup_fn, ne_eq, not_true_eq_false, not_false_eq_true, and_true, true_and, and_self, and_false, false_and, or_true, true_or, or_self, or_false, false_or, xlt_t, xlt_f, xle_t, xle_f, xeq_t, xeq_f, xand_f, xor_t]
          rw [ze_225_101]
          simp (disch := first | omega | assumption | (simp (disch := omega) only [vup_fn, vup_o, vup_k, vup_at]; first | done | omega | assumption)) only [e190, ze_225_120, a455, y3, ze_225_141, ze_225_149, hk1, hfin, Int.add_zero, ↓reduceIte, qw_id, zck_T, zck_t, zGor_v, zGor_n, zGor_e, zbs, vup_at, vup_vup, vup_self, vup_o, vup_k, vup_fn, ne_eq, not_true_eq_false, not_false_eq_true, and_true, true_and, and_self, and_false, false_and, or_true, true_or, or_self, or_false, false_or, xlt_t, xlt_f, xle_t, xle_f, xeq_t, xeq_f, xand_f, xor_t]
      · have hy0 : y = 0 := y1.resolve_right hy
        obtain ⟨x, W', K', x1, x2', x3⟩ := ih (k + 1) W1 K1 (by omega) (fun j b j1 j2 b0 b1 => by
          by_cases e : j = k
          · rw [e, hkn] at b1
            rw [e, hkn]
            exact fun q => hy (y2.2 ⟨b, ⟨b0, b1⟩, q⟩)
          · exact hb j b (by omega) j2 b0 b1) hs1
        refine ⟨x, W', K', x1, x2', ?_⟩
        rw [hy0] at y3
        clear ih hb y2 x1
        rw [ze_225_101]
        simp (disch := first | omega | assumption | (simp (disch := omega) only [vup_fn, vup_o, vup_k, vup_at]; first | done | omega | assumption)) only [e190, ze_225_120, a455, y3, ze_225_141, ze_225_148, ze_225_149, hk1, x3, Int.add_zero, ↓reduceIte, qw_id, zck_T, zck_t, zGor_v, zGor_n, zGor_e, zbs, vup_at, vup_vup, vup_self, vup_o, vup_k, vup_fn, ne_eq, not_true_eq_false, not_false_eq_true, and_true, true_and, and_self, and_false, false_and, or_true, true_or, or_self, or_false, false_or, xlt_t, xlt_f, xle_t, xle_f, xeq_t, xeq_f, xand_f, xor_t]
    · obtain ⟨x, W', K', x1, x2', x3⟩ := ih (k + 1) W K (by omega) (fun j b j1 j2 b0 b1 => by
        by_cases e : j = k
        · rw [e] at j2
          exact absurd j2.2 hl
        · exact hb j b (by omega) j2 b0 b1) hs
      refine ⟨x, W', K', x1, x2', ?_⟩
      clear ih hb x1
      rw [ze_225_101]
      by_cases l2 : V 454 k / 4 = p
      · have l1 : V 455 k = -1 := Decidable.byContradiction (fun w => hl ⟨w, l2⟩)
        simp (disch := first | omega | assumption | (simp (disch := omega) only [vup_fn, vup_o, vup_k, vup_at]; first | done | omega | assumption)) only [e190, ze_225_120, a455, ze_225_148, ze_225_149, hk1, x3, Int.add_zero, ↓reduceIte, qw_id, zck_T, zck_t, zGor_v, zGor_n, zGor_e, zbs, vup_at, vup_vup, vup_self, vup_o, vup_k, vup_fn, ne_eq, not_true_eq_false, not_false_eq_true, and_true, true_and, and_self, and_false, false_and, or_true, true_or, or_self, or_false, false_or, xlt_t, xlt_f, xle_t, xle_f, xeq_t, xeq_f, xand_f, xor_t]
      · simp (disch := first | omega | assumption | (simp (disch := omega) only [vup_fn, vup_o, vup_k, vup_at]; first | done | omega | assumption)) only [e190, ze_225_120, ze_225_148, ze_225_149, hk1, x3, Int.add_zero, ↓reduceIte, qw_id, zck_T, zck_t, zGor_v, zGor_n, zGor_e, zbs, vup_at, vup_vup, vup_self, vup_o, vup_k, vup_fn, ne_eq, not_true_eq_false, not_false_eq_true, and_true, true_and, and_self, and_false, false_and, or_true, true_or, or_self, or_false, false_or, xlt_t, xlt_f, xle_t, xle_f, xeq_t, xeq_f, xand_f, xor_t]
theorem m225 (hi : zInv N V J) (hp : 0 ≤ p ∧ p < 3) {C : zVt} {D : zJt} {t : Int} {k5 : Int → Int64} {W : zVt} {K : zJt} (hs : oSt V J W K C D t k5) : ∃ (x : Int) (W' : zVt) (K' : zJt), oVd V J p x ∧ oSt V J W' K' C D t k5 ∧ zGo false 225 0 [.ref 430, .int (zi p), .null, .null, .null] [] (zm W K d) = zI1 x W' K' d := by
  have h37 := hi.2.2.2.1
  obtain ⟨F, hF⟩ := oFs_ex hi hp
  have hend : ∀ (told : Int) (x2 : Int) (W1 : zVt) (K1 : zJt), told ≠ 0 → (0 ≤ told ∧ told ≤ 5) → oSt V J W1 K1 C D t k5 → zGo false 225 101 [.ref 430, .int (zi p), .int (zi x2), .int (zi told), .int (zi 0)] [] (zm W1 K1 d) = zI1 told W1 K1 d := fun told x2 W1 K1 n0 r hs1 => by
    have b37 : W1 430 37 = V 430 37 := hs1.1.2.1.1
    rw [ze_225_101]
    by_cases q : V 430 37 ≤ 0
    · simp (disch := first | omega | assumption | (simp (disch := omega) only [vup_fn, vup_o, vup_k, vup_at]; first | done | omega | assumption)) only [ze_225_156, Int.add_zero, ↓reduceIte, qw_id, zck_T, zck_t, zGor_v, zGor_n, zGor_e, zbs, vup_at, vup_vup, vup_self, vup_o, vup_k, vup_fn, ne_eq, not_true_eq_false, not_false_eq_true, and_true, true_and, and_self, and_false, false_and, or_true, true_or, or_self, or_false, false_or, xlt_t, xlt_f, xle_t, xle_f, xeq_t, xeq_f, xand_f, xor_t]
    · simp (disch := first | omega | assumption | (simp (disch := omega) only [vup_fn, vup_o, vup_k, vup_at]; first | done | omega | assumption)) only [ze_225_156, Int.add_zero, ↓reduceIte, qw_id, zck_T, zck_t, zGor_v, zGor_n, zGor_e, zbs, vup_at, vup_vup, vup_self, vup_o, vup_k, vup_fn, ne_eq, not_true_eq_false, not_false_eq_true, and_true, true_and, and_self, and_false, false_and, or_true, true_or, or_self, or_false, false_or, xlt_t, xlt_f, xle_t, xle_f, xeq_t, xeq_f, xand_f, xor_t]
  rcases ml225v (d := d) hi hp hF hs.1 4 0 (by omega) (by omega) (fun u u0 u1 => by omega) with ⟨a1, a2⟩ | ⟨a1, a2⟩
  · refine ⟨1, W, K, Or.inl ⟨rfl, a2⟩, hs, ?_⟩
    rw [ze_225_0]
    exact a1
  · obtain ⟨x, W1, K1, x01, x2, x3, x4⟩ := ml225w (d := d) hi hp (V 430 37).toNat 0 0 W K (by omega) (Or.inl rfl) ⟨fun w => absurd w (by decide), fun ⟨j, j1, _⟩ => by have q1 := j1.1; have q2 := j1.2.1; omega⟩ hs
    rw [show ((0 : Nat) : Int) = 0 from rfl] at x4
    have b37 : W1 430 37 = V 430 37 := x3.1.2.1.1
    by_cases hx : x = 1
    · refine ⟨2, W1, K1, Or.inr (Or.inl ⟨rfl, a2, x2.1 hx⟩), x3, ?_⟩
      have e := hend 2 1 W1 K1 (by decide) (by decide) x3
      rw [ze_225_0, a1, x4, hx]
      clear x2
      rw [ze_225_32]
      simp (disch := first | omega | assumption | (simp (disch := omega) only [vup_fn, vup_o, vup_k, vup_at]; first | done | omega | assumption)) only [ze_225_97, e, Int.add_zero, ↓reduceIte, qw_id, zck_T, zck_t, zGor_v, zGor_n, zGor_e, zbs, vup_at, vup_vup, vup_self, vup_o, vup_k, vup_fn, ne_eq, not_true_eq_false, not_false_eq_true, and_true, true_and, and_self, and_false, false_and, or_true, true_or, or_self, or_false, false_or, xlt_t, xlt_f, xle_t, xle_f, xeq_t, xeq_f, xand_f, xor_t]
    · have p2 : ¬ oP2 V p := fun w => hx (x2.2 w)
      have hx0 := x01.resolve_right hx
      obtain ⟨y, W2, K2, y1, y2, y3⟩ := m227 (d := d) hi hp hF a2 p2 x3
      have hst : zGo false 225 0 [.ref 430, .int (zi p), .null, .null, .null] [] (zm W K d) = zGo false 225 101 [.ref 430, .int (zi p), .int (zi 0), .int (zi y), .int (zi 0)] [] (zm W2 K2 d) := by
        rw [ze_225_0, a1, x4, hx0]
        clear x2 y1
        rw [ze_225_32]
        simp (disch := first | omega | assumption | (simp (disch := omega) only [vup_fn, vup_o, vup_k, vup_at]; first | done | omega | assumption)) only [y3, ze_225_97, Int.add_zero, ↓reduceIte, qw_id, zck_T, zck_t, zGor_v, zGor_n, zGor_e, zbs, vup_at, vup_vup, vup_self, vup_o, vup_k, vup_fn, ne_eq, not_true_eq_false, not_false_eq_true, and_true, true_and, and_self, and_false, false_and, or_true, true_or, or_self, or_false, false_or, xlt_t, xlt_f, xle_t, xle_f, xeq_t, xeq_f, xand_f, xor_t]
      rcases y1 with ⟨b1, b2⟩ | ⟨b1, b2, b3⟩ | ⟨b1, b2, b3⟩
      · refine ⟨3, W2, K2, Or.inr (Or.inr (Or.inl ⟨rfl, a2, p2, b2⟩)), y2, ?_⟩
        rw [hst, b1]
        exact hend 3 0 W2 K2 (by decide) (by decide) y2
      · refine ⟨4, W2, K2, Or.inr (Or.inr (Or.inr (Or.inl ⟨rfl, a2, p2, b2, b3⟩))), y2, ?_⟩
        rw [hst, b1]
        exact hend 4 0 W2 K2 (by decide) (by decide) y2
      · obtain ⟨z, W3, K3, z1, z2, z3⟩ := ml225u (d := d) hi hp p2 (x2 := 0) (V 430 37).toNat 0 W2 K2 (by omega) (fun j b j1 j2 => by have := j2.1; omega) y2
        rw [show ((0 : Nat) : Int) = 0 from rfl] at z3
        refine ⟨z, W3, K3, ?_, z2, ?_⟩
        · rcases z1 with ⟨c1, c2⟩ | ⟨c1, c2⟩
          · exact Or.inr (Or.inr (Or.inr (Or.inr (Or.inl ⟨c1, a2, p2, b2, b3, c2⟩))))
          · exact Or.inr (Or.inr (Or.inr (Or.inr (Or.inr ⟨c1, a2, p2, b2, b3, c2⟩))))
        · rw [hst, b1]
          exact z3
end
section
variable {V : zVt} {J : zJt} {N p : Int}
theorem x135 (h : zInv N V J) (hN : N < 600) (hp : -2147483648 ≤ p ∧ p < 2147483648) : zTw N V J 135 [.ref 0, .int (zi p)] 224 [.ref 430, .int (zi p)] [0] := by
  intro d
  have e124 := sp124 (V := V) (J := J) (d := d) hp
  by_cases h1 : 0 ≤ p ∧ p < 3
  · rw [if_pos h1] at e124
    left
    obtain ⟨x, x1, x2⟩ := sp136 (d := d) h hp
    refine ⟨x, V, J, ?_, zRn_of h hN ?_⟩
    · simp (disch := first | omega | assumption | (simp (disch := omega) only [vup_fn, vup_o, vup_k, vup_at]; first | done | omega | assumption)) only [ze_135_0, ze_135_5, ze_135_10, e124, x2, Int.add_zero, ↓reduceIte, qw_id, zck_T, zck_t, zGor_v, zGor_n, zGor_e, zbs, vup_at, vup_vup, vup_self, vup_o, vup_k, vup_fn, ne_eq, not_true_eq_false, not_false_eq_true, and_true, true_and, and_self, and_false, false_and, or_true, true_or, or_self, or_false, false_or, xlt_t, xlt_f, xle_t, xle_f, xeq_t, xeq_f, xand_f, xor_t]
    intro J2 d2 hj hi
    have e1 := sp147 (V := V) (J := J2) (d := d2) (a := p) (b := 3) hp (by omega)
    rw [if_pos h1] at e1
    have e2 := sm150 (V := V) (J := J2) (d := d2) (p := 1) (q := 1) (r := 1) (by omega) (by omega) (by omega)
    rw [if_pos (show gC 1 1 1 = 0 from rfl)] at e2
    have hs : oSt V J (vup V 430 60 (gC 1 1 1)) J2 V J2 0 (J2 474) := ⟨pM_t (pM_j hj) pM_60, fun o ho => ⟨vup_fn (by omega), rfl⟩, vup_at _ _ _ _, rfl⟩
    obtain ⟨y, W, K, y1, y2, y3⟩ := m225 (d := d2) h h1 hs
    have hxy := oVd_un x1 y1
    subst hxy
    refine ⟨x, W, K, ?_, y2.2.2.1, ?_, ⟨fun o ho => (y2.2.1 o (by omega)).1, fun o ho => (y2.2.1 o (by omega)).2⟩, y2.2.2.2, fun _ => rfl⟩
    · simp (disch := first | omega | assumption | (simp (disch := omega) only [vup_fn, vup_o, vup_k, vup_at]; first | done | omega | assumption)) only [ze_224_0, ze_224_6, ze_224_11, ze_224_19, ze_224_23, e1, e2, y3, Int.add_zero, ↓reduceIte, qw_id, zck_T, zck_t, zGor_v, zGor_n, zGor_e, zbs, vup_at, vup_vup, vup_self, vup_o, vup_k, vup_fn, ne_eq, not_true_eq_false, not_false_eq_true, and_true, true_and, and_self, and_false, false_and, or_true, true_or, or_self, or_false, false_or, xlt_t, xlt_f, xle_t, xle_f, xeq_t, xeq_f, xand_f, xor_t]
    · obtain ⟨a1, a2, a3, a4⟩ := y2.1
      exact ⟨a1, a2, a3.trans (hj 468 (by omega)).symm, a4.trans (hj 469 (by omega)).symm⟩
  · right
    rw [if_neg h1] at e124
    refine ⟨0, 0, V, J, rfl, ?_, zRn_of h hN ?_⟩
    · simp (disch := first | omega | assumption | (simp (disch := omega) only [vup_fn, vup_o, vup_k, vup_at]; first | done | omega | assumption)) only [ze_135_0, ze_135_5, ze_135_10, e124, Int.add_zero, ↓reduceIte, qw_id, zck_T, zck_t, zGor_v, zGor_n, zGor_e, zbs, vup_at, vup_vup, vup_self, vup_o, vup_k, vup_fn, ne_eq, not_true_eq_false, not_false_eq_true, and_true, true_and, and_self, and_false, false_and, or_true, true_or, or_self, or_false, false_or, xlt_t, xlt_f, xle_t, xle_f, xeq_t, xeq_f, xand_f, xor_t]
    intro J2 d2 hj hi
    have e1 := sp147 (V := V) (J := J2) (d := d2) (a := p) (b := 3) hp (by omega)
    rw [if_neg h1] at e1
    have e2 := sm150 (V := V) (J := J2) (d := d2) (p := 0) (q := 1) (r := 1) (by omega) (by omega) (by omega)
    rw [if_neg (show ¬ gC 0 1 1 = 0 by decide)] at e2
    refine ⟨0, vup V 430 60 (gC 0 1 1), J2, ?_, vup_at _ _ _ _, pM_60, pC_60, rfl, fun w => by omega⟩
    simp (disch := first | omega | assumption | (simp (disch := omega) only [vup_fn, vup_o, vup_k, vup_at]; first | done | omega | assumption)) only [ze_224_0, ze_224_6, ze_224_11, ze_224_19, ze_224_23, e1, e2, Int.add_zero, ↓reduceIte, qw_id, zck_T, zck_t, zGor_v, zGor_n, zGor_e, zbs, vup_at, vup_vup, vup_self, vup_o, vup_k, vup_fn, ne_eq, not_true_eq_false, not_false_eq_true, and_true, true_and, and_self, and_false, false_and, or_true, true_or, or_self, or_false, false_or, xlt_t, xlt_f, xle_t, xle_f, xeq_t, xeq_f, xand_f, xor_t]
end
