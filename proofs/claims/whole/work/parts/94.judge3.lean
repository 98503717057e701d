/-! part 94: judging in the reference -/
/-- the first copy of part w that is lent -/
def oFi (V : zVt) (w y : Int) : Prop := (y = -1 ∧ ∀ j, 0 ≤ j → j < V 430 37 → V 454 j = w → V 455 j = -1) ∨ ((0 ≤ y ∧ y < V 430 37) ∧ V 454 y = w ∧ V 455 y ≠ -1 ∧ ∀ j, 0 ≤ j → j < y → V 454 j = w → V 455 j = -1)
theorem oFi_un {V : zVt} {w y z : Int} (h : oFi V w y) (h2 : oFi V w z) : y = z := by
  rcases h with ⟨a1, a2⟩ | ⟨a1, a2, a3, a4⟩
  · rcases h2 with ⟨b1, b2⟩ | ⟨b1, b2, b3, b4⟩
    · omega
    · exact absurd (a2 z b1.1 b1.2 b2) b3
  · rcases h2 with ⟨b1, b2⟩ | ⟨b1, b2, b3, b4⟩
    · exact absurd (b2 y a1.1 a1.2 a2) a3
    · by_cases c : y < z
      · exact absurd (b4 y a1.1 c a2) a3
      · by_cases c2 : z < y
        · exact absurd (a4 z b1.1 c2 b2) b3
        · omega
section
variable {V : zVt} {J : zJt} {N p : Int} {d : Nat → Nat → UInt64}
section
variable {W : zVt} {K : zJt}
theorem mMus2 (ht : iTxt V) (hc : iCor V) {M w : Nat} {H : Int → Int} (hw : w < 12) (h : iMs V J M w H) (hm : pM V W J K) {s e : Int} (hs : 0 ≤ s ∧ s < 5) (he : 0 ≤ e ∧ e < 52) (hH : ∀ c, 0 ≤ c → c < 200 → V 456 (200 * e + c) = H c) :
    ∃ W' K', zGo false 153 0 [.ref 430, .int (zi s), .int (zi w), .int (zi e)] [] (zm W K d) = zI1 (V M 0) W' K' d ∧ mFm s W K W' K' ∧ rMus V J M W' K' s := by
  obtain ⟨n, b, F, A, fa, hx, hg, m1, m2, m3, m4, m5⟩ := h
  obtain ⟨c1, c2, c3, c4, c5⟩ := hc
  rw [c3, c4, c5, c2] at hg m1 m2 m3 m4 m5
  have w431 := hm.1 431 (by omega)
  have w432 := hm.1 432 (by omega)
  have w456 := hm.1 456 (by omega)
  have w457 := hm.1 457 (by omega)
  have w458 := hm.1 458 (by omega)
  have w459 := hm.1 459 (by omega)
  have ht1 := ht.1
  have hx1 := hx
  have hg1 := hg
  unfold yTt at hx1 hg1
  rw [← w431, ← w432] at ht1 hx1
  rw [← w431, ← w432, ← w457, ← w458, ← w459] at hg1
  obtain ⟨V', J', q1, q2, q3, q4, q5, q6, q7, q8⟩ := sm153 (V := W) (J := K) (d := d) ht1 (w := w) (s := s) (e := e) (cnt := V 430 42) (by omega) hs (Or.inr ⟨he, fun c c0 c1 => by rw [w456]; exact hH c c0 c1⟩) hm.2.1.2.1 hx1 hg1
  rw [w431, w432, w457, w458, w459] at q1 q3 q4 q6
  rw [w431, w432] at q5
  have htk := zt_ok ht.1 (w := (w : Int)) (by omega)
  refine ⟨V', J', by rw [m1]; exact q1, q2, by rw [m1]; exact q3, by rw [m3]; exact q4, ?_, ?_⟩
  · intro w0
    rw [m1] at w0
    rw [m4]
    have hF : F = 0 := by
      by_cases hF : F = 0
      · exact hF
      · exact absurd ((if_pos hF).symm.trans w0) hF
    rw [q5 hF]
    exact (if_neg (fun w' => w' hF)).symm
  · refine ⟨yAll (aP (yTt V w) (V 432 w) n H (V 457) (V 458) (V 459) (V 430 42)) 4, ?_, ?_⟩
    · rw [m3]
      intro j j0 j1
      by_cases hF : F = 0
      · have hP := aP_ok htk hx hF (hg hF)
        generalize aP (yTt V w) (V 432 w) n H (V 457) (V 458) (V 459) (V 430 42) = P at *
        by_cases w7 : yAll P 0 7 = 0
        · have eN : sN P F = yAll P 0 3 := if_neg (by omega)
          rw [eN] at j1
          exact (yAll_cnt hP w7).2.2.2.2.2.1 j j0 j1
        · have eN : sN P F = 0 := if_pos (Or.inr w7)
          omega
      · have eN : sN (aP (yTt V w) (V 432 w) n H (V 457) (V 458) (V 459) (V 430 42)) F = 0 := if_pos (Or.inl hF)
        omega
    · rw [m3]
      intro b' b0 b1
      exact ⟨m5 b' b0 b1, q6 b' b0 b1⟩
theorem m198v (hi : zInv N V J) (hm : pM V W J K) {k : Nat} (hk : (k : Int) < V 430 37) {s : Int} (hs : 0 ≤ s ∧ s < 5) : ∃ W' K', zGo false 198 0 [.ref 430, .int (zi s), .int (zi k)] [] (zm W K d) = zI1 (V (233 + 5 * k) 0) W' K' d ∧ mFm s W K W' K' ∧ pM V W' J K' ∧ (∀ o : Nat, o < 430 → W' o = W o ∧ K' o = K o) ∧ K' 474 = K 474 ∧ W' 430 60 = W 430 60 ∧ rMus V J (233 + 5 * k) W' K' s := by
  have h37 := hi.2.2.2.1
  have hmk := (hi.2.2.2.2.1 k (by omega)).1
  obtain ⟨hms, c2, _⟩ := iCp_ms hi (c := k) ⟨by omega, hk⟩
  rw [Int.toNat_natCast] at hms
  obtain ⟨W', K', q1, q2, q3⟩ := mMus2 (d := d) (w := (V 454 k).toNat) (e := k) hi.1 hi.2.1 (by omega) hms hm hs (by omega) (fun x x0 x1 => by rw [(hmk.1 x x0 x1).1, show 231 + 5 * k + 1 = 232 + 5 * k by omega])
  rw [show (((V 454 k).toNat : Nat) : Int) = V 454 k by omega] at q1
  have a454 : W 454 k = V 454 k := by rw [hm.1 454 (by omega)]
  refine ⟨W', K', ?_, q2, pM_t hm (mFm_pM q2), fun o ho => ⟨q2.1 o (by omega), q2.2.2.2.2.1 o (by omega) (by omega)⟩, mN5 q2, q2.2.1 60 (by omega), q3⟩
  simp (disch := first | omega | assumption | (simp (disch := omega) only [vup_fn, vup_o, vup_k, vup_at]; first | done | omega | assumption)) only [ze_198_0, ze_198_12, a454, q1, Int.add_zero, ↓reduceIte, qw_id, zck_T, zck_t, zGor_v, zGor_n, zGor_e, zbs, vup_at, vup_vup, vup_self, vup_o, vup_k, vup_fn, ne_eq, not_true_eq_false, not_false_eq_true, and_true, true_and, and_self, and_false, false_and, or_true, true_or, or_self, or_false, false_or, xlt_t, xlt_f, xle_t, xle_f, xeq_t, xeq_f, xand_f, xor_t]
theorem ml226 (hi : zInv N V J) (hm : pM V W J K) {w : Int} (hw : 0 ≤ w ∧ w < 12) (n : Nat) : ∀ k x : Int, k + 1 = n → k < V 430 37 → ((x = -1 ∧ ∀ j, k < j → j < V 430 37 → V 454 j = w → V 455 j = -1) ∨ ((k < x ∧ x < V 430 37) ∧ V 454 x = w ∧ V 455 x ≠ -1 ∧ ∀ j, k < j → j < x → V 454 j = w → V 455 j = -1)) → ∃ y, oFi V w y ∧ zGo false 226 9 [.ref 430, .int (zi w), .int (zi x), .int (zi k)] [] (zm W K d) = zI1 y W K d := by
  have h37 := hi.2.2.2.1
  induction n with
  | zero =>
    intro k x hk hk2 hx
    obtain rfl : k = -1 := by omega
    refine ⟨x, ?_, ?_⟩
    · rcases hx with ⟨a1, a2⟩ | ⟨a1, a2, a3, a4⟩
      · exact Or.inl ⟨a1, fun j j0 j1 => a2 j (by omega) j1⟩
      · exact Or.inr ⟨by omega, a2, a3, fun j j0 j1 => a4 j (by omega) j1⟩
    · rw [ze_226_9]
      simp (disch := first | omega | assumption | (simp (disch := omega) only [vup_fn, vup_o, vup_k, vup_at]; first | done | omega | assumption)) only [Int.add_zero, ↓reduceIte, qw_id, zck_T, zck_t, zGor_v, zGor_n, zGor_e, zbs, vup_at, vup_vup, vup_self, vup_o, vup_k, vup_fn, ne_eq, not_true_eq_false, not_false_eq_true, and_true, true_and, and_self, and_false, false_and, or_true, true_or, or_self, or_false, false_or, xlt_t, xlt_f, xle_t, xle_f, xeq_t, xeq_f, xand_f, xor_t]
  | succ n ih =>
    intro k x hk hk2 hx
    have k0 : 0 ≤ k := by omega
    have r := iCp_rg hi k k0 hk2
    have a454 : W 454 k = V 454 k := by rw [hm.1 454 (by omega)]
    have a455 : W 455 k = V 455 k := by rw [hm.1 455 (by omega)]
    have hkm : k + -1 = k - 1 := by omega
    by_cases q : V 454 k = w ∧ V 455 k ≠ -1
    · obtain ⟨y, y1, y2⟩ := ih (k - 1) k (by omega) (by omega) (Or.inr ⟨by omega, q.1, q.2, fun j j0 j1 => by omega⟩)
      refine ⟨y, y1, ?_⟩
      have q1 := q.1
      have q2 := q.2
      clear ih hx
      rw [ze_226_9]
      simp (disch := first | omega | assumption | (simp (disch := omega) only [vup_fn, vup_o, vup_k, vup_at]; first | done | omega | assumption)) only [a454, a455, ze_226_37, ze_226_38, hkm, y2, Int.add_zero, ↓reduceIte, qw_id, zck_T, zck_t, zGor_v, zGor_n, zGor_e, zbs, vup_at, vup_vup, vup_self, vup_o, vup_k, vup_fn, ne_eq, not_true_eq_false, not_false_eq_true, and_true, true_and, and_self, and_false, false_and, or_true, true_or, or_self, or_false, false_or, xlt_t, xlt_f, xle_t, xle_f, xeq_t, xeq_f, xand_f, xor_t]
    · obtain ⟨y, y1, y2⟩ := ih (k - 1) x (by omega) (by omega) (by
        have q3 : V 454 k = w → V 455 k = -1 := fun e => Decidable.byContradiction (fun g => q ⟨e, g⟩)
        rcases hx with ⟨a1, a2⟩ | ⟨a1, a2, a3, a4⟩
        · refine Or.inl ⟨a1, fun j j0 j1 j2 => ?_⟩
          by_cases e : j = k
          · rw [e] at j2 ⊢
            exact q3 j2
          · exact a2 j (by omega) j1 j2
        · refine Or.inr ⟨by omega, a2, a3, fun j j0 j1 j2 => ?_⟩
          by_cases e : j = k
          · rw [e] at j2 ⊢
            exact q3 j2
          · exact a4 j (by omega) j1 j2)
      refine ⟨y, y1, ?_⟩
      clear ih hx
      rw [ze_226_9]
      by_cases e1 : V 454 k = w
      · have e2 : V 455 k = -1 := Decidable.byContradiction (fun g => q ⟨e1, g⟩)
        simp (disch := first | omega | assumption | (simp (disch := omega) only [vup_fn, vup_o, vup_k, vup_at]; first | done | omega | assumption)) only [a454, a455, ze_226_37, ze_226_38, hkm, y2, Int.add_zero, ↓reduceIte, qw_id, zck_T, zck_t, zGor_v, zGor_n, zGor_e, zbs, vup_at, vup_vup, vup_self, vup_o, vup_k, vup_fn, ne_eq, not_true_eq_false, not_false_eq_true, and_true, true_and, and_self, and_false, false_and, or_true, true_or, or_self, or_false, false_or, xlt_t, xlt_f, xle_t, xle_f, xeq_t, xeq_f, xand_f, xor_t]
      · simp (disch := first | omega | assumption | (simp (disch := omega) only [vup_fn, vup_o, vup_k, vup_at]; first | done | omega | assumption)) only [a454, a455, ze_226_37, ze_226_38, hkm, y2, Int.add_zero, ↓reduceIte, qw_id, zck_T, zck_t, zGor_v, zGor_n, zGor_e, zbs, vup_at, vup_vup, vup_self, vup_o, vup_k, vup_fn, ne_eq, not_true_eq_false, not_false_eq_true, and_true, true_and, and_self, and_false, false_and, or_true, true_or, or_self, or_false, false_or, xlt_t, xlt_f, xle_t, xle_f, xeq_t, xeq_f, xand_f, xor_t]
theorem m226 (hi : zInv N V J) (hm : pM V W J K) {w : Int} (hw : 0 ≤ w ∧ w < 12) : ∃ y, oFi V w y ∧ zGo false 226 0 [.ref 430, .int (zi w), .null, .null] [] (zm W K d) = zI1 y W K d := by
  have h37 := hi.2.2.2.1
  obtain ⟨y, y1, y2⟩ := ml226 (d := d) hi hm hw (V 430 37).toNat (V 430 37 - 1) (-1) (by omega) (by omega) (Or.inl ⟨rfl, fun j j0 j1 => by omega⟩)
  refine ⟨y, y1, ?_⟩
  rw [ze_226_0, hm.2.1.1]
  exact y2
end
/-- the firsts of a piece -/
def oFs (V : zVt) (p : Int) (F : Int → Int) : Prop := ∀ v, 0 ≤ v → v < 4 → oFi V (4 * p + v) (F v)
theorem oFs_ex (hi : zInv N V J) (hp : 0 ≤ p ∧ p < 3) : ∃ F, oFs V p F := by
  have hex : ∀ v : Int, ∃ y, (0 ≤ v ∧ v < 4) → oFi V (4 * p + v) y := fun v => by
    by_cases q : 0 ≤ v ∧ v < 4
    · obtain ⟨y, y1, _⟩ := m226 (d := fun _ _ => 0) hi pM_r (w := 4 * p + v) (by omega)
      exact ⟨y, fun _ => y1⟩
    · exact ⟨0, fun w => absurd w q⟩
  obtain ⟨F, hF⟩ := Classical.axiomOfChoice hex
  exact ⟨F, fun v v0 v1 => hF v ⟨v0, v1⟩⟩
theorem oP1_F {F : Int → Int} (hF : oFs V p F) : oP1 V p ↔ ∀ v, 0 ≤ v → v < 4 → F v ≠ -1 := by
  constructor
  · intro h v v0 v1 e
    obtain ⟨j, j1, j2⟩ := h v v0 v1
    rcases hF v v0 v1 with ⟨a1, a2⟩ | ⟨a1, _⟩
    · exact j1.2.1 (a2 j j1.1.1 j1.1.2 (by have := j1.2.2; omega))
    · omega
  · intro h v v0 v1
    rcases hF v v0 v1 with ⟨a1, a2⟩ | ⟨a1, a2, a3, a4⟩
    · exact absurd a1 (h v v0 v1)
    · exact ⟨F v, ⟨a1, a3, by omega⟩, by omega⟩
/-- a first is lent -/
theorem oFs_le {F : Int → Int} (hF : oFs V p F) {v : Int} (hv : 0 ≤ v ∧ v < 4) (h : F v ≠ -1) : oLe V p (F v) ∧ V 454 (F v) = 4 * p + v ∧ ∀ j, oLe V p j → V 454 j = 4 * p + v → F v ≤ j := by
  rcases hF v hv.1 hv.2 with ⟨a1, a2⟩ | ⟨a1, a2, a3, a4⟩
  · exact absurd a1 h
  · refine ⟨⟨a1, a3, by omega⟩, a2, fun j j1 j2 => ?_⟩
    by_cases c : j < F v
    · exact absurd (a4 j j1.1.1 c j2) j1.2.1
    · omega
/-- the reference's UNLIKE and UNEVEN -/
def oR3 (V : zVt) (J : zJt) (p : Int) (F : Int → Int) : Prop := ∃ j, oLe V p j ∧ ¬ oAk V J (233 + 5 * j.toNat) (233 + 5 * (F (V 454 j % 4)).toNat)
def oR4 (V : zVt) (F : Int → Int) : Prop := ∃ v, (0 ≤ v ∧ v < 4) ∧ ¬ oEv V (233 + 5 * (F v).toNat) (233 + 5 * (F 0).toNat)
theorem oR3_P3 {F : Int → Int} (hF : oFs V p F) (h1 : oP1 V p) : oR3 V J p F ↔ oP3 V J p := by
  have hf := (oP1_F hF).1 h1
  constructor
  · rintro ⟨j, j1, j2⟩
    have hv : 0 ≤ V 454 j % 4 ∧ V 454 j % 4 < 4 := by omega
    obtain ⟨k1, k2, k3⟩ := oFs_le hF hv (hf _ hv.1 hv.2)
    have e : V 454 j = 4 * p + V 454 j % 4 := by have := j1.2.2; omega
    have h3 := k3 j j1 e
    refine ⟨j, F (V 454 j % 4), ?_, j1, k1, by rw [k2]; exact e, j2⟩
    by_cases c : F (V 454 j % 4) = j
    · rw [c] at j2
      exact absurd ⟨rfl, fun b _ _ => ⟨rfl, rfl⟩⟩ j2
    · omega
  · rintro ⟨j, o, _, j1, o1, e, j2⟩
    by_cases c : oAk V J (233 + 5 * j.toNat) (233 + 5 * (F (V 454 j % 4)).toNat)
    · refine ⟨o, o1, fun c2 => j2 ?_⟩
      rw [← e] at c2
      exact oAk_t c (oAk_s c2)
    · exact ⟨j, j1, c⟩
theorem oR4_P4 (hi : zInv N V J) {F : Int → Int} (hF : oFs V p F) (h1 : oP1 V p) (h2 : ¬ oP2 V p) (h3 : ¬ oP3 V J p) : oR4 V F ↔ oP4 V p := by
  have hf := (oP1_F hF).1 h1
  have hr3 : ∀ j, oLe V p j → oAk V J (233 + 5 * j.toNat) (233 + 5 * (F (V 454 j % 4)).toNat) := fun j j1 => Classical.byContradiction (fun c => h3 ((oR3_P3 hF h1).1 ⟨j, j1, c⟩))
  have hz : ∀ j, oLe V p j → V (233 + 5 * j.toNat) 0 = 0 := fun j j1 => Classical.byContradiction (fun c => h2 ⟨j, j1, c⟩)
  have hmt : ∀ j, oLe V p j → V (233 + 5 * j.toNat) 3 = tN (yTt V (V 454 j).toNat) 2 := fun j j1 => iMs_mt (iCp_ms hi j1.1).1 (hz j j1)
  have hE : ∀ j, oLe V p j → oEv V (233 + 5 * j.toNat) (233 + 5 * (F (V 454 j % 4)).toNat) := fun j j1 => by
    have hv : 0 ≤ V 454 j % 4 ∧ V 454 j % 4 < 4 := by omega
    obtain ⟨k1, k2, k3⟩ := oFs_le hF hv (hf _ hv.1 hv.2)
    refine ⟨(hr3 j j1).1, Or.inr ?_⟩
    rw [hmt j j1, hmt _ k1, k2, show V 454 j = 4 * p + V 454 j % 4 by have := j1.2.2; omega]
    rw [show (4 * p + V 454 j % 4) % 4 = V 454 j % 4 by omega]
  constructor
  · rintro ⟨v, hv, c⟩
    obtain ⟨k1, k2, k3⟩ := oFs_le hF hv (hf _ hv.1 hv.2)
    obtain ⟨l1, l2, l3⟩ := oFs_le hF (v := 0) (by decide) (hf 0 (by decide) (by decide))
    by_cases q : F v < F 0
    · exact ⟨F 0, F v, q, l1, k1, fun w => c (oEv_s w)⟩
    · by_cases q2 : F 0 < F v
      · exact ⟨F v, F 0, q2, k1, l1, c⟩
      · have e : F v = F 0 := by omega
        rw [e] at c
        exact absurd ⟨rfl, Or.inr rfl⟩ c
  · rintro ⟨j, o, _, j1, o1, c⟩
    by_cases q : oEv V (233 + 5 * (F (V 454 j % 4)).toNat) (233 + 5 * (F 0).toNat)
    · refine ⟨V 454 o % 4, by omega, fun q2 => c ?_⟩
      exact oEv_t (hE j j1) (oEv_t q (oEv_s (oEv_t (hE o o1) q2)))
    · exact ⟨V 454 j % 4, by omega, q⟩
/-- what stays of a state of the reference -/
abbrev oSt (V : zVt) (J : zJt) (W : zVt) (K : zJt) (C : zVt) (D : zJt) (t : Int) (k5 : Int → Int64) : Prop := pM V W J K ∧ (∀ o : Nat, o < 430 → W o = C o ∧ K o = D o) ∧ W 430 60 = t ∧ K 474 = k5
theorem ml225v (hi : zInv N V J) (hp : 0 ≤ p ∧ p < 3) {F : Int → Int} (hF : oFs V p F) {W : zVt} {K : zJt} (hm : pM V W J K) (n : Nat) : ∀ v : Int, 0 ≤ v → 4 = v + n → (∀ u, 0 ≤ u → u < v → F u ≠ -1) → (zGo false 225 2 [.ref 430, .int (zi p), .int (zi v), .null, .null] [] (zm W K d) = zI1 1 W K d ∧ ¬ oP1 V p) ∨ (zGo false 225 2 [.ref 430, .int (zi p), .int (zi v), .null, .null] [] (zm W K d) = zGo false 225 32 [.ref 430, .int (zi p), .int (zi 0), .int (zi 0), .null] [] (zm W K d) ∧ oP1 V p) := by
  have h37 := hi.2.2.2.1
  induction n with
  | zero =>
    intro v v0 hv hu
    obtain rfl : v = 4 := by omega
    right
    refine ⟨?_, (oP1_F hF).2 hu⟩
    rw [ze_225_2]
    simp (disch := first | omega | assumption | (simp (disch := omega) only [vup_fn, vup_o, vup_k, vup_at]; first | done | omega | assumption)) only [Int.add_zero, ↓reduceIte, qw_id, zck_T, zck_t, zGor_v, zGor_n, zGor_e, zbs, vup_at, vup_vup, vup_self, vup_o, vup_k, vup_fn, ne_eq, not_true_eq_false, not_false_eq_true, and_true, true_and, and_self, and_false, false_and, or_true, true_or, or_self, or_false, false_or, xlt_t, xlt_f, xle_t, xle_f, xeq_t, xeq_f, xand_f, xor_t]
  | succ n ih =>
    intro v v0 hv hu
    obtain ⟨y, y1, y2⟩ := m226 (d := d) hi hm (w := 4 * p + v) (by omega)
    have e := oFi_un y1 (hF v v0 (by omega))
    subst e
    have yr : -1 ≤ F v ∧ F v < 40 := by
      rcases y1 with ⟨a1, _⟩ | ⟨a1, _⟩ <;> omega
    by_cases q : F v = -1
    · left
      refine ⟨?_, fun w => (oP1_F hF).1 w v v0 (by omega) q⟩
      rw [q] at y2
      rw [ze_225_2]
      simp (disch := first | omega | assumption | (simp (disch := omega) only [vup_fn, vup_o, vup_k, vup_at]; first | done | omega | assumption)) only [y2, ze_225_16, Int.add_zero, ↓reduceIte, qw_id, zck_T, zck_t, zGor_v, zGor_n, zGor_e, zbs, vup_at, vup_vup, vup_self, vup_o, vup_k, vup_fn, ne_eq, not_true_eq_false, not_false_eq_true, and_true, true_and, and_self, and_false, false_and, or_true, true_or, or_self, or_false, false_or, xlt_t, xlt_f, xle_t, xle_f, xeq_t, xeq_f, xand_f, xor_t]
    · have i := ih (v + 1) (by omega) (by omega) (fun u u0 u1 => by
        by_cases e : u = v
        · rw [e]; exact q
        · exact hu u u0 (by omega))
      have hst : zGo false 225 2 [.ref 430, .int (zi p), .int (zi v), .null, .null] [] (zm W K d) = zGo false 225 2 [.ref 430, .int (zi p), .int (zi (v + 1)), .null, .null] [] (zm W K d) := by
        rw [ze_225_2]
        simp (disch := first | omega | assumption | (simp (disch := omega) only [vup_fn, vup_o, vup_k, vup_at]; first | done | omega | assumption)) only [y2, ze_225_16, Int.add_zero, ↓reduceIte, qw_id, zck_T, zck_t, zGor_v, zGor_n, zGor_e, zbs, vup_at, vup_vup, vup_self, vup_o, vup_k, vup_fn, ne_eq, not_true_eq_false, not_false_eq_true, and_true, true_and, and_self, and_false, false_and, or_true, true_or, or_self, or_false, false_or, xlt_t, xlt_f, xle_t, xle_f, xeq_t, xeq_f, xand_f, xor_t]
      rw [hst]
      exact i
theorem ml225w (hi : zInv N V J) (hp : 0 ≤ p ∧ p < 3) {C : zVt} {D : zJt} {t : Int} {k5 : Int → Int64} (n : Nat) : ∀ (k : Nat) (x : Int) (W : zVt) (K : zJt), V 430 37 = k + n → (x = 0 ∨ x = 1) → (x = 1 ↔ ∃ j : Int, (j < k ∧ oLe V p j) ∧ V (233 + 5 * j.toNat) 0 ≠ 0) → oSt V J W K C D t k5 → ∃ (x' : Int) (W' : zVt) (K' : zJt), (x' = 0 ∨ x' = 1) ∧ (x' = 1 ↔ oP2 V p) ∧ oSt V J W' K' C D t k5 ∧ zGo false 225 32 [.ref 430, .int (zi p), .int (zi x), .int (zi k), .null] [] (zm W K d) = zGo false 225 32 [.ref 430, .int (zi p), .int (zi x'), .int (zi (V 430 37)), .null] [] (zm W' K' d) := by
  have h37 := hi.2.2.2.1
  induction n with
  | zero =>
    intro k x W K hk hx hb hs
    refine ⟨x, W, K, hx, ?_, hs, by rw [hk]; simp only [Int.natCast_zero, Int.add_zero]⟩
    rw [hb]
    exact ⟨fun ⟨j, j1, j2⟩ => ⟨j, j1.2, j2⟩, fun ⟨j, j1, j2⟩ => ⟨j, ⟨by have := j1.1; omega, j1⟩, j2⟩⟩
  | succ n ih =>
    intro k x W K hk hx hb hs
    have hk1 : ((k : Nat) : Int) + 1 = ((k + 1 : Nat) : Int) := by omega
    have hkn : ((k : Nat) : Int).toNat = k := by omega
    obtain ⟨b5, mk, c3, c4, c2, c5, c1, hB, k40⟩ := iCp_mk hi (k := k) (by omega)
    have a37 : W 430 37 = V 430 37 := hs.1.2.1.1
    have a455 : W 455 k = V 455 k := by rw [hs.1.1 455 (by omega)]
    have a454 : W 454 = V 454 := hs.1.1 454 (by omega)
    have e190 := m190 (V := W) (J := K) (d := d) (c := k) (by omega) (by rw [a454]; exact c2)
    rw [a454] at e190
    have hstep : ∀ Q : Prop, ((V 455 k ≠ -1 ∧ V 454 k / 4 = p) ∧ V (233 + 5 * k) 0 ≠ 0 ↔ Q) → ((∃ j : Int, (j < ((k + 1 : Nat) : Int) ∧ oLe V p j) ∧ V (233 + 5 * j.toNat) 0 ≠ 0) ↔ (∃ j : Int, (j < (k : Int) ∧ oLe V p j) ∧ V (233 + 5 * j.toNat) 0 ≠ 0) ∨ Q) := fun Q hQ => by
      rw [← hQ]
      constructor
      · rintro ⟨j, j1, j2⟩
        by_cases e : j = k
        · rw [e] at j1 j2
          rw [hkn] at j2
          exact Or.inr ⟨j1.2.2, j2⟩
        · exact Or.inl ⟨j, ⟨by have := j1.1; omega, j1.2⟩, j2⟩
      · rintro (⟨j, j1, j2⟩ | ⟨q1, q2⟩)
        · exact ⟨j, ⟨by have := j1.1; omega, j1.2⟩, j2⟩
        · exact ⟨k, ⟨by omega, ⟨by omega, by omega⟩, q1⟩, by rw [hkn]; exact q2⟩
    by_cases hx1 : x = 1
    · have hb2 : (1 : Int) = 1 ↔ ∃ j : Int, (j < ((k + 1 : Nat) : Int) ∧ oLe V p j) ∧ V (233 + 5 * j.toNat) 0 ≠ 0 := by
        rw [hstep _ Iff.rfl]
        exact ⟨fun _ => Or.inl (hb.1 hx1), fun _ => rfl⟩
      obtain ⟨x', W', K', g1, g2, g3, g4⟩ := ih (k + 1) 1 W K (by omega) (Or.inr rfl) hb2 hs
      refine ⟨x', W', K', g1, g2, g3, ?_⟩
      rw [hx1]
      clear ih hb hb2 hstep g2 hx1
      rw [ze_225_32]
      simp (disch := first | omega | assumption | (simp (disch := omega) only [vup_fn, vup_o, vup_k, vup_at]; first | done | omega | assumption)) only [ze_225_72, ze_225_77, hk1, g4, Int.add_zero, ↓reduceIte, qw_id, zck_T, zck_t, zGor_v, zGor_n, zGor_e, zbs, vup_at, vup_vup, vup_self, vup_o, vup_k, vup_fn, ne_eq, not_true_eq_false, not_false_eq_true, and_true, true_and, and_self, and_false, false_and, or_true, true_or, or_self, or_false, false_or, xlt_t, xlt_f, xle_t, xle_f, xeq_t, xeq_f, xand_f, xor_t]
    · have hx0 : x = 0 := hx.resolve_right hx1
      have hno : ¬∃ j : Int, (j < (k : Int) ∧ oLe V p j) ∧ V (233 + 5 * j.toNat) 0 ≠ 0 := fun w => hx1 (hb.2 w)
      by_cases hl : V 455 k ≠ -1 ∧ V 454 k / 4 = p
      · obtain ⟨W1, K1, m1, m2, m3, m4, m5, m6, m7⟩ := m198v (d := d) hi hs.1 (k := k) (by omega) (s := 0) (by omega)
        have hs1 : oSt V J W1 K1 C D t k5 := ⟨m3, fun o ho => ⟨(m4 o ho).1.trans (hs.2.1 o ho).1, (m4 o ho).2.trans (hs.2.1 o ho).2⟩, m6.trans hs.2.2.1, m5.trans hs.2.2.2⟩
        have mk0 := mk.1
        by_cases hw : V (233 + 5 * k) 0 = 0
        · have hb2 : (0 : Int) = 1 ↔ ∃ j : Int, (j < ((k + 1 : Nat) : Int) ∧ oLe V p j) ∧ V (233 + 5 * j.toNat) 0 ≠ 0 := by
            rw [hstep _ Iff.rfl]
            exact ⟨fun w => absurd w (by decide), fun w => w.elim (fun w => absurd w hno) (fun w => absurd hw w.2)⟩
          obtain ⟨x', W', K', g1, g2, g3, g4⟩ := ih (k + 1) 0 W1 K1 (by omega) (Or.inl rfl) hb2 hs1
          refine ⟨x', W', K', g1, g2, g3, ?_⟩
          rw [hx0]
          rw [hw] at m1
          clear ih hb hb2 hstep g2 hx1 hno
          have l1 := hl.1
          have l2 := hl.2
          rw [ze_225_32]
          simp (disch := first | omega | assumption | (simp (disch := omega) only [vup_fn, vup_o, vup_k, vup_at]; first | done | omega | assumption)) only [e190, ze_225_49, a455, m1, ze_225_69, ze_225_76, ze_225_77, hk1, g4, Int.add_zero, ↓reduceIte, qw_id, zck_T, zck_t, zGor_v, zGor_n, zGor_e, zbs, vup_at, vup_vup, vup_self, vup_o, vup_k, vup_fn, ne_eq, not_true_eq_false, not_false_eq_true, and_true, true_and, and_self, and_false, false_and, or_true, true_or, or_self, or_false, false_or, xlt_t, xlt_f, xle_t, xle_f, xeq_t, xeq_f, xand_f, xor_t]
        · have hb2 : (1 : Int) = 1 ↔ ∃ j : Int, (j < ((k + 1 : Nat) : Int) ∧ oLe V p j) ∧ V (233 + 5 * j.toNat) 0 ≠ 0 := by
            rw [hstep _ Iff.rfl]
            exact ⟨fun _ => Or.inr ⟨hl, hw⟩, fun _ => rfl⟩
          obtain ⟨x', W', K', g1, g2, g3, g4⟩ := ih (k + 1) 1 W1 K1 (by omega) (Or.inr rfl) hb2 hs1
          refine ⟨x', W', K', g1, g2, g3, ?_⟩
          rw [hx0]
          clear ih hb hb2 hstep g2 hx1 hno
          have l1 := hl.1
          have l2 := hl.2
          rw [ze_225_32]
          simp (disch := first | omega | assumption | (simp (disch := omega) only [vup_fn, vup_o, vup_k, vup_at]; first | done | omega | assumption)) only [e190, ze_225_49, a455, m1, ze_225_69, ze_225_72, ze_225_77, hk1, g4, Int.add_zero, ↓reduceIte, qw_id, zck_T, zck_t, zGor_v, zGor_n, zGor_e, zbs, vup_at, vup_vup, vup_self, vup_o, vup_k, vup_fn, ne_eq, not_true_eq_false, not_false_eq_true, and_true, true_and, and_self, and_false, false_and, or_true, true_or, or_self, or_false, false_or, xlt_t, xlt_f, xle_t, xle_f, xeq_t, xeq_f, xand_f, xor_t]
      · have hb2 : (0 : Int) = 1 ↔ ∃ j : Int, (j < ((k + 1 : Nat) : Int) ∧ oLe V p j) ∧ V (233 + 5 * j.toNat) 0 ≠ 0 := by
          rw [hstep _ Iff.rfl]
          exact ⟨fun w => absurd w (by decide), fun w => w.elim (fun w => absurd w hno) (fun w => absurd w.1 hl)⟩
        obtain ⟨x', W', K', g1, g2, g3, g4⟩ := ih (k + 1) 0 W K (by omega) (Or.inl rfl) hb2 hs
        refine ⟨x', W', K', g1, g2, g3, ?_⟩
        rw [hx0]
        clear ih hb hb2 hstep g2 hx1 hno
        rw [ze_225_32]
        by_cases l2 : V 454 k / 4 = p
        · have l1 : V 455 k = -1 := Decidable.byContradiction (fun w => hl ⟨w, l2⟩)
          simp (disch := first | omega | assumption | (simp (disch := omega) only [vup_fn, vup_o, vup_k, vup_at]; first | done | omega | assumption)) only [e190, ze_225_49, a455, ze_225_76, ze_225_77, hk1, g4, Int.add_zero, ↓reduceIte, qw_id, zck_T, zck_t, zGor_v, zGor_n, zGor_e, zbs, vup_at, vup_vup, vup_self, vup_o, vup_k, vup_fn, ne_eq, not_true_eq_false, not_false_eq_true, and_true, true_and, and_self, and_false, false_and, or_true, true_or, or_self, or_false, false_or, xlt_t, xlt_f, xle_t, xle_f, xeq_t, xeq_f, xand_f, xor_t]
        · simp (disch := first | omega | assumption | (simp (disch := omega) only [vup_fn, vup_o, vup_k, vup_at]; first | done | omega | assumption)) only [e190, ze_225_49, ze_225_76, ze_225_77, hk1, g4, Int.add_zero, ↓reduceIte, qw_id, zck_T, zck_t, zGor_v, zGor_n, zGor_e, zbs, vup_at, vup_vup, vup_self, vup_o, vup_k, vup_fn, ne_eq, not_true_eq_false, not_false_eq_true, and_true, true_and, and_self, and_false, false_and, or_true, true_or, or_self, or_false, false_or, xlt_t, xlt_f, xle_t, xle_f, xeq_t, xeq_f, xand_f, xor_t]
end
