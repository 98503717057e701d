/-! part 55: the class's singing: tokens -/
/-- the class's tokens, as P tells them -/
def cTs (V P : zVt) : Prop := V 13 0 = P 8 0 ∧ V 13 1 = P 8 3 ∧ V 12 8 = P 8 2 ∧ ∀ k, 0 ≤ k → k < P 8 0 → V 14 k = P 0 k ∧ V 15 k = P 7 k ∧ (P 0 k = 7 ∨ P 0 k = 8 → V 16 k = P 1 k ∧ V 21 k = P 6 k) ∧ (P 0 k = 3 → V 22 k = P 2 k ∧ V 18 k = P 3 k ∧ V 20 k = P 5 k) ∧ (P 0 k = 3 ∨ P 0 k = 4 → V 19 k = P 4 k)
def cPl (P : zVt) (t : Int) : Int := if t = -1 then P 8 3 else P 7 t
def cSc (V : zVt) (J : zJt) (M : Nat) (S : zVt) : Prop :=
  V M 1 = -1 ∧ V 12 7 = S 0 0 ∧ V 12 6 = S 0 1 ∧ (∀ i, 0 ≤ i → i < S 0 1 → V 25 (i + 1) = S 1 i) ∧ V 12 4 = S 0 2 ∧ (∀ t, 0 ≤ t → t < S 0 2 → V 24 t = S 2 t) ∧ (∀ s, 0 ≤ s → s < 50 → V 23 s = S 3 s) ∧ V M 2 = S 0 3 ∧ V 12 9 = S 0 4 ∧ (S 0 4 ≠ -1 → V 12 10 = S 0 5 ∧ V 12 11 = S 0 6) ∧ ∀ b, 0 ≤ b → b < S 0 3 → ∀ r, 0 ≤ r → r < 8 → zby (J (M + 1) (2 * b)) r = S 4 (16 * b + r) ∧ zby (J (M + 1) (2 * b + 1)) r = S 4 (16 * b + r + 8)
def cSg (V : zVt) (J : zJt) (M : Nat) (P S : zVt) : Prop := cTs V P ∧ V M 0 = S 0 7 ∧ V M 3 = P 8 1 ∧ (S 0 7 ≠ 0 → V M 1 = cPl P (S 0 8) ∧ V M 2 = 0 ∧ V 12 7 = S 0 0) ∧ (S 0 7 = 0 → cSc V J M S)
theorem cTs_v {V W P : zVt} (h : cTs V P) (h8 : W 12 8 = V 12 8) (hf : ∀ o : Nat, 13 ≤ o → o ≤ 22 → W o = V o) : cTs W P := by
  unfold cTs at *
  rw [h8, hf 13 (by decide) (by decide), hf 14 (by decide) (by decide), hf 15 (by decide) (by decide), hf 16 (by decide) (by decide), hf 18 (by decide) (by decide), hf 19 (by decide) (by decide), hf 20 (by decide) (by decide), hf 21 (by decide) (by decide), hf 22 (by decide) (by decide)]
  exact h
/-- what singing leaves -/
def cFs (M : Nat) (V V' : zVt) : Prop := (∀ o : Nat, ¬(o = 12 ∨ o = 23 ∨ o = 24 ∨ o = 25 ∨ o = M) → V' o = V o) ∧ V' 12 8 = V 12 8 ∧ V' M 3 = V M 3
theorem cFs_r (M : Nat) (V : zVt) : cFs M V V := ⟨fun _ _ => rfl, rfl, rfl⟩
theorem cFs_t {M : Nat} {V V1 V2 : zVt} (h : cFs M V V1) (h2 : cFs M V1 V2) : cFs M V V2 := ⟨fun o ho => (h2.1 o ho).trans (h.1 o ho), h2.2.1.trans h.2.1, h2.2.2.trans h.2.2⟩
theorem cFs_v {M : Nat} (hM : 26 ≤ M) {V : zVt} {o : Nat} {k x : Int} (h : o = 12 ∧ k ≠ 8 ∨ o = 23 ∨ o = 24 ∨ o = 25 ∨ o = M ∧ k ≠ 3) : cFs M V (vup V o k x) := ⟨fun o2 ho => vup_fn (by omega), vup_ne (by omega), vup_ne (by omega)⟩
theorem cFs_fi {M : Nat} (hM : 26 ≤ M) (V : zVt) (fl p f l : Int) : cFs M V (cFi V fl p f l) := ⟨fun o2 ho => cFi_o (by omega), by rw [cFi_o (by decide)], by rw [cFi_o (by omega)]⟩
theorem cFs_ns {M : Nat} (hM : 26 ≤ M) (V : zVt) (p : Int) : cFs M V (cNs V p) := ⟨fun o2 ho => vst_o (by omega), by unfold cNs; rw [vst_o (by decide)], by unfold cNs; rw [vst_o (by omega)]⟩
theorem cFs_fl {M : Nat} (hM : 26 ≤ M) (V : zVt) (f p : Int) : cFs M V (cFl V M f p) := cFs_t (cFs_t (cFs_v hM (by omega)) (cFs_v hM (by omega))) (cFs_v hM (by omega))
theorem cFs_ts {M : Nat} (hM : 26 ≤ M) {V V' P : zVt} (h : cFs M V V') (ht : cTs V P) : cTs V' P := cTs_v ht h.2.1 (fun o h1 h2 => h.1 o (by omega))
theorem cSg_fl {V : zVt} {J : zJt} {M : Nat} {P S : zVt} (hM : 26 ≤ M) (h : cSg V J M P S) (h7 : S 0 7 = 0) {f t : Int} (hf : f ≠ 0) : cSg (cFl V M f (cPl P t)) J M P (yFl S f t) := by
  refine ⟨cFs_ts hM (cFs_fl hM _ _ _) h.1, ?_, ?_, ?_, ?_⟩
  · rw [yFl_7]
    unfold cFl
    rw [vup_k (by decide), vup_k (by decide), vup_at]
  · rw [(cFs_fl hM V f (cPl P t)).2.2]
    exact h.2.2.1
  · intro _
    unfold cFl yFl
    refine ⟨by rw [vup_k (by decide), vup_at, vup_at], vup_at _ _ _ _, ?_⟩
    rw [vup_o (by omega), vup_o (by omega), vup_o (by omega), vup_k (by decide), vup_k (by decide)]
    exact (h.2.2.2.2 h7).2.1
  · intro q
    rw [yFl_7] at q
    exact absurd q hf
section
variable {J : zJt} {d : Nat → Nat → UInt64} {M : Nat} {P S : zVt} {D : Int → Int} {O : Int → Int → Int}
/-- sounds put in -/
theorem cSg_fil {V : zVt} (hM : 26 ≤ M) (h : cSg V J M P S) (hi : yInv P D S) {c f l : Int} (hc : 0 ≤ c) : cSg (vup (cFi V (S 0 2) (S 0 2 + c) f l) 12 4 (S 0 2 + c)) J M P (yFil S c f l) := by
  have h7 : S 0 7 = 0 := hi.2.2.2.2.2.2.2.2.2.2
  have fr : cFs M V (vup (cFi V (S 0 2) (S 0 2 + c) f l) 12 4 (S 0 2 + c)) := cFs_t (cFs_fi hM _ _ _ _ _) (cFs_v hM (by omega))
  obtain ⟨k1, k2, k3, k4, k5, k6, k7, k8, k9, k10, k11⟩ := h.2.2.2.2 h7
  refine ⟨cFs_ts hM fr h.1, ?_, by rw [fr.2.2]; exact h.2.2.1, ?_, ?_⟩
  · rw [vup_o (by omega), cFi_o (by omega), yFil_0 (by decide)]
    exact h.2.1
  · rw [yFil_0 (by decide)]
    exact fun q => absurd h7 q
  · intro _
    refine ⟨?_, ?_, ?_, ?_, ?_, ?_, ?_, ?_, ?_, ?_, ?_⟩
    · rw [vup_o (by omega), cFi_o (by omega)]
      exact k1
    · rw [vup_k (by decide), cFi_o (by decide), yFil_0 (by decide)]
      exact k2
    · rw [vup_k (by decide), cFi_o (by decide), yFil_0 (by decide)]
      exact k3
    · rw [vup_fn (by decide), cFi_o (by decide), yFil_0 (by decide), yFil_o (by decide)]
      exact k4
    · rw [vup_at, yFil_02]
    · rw [yFil_02, vup_fn (by decide)]
      intro t t0 t1
      unfold cFi yFil
      rw [vst_at, vst_at]
      show (if S 0 2 ≤ t ∧ t < S 0 2 + c then (if t = S 0 2 then f else l) else V 24 t) = (if S 0 2 ≤ t ∧ t < S 0 2 + c then (if t = S 0 2 then f else l) else S 2 t)
      by_cases hq : S 0 2 ≤ t ∧ t < S 0 2 + c
      · rw [if_pos hq, if_pos hq]
      · rw [if_neg hq, if_neg hq]
        exact k6 t t0 (by omega)
    · rw [vup_fn (by decide), cFi_o (by decide), yFil_o (by decide)]
      exact k7
    · rw [vup_o (by omega), cFi_o (by omega), yFil_0 (by decide)]
      exact k8
    · rw [vup_k (by decide), cFi_o (by decide), yFil_0 (by decide)]
      exact k9
    · rw [vup_k (by decide), vup_k (by decide), cFi_o (by decide), yFil_0 (by decide), yFil_0 (by decide), yFil_0 (by decide)]
      exact k10
    · rw [yFil_0 (by decide), yFil_o (by decide)]
      exact k11
/-- a sign told -/
theorem cSg_sign {V : zVt} (hM : 26 ≤ M) (h : cSg V J M P S) {s x : Int} : cSg (vup V 23 s x) J M P (vup S 3 s x) := by
  have fr : cFs M V (vup V 23 s x) := cFs_v hM (by omega)
  refine ⟨cFs_ts hM fr h.1, ?_, by rw [fr.2.2]; exact h.2.2.1, ?_, ?_⟩
  · rw [vup_o (by omega), vup_o (by decide)]
    exact h.2.1
  · simp (disch := omega) only [vup_o]
    exact h.2.2.2.1
  · rw [vup_o (by decide)]
    intro h7
    obtain ⟨k1, k2, k3, k4, k5, k6, k7, k8, k9, k10, k11⟩ := h.2.2.2.2 h7
    unfold cSc
    simp (disch := omega) only [vup_o]
    refine ⟨k1, k2, k3, k4, k5, k6, ?_, k8, k9, k10, k11⟩
    intro s' s0 s1
    by_cases hs : s' = s
    · rw [hs, vup_at, vup_at]
    · rw [vup_k hs, vup_k hs]
      exact k7 s' s0 s1
/-- a note told -/
theorem cSg_tie {V : zVt} (hM : 26 ≤ M) (h : cSg V J M P S) {t p c : Int} : cSg (vup (vup (vup V 12 9 t) 12 10 p) 12 11 c) J M P (vup (vup (vup S 0 4 t) 0 5 p) 0 6 c) := by
  have fr : cFs M V (vup (vup (vup V 12 9 t) 12 10 p) 12 11 c) := cFs_t (cFs_t (cFs_v hM (by omega)) (cFs_v hM (by omega))) (cFs_v hM (by omega))
  refine ⟨cFs_ts hM fr h.1, ?_, by rw [fr.2.2]; exact h.2.2.1, ?_, ?_⟩
  · simp (disch := omega) only [vup_o, vup_k]
    exact h.2.1
  · simp (disch := omega) only [vup_o, vup_k]
    exact h.2.2.2.1
  · simp (disch := omega) only [vup_k]
    intro h7
    obtain ⟨k1, k2, k3, k4, k5, k6, k7, k8, k9, k10, k11⟩ := h.2.2.2.2 h7
    unfold cSc
    simp (disch := omega) only [vup_o, vup_k, vup_at]
    exact ⟨k1, k2, k3, k4, k5, k6, k7, k8, trivial, fun _ => ⟨trivial, trivial⟩, k11⟩
theorem sn72 {V : zVt} (hMb : zBk 5 M) (hM : 26 ≤ M) (hP : yTok P D O) (h : cSg V J M P S) (hi : yInv P D S) (hn : S 0 0 < P 8 0) (hk : P 0 (S 0 0) = 3) :
    ∃ V', zGo false 72 0 [.ref 12, .ref M, .null, .null, .null, .null, .null] [] (zm V J d) = zN1 V' J d ∧ cSg V' J M P (yNote P S (S 0 0)) ∧ cFs M V V' := by
  have h7 : S 0 7 = 0 := hi.2.2.2.2.2.2.2.2.2.2
  obtain ⟨k1, k2, k3, k4, k5, k6, k7, k8, k9, k10, k11⟩ := h.2.2.2.2 h7
  obtain ⟨t0, t1, t2, t3⟩ := h.1
  have ha := hi.1
  have hb := hP.2.2.2.2 (S 0 0) ha.1 hn
  have hq := hb.2.2.2.1 hk
  have hT := t3 (S 0 0) (by omega) hn
  have hT3 := hT.2.2.2.1 hk
  have hT4 := hT.2.2.2.2 (Or.inl hk)
  have hpt := yPt_rng hi hq.1
  have hcg := yCg_rng hi hq.1
  have hfl := hi.2.2.2.2.1
  have htie := hi.2.2.2.2.2.2.2.2.1
  have hsg := hi.2.2.2.2.2.2.1 (P 2 (S 0 0)) (by omega) (by omega)
  have hmt := hP.2.1
  have hnn := hP.1
  have ep : 12 * (P 2 (S 0 0) / 7) + yLp (P 2 (S 0 0) % 7) + yCg P S (S 0 0) = yPt P S (S 0 0) := rfl
  have e233 := sp233 (V := V) (J := J) (d := d) (s := P 2 (S 0 0)) (by omega)
  have e21 := zt21 (l := P 2 (S 0 0) % 7) (by omega)
  have hl7 : 0 ≤ P 2 (S 0 0) % 7 ∧ P 2 (S 0 0) % 7 < 7 := by omega
  have e74 := sp74 (V := V) (J := J) (d := d) (g := P 3 (S 0 0)) (by omega)
  have hch := yCh_rng (P 3 (S 0 0))
  have e23 := k7 (P 2 (S 0 0)) (by omega) (by omega)
  have e73 := sp73 (V := V) (J := J) (d := d) (s := P 2 (S 0 0)) (g := P 3 (S 0 0)) (key := P 8 2) (by omega) (by omega) t2 hP.2.2.1 (by rw [e23]; exact hsg)
  rw [e23] at e73
  have e18 : V 18 (S 0 0) = P 3 (S 0 0) := hT3.2.1
  have e22 : V 22 (S 0 0) = P 2 (S 0 0) := hT3.1
  have e20 : V 20 (S 0 0) = P 5 (S 0 0) := hT3.2.2
  -- to the fill
  have e77 := fun (f l : Int) => sp77 (V := V) (J := J) (d := d) (M := M) hMb (a := S 0 0) (fl := S 0 2) (c := P 4 (S 0 0)) (mt := P 8 1) (f := f) (l := l) k2 (by omega) k5 hT4 h.2.2.1 hfl hmt.2 hq.2.2.1
  have efill : ∀ x4 f : Int, (x4 = 0 ∧ f = yPt P S (S 0 0) + 128 ∨ x4 = 1 ∧ f = yPt P S (S 0 0)) → ¬ yBadTie P S (S 0 0) → (if S 0 4 = -1 then yPt P S (S 0 0) + 128 else yPt P S (S 0 0)) = f → ∃ V', zGo false 72 115 [.ref 12, .ref M, .int (zi (P 2 (S 0 0))), .int (zi (P 3 (S 0 0))), .int (zi x4), .int (zi (yCg P S (S 0 0))), .int (zi (yPt P S (S 0 0)))] [] (zm V J d) = zN1 V' J d ∧ cSg V' J M P (yNote P S (S 0 0)) ∧ cFs M V V' := by
    intro x4 f hx hbt hfi
    have s0 : zGo false 72 115 [.ref 12, .ref M, .int (zi (P 2 (S 0 0))), .int (zi (P 3 (S 0 0))), .int (zi x4), .int (zi (yCg P S (S 0 0))), .int (zi (yPt P S (S 0 0)))] [] (zm V J d) = (zGo false 77 0 [.ref 12, .ref M, .int (zi f), .int (zi (yPt P S (S 0 0))), .null, .null] [] (zm V J d)).bind (zGor false 72 138 [.ref 12, .ref M, .int (zi (P 2 (S 0 0))), .int (zi (P 3 (S 0 0))), .int (zi x4), .int (zi (yCg P S (S 0 0))), .int (zi (yPt P S (S 0 0)))] []) := by
      rcases hx with ⟨rfl, rfl⟩ | ⟨rfl, rfl⟩
      · rw [ze_72_115 _ _ _ _ _ _ hMb]
        simp (disch := first | omega | assumption | (simp (disch := omega) only [vup_fn, vup_o, vup_k, vup_at]; first | done | omega | assumption)) only [ze_72_133, Int.add_zero, ↓reduceIte, qw_id, zck_T, zck_t, zGor_v, zGor_n, zGor_e, zbs, vup_at, vup_vup, vup_self, vup_o, vup_k, vup_fn, ne_eq, not_true_eq_false, not_false_eq_true, and_true, true_and, and_self, and_false, false_and, or_true, true_or, or_self, or_false, false_or, xlt_t, xlt_f, xle_t, xle_f, xeq_t, xeq_f, xand_f, xor_t]
      · rw [ze_72_115 _ _ _ _ _ _ hMb]
        simp (disch := first | omega | assumption | (simp (disch := omega) only [vup_fn, vup_o, vup_k, vup_at]; first | done | omega | assumption)) only [ze_72_133, Int.add_zero, ↓reduceIte, qw_id, zck_T, zck_t, zGor_v, zGor_n, zGor_e, zbs, vup_at, vup_vup, vup_self, vup_o, vup_k, vup_fn, ne_eq, not_true_eq_false, not_false_eq_true, and_true, true_and, and_self, and_false, false_and, or_true, true_or, or_self, or_false, false_or, xlt_t, xlt_f, xle_t, xle_f, xeq_t, xeq_f, xand_f, xor_t]
    unfold yNote
    rw [if_neg hbt, hfi]
    by_cases hlong : P 8 1 < S 0 2 + P 4 (S 0 0)
    · rw [if_pos hlong]
      refine ⟨cFl V M 7 (V 15 (S 0 0)), ?_, ?_, cFs_fl hM _ _ _⟩
      · rw [s0, e77, if_pos hlong]
        simp (disch := first | omega | assumption | (simp (disch := omega) only [vup_fn, vup_o, vup_k, vup_at]; first | done | omega | assumption)) only [ze_72_138, Int.add_zero, ↓reduceIte, qw_id, zck_T, zck_t, zGor_v, zGor_n, zGor_e, zbs, vup_at, vup_vup, vup_self, vup_o, vup_k, vup_fn, ne_eq, not_true_eq_false, not_false_eq_true, and_true, true_and, and_self, and_false, false_and, or_true, true_or, or_self, or_false, false_or, xlt_t, xlt_f, xle_t, xle_f, xeq_t, xeq_f, xand_f, xor_t]
      · have := cSg_fl hM h h7 (f := 7) (t := S 0 0) (by decide)
        unfold cPl at this
        rw [if_neg (by omega)] at this
        rw [hT.2.1]
        exact this
    · rw [if_neg hlong]
      have c1 := cSg_fil (f := f) (l := yPt P S (S 0 0)) hM h hi (c := P 4 (S 0 0)) (by omega)
      have f1 : cFs M V (vup (cFi V (S 0 2) (S 0 2 + P 4 (S 0 0)) f (yPt P S (S 0 0))) 12 4 (S 0 2 + P 4 (S 0 0))) := cFs_t (cFs_fi hM _ _ _ _ _) (cFs_v hM (by omega))
      have s1 : zGo false 72 115 [.ref 12, .ref M, .int (zi (P 2 (S 0 0))), .int (zi (P 3 (S 0 0))), .int (zi x4), .int (zi (yCg P S (S 0 0))), .int (zi (yPt P S (S 0 0)))] [] (zm V J d) = zGo false 72 138 [.ref 12, .ref M, .int (zi (P 2 (S 0 0))), .int (zi (P 3 (S 0 0))), .int (zi x4), .int (zi (yCg P S (S 0 0))), .int (zi (yPt P S (S 0 0)))] [.int (zi 1)] (zm (vup (cFi V (S 0 2) (S 0 2 + P 4 (S 0 0)) f (yPt P S (S 0 0))) 12 4 (S 0 2 + P 4 (S 0 0))) J d) := by
        rw [s0, e77, if_neg hlong]
        rfl
      rw [s1]
      generalize vup (cFi V (S 0 2) (S 0 2 + P 4 (S 0 0)) f (yPt P S (S 0 0))) 12 4 (S 0 2 + P 4 (S 0 0)) = V1 at *
      have a7 : V1 12 7 = S 0 0 := by
        have := (c1.2.2.2.2 (by rw [yFil_0 (by decide)]; exact h7)).2.1
        rwa [yFil_0 (by decide)] at this
      have e74' := sp74 (V := V1) (J := J) (d := d) (g := P 3 (S 0 0)) (by omega)
      have a20 : V1 20 (S 0 0) = P 5 (S 0 0) := by rw [f1.1 20 (by omega), e20]
      have tail : ∀ W : zVt, W 12 7 = S 0 0 → W 20 (S 0 0) = P 5 (S 0 0) → zGo false 72 167 [.ref 12, .ref M, .int (zi (P 2 (S 0 0))), .int (zi (P 3 (S 0 0))), .int (zi x4), .int (zi (yCg P S (S 0 0))), .int (zi (yPt P S (S 0 0)))] [] (zm W J d) = zN1 (vup (vup (vup W 12 9 (if P 5 (S 0 0) = 0 then -1 else S 0 0)) 12 10 (yPt P S (S 0 0))) 12 11 (yCg P S (S 0 0))) J d := by
        intro W w7 w20
        by_cases h5 : P 5 (S 0 0) = 0
        · rw [ze_72_167 _ _ _ _ _ _ hMb]
          simp (disch := first | omega | assumption | (simp (disch := omega) only [vup_fn, vup_o, vup_k, vup_at]; first | done | omega | assumption)) only [w7, w20, Nat.reduceAdd, ze_72_191, Int.add_zero, ↓reduceIte, qw_id, zck_T, zck_t, zGor_v, zGor_n, zGor_e, zbs, vup_at, vup_vup, vup_self, vup_o, vup_k, vup_fn, ne_eq, not_true_eq_false, not_false_eq_true, and_true, true_and, and_self, and_false, false_and, or_true, true_or, or_self, or_false, false_or, xlt_t, xlt_f, xle_t, xle_f, xeq_t, xeq_f, xand_f, xor_t]
        · rw [ze_72_167 _ _ _ _ _ _ hMb]
          simp (disch := first | omega | assumption | (simp (disch := omega) only [vup_fn, vup_o, vup_k, vup_at]; first | done | omega | assumption)) only [w7, w20, Nat.reduceAdd, ze_72_191, Int.add_zero, ↓reduceIte, qw_id, zck_T, zck_t, zGor_v, zGor_n, zGor_e, zbs, vup_at, vup_vup, vup_self, vup_o, vup_k, vup_fn, ne_eq, not_true_eq_false, not_false_eq_true, and_true, true_and, and_self, and_false, false_and, or_true, true_or, or_self, or_false, false_or, xlt_t, xlt_f, xle_t, xle_f, xeq_t, xeq_f, xand_f, xor_t]
      by_cases hg : P 3 (S 0 0) = 0
      · rw [if_neg (by omega)]
        refine ⟨_, ?_, cSg_tie hM c1, cFs_t f1 (cFs_t (cFs_t (cFs_v hM (by omega)) (cFs_v hM (by omega))) (cFs_v hM (by omega)))⟩
        rw [← tail V1 a7 a20, ze_72_138 _ _ _ _ _ _ _ hMb]
        simp (disch := first | omega | assumption | (simp (disch := omega) only [vup_fn, vup_o, vup_k, vup_at]; first | done | omega | assumption)) only [hg, Int.add_zero, ↓reduceIte, qw_id, zck_T, zck_t, zGor_v, zGor_n, zGor_e, zbs, vup_at, vup_vup, vup_self, vup_o, vup_k, vup_fn, ne_eq, not_true_eq_false, not_false_eq_true, and_true, true_and, and_self, and_false, false_and, or_true, true_or, or_self, or_false, false_or, xlt_t, xlt_f, xle_t, xle_f, xeq_t, xeq_f, xand_f, xor_t]
      · rw [if_pos hg]
        refine ⟨_, ?_, cSg_tie hM (cSg_sign hM c1), cFs_t f1 (cFs_t (cFs_v hM (by omega)) (cFs_t (cFs_t (cFs_v hM (by omega)) (cFs_v hM (by omega))) (cFs_v hM (by omega))))⟩
        rw [← tail (vup V1 23 (P 2 (S 0 0)) (yCh (P 3 (S 0 0)))) (by rw [vup_o (by decide), a7]) (by rw [vup_o (by decide), a20]), ze_72_138 _ _ _ _ _ _ _ hMb]
        simp (disch := first | omega | assumption | (simp (disch := omega) only [vup_fn, vup_o, vup_k, vup_at]; first | done | omega | assumption)) only [e74', ze_72_166, Int.add_zero, ↓reduceIte, qw_id, zck_T, zck_t, zGor_v, zGor_n, zGor_e, zbs, vup_at, vup_vup, vup_self, vup_o, vup_k, vup_fn, ne_eq, not_true_eq_false, not_false_eq_true, and_true, true_and, and_self, and_false, false_and, or_true, true_or, or_self, or_false, false_or, xlt_t, xlt_f, xle_t, xle_f, xeq_t, xeq_f, xand_f, xor_t]
  by_cases ht : S 0 4 = -1
  · have hbt : ¬ yBadTie P S (S 0 0) := fun q => q.1 ht
    obtain ⟨V', q1, q2⟩ := efill 0 (yPt P S (S 0 0) + 128) (Or.inl ⟨rfl, rfl⟩) hbt (if_pos ht)
    refine ⟨V', ?_, q2⟩
    have ec : (if P 3 (S 0 0) ≠ 0 then yCh (P 3 (S 0 0)) else if S 3 (P 2 (S 0 0)) ≠ 9 then S 3 (P 2 (S 0 0)) else yKey (P 2 (S 0 0) % 7) (P 8 2)) = yCg P S (S 0 0) := by
      unfold yCg
      rw [if_neg (show ¬ S 0 4 ≠ -1 from fun q => q ht)]
    rw [ec] at e73
    rw [← q1, ze_72_0 _ hMb]
    simp (disch := first | omega | assumption | (simp (disch := omega) only [vup_fn, vup_o, vup_k, vup_at]; first | done | omega | assumption)) only [k2, k9, ht, e22, e18, Nat.reduceAdd, ze_72_36, e73, ze_72_56, e233, ze_72_74, e21, qdiv_p, ep, Int.add_zero, ↓reduceIte, qw_id, zck_T, zck_t, zGor_v, zGor_n, zGor_e, zbs, vup_at, vup_vup, vup_self, vup_o, vup_k, vup_fn, ne_eq, not_true_eq_false, not_false_eq_true, and_true, true_and, and_self, and_false, false_and, or_true, true_or, or_self, or_false, false_or, xlt_t, xlt_f, xle_t, xle_f, xeq_t, xeq_f, xand_f, xor_t]
  · have k10' := k10 ht
    have htr : (3 ≤ S 0 4 ∧ S 0 4 < P 8 0) ∧ (15 ≤ S 0 5 ∧ S 0 5 ≤ 85) ∧ (-1 ≤ S 0 6 ∧ S 0 6 ≤ 1) := by
      rcases htie with q | q
      · exact absurd q ht
      · exact q
    have ec : S 0 6 = yCg P S (S 0 0) := by
      unfold yCg
      rw [if_pos ht]
    have s0 : zGo false 72 0 [.ref 12, .ref M, .null, .null, .null, .null, .null] [] (zm V J d) = zGo false 72 74 [.ref 12, .ref M, .int (zi (P 2 (S 0 0))), .int (zi (P 3 (S 0 0))), .int (zi 1), .int (zi (yCg P S (S 0 0))), .null] [.int (zi (P 2 (S 0 0) % 7)), .ref 1048576, .int (zi (12 * (P 2 (S 0 0) / 7)))] (zm V J d) := by
      rw [ze_72_0 _ hMb]
      simp (disch := first | omega | assumption | (simp (disch := omega) only [vup_fn, vup_o, vup_k, vup_at]; first | done | omega | assumption)) only [k2, k9, e22, e18, Nat.reduceAdd, ze_72_36, ze_72_56, k10'.2, ec, e233, qdiv_p, Int.add_zero, ↓reduceIte, qw_id, zck_T, zck_t, zGor_v, zGor_n, zGor_e, zbs, vup_at, vup_vup, vup_self, vup_o, vup_k, vup_fn, ne_eq, not_true_eq_false, not_false_eq_true, and_true, true_and, and_self, and_false, false_and, or_true, true_or, or_self, or_false, false_or, xlt_t, xlt_f, xle_t, xle_f, xeq_t, xeq_f, xand_f, xor_t]
    rw [s0]
    by_cases hbt : yBadTie P S (S 0 0)
    · have e76 := sp76 (V := V) (J := J) (d := d) (M := M) (t := S 0 4) (n := P 8 0) hMb k9 t0 (by omega)
      refine ⟨cFl V M 9 (V 15 (S 0 4)), ?_, ?_, cFs_fl hM _ _ _⟩
      · rw [ze_72_74 _ _ _ _ _ _ _ hMb]
        rcases hbt.2 with hb1 | hb1
        · simp (disch := first | omega | assumption | (simp (disch := omega) only [vup_fn, vup_o, vup_k, vup_at]; first | done | omega | assumption)) only [e21, ep, k10'.1, ze_72_109, e76, ze_72_114, Int.add_zero, ↓reduceIte, qw_id, zck_T, zck_t, zGor_v, zGor_n, zGor_e, zbs, vup_at, vup_vup, vup_self, vup_o, vup_k, vup_fn, ne_eq, not_true_eq_false, not_false_eq_true, and_true, true_and, and_self, and_false, false_and, or_true, true_or, or_self, or_false, false_or, xlt_t, xlt_f, xle_t, xle_f, xeq_t, xeq_f, xand_f, xor_t]
        · by_cases hpe : yPt P S (S 0 0) = S 0 5
          · rw [ec] at hb1
            simp (disch := first | omega | assumption | (simp (disch := omega) only [vup_fn, vup_o, vup_k, vup_at]; first | done | omega | assumption)) only [e21, ep, k10'.1, hpe, e74, ze_72_104, ze_72_109, e76, ze_72_114, Int.add_zero, ↓reduceIte, qw_id, zck_T, zck_t, zGor_v, zGor_n, zGor_e, zbs, vup_at, vup_vup, vup_self, vup_o, vup_k, vup_fn, ne_eq, not_true_eq_false, not_false_eq_true, and_true, true_and, and_self, and_false, false_and, or_true, true_or, or_self, or_false, false_or, xlt_t, xlt_f, xle_t, xle_f, xeq_t, xeq_f, xand_f, xor_t]
          · simp (disch := first | omega | assumption | (simp (disch := omega) only [vup_fn, vup_o, vup_k, vup_at]; first | done | omega | assumption)) only [e21, ep, k10'.1, ze_72_109, e76, ze_72_114, Int.add_zero, ↓reduceIte, qw_id, zck_T, zck_t, zGor_v, zGor_n, zGor_e, zbs, vup_at, vup_vup, vup_self, vup_o, vup_k, vup_fn, ne_eq, not_true_eq_false, not_false_eq_true, and_true, true_and, and_self, and_false, false_and, or_true, true_or, or_self, or_false, false_or, xlt_t, xlt_f, xle_t, xle_f, xeq_t, xeq_f, xand_f, xor_t]
      · have := cSg_fl hM h h7 (f := 9) (t := S 0 4) (by decide)
        unfold cPl at this
        rw [if_neg ht] at this
        rw [(t3 (S 0 4) (by omega) (by omega)).2.1]
        unfold yNote
        rw [if_pos hbt]
        exact this
    · obtain ⟨V', q1, q2⟩ := efill 1 (yPt P S (S 0 0)) (Or.inr ⟨rfl, rfl⟩) hbt (if_neg ht)
      refine ⟨V', ?_, q2⟩
      have hpe : yPt P S (S 0 0) = S 0 5 := by
        by_cases hpe : yPt P S (S 0 0) = S 0 5
        · exact hpe
        · exact absurd ⟨ht, Or.inl hpe⟩ hbt
      rw [← q1, ze_72_74 _ _ _ _ _ _ _ hMb]
      by_cases hg : P 3 (S 0 0) = 0
      · simp (disch := first | omega | assumption | (simp (disch := omega) only [vup_fn, vup_o, vup_k, vup_at]; first | done | omega | assumption)) only [e21, ep, k10'.1, hpe, hg, Int.add_zero, ↓reduceIte, qw_id, zck_T, zck_t, zGor_v, zGor_n, zGor_e, zbs, vup_at, vup_vup, vup_self, vup_o, vup_k, vup_fn, ne_eq, not_true_eq_false, not_false_eq_true, and_true, true_and, and_self, and_false, false_and, or_true, true_or, or_self, or_false, false_or, xlt_t, xlt_f, xle_t, xle_f, xeq_t, xeq_f, xand_f, xor_t]
      · have hce : yCh (P 3 (S 0 0)) = yCg P S (S 0 0) := by
          by_cases hce : yCh (P 3 (S 0 0)) = S 0 6
          · rw [hce, ec]
          · exact absurd ⟨ht, Or.inr ⟨hg, hce⟩⟩ hbt
        simp (disch := first | omega | assumption | (simp (disch := omega) only [vup_fn, vup_o, vup_k, vup_at]; first | done | omega | assumption)) only [e21, ep, k10'.1, hpe, e74, hce, ze_72_104, Int.add_zero, ↓reduceIte, qw_id, zck_T, zck_t, zGor_v, zGor_n, zGor_e, zbs, vup_at, vup_vup, vup_self, vup_o, vup_k, vup_fn, ne_eq, not_true_eq_false, not_false_eq_true, and_true, true_and, and_self, and_false, false_and, or_true, true_or, or_self, or_false, false_or, xlt_t, xlt_f, xle_t, xle_f, xeq_t, xeq_f, xand_f, xor_t]
end
