/-! part 54: the class's singing: leaves -/
theorem zt22 {l : Int} (h : 0 ≤ l ∧ l ≤ 6) : (ztab 22 l.toNat).toInt = (2 * l + 1) % 7 := by
  rcases (show l = 0 ∨ l = 1 ∨ l = 2 ∨ l = 3 ∨ l = 4 ∨ l = 5 ∨ l = 6 by omega) with rfl | rfl | rfl | rfl | rfl | rfl | rfl <;> decide
theorem zt21 {l : Int} (h : 0 ≤ l ∧ l ≤ 6) : (ztab 21 l.toNat).toInt = yLp l := by
  rcases (show l = 0 ∨ l = 1 ∨ l = 2 ∨ l = 3 ∨ l = 4 ∨ l = 5 ∨ l = 6 by omega) with rfl | rfl | rfl | rfl | rfl | rfl | rfl <;> decide
theorem qxor7 : ∀ s : Fin 50, 0 ≤ qxor (s.val : Int) 7 := by decide
theorem qxor_7 {s : Int} (h : 0 ≤ s ∧ s < 50) : 0 ≤ qxor s 7 ∧ qxor s 7 < 2147483648 := by
  have := qxor7 ⟨s.toNat, by omega⟩
  have e : ((s.toNat : Nat) : Int) = s := Int.toNat_of_nonneg h.1
  simp only [e] at this
  exact ⟨this, Int32.toInt_lt _⟩
theorem qrem_p {a b : Int} (ha : 0 ≤ a ∧ a < 2147483648) (hb : 0 < b ∧ b < 2147483648) : qrem a b = a % b := by
  unfold qrem
  rw [zi_nI ha.1, zi_nI (by omega), pk_rem (by omega) (by omega) (by omega), nI_toInt, Int.natCast_emod, Int.toNat_of_nonneg ha.1, Int.toNat_of_nonneg (by omega)]
  exact Nat.lt_of_le_of_lt (Nat.mod_le _ _) (by omega)
section
variable {V : zVt} {J : zJt} {d : Nat → Nat → UInt64} {M : Nat}
theorem sp74 {g : Int} (hg : -100 ≤ g ∧ g ≤ 100) : zGo false 74 0 [.ref 12, .int (zi g)] [] (zm V J d) = zI1 (yCh g) V J d := by
  unfold yCh
  by_cases h1 : g = 1
  · simp (disch := first | omega | assumption | (simp (disch := omega) only [vup_fn, vup_o, vup_k, vup_at]; first | done | omega | assumption)) only [ze_74_0, ze_74_19, Int.add_zero, ↓reduceIte, qw_id, zck_T, zck_t, zGor_v, zGor_n, zGor_e, zbs, vup_at, vup_vup, vup_self, vup_o, vup_k, vup_fn, ne_eq, not_true_eq_false, not_false_eq_true, and_true, true_and, and_self, and_false, false_and, or_true, true_or, or_self, or_false, false_or, xlt_t, xlt_f, xle_t, xle_f, xeq_t, xeq_f, xand_f, xor_t]
  · by_cases h2 : g = 2
    · simp (disch := first | omega | assumption | (simp (disch := omega) only [vup_fn, vup_o, vup_k, vup_at]; first | done | omega | assumption)) only [ze_74_0, ze_74_19, Int.add_zero, ↓reduceIte, qw_id, zck_T, zck_t, zGor_v, zGor_n, zGor_e, zbs, vup_at, vup_vup, vup_self, vup_o, vup_k, vup_fn, ne_eq, not_true_eq_false, not_false_eq_true, and_true, true_and, and_self, and_false, false_and, or_true, true_or, or_self, or_false, false_or, xlt_t, xlt_f, xle_t, xle_f, xeq_t, xeq_f, xand_f, xor_t]
    · simp (disch := first | omega | assumption | (simp (disch := omega) only [vup_fn, vup_o, vup_k, vup_at]; first | done | omega | assumption)) only [ze_74_0, ze_74_19, Int.add_zero, ↓reduceIte, qw_id, zck_T, zck_t, zGor_v, zGor_n, zGor_e, zbs, vup_at, vup_vup, vup_self, vup_o, vup_k, vup_fn, ne_eq, not_true_eq_false, not_false_eq_true, and_true, true_and, and_self, and_false, false_and, or_true, true_or, or_self, or_false, false_or, xlt_t, xlt_f, xle_t, xle_f, xeq_t, xeq_f, xand_f, xor_t]
theorem sp233 {s : Int} (h : 0 ≤ s ∧ s < 50) : zGo false 233 0 [.int (zi s), .int (zi 7), .null] [] (zm V J d) = zI1 (s % 7) V J d := by
  have h1 := qxor_7 h
  have h2 := qrem_p (a := s) (b := 7) (by omega) (by omega)
  simp (disch := first | omega | assumption | (simp (disch := omega) only [vup_fn, vup_o, vup_k, vup_at]; first | done | omega | assumption)) only [ze_233_0, ze_233_18, h2, Int.add_zero, ↓reduceIte, qw_id, zck_T, zck_t, zGor_v, zGor_n, zGor_e, zbs, vup_at, vup_vup, vup_self, vup_o, vup_k, vup_fn, ne_eq, not_true_eq_false, not_false_eq_true, and_true, true_and, and_self, and_false, false_and, or_true, true_or, or_self, or_false, false_or, xlt_t, xlt_f, xle_t, xle_f, xeq_t, xeq_f, xand_f, xor_t]
theorem sp75 {l key : Int} (hl : 0 ≤ l ∧ l ≤ 6) (e : V 12 8 = key) (hk : -7 ≤ key ∧ key ≤ 7) : zGo false 75 0 [.ref 12, .int (zi l)] [] (zm V J d) = zI1 (yKey l key) V J d := by
  unfold yKey
  have h2 := zt22 hl
  have h3 : 0 ≤ (2 * l + 1) % 7 ∧ (2 * l + 1) % 7 ≤ 6 := by omega
  generalize (2 * l + 1) % 7 = r at *
  by_cases h4 : r < key
  · rw [if_pos (by omega)]
    simp (disch := first | omega | assumption | (simp (disch := omega) only [vup_fn, vup_o, vup_k, vup_at]; first | done | omega | assumption)) only [ze_75_0, ze_75_12, ze_75_51, h2, e, Int.add_zero, ↓reduceIte, qw_id, zck_T, zck_t, zGor_v, zGor_n, zGor_e, zbs, vup_at, vup_vup, vup_self, vup_o, vup_k, vup_fn, ne_eq, not_true_eq_false, not_false_eq_true, and_true, true_and, and_self, and_false, false_and, or_true, true_or, or_self, or_false, false_or, xlt_t, xlt_f, xle_t, xle_f, xeq_t, xeq_f, xand_f, xor_t]
  · rw [if_neg (by omega)]
    by_cases h5 : 6 - r < -key
    · rw [if_pos (by omega)]
      simp (disch := first | omega | assumption | (simp (disch := omega) only [vup_fn, vup_o, vup_k, vup_at]; first | done | omega | assumption)) only [ze_75_0, ze_75_12, ze_75_51, h2, e, Int.add_zero, ↓reduceIte, qw_id, zck_T, zck_t, zGor_v, zGor_n, zGor_e, zbs, vup_at, vup_vup, vup_self, vup_o, vup_k, vup_fn, ne_eq, not_true_eq_false, not_false_eq_true, and_true, true_and, and_self, and_false, false_and, or_true, true_or, or_self, or_false, false_or, xlt_t, xlt_f, xle_t, xle_f, xeq_t, xeq_f, xand_f, xor_t]
    · rw [if_neg (by omega)]
      simp (disch := first | omega | assumption | (simp (disch := omega) only [vup_fn, vup_o, vup_k, vup_at]; first | done | omega | assumption)) only [ze_75_0, ze_75_12, ze_75_51, h2, e, Int.add_zero, ↓reduceIte, qw_id, zck_T, zck_t, zGor_v, zGor_n, zGor_e, zbs, vup_at, vup_vup, vup_self, vup_o, vup_k, vup_fn, ne_eq, not_true_eq_false, not_false_eq_true, and_true, true_and, and_self, and_false, false_and, or_true, true_or, or_self, or_false, false_or, xlt_t, xlt_f, xle_t, xle_f, xeq_t, xeq_f, xand_f, xor_t]
theorem sp73 {s g key : Int} (hs : 0 ≤ s ∧ s < 50) (hg : 0 ≤ g ∧ g ≤ 3) (e : V 12 8 = key) (hk : -7 ≤ key ∧ key ≤ 7) (h23 : V 23 s = 9 ∨ (-1 ≤ V 23 s ∧ V 23 s ≤ 1)) : zGo false 73 0 [.ref 12, .int (zi s), .int (zi g)] [] (zm V J d) = zI1 (if g ≠ 0 then yCh g else if V 23 s ≠ 9 then V 23 s else yKey (s % 7) key) V J d := by
  have e74 := sp74 (V := V) (J := J) (d := d) (g := g) (by omega)
  have e233 := sp233 (V := V) (J := J) (d := d) hs
  have e75 := sp75 (V := V) (J := J) (d := d) (l := s % 7) (by omega) e hk
  by_cases h1 : g = 0
  · by_cases h2 : V 23 s = 9
    · simp (disch := first | omega | assumption | (simp (disch := omega) only [vup_fn, vup_o, vup_k, vup_at]; first | done | omega | assumption)) only [ze_73_0, ze_73_9, ze_73_38, ze_73_45, ze_73_48, e74, e233, e75, Int.add_zero, ↓reduceIte, qw_id, zck_T, zck_t, zGor_v, zGor_n, zGor_e, zbs, vup_at, vup_vup, vup_self, vup_o, vup_k, vup_fn, ne_eq, not_true_eq_false, not_false_eq_true, and_true, true_and, and_self, and_false, false_and, or_true, true_or, or_self, or_false, false_or, xlt_t, xlt_f, xle_t, xle_f, xeq_t, xeq_f, xand_f, xor_t]
    · simp (disch := first | omega | assumption | (simp (disch := omega) only [vup_fn, vup_o, vup_k, vup_at]; first | done | omega | assumption)) only [ze_73_0, ze_73_9, ze_73_38, ze_73_45, ze_73_48, e74, e233, e75, Int.add_zero, ↓reduceIte, qw_id, zck_T, zck_t, zGor_v, zGor_n, zGor_e, zbs, vup_at, vup_vup, vup_self, vup_o, vup_k, vup_fn, ne_eq, not_true_eq_false, not_false_eq_true, and_true, true_and, and_self, and_false, false_and, or_true, true_or, or_self, or_false, false_or, xlt_t, xlt_f, xle_t, xle_f, xeq_t, xeq_f, xand_f, xor_t]
  · simp (disch := first | omega | assumption | (simp (disch := omega) only [vup_fn, vup_o, vup_k, vup_at]; first | done | omega | assumption)) only [ze_73_0, ze_73_9, ze_73_38, ze_73_45, ze_73_48, e74, Int.add_zero, ↓reduceIte, qw_id, zck_T, zck_t, zGor_v, zGor_n, zGor_e, zbs, vup_at, vup_vup, vup_self, vup_o, vup_k, vup_fn, ne_eq, not_true_eq_false, not_false_eq_true, and_true, true_and, and_self, and_false, false_and, or_true, true_or, or_self, or_false, false_or, xlt_t, xlt_f, xle_t, xle_f, xeq_t, xeq_f, xand_f, xor_t]
/-- a fault of music -/
def cFl (V : zVt) (M : Nat) (f p : Int) : zVt := vup (vup (vup V M 0 f) M 1 p) M 2 0
theorem sp34 {f p : Int} (hM : zBk 5 M) : zGo false 34 0 [.ref M, .int (zi f), .int (zi p)] [] (zm V J d) = zN1 (cFl V M f p) J d := by
  rw [ze_34_0 _ _ _ hM]
  rfl
theorem sp76 {t n : Int} (hM : zBk 5 M) (e : V 12 9 = t) (hn : V 13 0 = n) (ht : 0 ≤ t ∧ t < n ∧ n ≤ 60) : zGo false 76 0 [.ref 12, .ref M] [] (zm V J d) = zN1 (cFl V M 9 (V 15 t)) J d := by
  have e86 := sp86 (V := V) (J := J) (d := d) (x := 13) (k := t) zBk_13 (by omega) (by omega)
  rw [hn, if_pos (by omega)] at e86
  have e34 := sp34 (V := V) (J := J) (d := d) (M := M) (f := 9) (p := V 15 t) hM
  simp (disch := first | omega | assumption | (simp (disch := omega) only [vup_fn, vup_o, vup_k, vup_at]; first | done | omega | assumption)) only [ze_76_0, ze_76_14, ze_76_33, ze_76_36, e, e86, e34, Nat.reduceAdd, Int.add_zero, ↓reduceIte, qw_id, zck_T, zck_t, zGor_v, zGor_n, zGor_e, zbs, vup_at, vup_vup, vup_self, vup_o, vup_k, vup_fn, ne_eq, not_true_eq_false, not_false_eq_true, and_true, true_and, and_self, and_false, false_and, or_true, true_or, or_self, or_false, false_or, xlt_t, xlt_f, xle_t, xle_f, xeq_t, xeq_f, xand_f, xor_t]
/-- sounds put into the bar -/
def cFi (V : zVt) (fl p f l : Int) : zVt := vst V 24 (fun t => if fl ≤ t ∧ t < p then (if t = fl then f else l) else V 24 t)
theorem cFi_0 (V : zVt) (fl f l : Int) : cFi V fl fl f l = V := by
  unfold cFi
  funext o t
  by_cases h : o = 24
  · subst h
    rw [vst_at]
    show (if fl ≤ t ∧ t < fl then _ else _) = _
    rw [if_neg (by omega)]
  · rw [vst_o h]
theorem cFi_s (V : zVt) {fl p : Int} (f l : Int) (h : fl ≤ p) : vup (cFi V fl p f l) 24 p (if p = fl then f else l) = cFi V fl (p + 1) f l := by
  unfold cFi
  funext o t
  by_cases ho : o = 24
  · subst ho
    rw [vst_at]
    by_cases ht : t = p
    · rw [ht, vup_at]
      show _ = (if fl ≤ p ∧ p < p + 1 then (if p = fl then f else l) else _)
      rw [if_pos (show fl ≤ p ∧ p < p + 1 by omega)]
    · rw [vup_k ht, vst_at]
      show (if fl ≤ t ∧ t < p then (if t = fl then f else l) else V 24 t) = (if fl ≤ t ∧ t < p + 1 then (if t = fl then f else l) else V 24 t)
      by_cases hc : fl ≤ t ∧ t < p
      · rw [if_pos hc, if_pos (show fl ≤ t ∧ t < p + 1 by omega)]
      · rw [if_neg hc, if_neg (show ¬(fl ≤ t ∧ t < p + 1) by omega)]
  · rw [vup_o ho, vst_o ho, vst_o ho]
theorem cFi_o {V : zVt} {fl p f l : Int} {o : Nat} (h : o ≠ 24) : cFi V fl p f l o = V o := vst_o h
theorem sl77 (hM : zBk 5 M) {fl u f l : Int} (hf : 0 ≤ fl) (hu : u ≤ 16) (e4 : V 12 4 = fl) (n : Nat) : ∀ p : Int, fl ≤ p → p ≤ u → u - p < n → zGo false 77 61 [.ref 12, .ref M, .int (zi f), .int (zi l), .int (zi u), .int (zi p)] [] (zm (cFi V fl p f l) J d) = zI1 1 (vup (cFi V fl u f l) 12 4 u) J d := by
  induction n with
  | zero => intro p h1 h2 h3; omega
  | succ n ih =>
    intro p h1 h2 h3
    by_cases hp : p = u
    · subst hp
      rw [ze_77_61 _ _ _ _ _ hM]
      simp (disch := first | omega | assumption | (simp (disch := omega) only [vup_fn, vup_o, vup_k, vup_at]; first | done | omega | assumption)) only [Int.add_zero, ↓reduceIte, qw_id, zck_T, zck_t, zGor_v, zGor_n, zGor_e, zbs, vup_at, vup_vup, vup_self, vup_o, vup_k, vup_fn, ne_eq, not_true_eq_false, not_false_eq_true, and_true, true_and, and_self, and_false, false_and, or_true, true_or, or_self, or_false, false_or, xlt_t, xlt_f, xle_t, xle_f, xeq_t, xeq_f, xand_f, xor_t]
    · have q := ih (p + 1) (by omega) (by omega) (by omega)
      rw [← cFi_s V f l h1] at q
      rw [← q, ze_77_61 _ _ _ _ _ hM]
      have e : cFi V fl p f l 12 4 = fl := by rw [cFi_o (by decide), e4]
      by_cases hpf : p = fl
      · rw [if_pos hpf]
        simp (disch := first | omega | assumption | (simp (disch := omega) only [vup_fn, vup_o, vup_k, vup_at]; first | done | omega | assumption)) only [e, ze_77_88, Int.add_zero, ↓reduceIte, qw_id, zck_T, zck_t, zGor_v, zGor_n, zGor_e, zbs, vup_at, vup_vup, vup_self, vup_o, vup_k, vup_fn, ne_eq, not_true_eq_false, not_false_eq_true, and_true, true_and, and_self, and_false, false_and, or_true, true_or, or_self, or_false, false_or, xlt_t, xlt_f, xle_t, xle_f, xeq_t, xeq_f, xand_f, xor_t]
      · rw [if_neg hpf]
        simp (disch := first | omega | assumption | (simp (disch := omega) only [vup_fn, vup_o, vup_k, vup_at]; first | done | omega | assumption)) only [e, ze_77_88, Int.add_zero, ↓reduceIte, qw_id, zck_T, zck_t, zGor_v, zGor_n, zGor_e, zbs, vup_at, vup_vup, vup_self, vup_o, vup_k, vup_fn, ne_eq, not_true_eq_false, not_false_eq_true, and_true, true_and, and_self, and_false, false_and, or_true, true_or, or_self, or_false, false_or, xlt_t, xlt_f, xle_t, xle_f, xeq_t, xeq_f, xand_f, xor_t]
theorem sp77 (hM : zBk 5 M) {a fl c mt f l : Int} (e7 : V 12 7 = a) (ha : 0 ≤ a ∧ a < 60) (e4 : V 12 4 = fl) (e19 : V 19 a = c) (em : V M 3 = mt) (hf : 0 ≤ fl ∧ fl ≤ mt) (hm : mt ≤ 16) (hc : 1 ≤ c ∧ c ≤ 24) : zGo false 77 0 [.ref 12, .ref M, .int (zi f), .int (zi l), .null, .null] [] (zm V J d) = if mt < fl + c then zI1 0 (cFl V M 7 (V 15 a)) J d else zI1 1 (vup (cFi V fl (fl + c) f l) 12 4 (fl + c)) J d := by
  by_cases h : mt < fl + c
  · have e34 := sp34 (V := V) (J := J) (d := d) (M := M) (f := 7) (p := V 15 a) hM
    rw [if_pos h, ze_77_0 _ _ _ hM]
    simp (disch := first | omega | assumption | (simp (disch := omega) only [vup_fn, vup_o, vup_k, vup_at]; first | done | omega | assumption)) only [e7, e4, e19, em, Nat.reduceAdd, ze_77_35, e34, ze_77_53, Int.add_zero, ↓reduceIte, qw_id, zck_T, zck_t, zGor_v, zGor_n, zGor_e, zbs, vup_at, vup_vup, vup_self, vup_o, vup_k, vup_fn, ne_eq, not_true_eq_false, not_false_eq_true, and_true, true_and, and_self, and_false, false_and, or_true, true_or, or_self, or_false, false_or, xlt_t, xlt_f, xle_t, xle_f, xeq_t, xeq_f, xand_f, xor_t]
  · have q := sl77 (J := J) (d := d) (V := V) hM (fl := fl) (u := fl + c) (f := f) (l := l) hf.1 (by omega) e4 100 fl (by omega) (by omega) (by omega)
    rw [cFi_0] at q
    rw [if_neg h, ← q, ze_77_0 _ _ _ hM]
    simp (disch := first | omega | assumption | (simp (disch := omega) only [vup_fn, vup_o, vup_k, vup_at]; first | done | omega | assumption)) only [e7, e4, e19, em, Nat.reduceAdd, Int.add_zero, ↓reduceIte, qw_id, zck_T, zck_t, zGor_v, zGor_n, zGor_e, zbs, vup_at, vup_vup, vup_self, vup_o, vup_k, vup_fn, ne_eq, not_true_eq_false, not_false_eq_true, and_true, true_and, and_self, and_false, false_and, or_true, true_or, or_self, or_false, false_or, xlt_t, xlt_f, xle_t, xle_f, xeq_t, xeq_f, xand_f, xor_t]
/-- no signs -/
def cNs (V : zVt) (p : Int) : zVt := vst V 23 (fun s => if 0 ≤ s ∧ s < p then 9 else V 23 s)
theorem sl236 (n : Nat) : ∀ p : Int, 0 ≤ p → p ≤ 50 → 50 - p < n → zGo false 236 5 [.ref 23, .int (zi 9), .int (zi p), .int (zi 50)] [] (zm (cNs V p) J d) = zN1 (cNs V 50) J d := by
  induction n with
  | zero => intro p h1 h2 h3; omega
  | succ n ih =>
    intro p h1 h2 h3
    by_cases hp : p = 50
    · subst hp
      rw [ze_236_5]
      simp (disch := first | omega | assumption | (simp (disch := omega) only [vup_fn, vup_o, vup_k, vup_at]; first | done | omega | assumption)) only [Int.add_zero, ↓reduceIte, qw_id, zck_T, zck_t, zGor_v, zGor_n, zGor_e, zbs, vup_at, vup_vup, vup_self, vup_o, vup_k, vup_fn, ne_eq, not_true_eq_false, not_false_eq_true, and_true, true_and, and_self, and_false, false_and, or_true, true_or, or_self, or_false, false_or, xlt_t, xlt_f, xle_t, xle_f, xeq_t, xeq_f, xand_f, xor_t]
    · have q := ih (p + 1) (by omega) (by omega) (by omega)
      have e : vup (cNs V p) 23 p 9 = cNs V (p + 1) := by
        unfold cNs
        funext o t
        by_cases ho : o = 23
        · subst ho
          rw [vst_at]
          by_cases ht : t = p
          · rw [ht, vup_at]
            show _ = (if 0 ≤ p ∧ p < p + 1 then (9 : Int) else _)
            rw [if_pos (by omega)]
          · rw [vup_k ht, vst_at]
            show (if 0 ≤ t ∧ t < p then (9 : Int) else V 23 t) = (if 0 ≤ t ∧ t < p + 1 then (9 : Int) else V 23 t)
            by_cases hc : 0 ≤ t ∧ t < p
            · rw [if_pos hc, if_pos (by omega)]
            · rw [if_neg hc, if_neg (by omega)]
        · rw [vup_o ho, vst_o ho, vst_o ho]
      rw [← e] at q
      rw [← q, ze_236_5]
      simp (disch := first | omega | assumption | (simp (disch := omega) only [vup_fn, vup_o, vup_k, vup_at]; first | done | omega | assumption)) only [Int.add_zero, ↓reduceIte, qw_id, zck_T, zck_t, zGor_v, zGor_n, zGor_e, zbs, vup_at, vup_vup, vup_self, vup_o, vup_k, vup_fn, ne_eq, not_true_eq_false, not_false_eq_true, and_true, true_and, and_self, and_false, false_and, or_true, true_or, or_self, or_false, false_or, xlt_t, xlt_f, xle_t, xle_f, xeq_t, xeq_f, xand_f, xor_t]
theorem sp236 : zGo false 236 0 [.ref 23, .int (zi 9), .null, .null] [] (zm V J d) = zN1 (cNs V 50) J d := by
  have q := sl236 (J := J) (d := d) (V := V) 100 0 (by omega) (by omega) (by omega)
  have e : cNs V 0 = V := by
    unfold cNs
    funext o t
    by_cases ho : o = 23
    · subst ho
      rw [vst_at]
      show (if 0 ≤ t ∧ t < 0 then (9 : Int) else _) = _
      rw [if_neg (by omega)]
    · rw [vst_o ho]
  rw [e] at q
  rw [← q, ze_236_0]
  rfl
/-- a bar's bytes, before the first p sounds of fl -/
def cBy (V : zVt) (mt fl p t : Int) : Int := if mt - fl ≤ t ∧ t < mt - fl + p then V 24 (t - (mt - fl)) else 0
theorem sl35 (hM : zBk 5 M) {fl mt nb : Int} (hf : 1 ≤ fl ∧ fl ≤ mt) (hm : mt ≤ 16) (hn : 0 ≤ nb ∧ nb < 40) (e2 : V M 2 = nb) (e3 : V M 3 = mt) (hb : ∀ t, 0 ≤ t → t < fl → 0 ≤ V 24 t ∧ V 24 t < 256) (n : Nat) : ∀ (J : zJt) (p : Int) (x4 : Value), 0 ≤ p → p ≤ fl → fl - p < n → (∀ r, 0 ≤ r → r < 8 → zby (J (M + 1) (2 * nb)) r = cBy V mt fl p r ∧ zby (J (M + 1) (2 * nb + 1)) r = cBy V mt fl p (r + 8)) →
    ∃ J', zGo false 35 52 [.ref M, .ref 24, .int (zi fl), .int (zi p), x4] [] (zm V J d) = some (.inl none, zm (vup V M 2 (nb + 1)) J' d) ∧ (∀ o k, ¬(o = M + 1 ∧ (k = 2 * nb ∨ k = 2 * nb + 1)) → J' o k = J o k) ∧ ∀ r, 0 ≤ r → r < 8 → zby (J' (M + 1) (2 * nb)) r = cBy V mt fl fl r ∧ zby (J' (M + 1) (2 * nb + 1)) r = cBy V mt fl fl (r + 8) := by
  induction n with
  | zero => intro J p x4 h1 h2 h3; omega
  | succ n ih =>
    intro J p x4 h1 h2 h3 hJ
    by_cases hp : p = fl
    · subst hp
      refine ⟨J, ?_, fun _ _ _ => rfl, hJ⟩
      rw [ze_35_52 _ _ _ _ hM]
      simp (disch := first | omega | assumption | (simp (disch := omega) only [vup_fn, vup_o, vup_k, vup_at]; first | done | omega | assumption)) only [e2, Int.add_zero, ↓reduceIte, qw_id, zck_T, zck_t, zGor_v, zGor_n, zGor_e, zbs, vup_at, vup_vup, vup_self, vup_o, vup_k, vup_fn, ne_eq, not_true_eq_false, not_false_eq_true, and_true, true_and, and_self, and_false, false_and, or_true, true_or, or_self, or_false, false_or, xlt_t, xlt_f, xle_t, xle_f, xeq_t, xeq_f, xand_f, xor_t]
    · have hv := hb p h1 (by omega)
      have ht : 0 ≤ mt - fl + p ∧ mt - fl + p < 16 := by omega
      have hz := zb5_1 hM
      by_cases h8 : 8 ≤ mt - fl + p
      · have hs : ∀ r, 0 ≤ r → r < 8 → zby (J (M + 1) (2 * nb + 1) ||| ((zi (V 24 p)).toInt64 <<< ((zi (8 * qand (mt - fl + p) 7)).toInt64 &&& 63))) r = cBy V mt fl (p + 1) (r + 8) := by
          intro r r0 r1
          have q0 := (hJ ((mt - fl + p) % 8) (by omega) (by omega)).2
          rw [zby_or ht hv ⟨r0, r1⟩ (by rw [q0]; unfold cBy; rw [if_neg (by omega)])]
          unfold cBy
          by_cases hr : r = (mt - fl + p) % 8
          · rw [if_pos hr, if_pos (by omega), show r + 8 - (mt - fl) = p by omega]
          · rw [if_neg hr, (hJ r r0 r1).2]
            unfold cBy
            by_cases hc : mt - fl ≤ r + 8 ∧ r + 8 < mt - fl + p
            · rw [if_pos hc, if_pos (by omega)]
            · rw [if_neg hc, if_neg (by omega)]
        obtain ⟨J', q1, q2, q3⟩ := ih (jup J (M + 1) (2 * nb + 1) (J (M + 1) (2 * nb + 1) ||| ((zi (V 24 p)).toInt64 <<< ((zi (8 * qand (mt - fl + p) 7)).toInt64 &&& 63)))) (p + 1) (.int (zi (mt - fl + p))) (by omega) (by omega) (by omega) (by
          intro r r0 r1
          rw [jup_k (show 2 * nb ≠ 2 * nb + 1 by omega), jup_at]
          refine ⟨?_, hs r r0 r1⟩
          rw [(hJ r r0 r1).1]
          unfold cBy
          by_cases hc : mt - fl ≤ r ∧ r < mt - fl + p
          · rw [if_pos hc, if_pos (by omega)]
          · rw [if_neg hc, if_neg (by omega)])
        refine ⟨J', ?_, ?_, q3⟩
        · rw [← q1, ze_35_52 _ _ _ _ hM]
          simp (disch := first | omega | assumption | (simp (disch := omega) only [vup_fn, vup_o, vup_k, vup_at]; first | done | omega | assumption)) only [e2, e3, ze_35_89, Int.add_zero, ↓reduceIte, qw_id, zck_T, zck_t, zGor_v, zGor_n, zGor_e, zbs, vup_at, vup_vup, vup_self, vup_o, vup_k, vup_fn, ne_eq, not_true_eq_false, not_false_eq_true, and_true, true_and, and_self, and_false, false_and, or_true, true_or, or_self, or_false, false_or, xlt_t, xlt_f, xle_t, xle_f, xeq_t, xeq_f, xand_f, xor_t]
        · intro o k hk
          rw [q2 o k hk]
          unfold jup
          rw [if_neg (fun w => hk ⟨w.1, Or.inr w.2⟩)]
      · have hs : ∀ r, 0 ≤ r → r < 8 → zby (J (M + 1) (2 * nb) ||| ((zi (V 24 p)).toInt64 <<< ((zi (8 * qand (mt - fl + p) 7)).toInt64 &&& 63))) r = cBy V mt fl (p + 1) r := by
          intro r r0 r1
          have q0 := (hJ ((mt - fl + p) % 8) (by omega) (by omega)).1
          rw [zby_or ht hv ⟨r0, r1⟩ (by rw [q0]; unfold cBy; rw [if_neg (by omega)])]
          unfold cBy
          by_cases hr : r = (mt - fl + p) % 8
          · rw [if_pos hr, if_pos (by omega), show r - (mt - fl) = p by omega]
          · rw [if_neg hr, (hJ r r0 r1).1]
            unfold cBy
            by_cases hc : mt - fl ≤ r ∧ r < mt - fl + p
            · rw [if_pos hc, if_pos (by omega)]
            · rw [if_neg hc, if_neg (by omega)]
        obtain ⟨J', q1, q2, q3⟩ := ih (jup J (M + 1) (2 * nb) (J (M + 1) (2 * nb) ||| ((zi (V 24 p)).toInt64 <<< ((zi (8 * qand (mt - fl + p) 7)).toInt64 &&& 63)))) (p + 1) (.int (zi (mt - fl + p))) (by omega) (by omega) (by omega) (by
          intro r r0 r1
          rw [jup_k (show 2 * nb + 1 ≠ 2 * nb by omega), jup_at]
          refine ⟨hs r r0 r1, ?_⟩
          rw [(hJ r r0 r1).2]
          unfold cBy
          by_cases hc : mt - fl ≤ r + 8 ∧ r + 8 < mt - fl + p
          · rw [if_pos hc, if_pos (by omega)]
          · rw [if_neg hc, if_neg (by omega)])
        refine ⟨J', ?_, ?_, q3⟩
        · rw [← q1, ze_35_52 _ _ _ _ hM]
          simp (disch := first | omega | assumption | (simp (disch := omega) only [vup_fn, vup_o, vup_k, vup_at]; first | done | omega | assumption)) only [e2, e3, ze_35_89, Int.add_zero, ↓reduceIte, qw_id, zck_T, zck_t, zGor_v, zGor_n, zGor_e, zbs, vup_at, vup_vup, vup_self, vup_o, vup_k, vup_fn, ne_eq, not_true_eq_false, not_false_eq_true, and_true, true_and, and_self, and_false, false_and, or_true, true_or, or_self, or_false, false_or, xlt_t, xlt_f, xle_t, xle_f, xeq_t, xeq_f, xand_f, xor_t]
        · intro o k hk
          rw [q2 o k hk]
          unfold jup
          rw [if_neg (fun w => hk ⟨w.1, Or.inl w.2⟩)]
theorem sp35 (hM : zBk 5 M) {fl mt nb : Int} (hf : 1 ≤ fl ∧ fl ≤ mt) (hm : mt ≤ 16) (hn : 0 ≤ nb ∧ nb < 40) (e2 : V M 2 = nb) (e3 : V M 3 = mt) (hb : ∀ t, 0 ≤ t → t < fl → 0 ≤ V 24 t ∧ V 24 t < 256) :
    ∃ J', zGo false 35 0 [.ref M, .ref 24, .int (zi fl), .null, .null] [] (zm V J d) = some (.inl none, zm (vup V M 2 (nb + 1)) J' d) ∧ (∀ o k, ¬(o = M + 1 ∧ (k = 2 * nb ∨ k = 2 * nb + 1)) → J' o k = J o k) ∧ ∀ r, 0 ≤ r → r < 8 → zby (J' (M + 1) (2 * nb)) r = cBy V mt fl fl r ∧ zby (J' (M + 1) (2 * nb + 1)) r = cBy V mt fl fl (r + 8) := by
  obtain ⟨J', q1, q2, q3⟩ := sl35 (d := d) hM hf hm hn e2 e3 hb 100 (jup (jup J (M + 1) (2 * nb) (Int64.ofNat 0)) (M + 1) (2 * nb + 1) (Int64.ofNat 0)) 0 .null (by omega) (by omega) (by omega) (by
    intro r r0 r1
    rw [jup_k (show 2 * nb ≠ 2 * nb + 1 by omega), jup_at, jup_at, zby_0]
    unfold cBy
    rw [if_neg (by omega), if_neg (by omega)]
    exact ⟨rfl, rfl⟩)
  refine ⟨J', ?_, ?_, q3⟩
  · have hz := zb5_1 hM
    rw [← q1, ze_35_0 _ _ hM]
    simp (disch := first | omega | assumption | (simp (disch := omega) only [vup_fn, vup_o, vup_k, vup_at]; first | done | omega | assumption)) only [e2, e3, Int.add_zero, ↓reduceIte, qw_id, zck_T, zck_t, zGor_v, zGor_n, zGor_e, zbs, vup_at, vup_vup, vup_self, vup_o, vup_k, vup_fn, ne_eq, not_true_eq_false, not_false_eq_true, and_true, true_and, and_self, and_false, false_and, or_true, true_or, or_self, or_false, false_or, xlt_t, xlt_f, xle_t, xle_f, xeq_t, xeq_f, xand_f, xor_t]
  · intro o k hk
    rw [q2 o k hk]
    unfold jup
    rw [if_neg (fun w => hk ⟨w.1, Or.inr w.2⟩), if_neg (fun w => hk ⟨w.1, Or.inl w.2⟩)]
end
