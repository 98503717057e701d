/-! part 67: two machines at one call; what the calls share; error, errorAt, tokens, token, bars -/
/-- the reference's turn: method R answers x (when it tells 0), tells c, and the invariant holds -/
def zRn (N : Int) (V : zVt) (J : zJt) (R : Nat) (l : List Value) (c x : Int) : Prop := ∀ (J1 : zJt) (d1 : Nat → Nat → UInt64), (∀ o : Nat, o ≠ 474 → J1 o = J o) → ∃ y V2 J2, zGo false R 0 l [] (zm V J1 d1) = zI1 y V2 J2 d1 ∧ V2 430 60 = c ∧ zInv (N + 1) V2 J2 ∧ J2 474 = J1 474 ∧ (c = 0 → y = x)
/-- one call of the law: class method C, reference method R, the exceptions that the stub catches -/
def zTw (N : Int) (V : zVt) (J : zJt) (C : Nat) (lc : List Value) (R : Nat) (lr : List Value) (cs : List Nat) : Prop := ∀ d : Nat → Nat → UInt64, (∃ x V1 J1, zGo false C 0 lc [] (zm V J d) = zI1 x V1 J1 d ∧ zRn N V1 J1 R lr 0 x) ∨ ∃ (i e : Nat) (V1 : zVt) (J1 : zJt), cs[i]? = some e ∧ zGo false C 0 lc [] (zm V J d) = zE1 e V1 J1 d ∧ zRn N V1 J1 R lr ((i : Int) + 1) 0
theorem pM_r {V : zVt} {J : zJt} : pM V V J J := ⟨fun _ _ => rfl, ⟨rfl, rfl, rfl, rfl, rfl⟩, rfl, rfl⟩
theorem pC_r {V : zVt} {J : zJt} : pC V V J J := ⟨fun _ _ => rfl, fun _ _ => rfl⟩
theorem pM_t {V V1 V2 : zVt} {J J1 J2 : zJt} (h : pM V V1 J J1) (h2 : pM V1 V2 J1 J2) : pM V V2 J J2 := ⟨fun o ho => (h2.1 o ho).trans (h.1 o ho), ⟨h2.2.1.1.trans h.2.1.1, h2.2.1.2.1.trans h.2.1.2.1, h2.2.1.2.2.1.trans h.2.1.2.2.1, h2.2.1.2.2.2.1.trans h.2.1.2.2.2.1, h2.2.1.2.2.2.2.trans h.2.1.2.2.2.2⟩, h2.2.2.1.trans h.2.2.1, h2.2.2.2.trans h.2.2.2⟩
theorem pC_t {V V1 V2 : zVt} {J J1 J2 : zJt} (h : pC V V1 J J1) (h2 : pC V1 V2 J1 J2) : pC V V2 J J2 := ⟨fun o ho => (h2.1 o ho).trans (h.1 o ho), fun o ho => (h2.2 o ho).trans (h.2 o ho)⟩
theorem pM_60 {V : zVt} {J : zJt} {c : Int} : pM V (vup V 430 60 c) J J := ⟨fun o ho => vup_fn (by omega), ⟨vup_k (by decide), vup_k (by decide), vup_k (by decide), vup_k (by decide), vup_k (by decide)⟩, rfl, rfl⟩
theorem pC_60 {V : zVt} {J : zJt} {c : Int} : pC V (vup V 430 60 c) J J := ⟨fun o ho => vup_fn (by omega), fun _ _ => rfl⟩
theorem pM_j {V : zVt} {J J1 : zJt} (h : ∀ o : Nat, o ≠ 474 → J1 o = J o) : pM V V J J1 := ⟨fun _ _ => rfl, ⟨rfl, rfl, rfl, rfl, rfl⟩, h _ (by decide), h _ (by decide)⟩
theorem pC_j {V : zVt} {J J1 : zJt} (h : ∀ o : Nat, o ≠ 474 → J1 o = J o) : pC V V J J1 := ⟨fun _ _ => rfl, fun o ho => h o (by omega)⟩
theorem pM_fr {V V' : zVt} {J : zJt} (h : mFr V V') : pM V V' J J := ⟨fun o ho => h.1 o (by omega), ⟨h.2 _ (by omega), h.2 _ (by omega), h.2 _ (by omega), h.2 _ (by omega), h.2 _ (by omega)⟩, rfl, rfl⟩
theorem pC_fr {V V' : zVt} {J : zJt} (h : mFr V V') : pC V V' J J := ⟨fun o ho => h.1 o (by omega), fun _ _ => rfl⟩
theorem zInv_up {N : Int} {V : zVt} {J : zJt} (h : zInv N V J) (hN : N < 600) : zInv (N + 1) V J := by
  obtain ⟨a1, a2, a3, a4, a5, a6, a7, a8, a9, a10⟩ := h
  refine ⟨a1, a2, a3, a4, a5, a6, ?_, ?_, ⟨a9.1, a9.2.1, by omega⟩, by omega⟩
  · obtain ⟨b1, b2, b3, b4, b5, b6, b7, b8⟩ := a7
    refine ⟨b1, b2, b3, b4, by omega, b6, b7, fun k k0 k1 => ?_⟩
    obtain ⟨c1, c2, c3, c4, c5, c6, c7, c8, c9⟩ := b8 k k0 k1
    exact ⟨c1, c2, c3, c4, c5, c6, c7, c8, by omega⟩
  · intro i i0 i1
    obtain ⟨b1, b2, b3⟩ := a8 i i0 i1
    exact ⟨b1, by omega, b3⟩
/-- a turn that changes nothing that stays -/
theorem zRn_of {N : Int} {V : zVt} {J : zJt} {R : Nat} {l : List Value} {c x : Int} (h : zInv N V J) (hN : N < 600) (hr : ∀ (J1 : zJt) (d1 : Nat → Nat → UInt64), (∀ o : Nat, o ≠ 474 → J1 o = J o) → zInv N V J1 → ∃ y V2 J2, zGo false R 0 l [] (zm V J1 d1) = zI1 y V2 J2 d1 ∧ V2 430 60 = c ∧ pM V V2 J1 J2 ∧ pC V V2 J1 J2 ∧ J2 474 = J1 474 ∧ (c = 0 → y = x)) : zRn N V J R l c x := by
  intro J1 d1 hj
  have h1 := zInv_fr (pM_j hj) (pC_j hj) h
  obtain ⟨y, V2, J2, q1, q2, q3, q4, q5, q6⟩ := hr J1 d1 hj h1
  exact ⟨y, V2, J2, q1, q2, zInv_up (zInv_fr q3 q4 h1) hN, q5, q6⟩
def gC (p q r : Int) : Int := if p = 0 then 1 else if q = 0 then 2 else if r = 0 then 3 else 0
section
variable {V : zVt} {J : zJt} {d : Nat → Nat → UInt64}
theorem sm150 {p q r : Int} (hp : p = 0 ∨ p = 1) (hq : q = 0 ∨ q = 1) (hr : r = 0 ∨ r = 1) : zGo false 150 0 [.ref 430, .int (zi p), .int (zi q), .int (zi r)] [] (zm V J d) = zI1 (if gC p q r = 0 then 1 else 0) (vup V 430 60 (gC p q r)) J d := by
  unfold gC
  by_cases h1 : p = 0
  · simp (disch := first | omega | assumption | (simp (disch := omega) only [vup_fn, vup_o, vup_k, vup_at]; first | done | omega | assumption)) only [ze_150_0, ze_150_26, ze_150_41, Int.add_zero, ↓reduceIte, qw_id, zck_T, zck_t, zGor_v, zGor_n, zGor_e, zbs, vup_at, vup_vup, vup_self, vup_o, vup_k, vup_fn, ne_eq, not_true_eq_false, not_false_eq_true, and_true, true_and, and_self, and_false, false_and, or_true, true_or, or_self, or_false, false_or, xlt_t, xlt_f, xle_t, xle_f, xeq_t, xeq_f, xand_f, xor_t]
  · by_cases h2 : q = 0
    · simp (disch := first | omega | assumption | (simp (disch := omega) only [vup_fn, vup_o, vup_k, vup_at]; first | done | omega | assumption)) only [ze_150_0, ze_150_26, ze_150_41, Int.add_zero, ↓reduceIte, qw_id, zck_T, zck_t, zGor_v, zGor_n, zGor_e, zbs, vup_at, vup_vup, vup_self, vup_o, vup_k, vup_fn, ne_eq, not_true_eq_false, not_false_eq_true, and_true, true_and, and_self, and_false, false_and, or_true, true_or, or_self, or_false, false_or, xlt_t, xlt_f, xle_t, xle_f, xeq_t, xeq_f, xand_f, xor_t]
    · by_cases h3 : r = 0
      · simp (disch := first | omega | assumption | (simp (disch := omega) only [vup_fn, vup_o, vup_k, vup_at]; first | done | omega | assumption)) only [ze_150_0, ze_150_26, ze_150_41, Int.add_zero, ↓reduceIte, qw_id, zck_T, zck_t, zGor_v, zGor_n, zGor_e, zbs, vup_at, vup_vup, vup_self, vup_o, vup_k, vup_fn, ne_eq, not_true_eq_false, not_false_eq_true, and_true, true_and, and_self, and_false, false_and, or_true, true_or, or_self, or_false, false_or, xlt_t, xlt_f, xle_t, xle_f, xeq_t, xeq_f, xand_f, xor_t]
      · simp (disch := first | omega | assumption | (simp (disch := omega) only [vup_fn, vup_o, vup_k, vup_at]; first | done | omega | assumption)) only [ze_150_0, ze_150_26, ze_150_41, Int.add_zero, ↓reduceIte, qw_id, zck_T, zck_t, zGor_v, zGor_n, zGor_e, zbs, vup_at, vup_vup, vup_self, vup_o, vup_k, vup_fn, ne_eq, not_true_eq_false, not_false_eq_true, and_true, true_and, and_self, and_false, false_and, or_true, true_or, or_self, or_false, false_or, xlt_t, xlt_f, xle_t, xle_f, xeq_t, xeq_f, xand_f, xor_t]
theorem sm146 {a b : Int} (ha : -2147483648 ≤ a ∧ a < 2147483648) (hb : -2147483648 ≤ b ∧ b < 2147483648) : zGo false 146 0 [.int (zi a), .int (zi b)] [] (zm V J d) = zI1 (if (0 ≤ a ∧ a < 3) ∧ (0 ≤ b ∧ b < 4) then 1 else 0) V J d := by
  have e1 := sp147 (V := V) (J := J) (d := d) (a := a) (b := 3) ha (by decide)
  have e2 := sp147 (V := V) (J := J) (d := d) (a := b) (b := 4) hb (by decide)
  by_cases h1 : 0 ≤ a ∧ a < 3
  · rw [if_pos h1] at e1
    by_cases h2 : 0 ≤ b ∧ b < 4
    · rw [if_pos h2] at e2
      rw [if_pos ⟨h1, h2⟩]
      simp (disch := first | omega | assumption | (simp (disch := omega) only [vup_fn, vup_o, vup_k, vup_at]; first | done | omega | assumption)) only [ze_146_0, ze_146_5, ze_146_13, ze_146_20, ze_146_21, e1, e2, Int.add_zero, ↓reduceIte, qw_id, zck_T, zck_t, zGor_v, zGor_n, zGor_e, zbs, vup_at, vup_vup, vup_self, vup_o, vup_k, vup_fn, ne_eq, not_true_eq_false, not_false_eq_true, and_true, true_and, and_self, and_false, false_and, or_true, true_or, or_self, or_false, false_or, xlt_t, xlt_f, xle_t, xle_f, xeq_t, xeq_f, xand_f, xor_t]
    · rw [if_neg h2] at e2
      rw [if_neg (fun q => h2 q.2)]
      simp (disch := first | omega | assumption | (simp (disch := omega) only [vup_fn, vup_o, vup_k, vup_at]; first | done | omega | assumption)) only [ze_146_0, ze_146_5, ze_146_13, ze_146_20, ze_146_21, e1, e2, Int.add_zero, ↓reduceIte, qw_id, zck_T, zck_t, zGor_v, zGor_n, zGor_e, zbs, vup_at, vup_vup, vup_self, vup_o, vup_k, vup_fn, ne_eq, not_true_eq_false, not_false_eq_true, and_true, true_and, and_self, and_false, false_and, or_true, true_or, or_self, or_false, false_or, xlt_t, xlt_f, xle_t, xle_f, xeq_t, xeq_f, xand_f, xor_t]
  · rw [if_neg h1] at e1
    rw [if_neg (fun q => h1 q.1)]
    simp (disch := first | omega | assumption | (simp (disch := omega) only [vup_fn, vup_o, vup_k, vup_at]; first | done | omega | assumption)) only [ze_146_0, ze_146_5, ze_146_13, ze_146_20, ze_146_21, e1, Int.add_zero, ↓reduceIte, qw_id, zck_T, zck_t, zGor_v, zGor_n, zGor_e, zbs, vup_at, vup_vup, vup_self, vup_o, vup_k, vup_fn, ne_eq, not_true_eq_false, not_false_eq_true, and_true, true_and, and_self, and_false, false_and, or_true, true_or, or_self, or_false, false_or, xlt_t, xlt_f, xle_t, xle_f, xeq_t, xeq_f, xand_f, xor_t]
theorem cp100e {a b : Int} (ha : -2147483648 ≤ a ∧ a < 2147483648) (hb : -2147483648 ≤ b ∧ b < 2147483648) (h : ¬((0 ≤ a ∧ a < 3) ∧ (0 ≤ b ∧ b < 4))) : zGo false 100 0 [.ref 0, .int (zi a), .int (zi b), .null] [] (zm V J d) = zE1 0 V J d := by
  have e := cp97 (V := V) (J := J) (d := d) ha hb
  rw [if_neg h] at e
  simp (disch := first | omega | assumption | (simp (disch := omega) only [vup_fn, vup_o, vup_k, vup_at]; first | done | omega | assumption)) only [ze_100_0, ze_100_6, ze_100_23, ze_100_46, ze_100_73, e, Int.add_zero, ↓reduceIte, qw_id, zck_T, zck_t, zGor_v, zGor_n, zGor_e, zbs, vup_at, vup_vup, vup_self, vup_o, vup_k, vup_fn, ne_eq, not_true_eq_false, not_false_eq_true, and_true, true_and, and_self, and_false, false_and, or_true, true_or, or_self, or_false, false_or, xlt_t, xlt_f, xle_t, xle_f, xeq_t, xeq_f, xand_f, xor_t]
/-- the reference's error of the text alone -/
theorem mErr {N : Int} (hi : zInv N V J) {w : Nat} (hw : w < 12) (hr : V (50 + 15 * w) 2 = 1) : ∃ V' J', zGo false 153 0 [.ref 430, .int (zi 0), .int (zi w), .int (zi (-1))] [] (zm V J d) = zI1 (V (50 + 15 * w) 4) V' J' d ∧ mFm 0 V J V' J' ∧ V' 430 13 = V (50 + 15 * w) 4 ∧ mEat V' (V (50 + 15 * w) 4) (V (50 + 15 * w) 5) (V 432 w) := by
  obtain ⟨⟨n, b, F, A, fa, hx, h4, h5⟩, _⟩ := (hi.2.2.1 w hw).2.2.2.2.2.1 hr
  obtain ⟨c1, c2, c3, c4, c5⟩ := hi.2.1
  rw [c3, c4, c5, c2] at h4 h5
  obtain ⟨V', J', q1, q2, q3, q4, q5, q6, q7, q8⟩ := sm153 (V := V) (J := J) (d := d) hi.1.1 (w := w) (s := 0) (e := -1) (by omega) (by decide) (Or.inl ⟨rfl, fun _ => rfl⟩) rfl hx.1 (fun _ => aGood_0 c1 (fun _ _ _ => rfl))
  rw [h4, h5]
  exact ⟨V', J', q1, q2, q7, q8⟩
theorem mLib {N : Int} (hi : zInv N V J) {w : Nat} (hw : w < 12) (hr : V (50 + 15 * w) 2 = 1) {s : Int} (hs : 0 ≤ s ∧ s < 5) : ∃ V' J', zGo false 183 0 [.ref 430, .int (zi s), .int (zi w)] [] (zm V J d) = zI1 (V (63 + 15 * w) 0) V' J' d ∧ mFm s V J V' J' ∧ rMus V J (63 + 15 * w) V' J' s := by
  have hp := hi.2.2.1 w hw
  obtain ⟨V', J', q1, q2, q3⟩ := mMus (d := d) hw hi.1 hi.2.1 (hp.2.2.2.2.2.1 hr).2 hs (e := 40 + w) (by omega) (fun c c0 c1 => by rw [(hp.2.2.2.1.1 c c0 c1).1, show 61 + 15 * w + 1 = 62 + 15 * w by omega])
  refine ⟨V', J', ?_, q2, q3⟩
  rw [ze_183_0, q1]
  simp (disch := first | omega | assumption | (simp (disch := omega) only [vup_fn, vup_o, vup_k, vup_at]; first | done | omega | assumption)) only [ze_183_10, Int.add_zero, ↓reduceIte, qw_id, zck_T, zck_t, zGor_v, zGor_n, zGor_e, zbs, vup_at, vup_vup, vup_self, vup_o, vup_k, vup_fn, ne_eq, not_true_eq_false, not_false_eq_true, and_true, true_and, and_self, and_false, false_and, or_true, true_or, or_self, or_false, false_or, xlt_t, xlt_f, xle_t, xle_f, xeq_t, xeq_f, xand_f, xor_t]
theorem mLex {N : Int} (hi : zInv N V J) {w : Nat} (hw : w < 12) (hr : V (50 + 15 * w) 2 = 1) : ∃ V', zGo false 154 0 [.ref 430, .int (zi w), .null, .null] [] (zm V J d) = zN1 V' J d ∧ V' 430 10 = V (52 + 15 * w) 0 ∧ (0 ≤ V (52 + 15 * w) 0 ∧ V (52 + 15 * w) 0 ≤ 60) ∧ (∀ k, 0 ≤ k → k < V (52 + 15 * w) 0 → V' 433 k = V (53 + 15 * w) k) ∧ mFr V V' := by
  obtain ⟨⟨n, b, F, A, fa, hx, h4, h5⟩, _⟩ := (hi.2.2.1 w hw).2.2.2.2.2.1 hr
  obtain ⟨V', c', b', q1, q2, q3, q4, q5, q6⟩ := sp154 (V := V) (J := J) (d := d) hi.1.1 (w := w) (by omega)
  obtain ⟨e1, e2⟩ := yLx_un hx.1.1 q2
  subst e1
  refine ⟨V', q1, by rw [q3, hx.2.1], by rw [hx.2.1]; exact q2.1, fun k k0 k1 => ?_, q6⟩
  rw [hx.2.1] at k1
  rw [(q5 k k0 k1).1, ← show 52 + 15 * w + 1 = 53 + 15 * w by omega, (hx.2.2.2.2.2.1 k k0 k1).1]
theorem mN5 {s : Int} {V V' : zVt} {J J' : zJt} (h : mFm s V J V' J') : J' 474 = J 474 := h.2.2.2.2.1 474 (by decide) (by decide)
end
section
variable {V : zVt} {J : zJt} {N a b : Int}
theorem cRd_f (h : zInv N V J) {w : Nat} (hw : w < 12) (hr : V (50 + 15 * w) 2 = 1) : 0 ≤ V (50 + 15 * w) 4 ∧ V (50 + 15 * w) 4 ≤ 10 := by
  obtain ⟨⟨n, b, F, A, fa, hx, h4, h5⟩, hms⟩ := (h.2.2.1 w hw).2.2.2.2.2.1 hr
  have ht := zt_ok h.1.1 (w := (w : Int)) (by omega)
  obtain ⟨u1, u2, u3, u4, u5, u6, u7⟩ := yTx_rng hx.1 ht
  rw [h4]
  generalize aP (yTt V w) (V 432 w) n (fun _ => 0) (V 4) (V 5) (V 6) (V 3 0) = P
  have h7 := yAll_7 P
  by_cases hF : F = 0
  · rw [show sF P F = yAll P 0 7 from if_neg (fun w' => w' hF)]
    omega
  · rw [show sF P F = F from if_pos hF]
    omega
theorem cMu_ok (h : zInv N V J) {w : Nat} (hw : w < 12) (hr : V (50 + 15 * w) 2 = 1) : cMok V (63 + 15 * w) := iMs_ok (zt_ok h.1.1 (w := (w : Int)) (by omega)) ((h.2.2.1 w hw).2.2.2.2.2.1 hr).2
theorem x99 (h : zInv N V J) (hN : N < 600) (ha : -2147483648 ≤ a ∧ a < 2147483648) (hb : -2147483648 ≤ b ∧ b < 2147483648) : zTw N V J 99 [.ref 0, .int (zi a), .int (zi b)] 152 [.ref 430, .int (zi a), .int (zi b)] [0] := by
  intro d
  by_cases hp : (0 ≤ a ∧ a < 3) ∧ (0 ≤ b ∧ b < 4)
  · left
    obtain ⟨V1, J1, q1, q2, q3, q4, q5⟩ := cp100 (d := d) h hp
    have hw12 : (4 * a + b).toNat < 12 := by omega
    have hwi : (((4 * a + b).toNat : Nat) : Int) = 4 * a + b := by omega
    generalize (4 * a + b).toNat = w at *
    have hB := zBk_part hw12
    refine ⟨V1 (50 + 15 * w) 4, V1, J1, ?_, zRn_of q2 hN ?_⟩
    · simp (disch := first | omega | assumption | (simp (disch := omega) only [vup_fn, vup_o, vup_k, vup_at]; first | done | omega | assumption)) only [ze_99_0, ze_99_6, q1, Int.add_zero, ↓reduceIte, qw_id, zck_T, zck_t, zGor_v, zGor_n, zGor_e, zbs, vup_at, vup_vup, vup_self, vup_o, vup_k, vup_fn, ne_eq, not_true_eq_false, not_false_eq_true, and_true, true_and, and_self, and_false, false_and, or_true, true_or, or_self, or_false, false_or, xlt_t, xlt_f, xle_t, xle_f, xeq_t, xeq_f, xand_f, xor_t]
    intro J2 d2 hj hi
    have hi2 := zInv_fr (pM_60 (c := gC 1 1 1)) pC_60 hi
    have e1 := sm146 (V := V1) (J := J2) (d := d2) ha hb
    rw [if_pos hp] at e1
    have e2 := sm150 (V := V1) (J := J2) (d := d2) (p := 1) (q := 1) (r := 1) (by omega) (by omega) (by omega)
    rw [if_pos (show gC 1 1 1 = 0 from rfl)] at e2
    obtain ⟨V3, J3, m1, m2, m3, m4⟩ := mErr (d := d2) hi2 hw12 (by rw [vup_fn (by omega)]; exact q4)
    rw [vup_fn (by omega)] at m1 m3
    rw [hwi] at m1
    refine ⟨V1 (50 + 15 * w) 4, V3, J3, ?_, by rw [m2.2.1 60 (by omega), vup_at]; rfl, pM_t pM_60 (mFm_pM m2), pC_t pC_60 (mFm_pC m2), mN5 m2, fun _ => rfl⟩
    simp (disch := first | omega | assumption | (simp (disch := omega) only [vup_fn, vup_o, vup_k, vup_at]; first | done | omega | assumption)) only [ze_152_0, ze_152_6, ze_152_11, ze_152_25, ze_152_29, e1, e2, m1, Int.add_zero, ↓reduceIte, qw_id, zck_T, zck_t, zGor_v, zGor_n, zGor_e, zbs, vup_at, vup_vup, vup_self, vup_o, vup_k, vup_fn, ne_eq, not_true_eq_false, not_false_eq_true, and_true, true_and, and_self, and_false, false_and, or_true, true_or, or_self, or_false, false_or, xlt_t, xlt_f, xle_t, xle_f, xeq_t, xeq_f, xand_f, xor_t]
  · right
    have e := cp100e (V := V) (J := J) (d := d) ha hb hp
    refine ⟨0, 0, V, J, rfl, ?_, zRn_of h hN ?_⟩
    · simp (disch := first | omega | assumption | (simp (disch := omega) only [vup_fn, vup_o, vup_k, vup_at]; first | done | omega | assumption)) only [ze_99_0, ze_99_6, e, Int.add_zero, ↓reduceIte, qw_id, zck_T, zck_t, zGor_v, zGor_n, zGor_e, zbs, vup_at, vup_vup, vup_self, vup_o, vup_k, vup_fn, ne_eq, not_true_eq_false, not_false_eq_true, and_true, true_and, and_self, and_false, false_and, or_true, true_or, or_self, or_false, false_or, xlt_t, xlt_f, xle_t, xle_f, xeq_t, xeq_f, xand_f, xor_t]
    intro J2 d2 hj hi
    have e1 := sm146 (V := V) (J := J2) (d := d2) ha hb
    rw [if_neg hp] at e1
    have e2 := sm150 (V := V) (J := J2) (d := d2) (p := 0) (q := 1) (r := 1) (by omega) (by omega) (by omega)
    rw [if_neg (show ¬ gC 0 1 1 = 0 by decide)] at e2
    refine ⟨0, vup V 430 60 (gC 0 1 1), J2, ?_, vup_at _ _ _ _, pM_60, pC_60, rfl, fun w => by omega⟩
    simp (disch := first | omega | assumption | (simp (disch := omega) only [vup_fn, vup_o, vup_k, vup_at]; first | done | omega | assumption)) only [ze_152_0, ze_152_6, ze_152_11, ze_152_25, ze_152_29, e1, e2, Int.add_zero, ↓reduceIte, qw_id, zck_T, zck_t, zGor_v, zGor_n, zGor_e, zbs, vup_at, vup_vup, vup_self, vup_o, vup_k, vup_fn, ne_eq, not_true_eq_false, not_false_eq_true, and_true, true_and, and_self, and_false, false_and, or_true, true_or, or_self, or_false, false_or, xlt_t, xlt_f, xle_t, xle_f, xeq_t, xeq_f, xand_f, xor_t]
theorem x102 (h : zInv N V J) (hN : N < 600) (ha : -2147483648 ≤ a ∧ a < 2147483648) (hb : -2147483648 ≤ b ∧ b < 2147483648) : zTw N V J 102 [.ref 0, .int (zi a), .int (zi b)] 179 [.ref 430, .int (zi a), .int (zi b), .null] [0] := by
  intro d
  by_cases hp : (0 ≤ a ∧ a < 3) ∧ (0 ≤ b ∧ b < 4)
  · left
    obtain ⟨V1, J1, q1, q2, q3, q4, q5⟩ := cp100 (d := d) h hp
    have hw12 : (4 * a + b).toNat < 12 := by omega
    have hwi : (((4 * a + b).toNat : Nat) : Int) = 4 * a + b := by omega
    generalize (4 * a + b).toNat = w at *
    have hB := zBk_part hw12
    refine ⟨V1 (50 + 15 * w) 5, V1, J1, ?_, zRn_of q2 hN ?_⟩
    · simp (disch := first | omega | assumption | (simp (disch := omega) only [vup_fn, vup_o, vup_k, vup_at]; first | done | omega | assumption)) only [ze_102_0, ze_102_6, q1, Int.add_zero, ↓reduceIte, qw_id, zck_T, zck_t, zGor_v, zGor_n, zGor_e, zbs, vup_at, vup_vup, vup_self, vup_o, vup_k, vup_fn, ne_eq, not_true_eq_false, not_false_eq_true, and_true, true_and, and_self, and_false, false_and, or_true, true_or, or_self, or_false, false_or, xlt_t, xlt_f, xle_t, xle_f, xeq_t, xeq_f, xand_f, xor_t]
    intro J2 d2 hj hi
    have hi2 := zInv_fr (pM_60 (c := gC 1 1 1)) pC_60 hi
    have e1 := sm146 (V := V1) (J := J2) (d := d2) ha hb
    rw [if_pos hp] at e1
    have e2 := sm150 (V := V1) (J := J2) (d := d2) (p := 1) (q := 1) (r := 1) (by omega) (by omega) (by omega)
    rw [if_pos (show gC 1 1 1 = 0 from rfl)] at e2
    obtain ⟨V3, J3, m1, m2, m3, m4⟩ := mErr (d := d2) hi2 hw12 (by rw [vup_fn (by omega)]; exact q4)
    have m4c := m4
    rw [vup_fn (by omega)] at m1 m3
    unfold mEat at m4
    rw [vup_fn (by omega), vup_fn (by omega)] at m4
    rw [hwi] at m1 m4
    have f432 : V3 432 (4 * a + b) = V1 432 (4 * a + b) := by rw [m2.1 432 (by omega), vup_fn (by omega)]
    have hrg : 0 ≤ V1 (50 + 15 * w) 4 ∧ V1 (50 + 15 * w) 4 < 100000 := by
      have := cRd_f q2 hw12 q4
      omega
    refine ⟨V1 (50 + 15 * w) 5, V3, J3, ?_, by rw [m2.2.1 60 (by omega), vup_at]; rfl, pM_t pM_60 (mFm_pM m2), pC_t pC_60 (mFm_pC m2), mN5 m2, fun _ => rfl⟩
    by_cases f0 : V1 (50 + 15 * w) 4 = 0
    · have f1 := m4.1 f0
      rw [f0] at m1 m3
      rw [f1]
      simp (disch := first | omega | assumption | (simp (disch := omega) only [vup_fn, vup_o, vup_k, vup_at]; first | done | omega | assumption)) only [ze_179_0, ze_179_6, ze_179_11, ze_179_29, ze_179_82, e1, e2, m1, m3, Int.add_zero, ↓reduceIte, qw_id, zck_T, zck_t, zGor_v, zGor_n, zGor_e, zbs, vup_at, vup_vup, vup_self, vup_o, vup_k, vup_fn, ne_eq, not_true_eq_false, not_false_eq_true, and_true, true_and, and_self, and_false, false_and, or_true, true_or, or_self, or_false, false_or, xlt_t, xlt_f, xle_t, xle_f, xeq_t, xeq_f, xand_f, xor_t]
    · by_cases f1 : V1 (50 + 15 * w) 4 = 1
      · have f2 := m4.2.1 f1
        rw [f1] at m1 m3
        rw [← f2]
        simp (disch := first | omega | assumption | (simp (disch := omega) only [vup_fn, vup_o, vup_k, vup_at]; first | done | omega | assumption)) only [ze_179_0, ze_179_6, ze_179_11, ze_179_29, ze_179_82, e1, e2, m1, m3, Int.add_zero, ↓reduceIte, qw_id, zck_T, zck_t, zGor_v, zGor_n, zGor_e, zbs, vup_at, vup_vup, vup_self, vup_o, vup_k, vup_fn, ne_eq, not_true_eq_false, not_false_eq_true, and_true, true_and, and_self, and_false, false_and, or_true, true_or, or_self, or_false, false_or, xlt_t, xlt_f, xle_t, xle_f, xeq_t, xeq_f, xand_f, xor_t]
      · rcases m4.2.2 f0 f1 with ⟨f2, f3⟩ | ⟨f2, f3⟩
        · rw [f3, ← f432]
          simp (disch := first | omega | assumption | (simp (disch := omega) only [vup_fn, vup_o, vup_k, vup_at]; first | done | omega | assumption)) only [ze_179_0, ze_179_6, ze_179_11, ze_179_29, ze_179_82, e1, e2, m1, m3, f2, Int.add_zero, ↓reduceIte, qw_id, zck_T, zck_t, zGor_v, zGor_n, zGor_e, zbs, vup_at, vup_vup, vup_self, vup_o, vup_k, vup_fn, ne_eq, not_true_eq_false, not_false_eq_true, and_true, true_and, and_self, and_false, false_and, or_true, true_or, or_self, or_false, false_or, xlt_t, xlt_f, xle_t, xle_f, xeq_t, xeq_f, xand_f, xor_t]
        · rw [← f3]
          simp (disch := first | omega | assumption | (simp (disch := omega) only [vup_fn, vup_o, vup_k, vup_at]; first | done | omega | assumption)) only [ze_179_0, ze_179_6, ze_179_11, ze_179_29, ze_179_82, e1, e2, m1, m3, Int.add_zero, ↓reduceIte, qw_id, zck_T, zck_t, zGor_v, zGor_n, zGor_e, zbs, vup_at, vup_vup, vup_self, vup_o, vup_k, vup_fn, ne_eq, not_true_eq_false, not_false_eq_true, and_true, true_and, and_self, and_false, false_and, or_true, true_or, or_self, or_false, false_or, xlt_t, xlt_f, xle_t, xle_f, xeq_t, xeq_f, xand_f, xor_t]
  · right
    have e := cp100e (V := V) (J := J) (d := d) ha hb hp
    refine ⟨0, 0, V, J, rfl, ?_, zRn_of h hN ?_⟩
    · simp (disch := first | omega | assumption | (simp (disch := omega) only [vup_fn, vup_o, vup_k, vup_at]; first | done | omega | assumption)) only [ze_102_0, ze_102_6, e, Int.add_zero, ↓reduceIte, qw_id, zck_T, zck_t, zGor_v, zGor_n, zGor_e, zbs, vup_at, vup_vup, vup_self, vup_o, vup_k, vup_fn, ne_eq, not_true_eq_false, not_false_eq_true, and_true, true_and, and_self, and_false, false_and, or_true, true_or, or_self, or_false, false_or, xlt_t, xlt_f, xle_t, xle_f, xeq_t, xeq_f, xand_f, xor_t]
    intro J2 d2 hj hi
    have e1 := sm146 (V := V) (J := J2) (d := d2) ha hb
    rw [if_neg hp] at e1
    have e2 := sm150 (V := V) (J := J2) (d := d2) (p := 0) (q := 1) (r := 1) (by omega) (by omega) (by omega)
    rw [if_neg (show ¬ gC 0 1 1 = 0 by decide)] at e2
    refine ⟨0, vup V 430 60 (gC 0 1 1), J2, ?_, vup_at _ _ _ _, pM_60, pC_60, rfl, fun w => by omega⟩
    simp (disch := first | omega | assumption | (simp (disch := omega) only [vup_fn, vup_o, vup_k, vup_at]; first | done | omega | assumption)) only [ze_179_0, ze_179_6, ze_179_11, ze_179_29, ze_179_82, e1, e2, Int.add_zero, ↓reduceIte, qw_id, zck_T, zck_t, zGor_v, zGor_n, zGor_e, zbs, vup_at, vup_vup, vup_self, vup_o, vup_k, vup_fn, ne_eq, not_true_eq_false, not_false_eq_true, and_true, true_and, and_self, and_false, false_and, or_true, true_or, or_self, or_false, false_or, xlt_t, xlt_f, xle_t, xle_f, xeq_t, xeq_f, xand_f, xor_t]
end
