/-! part 67: two machines at one call; what the calls share; error, errorAt, tokens, token, bars -/
/-- the reference's turn: method R answers x (when it tells 0), tells c, and the invariant holds -/
def zRn (N : Int) (V : zVt) (J : zJt) (R : Nat) (l : List Value) (c x : Int) : Prop := ∀ (J1 : zJt) (d1 : Nat → Nat → UInt64), (∀ o : Nat, o ≠ 474 → J1 o = J o) → ∃ y V2 J2, zGo false R 0 l [] (zm V J1 d1) = zI1 y V2 J2 d1 ∧ V2 480 60 = c ∧ zInv (N + 1) V2 J2 ∧ J2 474 = J1 474 ∧ (c = 0 → y = x)
/-- one call of the law: class method C, reference method R, the exceptions that the stub catches -/
def zTw (N : Int) (V : zVt) (J : zJt) (C : Nat) (lc : List Value) (R : Nat) (lr : List Value) (cs : List Nat) : Prop := ∀ d : Nat → Nat → UInt64, (∃ x V1 J1, zGo false C 0 lc [] (zm V J d) = zI1 x V1 J1 d ∧ zRn N V1 J1 R lr 0 x) ∨ ∃ (i e : Nat) (V1 : zVt) (J1 : zJt), cs[i]? = some e ∧ zGo false C 0 lc [] (zm V J d) = zE1 e V1 J1 d ∧ zRn N V1 J1 R lr ((i : Int) + 1) 0
theorem pM_r {V : zVt} {J : zJt} : pM V V J J := ⟨fun _ _ => rfl, ⟨rfl, rfl, rfl, rfl, rfl⟩, rfl, rfl⟩
theorem pC_r {V : zVt} {J : zJt} : pC V V J J := ⟨fun _ _ => rfl, fun _ _ => rfl⟩
theorem pM_t {V V1 V2 : zVt} {J J1 J2 : zJt} (h : pM V V1 J J1) (h2 : pM V1 V2 J1 J2) : pM V V2 J J2 := ⟨fun o ho => (h2.1 o ho).trans (h.1 o ho), ⟨h2.2.1.1.trans h.2.1.1, h2.2.1.2.1.trans h.2.1.2.1, h2.2.1.2.2.1.trans h.2.1.2.2.1, h2.2.1.2.2.2.1.trans h.2.1.2.2.2.1, h2.2.1.2.2.2.2.trans h.2.1.2.2.2.2⟩, h2.2.2.1.trans h.2.2.1, h2.2.2.2.trans h.2.2.2⟩
theorem pC_t {V V1 V2 : zVt} {J J1 J2 : zJt} (h : pC V V1 J J1) (h2 : pC V1 V2 J1 J2) : pC V V2 J J2 := ⟨fun o ho => (h2.1 o ho).trans (h.1 o ho), fun o ho => (h2.2 o ho).trans (h.2 o ho)⟩
theorem pM_60 {V : zVt} {J : zJt} {c : Int} : pM V (vup V 480 60 c) J J := ⟨fun o ho => vup_fn (by omega), ⟨vup_k (by decide), vup_k (by decide), vup_k (by decide), vup_k (by decide), vup_k (by decide)⟩, rfl, rfl⟩
theorem pC_60 {V : zVt} {J : zJt} {c : Int} : pC V (vup V 480 60 c) J J := ⟨fun o ho => vup_fn (by omega), fun _ _ => rfl⟩
theorem pM_j {V : zVt} {J J1 : zJt} (h : ∀ o : Nat, o ≠ 474 → J1 o = J o) : pM V V J J1 := ⟨fun _ _ => rfl, ⟨rfl, rfl, rfl, rfl, rfl⟩, h _ (by decide), h _ (by decide)⟩
theorem pC_j {V : zVt} {J J1 : zJt} (h : ∀ o : Nat, o ≠ 474 → J1 o = J o) : pC V V J J1 := ⟨fun _ _ => rfl, fun o ho => h o (by omega)⟩
theorem pM_fr {V V' : zVt} {J : zJt} (h : mFr V V') : pM V V' J J := ⟨fun o ho => h.1 o (by omega), ⟨h.2 _ (by omega), h.2 _ (by omega), h.2 _ (by omega), h.2 _ (by omega), h.2 _ (by omega)⟩, rfl, rfl⟩
theorem pC_fr {V V' : zVt} {J : zJt} (h : mFr V V') : pC V V' J J := ⟨fun o ho => h.1 o (by omega), fun _ _ => rfl⟩
theorem zInv_up {N : Int} {V : zVt} {J : zJt} (h : zInv N V J) (hN : N < 600) : zInv (N + 1) V J := by
  obtain ⟨a1, a2, a3, a4, a5, a6, a7, a8, a9, a10⟩ := h
  refine ⟨a1, a2, a3, a4, a5, a6, ?_, ?_, ⟨a9.1, a9.2.1, by omega⟩, by omega⟩
  · obtain ⟨b1, b2, b3, b4, b5, b6, b7, b8⟩ := a7
    refine ⟨b1, b2, b3, b4, by omega, b6, b7, fun k k0 k1 => ?_⟩
    obtain ⟨c1, c2, c3, c4, c5, c6, c7, c8, c9⟩ := b8 k k0 k1
    exact ⟨c1, c2, c3, c4, c5, c6, c7, c8, by omega⟩
  · intro i i0 i1
    obtain ⟨b1, b2, b3⟩ := a8 i i0 i1
    exact ⟨b1, by omega, b3⟩
/-- a turn that changes nothing that stays -/
theorem zRn_of {N : Int} {V : zVt} {J : zJt} {R : Nat} {l : List Value} {c x : Int} (h : zInv N V J) (hN : N < 600) (hr : ∀ (J1 : zJt) (d1 : Nat → Nat → UInt64), (∀ o : Nat, o ≠ 474 → J1 o = J o) → zInv N V J1 → ∃ y V2 J2, zGo false R 0 l [] (zm V J1 d1) = zI1 y V2 J2 d1 ∧ V2 480 60 = c ∧ pM V V2 J1 J2 ∧ pC V V2 J1 J2 ∧ J2 474 = J1 474 ∧ (c = 0 → y = x)) : zRn N V J R l c x := by
  intro J1 d1 hj
  have h1 := zInv_fr (pM_j hj) (pC_j hj) h
  obtain ⟨y, V2, J2, q1, q2, q3, q4, q5, q6⟩ := hr J1 d1 hj h1
  exact ⟨y, V2, J2, q1, q2, zInv_up (zInv_fr q3 q4 h1) hN, q5, q6⟩
def gC (p q r : Int) : Int := if p = 0 then 1 else if q = 0 then 2 else if r = 0 then 3 else 0
section
variable {V : zVt} {J : zJt} {d : Nat → Nat → UInt64}
theorem cp100e {a b : Int} (ha : -2147483648 ≤ a ∧ a < 2147483648) (hb : -2147483648 ≤ b ∧ b < 2147483648) (h : ¬((0 ≤ a ∧ a < 3) ∧ (0 ≤ b ∧ b < 4))) : zGo false 100 0 [.ref 0, .int (zi a), .int (zi b), .null] [] (zm V J d) = zE1 0 V J d := by
  have e := cp97 (V := V) (J := J) (d := d) ha hb
  rw [if_neg h] at e
  simp (disch := first | omega | assumption | (simp (disch := omega) only [vup_fn, vup_o, vup_k, vup_at]; first | done | omega | assumption)) only [ze_100_0, ze_100_6, ze_100_23, ze_100_46, ze_100_73, e, Int.add_zero, ↓reduceIte, qw_id, zck_T, zck_t, zGor_v, zGor_n, zGor_e, zbs, vup_at, vup_vup, vup_self, vup_o, vup_k, vup_fn, ne_eq, not_true_eq_false, not_false_eq_true, and_true, true_and, and_self, and_false, false_and, or_true, true_or, or_self, or_false, false_or, xlt_t, xlt_f, xle_t, xle_f, xeq_t, xeq_f, xand_f, xor_t]
theorem mN5 {s : Int} {V V' : zVt} {J J' : zJt} (h : mFm s V J V' J') : J' 474 = J 474 := h.2.2.2.2.1 474 (by decide) (by decide)
end
section
variable {V : zVt} {J : zJt} {N a b : Int}
theorem cRd_f (h : zInv N V J) {w : Nat} (hw : w < 12) (hr : V (50 + 15 * w) 2 = 1) : 0 ≤ V (50 + 15 * w) 4 ∧ V (50 + 15 * w) 4 ≤ 10 := by
  obtain ⟨⟨n, b, F, A, fa, hx, h4, h5⟩, hms⟩ := (h.2.2.1 w hw).2.2.2.2.2.1 hr
  have ht := zt_ok h.1.1 (w := (w : Int)) (by omega)
  obtain ⟨u1, u2, u3, u4, u5, u6, u7⟩ := yTx_rng hx.1 ht
  rw [h4]
  generalize aP (yTt V w) (V 432 w) n (fun _ => 0) (V 4) (V 5) (V 6) (V 3 0) = P
  have h7 := yAll_7 P
  by_cases hF : F = 0
  · rw [show sF P F = yAll P 0 7 from if_neg (fun w' => w' hF)]
    omega
  · rw [show sF P F = F from if_pos hF]
    omega
theorem cMu_ok (h : zInv N V J) {w : Nat} (hw : w < 12) (hr : V (50 + 15 * w) 2 = 1) : cMok V (63 + 15 * w) := iMs_ok (zt_ok h.1.1 (w := (w : Int)) (by omega)) ((h.2.2.1 w hw).2.2.2.2.2.1 hr).2
end
