/-! part 80: lend -/
theorem yCt_s {G : Int → Int} {k : Int} (h : 0 ≤ k) : yCt G (k + 1).toNat = yCt G k.toNat + if G k ≠ 0 then 1 else 0 := by
  rw [show (k + 1).toNat = k.toNat + 1 by omega]
  show yCt G k.toNat + (if G ((k.toNat : Nat) : Int) ≠ 0 then 1 else 0) = _
  rw [show ((k.toNat : Nat) : Int) = k by omega]
theorem yCt_more {H : Int → Int} {n : Nat} (m : Nat) (h : ∀ x : Int, (n : Int) ≤ x → x < ((n + m : Nat) : Int) → H x = 0) : yCt H (n + m) = yCt H n := by
  induction m with
  | zero => rfl
  | succ m ih =>
    show yCt H (n + m) + (if H ((n + m : Nat) : Int) ≠ 0 then 1 else 0) = yCt H n
    rw [ih (fun x x0 x1 => h x x0 (by omega)), if_neg (fun w => w (h _ (by omega) (by omega)))]
    exact Int.add_zero _
theorem aGood_H {T : Int → Int} {H H' q m v : Int → Int} {cnt n : Int} (h : aGood T H q m v cnt n) (e : ∀ c, 0 ≤ c → c < 200 → H' c = H c) : aGood T H' q m v cnt n := by
  obtain ⟨h1, h2, h3⟩ := h
  refine ⟨h1, fun c c0 c1 => ?_, fun c c0 c1 => ?_⟩
  · rw [e c c0 c1]
    exact h2 c c0 c1
  · rw [e c c0 (by omega)]
    exact h3 c c0 c1
theorem yTt_fr {V V' : zVt} {w : Nat} (h3 : V' 481 = V 481) (h4 : V' 432 = V 432) : yTt V' w = yTt V w := by
  unfold yTt
  rw [h3, h4]
theorem cRow_fr {V V' : zVt} {w : Nat} {T : Int → Int} {len n b F A fa : Int} (hr : ∀ o : Nat, 52 + 15 * w ≤ o → o ≤ 60 + 15 * w → V' o = V o) (h : cRow V (52 + 15 * w) T len n b F A fa) : cRow V' (52 + 15 * w) T len n b F A fa := by
  unfold cRow cTok7 at *
  rw [hr (52 + 15 * w) (by omega) (by omega), hr (52 + 15 * w + 1) (by omega) (by omega), hr (52 + 15 * w + 2) (by omega) (by omega), hr (52 + 15 * w + 3) (by omega) (by omega), hr (52 + 15 * w + 4) (by omega) (by omega), hr (52 + 15 * w + 5) (by omega) (by omega), hr (52 + 15 * w + 6) (by omega) (by omega), hr (52 + 15 * w + 7) (by omega) (by omega), hr (52 + 15 * w + 8) (by omega) (by omega)]
  exact h
section
variable {V : zVt} {J : zJt} {N a b : Int} {d : Nat → Nat → UInt64}
/-- a copy is sung anew -/
theorem cp110 {w k : Nat} (hw : w < 12) (hk : k < 40) (h0 : V (230 + 5 * k) 0 = w) {n b A fa : Int} (hrow : cRow V (52 + 15 * w) (yTt V w) (V 432 w) n b 0 A fa) (ht : tOk (yTt V w) (V 432 w)) (hg : aGood (yTt V w) (V (232 + 5 * k)) (V 4) (V 5) (V 6) (V 3 0) n) : ∃ V2 J2, zGo false 110 0 [.ref 0, .ref (230 + 5 * k)] [] (zm V J d) = zN1 V2 J2 d ∧ (∀ o : Nat, ¬(12 ≤ o ∧ o ≤ 25 ∨ o = 233 + 5 * k) → V2 o = V o) ∧ (∀ o : Nat, o ≠ 234 + 5 * k → J2 o = J o) ∧ iMs V2 J2 (233 + 5 * k) w (V (232 + 5 * k)) := by
  have hB := zBk_part hw
  have hB10 := zBk_6row hB
  have hBc := zBk_copy hk
  have hBm := zBk_0marks hBc
  have hBu := zBk_0music hBc
  have hwt : ((w : Nat) : Int).toNat = w := by omega
  have e52 : 50 + 15 * w + 2 = 52 + 15 * w := by omega
  have f232 : 230 + 5 * k + 1 + 1 = 232 + 5 * k := by omega
  have f233 : 230 + 5 * k + 3 = 233 + 5 * k := by omega
  rw [e52] at hB10
  obtain ⟨V2, J2, s1, s2, s3, s4⟩ := sn68 (d := d) (V := V) (J := J) (T := yTt V w) (x := 52 + 15 * w) (Mk := 230 + 5 * k + 1) (M := 230 + 5 * k + 3) (cnt := V 3 0) hB10 (by omega) hBm (by omega) hBu (by omega) hrow ht rfl (by rw [f232]; exact hg)
  rw [f232] at s4
  refine ⟨V2, J2, ?_, fun o ho => s2 o (by omega), fun o ho => s3 o (by omega), ?_⟩
  · rw [← e52] at s1
    simp (disch := first | omega | assumption | (simp (disch := omega) only [vup_fn, vup_o, vup_k, vup_at]; first | done | omega | assumption)) only [ze_110_0, ze_110_31, h0, hwt, s1, Int.add_zero, ↓reduceIte, qw_id, zck_T, zck_t, zGor_v, zGor_n, zGor_e, zbs, vup_at, vup_vup, vup_self, vup_o, vup_k, vup_fn, ne_eq, not_true_eq_false, not_false_eq_true, and_true, true_and, and_self, and_false, false_and, or_true, true_or, or_self, or_false, false_or, xlt_t, xlt_f, xle_t, xle_f, xeq_t, xeq_f, xand_f, xor_t]
  · unfold iMs
    rw [yTt_fr (V := V) (s2 481 (by omega)) (s2 432 (by omega)), s2 432 (by omega), s2 3 (by omega), s2 4 (by omega), s2 5 (by omega), s2 6 (by omega)]
    exact ⟨n, b, 0, A, fa, hrow.1, fun _ => hg, by rw [← f233]; exact s4⟩
/-- a printed part is right, and the library's corrections fit it -/
theorem iPr_row (h : zInv N V J) {w : Nat} (hw : w < 12) (hp : V (50 + 15 * w) 3 = 1) : ∃ n b A fa, cRow V (52 + 15 * w) (yTt V w) (V 432 w) n b 0 A fa ∧ aGood (yTt V w) (V (62 + 15 * w)) (V 4) (V 5) (V 6) (V 3 0) n ∧ V (50 + 15 * w) 2 = 1 ∧ V (50 + 15 * w) 4 = 0 := by
  obtain ⟨a1, a2, a3, a4, a5, a6, a7⟩ := h.2.2.1 w hw
  obtain ⟨p2, p4⟩ := a7 hp
  obtain ⟨⟨n, b, F, A, fa, c1, c2, c3⟩, n2, b2, F2, A2, fa2, x1, x2, x3⟩ := a6 p2
  have hF : F = 0 := by
    rw [p4] at c2
    by_cases hF : F = 0
    · exact hF
    · exact absurd (c2.trans (if_pos hF)).symm hF
  obtain ⟨u1, u2, u3, u4, u5⟩ := yTx_un c1.1 x1
  subst hF
  rw [u1, u3] at x2
  exact ⟨n, b, A, fa, c1, x2 rfl, p2, p4⟩
end
