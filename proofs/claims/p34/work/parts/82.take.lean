/-! part 82: a copy comes back: the sets -/
def yOr (G H : Int → Int) : Int → Int := fun c => if H c ≠ 0 then 1 else G c
def yNf (G H : Int → Int) : Int → Int := fun c => if H c ≠ 0 ∧ G c = 0 then 1 else 0
theorem yCt_or (G H : Int → Int) : ∀ n : Nat, yCt (yOr G H) n = yCt G n + yCt (yNf G H) n
  | 0 => rfl
  | n + 1 => by
    have e := yCt_or G H n
    show yCt (yOr G H) n + (if yOr G H n ≠ 0 then 1 else 0) = yCt G n + (if G n ≠ 0 then 1 else 0) + (yCt (yNf G H) n + (if yNf G H n ≠ 0 then 1 else 0))
    rw [e]
    have d1 : (if (1 : Int) ≠ 0 then (1 : Int) else 0) = 1 := rfl
    have d0 : (if (0 : Int) ≠ 0 then (1 : Int) else 0) = 0 := rfl
    by_cases a : H n ≠ 0
    · have o1 : yOr G H n = 1 := if_pos a
      by_cases b : G n = 0
      · have o2 : yNf G H n = 1 := if_pos ⟨a, b⟩
        rw [o1, o2, b, d1, d0]
        omega
      · have o2 : yNf G H n = 0 := if_neg (fun w => b w.2)
        rw [o1, o2, d1, d0, if_pos b]
        omega
    · have o1 : yOr G H n = G n := if_neg a
      have o2 : yNf G H n = 0 := if_neg (fun w => a w.1)
      rw [o1, o2, d0]
      omega
theorem yCt_mono {H H' : Int → Int} : ∀ n : Nat, (∀ x : Int, 0 ≤ x → x < n → H x ≠ 0 → H' x ≠ 0) → yCt H n ≤ yCt H' n ∧ (yCt H' n ≤ yCt H n → ∀ x : Int, 0 ≤ x → x < n → H' x ≠ 0 → H x ≠ 0)
  | 0, _ => ⟨Int.le_refl _, fun _ x x0 x1 => by omega⟩
  | n + 1, h => by
    have e := yCt_mono n (fun x x0 x1 => h x x0 (by omega))
    have g := h n (by omega) (by omega)
    show yCt H n + (if H n ≠ 0 then 1 else 0) ≤ yCt H' n + (if H' n ≠ 0 then 1 else 0) ∧ (yCt H' n + (if H' n ≠ 0 then 1 else 0) ≤ yCt H n + (if H n ≠ 0 then 1 else 0) → _)
    by_cases a : H n ≠ 0
    · rw [if_pos a, if_pos (g a)]
      refine ⟨by omega, fun q x x0 x1 hx => ?_⟩
      by_cases b : x = n
      · rw [b]; exact a
      · exact e.2 (by omega) x x0 (by omega) hx
    · rw [if_neg a]
      by_cases b : H' n ≠ 0
      · rw [if_pos b]
        exact ⟨by omega, fun q => by omega⟩
      · rw [if_neg b]
        refine ⟨by omega, fun q x x0 x1 hx => ?_⟩
        by_cases c : x = n
        · rw [c] at hx
          exact absurd hx b
        · exact e.2 (by omega) x x0 (by omega) hx
theorem foi_H {H H' q m v : Int → Int} {cnt : Int} (hc : 0 ≤ cnt ∧ cnt ≤ 200) (h : ∀ c, 0 ≤ c → c < 200 → (H' c ≠ 0 ↔ H c ≠ 0)) : ∀ k lo hi b, foi H' q m v k lo hi b cnt = foi H q m v k lo hi b cnt := fun k lo hi b => foi_eq hc.1 (fun c c0 c1 => ⟨by rw [h c c0 (by omega)], fun _ => rfl⟩)
theorem aP_H {T : Int → Int} {len n : Int} {H H' q m v : Int → Int} {cnt : Int} (hc : 0 ≤ cnt ∧ cnt ≤ 200) (h : ∀ c, 0 ≤ c → c < 200 → (H' c ≠ 0 ↔ H c ≠ 0)) : aP T len n H' q m v cnt = aP T len n H q m v cnt := aP_ext (foi_H hc h)
theorem iMs_H {V : zVt} {J : zJt} {M w : Nat} {H H' : Int → Int} (hc : 0 ≤ V 3 0 ∧ V 3 0 ≤ 200) (h : iMs V J M w H) (e : ∀ c, 0 ≤ c → c < 200 → H' c = H c) : iMs V J M w H' := by
  obtain ⟨n, b, F, A, fa, hx, hg, hm⟩ := h
  rw [← aP_H (H' := H') hc (fun c c0 c1 => by rw [e c c0 c1])] at hm
  exact ⟨n, b, F, A, fa, hx, fun q => aGood_H (hg q) e, hm⟩
theorem aGood_or {T : Int → Int} {G H q m v : Int → Int} {cnt n : Int} (h : aGood T G q m v cnt n) (h2 : aGood T H q m v cnt n) : aGood T (yOr G H) q m v cnt n := by
  obtain ⟨a1, a2, a3⟩ := h
  obtain ⟨b1, b2, b3⟩ := h2
  refine ⟨a1, fun c c0 c1 => ?_, fun c c0 c1 c2 => ?_⟩
  · unfold yOr
    split
    · exact Or.inr rfl
    · exact a2 c c0 c1
  · by_cases e : H c ≠ 0
    · exact b3 c c0 c1 e
    · refine a3 c c0 c1 ?_
      unfold yOr at c2
      rw [if_neg e] at c2
      exact c2
section
variable {V : zVt} {J : zJt} {N : Int} {d : Nat → Nat → UInt64}
/-- takeBack of the class -/
theorem cp115 {w k : Nat} (hw : w < 12) (hk : k < 40) (h0 : V (230 + 5 * k) 0 = w) {n b A fa : Int} (hrow : cRow V (52 + 15 * w) (yTt V w) (V 432 w) n b 0 A fa) (ht : tOk (yTt V w) (V 432 w)) (hg : aGood (yTt V w) (V (62 + 15 * w)) (V 4) (V 5) (V 6) (V 3 0) n) (hg2 : aGood (yTt V w) (V (232 + 5 * k)) (V 4) (V 5) (V 6) (V 3 0) n) (hs : V (61 + 15 * w) 1 = yCt (V (62 + 15 * w)) 200) (hms : iMs V J (63 + 15 * w) w (V (62 + 15 * w))) :
    ∃ V2 J2, zGo false 115 0 [.ref 0, .ref (230 + 5 * k), .null, .null] [] (zm V J d) = zI1 (yCt (V2 (62 + 15 * w)) 200 - yCt (V (62 + 15 * w)) 200) V2 J2 d ∧ (∀ c, 0 ≤ c → c < 200 → V2 (62 + 15 * w) c = yOr (V (62 + 15 * w)) (V (232 + 5 * k)) c) ∧ V2 (61 + 15 * w) 1 = yCt (V2 (62 + 15 * w)) 200 ∧ (∀ x, x ≠ 1 → V2 (230 + 5 * k) x = V (230 + 5 * k) x) ∧ V2 (230 + 5 * k) 1 = -1 ∧ (∀ o : Nat, o ≠ 230 + 5 * k → o ≠ 61 + 15 * w → o ≠ 62 + 15 * w → o ≠ 63 + 15 * w → ¬(12 ≤ o ∧ o ≤ 25) → V2 o = V o) ∧ (∀ o : Nat, o ≠ 64 + 15 * w → J2 o = J o) ∧ iMs V2 J2 (63 + 15 * w) w (V2 (62 + 15 * w)) := by
  have hB := zBk_part hw
  have hBc := zBk_copy hk
  have hBm := zBk_6marks hB
  have hBn := zBk_0marks hBc
  have hwt : ((w : Nat) : Int).toNat = w := by omega
  have g62 : 50 + 15 * w + 11 + 1 = 62 + 15 * w := by omega
  have g61 : 50 + 15 * w + 11 = 61 + 15 * w := by omega
  have g32 : 230 + 5 * k + 1 + 1 = 232 + 5 * k := by omega
  have e52 : 50 + 15 * w + 2 = 52 + 15 * w := by omega
  have e63 : 50 + 15 * w + 13 = 63 + 15 * w := by omega
  obtain ⟨V1, s1, s2, s3, s4, s5, s6⟩ := sl27 (J := J) (d := d) (X := 50 + 15 * w + 11) (Y := 230 + 5 * k + 1) (x2 := V (61 + 15 * w) 1) hBm hBn (by omega) (by omega) (by omega) 200 (vup V (230 + 5 * k) 1 (-1)) 0 (by omega) (by omega) (fun c c0 c1 => by rw [vup_o (by omega), g32]; exact hg2.2.1 c c0 c1) (fun c c0 c1 => by rw [vup_o (by omega), g62]; exact hg.2.1 c c0 c1) (by rw [vup_o (by omega), vup_fn (by omega), g62, g61]; exact hs)
  rw [g62, g32] at s2
  rw [g62, g61] at s4
  rw [g61] at s1
  have m1 : ∀ c, 0 ≤ c → c < 200 → V1 (62 + 15 * w) c = yOr (V (62 + 15 * w)) (V (232 + 5 * k)) c := fun c c0 c1 => by
    rw [s2 c c0 c1, vup_o (by omega), vup_o (by omega)]
    rfl
  have f1 : ∀ o : Nat, o ≠ 230 + 5 * k → o ≠ 61 + 15 * w → o ≠ 62 + 15 * w → V1 o = V o := fun o o1 o2 o3 => by rw [s6 o (by omega) (by omega), vup_fn o1]
  have fc0 : ∀ x, x ≠ 1 → V1 (230 + 5 * k) x = V (230 + 5 * k) x := fun x hx => by rw [s6 _ (by omega) (by omega), vup_k hx]
  have fc1 : V1 (230 + 5 * k) 1 = -1 := by rw [s6 _ (by omega) (by omega), vup_at]
  have hx : V (230 + 5 * k) 0 = w := h0
  have hv0 : vup V (230 + 5 * k) 1 (-1) (61 + 15 * w) 1 = V (61 + 15 * w) 1 := vup_o (by omega)
  have e27 : zGo false 27 0 [.ref (50 + 15 * w + 11), .ref (230 + 5 * k + 1), .null, .null] [] (zm (vup V (230 + 5 * k) 1 (-1)) J d) = zI1 (V1 (61 + 15 * w) 1 - V (61 + 15 * w) 1) V1 J d := by
    rw [ze_27_0 _ _ hBm hBn, g61, hv0, ← g61]
    rw [g61]
    exact s1
  rw [s4, hs] at e27
  have r1 := yCt_rng (V1 (62 + 15 * w)) 200
  have r2 := yCt_rng (V (62 + 15 * w)) 200
  have hmo := yCt_mono (H := V (62 + 15 * w)) (H' := V1 (62 + 15 * w)) 200 (fun x x0 x1 hx => by
    rw [m1 x x0 (by omega)]
    unfold yOr
    split
    · decide
    · exact hx)
  have hy1 : yTt V1 w = yTt V w := yTt_fr (f1 481 (by omega) (by omega) (by omega)) (f1 432 (by omega) (by omega) (by omega))
  have q3 := f1 3 (by omega) (by omega) (by omega)
  have q4 := f1 4 (by omega) (by omega) (by omega)
  have q5 := f1 5 (by omega) (by omega) (by omega)
  have q6 := f1 6 (by omega) (by omega) (by omega)
  by_cases hz : yCt (V1 (62 + 15 * w)) 200 - yCt (V (62 + 15 * w)) 200 ≤ 0
  · refine ⟨V1, J, ?_, m1, s4, fc0, fc1, fun o o1 o2 o3 o4 o5 => f1 o o1 o2 o3, fun _ _ => rfl, ?_⟩
    · simp (disch := first | omega | assumption | (simp (disch := omega) only [vup_fn, vup_o, vup_k, vup_at]; first | done | omega | assumption)) only [ze_115_0, ze_115_26, ze_115_54, h0, hwt, e27, Int.add_zero, ↓reduceIte, qw_id, zck_T, zck_t, zGor_v, zGor_n, zGor_e, zbs, vup_at, vup_vup, vup_self, vup_o, vup_k, vup_fn, ne_eq, not_true_eq_false, not_false_eq_true, and_true, true_and, and_self, and_false, false_and, or_true, true_or, or_self, or_false, false_or, xlt_t, xlt_f, xle_t, xle_f, xeq_t, xeq_f, xand_f, xor_t]
    · have hms1 : iMs V1 J (63 + 15 * w) w (V (62 + 15 * w)) := iMs_fr (f1 _ (by omega) (by omega) (by omega)) rfl (f1 _ (by omega) (by omega) (by omega)) (f1 _ (by omega) (by omega) (by omega)) q3 ⟨q4, q5, q6⟩ hms
      refine iMs_H (by rw [q3]; exact hg.1) hms1 (fun c c0 c1 => ?_)
      have e1 := hmo.2 (by omega) c c0 (by omega)
      have e2 := hg.2.1 c c0 c1
      have e3 := m1 c c0 c1
      unfold yOr at e3
      by_cases e4 : V (232 + 5 * k) c ≠ 0
      · rw [if_pos e4] at e3
        have := e1 (by omega)
        omega
      · rw [if_neg e4] at e3
        exact e3
  · obtain ⟨V2, J2, t1, t2, t3, t4⟩ := sn68 (d := d) (V := V1) (J := J) (T := yTt V w) (x := 50 + 15 * w + 2) (Mk := 50 + 15 * w + 11) (M := 50 + 15 * w + 13) (cnt := V 3 0) (len := V 432 w) (n := n) (b := b) (F := 0) (A := A) (fa := fa) (zBk_6row hB) (by omega) hBm (by omega) (zBk_6music hB) (by omega) (by rw [e52]; exact cRow_fr (fun o o1 o2 => f1 o (by omega) (by omega) (by omega)) hrow) ht (by rw [q3]) (by rw [g62, q4, q5, q6]; exact aGood_H (aGood_or hg hg2) m1)
    rw [g62, e63] at t4
    have g2 : ∀ o : Nat, ¬(12 ≤ o ∧ o ≤ 25) → o ≠ 63 + 15 * w → V2 o = V1 o := fun o o1 o2 => t2 o (by omega)
    refine ⟨V2, J2, ?_, fun c c0 c1 => ?_, ?_, fun x hx => ?_, ?_, fun o o1 o2 o3 o4 o5 => ?_, fun o ho => t3 o (by omega), ?_⟩
    · rw [g2 (62 + 15 * w) (by omega) (by omega)]
      simp (disch := first | omega | assumption | (simp (disch := omega) only [vup_fn, vup_o, vup_k, vup_at]; first | done | omega | assumption)) only [ze_115_0, ze_115_26, ze_115_54, h0, hwt, e27, t1, Int.add_zero, ↓reduceIte, qw_id, zck_T, zck_t, zGor_v, zGor_n, zGor_e, zbs, vup_at, vup_vup, vup_self, vup_o, vup_k, vup_fn, ne_eq, not_true_eq_false, not_false_eq_true, and_true, true_and, and_self, and_false, false_and, or_true, true_or, or_self, or_false, false_or, xlt_t, xlt_f, xle_t, xle_f, xeq_t, xeq_f, xand_f, xor_t]
    · rw [g2 (62 + 15 * w) (by omega) (by omega)]
      exact m1 c c0 c1
    · rw [g2 (62 + 15 * w) (by omega) (by omega), g2 (61 + 15 * w) (by omega) (by omega)]
      exact s4
    · rw [g2 _ (by omega) (by omega)]
      exact fc0 x hx
    · rw [g2 _ (by omega) (by omega)]
      exact fc1
    · rw [g2 o o5 o4]
      exact f1 o o1 o2 o3
    · unfold iMs
      rw [yTt_fr (V := V1) (g2 481 (by omega) (by omega)) (g2 432 (by omega) (by omega)), hy1, g2 432 (by omega) (by omega), f1 432 (by omega) (by omega) (by omega), g2 3 (by omega) (by omega), g2 4 (by omega) (by omega), g2 5 (by omega) (by omega), g2 6 (by omega) (by omega), g2 (62 + 15 * w) (by omega) (by omega), q3]
      refine ⟨n, b, 0, A, fa, hrow.1, fun _ => ?_, t4⟩
      rw [q4, q5, q6]
      exact aGood_H (aGood_or hg hg2) m1
end
