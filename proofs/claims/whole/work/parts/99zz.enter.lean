/-! part 99zz: from the entry to the loop -/
theorem lw_q9 : Cond.initialized (zCl 11).1 ∈ zGT := by
  have h := zi_in (k := 11) (by decide)
  exact h
theorem lw_q10 : Cond.initialized (zCl 12).1 ∈ zGT := by
  have h := zi_in (k := 12) (by decide)
  exact h
section
variable {p : Program} {l : Launch} {e : Env} {s : State} {mid : MethodId} {below : List Frame} {meth : Method} {c : Code}
variable {b L : Nat} {xs : Nat → Int32} {ro : Nat → Nat} {cA : Nat → ClassId} {D : va_G}
theorem lw_enter (C : lwC p l s mid meth c b L xs s.heap.size ro cA D) (hr : meth.sig.returnType = ret) (hlocks : meth.locks = false) (hsec : lwSec p l e s mid below meth c b L xs s.heap.size ro cA D (lw_Z below #[Value.ref b] s)) :
    W p l e room_1 s mid #[Value.ref b] below meth c s.heap [] 0 0 (lw_Z below #[Value.ref b] s) (entryFrame mid ([Value.ref b] : List Value).toArray 8) := by
  have C2 := C
  obtain ⟨hx, hb, hml, hown, hts, hG, hN, hX, hbl, hbA, hst, hL2⟩ := C2
  obtain ⟨d1, d2, r1, n1, r2, n2, u2, hchk⟩ := zini_ex
  have hl := lv_entry ([.ref b]) (n := 8) (Nat.le_of_ble_eq_true rfl)
  rw [lg_entry_eq]
  generalize (lg_sl ([.ref b]) ++ List.replicate (8 - (lg_sl ([.ref b])).length) Slot.unset).toArray = ls at hl ⊢
  have hl : lv_has ls 8 [(0, .ref b)] := hl
  -- the memories
  have w0 : zwf (zdM (0, 0, [], [], [])) := ⟨by decide, fun o ho => absurd ho (Nat.not_lt_zero o), fun o _ => by
    show dS 0 [] o = _
    unfold dS
    rw [if_neg (Nat.not_lt_zero o)]⟩
  have f0 : zfr (zdM (0, 0, [], [], [])) := fun o k _ => ⟨rfl, rfl, rfl, rfl⟩
  have mk1 := zMo_mk (m := zdM (0, 0, [], [], [])) (t := 11) (n := 0) (w := (zCl 11).2.2) (by decide) (by decide)
  have eq1 : zmk (zdM (0, 0, [], [], [])) 11 0 (zCl 11).2.2 = zdM zd0 := by rw [zdM_N]; rfl
  have w1 : zwf (zdM zd0) := eq1 ▸ mk1.2.2.1 w0
  have f1 : zfr (zdM zd0) := eq1 ▸ mk1.2.2.2 w0 f0
  have q1 := zrund_ok _ _ _ _ _ _ _ _ r1
  have mo1 := zrun_mo _ _ _ _ _ _ _ _ q1
  have w2 := mo1.2.2.1 w1
  have f2 := mo1.2.2.2 w1 f1
  have hd1 : (zdM d1).2.2.1.1 = 430 := n1
  have mk2 := zMo_mk (m := zdM d1) (t := 12) (n := 0) (w := 61) (by decide) (by rw [hd1]; decide)
  have eq2 : zmk (zdM d1) 12 0 61 = zdM (ddN d1 12 0 61) := zdM_N
  have w3 : zwf (zdM (ddN d1 12 0 61)) := eq2 ▸ mk2.2.2.1 w2
  have f3 : zfr (zdM (ddN d1 12 0 61)) := eq2 ▸ mk2.2.2.2 w2 f2
  have q2 := zrund_ok _ _ _ _ _ _ _ _ r2
  have mo2 := zrun_mo _ _ _ _ _ _ _ _ q2
  have w4 := mo2.2.2.1 w3
  have f4 := mo2.2.2.2 w3 f3
  have hd2 : (zdM d2).2.2.1.1 = 474 := n2
  have mk3 := zMo_mk (m := zdM d2) (t := 16) (n := 1) (w := 1) (by decide) (by rw [hd2]; decide)
  have eq3 : zmk (zdM d2) 16 1 1 = zdM (ddN d2 16 1 1) := zdM_N
  have f5 : zfr (zdM (ddN d2 16 1 1)) := eq3 ▸ mk3.2.2.2 w4 f4
  have eq4 : zmk (zdM (ddN d2 16 1 1)) 17 1 1 = zdM (ddN (ddN d2 16 1 1) 17 1 1) := zdM_N
  have uA : 12 ≤ d1.2.1 := mo1.2.1
  have uB : d1.2.1 + 61 ≤ d2.2.1 := mo2.2.1
  have g1 : zGo true 89 0 (zent 89 [.ref 0]) [] (zdM zd0) = some (.inl none, zdM d1) := zGo_iff.mpr ⟨_, q1⟩
  have g2 : zGo true 143 0 (zent 143 [.ref 430]) [] (zdM (ddN d1 12 0 61)) = some (.inl none, zdM d2) := zGo_iff.mpr ⟨_, q2⟩
  have hP0 : va_P D vwCl (zW s.heap.size ro cA (zdM (0, 0, [], [], []))) s.heap := fun k q h => by simp [zW, zdM] at h
  have hS0 : va_S (zA s.heap.size) s.heap s.heap [] := va_S.rf
  refine lw_new (m := zdM (0, 0, [], [], [])) (cc := 11) C rfl f0 hP0 hS0 (by decide) qL137 lw_q9 (by decide) (by decide) lw_e0 (fun H1 hP1 hS1 => ?_)
  rw [eq1] at hP1
  refine W.widen (k := 1) (n := 12) (by omega) (by decide) ?_
  refine lv_dup hx hb lw_e3 rfl ?_
  refine lw_ctor (o := 0) (rest := [.ref (s.heap.size + 0)]) C rfl w1 f1 hP1 hS1 hl.1 g1 (by decide) ⟨Nat.le_of_ble_eq_true rfl, Nat.le_of_ble_eq_true rfl⟩ qL139 rfl rfl (Nat.le_of_ble_eq_true rfl) (by decide) (Nat.le_of_ble_eq_true rfl) lw_e4 ⟨?_, ?_⟩ (fun H2 locs2 hP2 hS2 => ?_)
  · show 1 + (d1.1 - 1) ≤ 601024
    omega
  · show 12 + (d1.2.1 - 12) ≤ 7293034
    omega
  refine W.widen (k := 430) (n := d1.2.1) (by show 1 + (d1.1 - 1) ≤ 430; omega) (by show 12 + (d1.2.1 - 12) ≤ d1.2.1; omega) ?_
  refine lv_astore_n (lv' := [(1, .ref (s.heap.size + 0)), (0, .ref b)]) hx hb lw_e7 rfl hl (by decide) rfl (fun ls1 hl1 => ?_)
  refine lw_new (m := zdM d1) (cc := 12) C (by rw [hd1]) f2 hP2 hS2 (by decide) qL1316 lw_q10 (by decide) (by show d1.2.1 + 61 ≤ 7293034; omega) lw_e8 (fun H3 hP3 hS3 => ?_)
  have hP3 : va_P D vwCl (zW s.heap.size ro cA (zmk (zdM d1) 12 0 61)) H3 := hP3
  rw [eq2] at hP3
  rw [hd1]
  refine W.widen (k := 431) (n := d1.2.1 + 61) (by omega) (Nat.le_refl _) ?_
  refine lv_dup hx hb lw_e11 rfl ?_
  refine lw_ctor (o := 430) (rest := [.ref (s.heap.size + 430)]) C (by show s.heap.size + 431 = s.heap.size + (d1.1 + 1); omega) w3 f3 hP3 hS3 hl1.1 g2 (by decide) ⟨Nat.le_of_ble_eq_true rfl, Nat.le_of_ble_eq_true rfl⟩ qL1318 rfl rfl (Nat.le_of_ble_eq_true rfl) (by decide) (Nat.le_of_ble_eq_true rfl) lw_e12 ⟨?_, ?_⟩ (fun H4 locs4 hP4 hS4 => ?_)
  · show 431 + (d2.1 - (d1.1 + 1)) ≤ 601024
    omega
  · show d1.2.1 + 61 + (d2.2.1 - (d1.2.1 + 61)) ≤ 7293034
    omega
  refine W.widen (k := 474) (n := 85941) (by show 431 + (d2.1 - (d1.1 + 1)) ≤ 474; omega) (by show d1.2.1 + 61 + (d2.2.1 - (d1.2.1 + 61)) ≤ 85941; omega) ?_
  refine lv_astore_n (lv' := [(2, .ref (s.heap.size + 430)), (1, .ref (s.heap.size + 0)), (0, .ref b)]) hx hb lw_e15 rfl hl1 (by decide) rfl (fun ls2 hl2 => ?_)
  refine lv_iconst (v := 1) hx hb lw_e16 (by decide) ?_
  refine lw_newJ (m := zdM d2) C (by rw [hd2]) f4 hP4 hS4 (by omega) (by omega) lw_e17 (fun H5 hP5 hS5 => ?_)
  rw [eq3] at hP5
  rw [hd2]
  refine lv_astore_n (lv' := [(3, .ref (s.heap.size + 474)), (2, .ref (s.heap.size + 430)), (1, .ref (s.heap.size + 0)), (0, .ref b)]) hx hb lw_e19 rfl hl2 (by decide) rfl (fun ls3 hl3 => ?_)
  refine lv_iconst (v := 1) hx hb lw_e20 (by decide) ?_
  refine lw_newD (m := zdM (ddN d2 16 1 1)) C (by show s.heap.size + 475 = s.heap.size + (d2.1 + 1); omega) f5 hP5 hS5 (by omega) (by omega) lw_e21 (fun H6 hP6 hS6 => ?_)
  rw [eq4] at hP6
  rw [show (zdM (ddN d2 16 1 1)).2.2.1.1 = 475 from by show d2.1 + 1 = 475; omega]
  refine lv_astore (lv' := [(4, .ref (s.heap.size + 475)), (3, .ref (s.heap.size + 474)), (2, .ref (s.heap.size + 430)), (1, .ref (s.heap.size + 0)), (0, .ref b)]) hx hb lw_e23 hl3 (by decide) rfl (fun ls4 hl4 => ?_)
  refine lv_iconst (v := zi 0) hx hb lw_e25 rfl ?_
  refine lv_istore (lv' := [(5, .int (zi 0)), (4, .ref (s.heap.size + 475)), (3, .ref (s.heap.size + 474)), (2, .ref (s.heap.size + 430)), (1, .ref (s.heap.size + 0)), (0, .ref b)]) hx hb lw_e26 hl4 (by decide) rfl (fun ls5 hl5 => ?_)
  have hP7 : va_P D vwCl (zW s.heap.size ro cA (zm V0 J0 (fun _ _ => 0))) H6 := by
    have hc := hchk
    unfold zdchk at hc
    simp only [Bool.and_eq_true] at hc
    rw [← zW_start n2 (of_decide_eq_true hc.1) hc.2.1 hc.2.2]
    exact hP6
  exact lw_loop C hr hlocks (Nat.le_refl _) hsec 512 0 V0 J0 (fun _ _ => 0) H6 locs4 ls5 (by omega) (by omega) zInv_0 hP7 hS6 (lv_sub hl5 [5, 4, 3, 2, 1, 0] rfl)
end
