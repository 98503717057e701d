/-! part 99m: a case of the law, whole -/
section
variable {p : Program} {l : Launch} {e : Env} {s : State} {mid : MethodId} {below : List Frame} {meth : Method} {c : Code} {H : Heap} {locs : List Loc} {cells slots pc : Nat} {Q : State → Prop}
variable {b L b0 k : Nat} {xs : Nat → Int32} {ro : Nat → Nat} {cA : Nat → ClassId} {D : va_G} {ls : Array Slot} {V : zVt} {J : zJt} {d : Nat → Nat → UInt64}
/-- the arguments of the call come onto the stack -/
abbrev lwLd (p : Program) (l : Launch) (e : Env) (s : State) (mid : MethodId) (b : Nat) (below : List Frame) (meth : Method) (c : Code) (Q : State → Prop) (b0 k : Nat) (vals : List Value) (pc A : Nat) : Prop := ∀ (H : Heap) (locs : List Loc) (cells slots : Nat) (ls : Array Slot) (rest : List Value), va_S (zA b0) s.heap H locs → ls[0]? = some (.val (.ref b)) → ls[5]? = some (.val (.int (zi ((5 * k : Nat) : Int)))) → W p l e room_1 s mid #[Value.ref b] below meth c H locs cells slots Q (F0 mid (pc + A) ls (vals.reverse ++ rest)) → W p l e room_1 s mid #[Value.ref b] below meth c H locs cells slots Q (F0 mid pc ls rest)
/-- a stub's number and answer, the reference's number and answer, and back to the loop -/
theorem lw_case {P A iS iM CC RR nL n9 : Nat} {f : Int → Int64} {O : Int → zVt → zJt → Prop} {off : Int} {cs : List Nat} {lcC vals : List Value} {yS : MethodName} {cc : ByteArray} {hh : List (Nat × Nat × Nat × Nat)} (C : lwC p l s mid meth c b L xs b0 ro cA D) (hHd : lwHead P A iS iM = true) (hTh : lwThr (P + 13 + 2 * A) n9 = true) (hgo : decode code (P + 26 + 2 * A + n9) = .ok (.goto off, 3)) (hoff : ((P + 26 + 2 * A + n9 : Nat) : Int) + off = (2278 : Nat))
    (hcmp : ∀ (y : Int) (V2 : zVt) (J2 : zJt) (H : Heap) (locs : List Loc) (cells slots : Nat) (ls : Array Slot), va_P D vwCl (zW b0 ro cA (zm V2 J2 d)) H → ls[3]? = some (.val (.ref (b0 + 474))) → ls[7]? = some (.val (.int (zi y))) → J2 474 0 = f y → W p l e room_1 s mid #[Value.ref b] below meth c H locs cells slots Q (F0 mid 2278 ls []) → W p l e room_1 s mid #[Value.ref b] below meth c H locs cells slots Q (F0 mid (P + 29 + 2 * A) ls []))
    (hA1 : lwLd p l e s mid b below meth c Q b0 k vals (P + 1) A) (hA2 : lwLd p l e s mid b below meth c Q b0 k vals (P + 8 + A) A) (hv : vals.map (zcv b0 ro) = vals)
    (hTw : zTw k V J CC lcC RR (zent RR (.ref 430 :: vals)) cs) (hcs : cs.length ≤ 3)
    (hO0 : ∀ (x : Int) (V1 : zVt) (J1 : zJt), zGo false CC 0 lcC [] (zm V J d) = zI1 x V1 J1 d → O 0 V1 (jup J1 474 0 (f x))) (hO1 : ∀ (i ex : Nat) (V1 : zVt) (J1 : zJt), cs[i]? = some ex → zGo false CC 0 lcC [] (zm V J d) = zE1 ex V1 J1 d → O ((i : Int) + 1) V1 J1)
    (hM : ∀ (kk : Int) (V1 : zVt) (J1 : zJt), O kk V1 J1 → stM l b0 ro cA D yS (Cond.codeWith yS cc nL (some .int) hh) (zm V J d) (zm V1 J1 d) (.ref 0 :: (vals ++ [.ref 474])) (zi kk))
    (hcw : Cond.codeWith yS cc nL (some .int) hh ∈ zGT) (hlink : Cond.methodLink RL iS yS ∈ zGT) (hstat : Cond.static yS ∈ zGT) (hyc : yS.cls = RL) (hn : (parseMethodDescriptor yS.desc).map (fun d => d.parameters.length) = some (vals.length + 2)) (hnL : nL ≤ 7)
    (hz : RR < 237) (hzf : zf RR + 1 ≤ 12 ∧ 8 + (zl RR + 11) + zw RR ≤ 480) (hw : Cond.methodLink RL iM (zy RR) ∈ zGT) (hk : zk RR = 0) (hzc : zc RR = 12) (hlen : vals.length = za RR) (harg : zarg (.ref 430 :: vals) = true) (hle : vals.length + 1 ≤ zl RR)
    (hP : va_P D vwCl (zW b0 ro cA (zm V J d)) H) (hS : va_S (zA b0) s.heap H locs) (hl : lv_has ls 8 (lwL b b0 k)) (hf : cells + 1 ≤ 601024 ∧ slots + 6 ≤ 7293034)
    (K : ∀ (V2 : zVt) (J2 : zJt) (H2 : Heap) (locs2 : List Loc) (ls2 : Array Slot), zInv ((k : Int) + 1) V2 J2 → va_P D vwCl (zW b0 ro cA (zm V2 J2 d)) H2 → va_S (zA b0) s.heap H2 locs2 → lv_has ls2 8 (lwL b b0 k) → W p l e room_1 s mid #[Value.ref b] below meth c H2 locs2 (cells + 1) (slots + 6) Q (F0 mid 2278 ls2 [])) :
    W p l e room_1 s mid #[Value.ref b] below meth c H locs cells slots Q (F0 mid P ls []) := by
  unfold lwHead at hHd
  simp only [Bool.and_eq_true] at hHd
  obtain ⟨d1, d2, d3, d4, d5, d6, d7⟩ := hHd
  have C2 := C
  obtain ⟨hx, hb, hml, hown, hts, hG, hN, hX, hbl, hbA, hst, hL2⟩ := C2
  -- the calls' common part
  have key : ∀ (kk x : Int) (V1 : zVt) (J1 : zJt), O kk V1 J1 → (kk = 0 → J1 474 0 = f x) → (zi kk = 0 → kk = 0) → (∃ y V2 J2, zGo false RR 0 (zent RR (.ref 430 :: vals)) [] (zm V1 J1 d) = zI1 y V2 J2 d ∧ V2 430 60 = kk ∧ zInv ((k : Int) + 1) V2 J2 ∧ J2 474 = J1 474 ∧ (kk = 0 → y = x)) → W p l e room_1 s mid #[Value.ref b] below meth c H locs cells slots Q (F0 mid P ls []) := by
    intro kk x V1 J1 hO hJ hkk ⟨y, V2, J2, hR, hthr, hI, hJ2, hyx⟩
    refine lv_aload_n hx hb (lwD_of d1) rfl (lv_at hl 1 rfl) ?_
    refine hA1 H locs cells slots ls [.ref (b0 + 0)] hS (lv_at hl 0 rfl) (lv_at hl 5 rfl) ?_
    refine lv_aload_n hx hb (lwD_of d2) rfl (lv_at hl 3 rfl) ?_
    have hstk : (Value.ref (b0 + 474) :: (vals.reverse ++ [.ref (b0 + 0)])) = (((.ref 0 :: (vals ++ [.ref 474])) : List Value).map (zcv b0 ro)).reverse := by
      rw [List.map_cons, List.map_append, hv]
      simp [zcv, zad]
    rw [hstk, show P + 1 + A + 1 = P + 2 + A by omega]
    refine lw_call (m := zm V J d) (m2 := zm V1 J1 d) C hP hS hl.1 (hM kk V1 J1 hO) hcw hlink hstat qLini hyc hn (by simp) hnL (lwD_of d3) hf (fun H1 locs1 hP1 hS1 => ?_)
    rw [show P + 2 + A + 3 = P + 5 + A by omega]
    refine lv_istore (lv' := (6, .int (zi kk)) :: lwL b b0 k) hx hb (lwD_of d4) hl (by decide) rfl (fun ls1 hl1 => ?_)
    rw [show P + 5 + A + 2 = P + 7 + A by omega]
    refine lv_aload_n hx hb (lwD_of d5) rfl (lv_at hl1 3 rfl) ?_
    rw [show P + 7 + A + 1 = P + 8 + A by omega]
    refine hA2 H1 locs1 _ _ ls1 [.ref (b0 + 430)] hS1 (lv_at hl1 1 rfl) (lv_at hl1 6 rfl) ?_
    rw [show P + 8 + A + A = P + 8 + 2 * A by omega]
    refine lw_model (z := RR) (o := 430) (vals := vals) (rest := []) C hP1 hS1 hl1.1 hR hz hzf hw hk (by rw [zS0_430]; exact hzc.symm) (by rw [hzc]; decide) hlen hv harg (by simpa using hle) (Nat.le_of_ble_eq_true rfl) (lwD_of d6) hf (fun H2 locs2 hP2 hS2 => ?_)
    rw [show P + 8 + 2 * A + 3 = P + 11 + 2 * A by omega]
    refine lv_istore (x := zi y) (lv' := (7, .int (zi y)) :: (6, .int (zi kk)) :: lwL b b0 k) hx hb (lwD_of d7) hl1 (by decide) rfl (fun ls2 hl2 => ?_)
    rw [show P + 11 + 2 * A + 2 = P + 13 + 2 * A by omega]
    refine lw_thrown (kk := kk) C hTh hP2 hS2 hl2.1 (lv_at hl2 4 rfl) (lv_at hl2 1 rfl) hthr hf (fun H3 locs3 hP3 hS3 h0 => ?_) (fun H3 locs3 hP3 hS3 _ => ?_)
    · rw [show P + 13 + 2 * A + 16 = P + 29 + 2 * A by omega]
      have hk0 := hkk h0
      refine hcmp y V2 J2 H3 locs3 _ _ ls2 hP3 (lv_at hl2 5 rfl) (lv_at hl2 0 rfl) (by rw [hJ2, hJ hk0, hyx hk0]) ?_
      exact K V2 J2 H3 locs3 ls2 hI hP3 hS3 (lv_sub hl2 [2, 3, 4, 5, 6, 7] rfl)
    · rw [show P + 13 + 2 * A + 13 + n9 = P + 26 + 2 * A + n9 by omega]
      refine lv_goto (tgt := 2278) hx hb hgo hoff ?_
      exact K V2 J2 H3 locs3 ls2 hI hP3 hS3 (lv_sub hl2 [2, 3, 4, 5, 6, 7] rfl)
  rcases hTw d with ⟨x, V1, J1, h1, hR⟩ | ⟨i, ex, V1, J1, hi, h1, hR⟩
  · refine key 0 x V1 (jup J1 474 0 (f x)) (hO0 x V1 J1 h1) (fun _ => by simp [jup]) (fun _ => rfl) ?_
    exact hR (jup J1 474 0 (f x)) d (fun o ho => by funext q; simp [jup, ho])
  · have hi3 : i < 3 := by
      have := (List.getElem?_eq_some_iff.mp hi).1
      omega
    refine key ((i : Int) + 1) 0 V1 J1 (hO1 i ex V1 J1 hi h1) (fun q => by omega) (fun q => by
      rw [← zi_0, zi_eq, qw_0, qw_id (by omega) (by omega)] at q
      exact q) ?_
    obtain ⟨y, V2, J2, r1, r2, r3, r4, r5⟩ := hR J1 d (fun o ho => rfl)
    exact ⟨y, V2, J2, r1, r2, r3, r4, r5⟩
end
