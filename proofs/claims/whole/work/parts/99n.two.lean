/-! part 99n: the two forms of comparison; ranges -/
def lwCmpB (T : Nat) (off : Int) : Bool := lwD T (.aload_n 3) 1 && (lwD (T + 1) (.iconst 0) 1 && (lwD (T + 2) .laload 1 && (lwD (T + 3) (.iload 7) 2 && (lwD (T + 5) (.ifCond .eq 7) 3 && (lwD (T + 8) (.lconst 1) 1 && (lwD (T + 9) (.goto 4) 3 && (lwD (T + 12) (.lconst 0) 1 && (lwD (T + 13) .lcmp 1 && (lwD (T + 14) (.ifCond .eq 5) 3 && lwD (T + 19) (.goto off) 3)))))))))
theorem lw_rg {xs : Nat → Int32} (a : Nat) : -2147483648 ≤ lwV xs a ∧ lwV xs a < 2147483648 := ⟨Int32.le_toInt _, Int32.toInt_lt _⟩
section
variable {p : Program} {l : Launch} {e : Env} {s : State} {mid : MethodId} {below : List Frame} {meth : Method} {c : Code} {H : Heap} {locs : List Loc} {cells slots pc : Nat} {Q : State → Prop}
variable {b L b0 k : Nat} {xs : Nat → Int32} {ro : Nat → Nat} {cA : Nat → ClassId} {D : va_G} {ls : Array Slot} {V : zVt} {J : zJt} {d : Nat → Nat → UInt64}
theorem lw_sameB {T : Nat} {off : Int} {y : Int} (C : lwC p l s mid meth c b L xs b0 ro cA D) (hB : lwCmpB T off = true) (hoff : ((T + 19 : Nat) : Int) + off = (2278 : Nat)) (hP : va_P D vwCl (zW b0 ro cA (zm V J d)) H) (h3 : ls[3]? = some (.val (.ref (b0 + 474)))) (h7 : ls[7]? = some (.val (.int (zi y)))) (hJ : J 474 0 = if zi y = 0 then 0 else 1)
    (K : W p l e room_1 s mid #[Value.ref b] below meth c H locs cells slots Q (F0 mid 2278 ls [])) :
    W p l e room_1 s mid #[Value.ref b] below meth c H locs cells slots Q (F0 mid T ls []) := by
  unfold lwCmpB at hB
  simp only [Bool.and_eq_true] at hB
  obtain ⟨d1, d2, d3, d4, d5, d6, d7, d8, d9, d10, d11⟩ := hB
  obtain ⟨hx, hb, hml, hown, hts, hG, hN, hX, hbl, hbA, hst, hL2⟩ := C
  have ht1 : ((zm V J d).1 474).1 = 16 := by
    show (zS0 474).1 = 16
    rw [zS0_474]
  have hlt : 474 < (zm V J d).2.2.1.1 := (by decide : 474 < 476)
  refine lv_aload_n hx hb (lwD_of d1) rfl h3 ?_
  refine lv_iconst (v := 0) hx hb (lwD_of d2) (by decide) ?_
  refine va_lald hx hb hG.1 hP 474 3 (by rw [zW_at hlt, zE_arrJ ht1]) rfl (z_in ?_) (lwD_of d3) ?_
  · show zix 0 (zS0 474).2
    rw [zS0_474]
    exact ⟨by decide, by decide⟩
  have hJ2 : (zm V J d).2.2.2.2.1 474 (0 : Int32).toNatClampNeg = if zi y = 0 then 0 else 1 := hJ
  rw [hJ2]
  refine lv_iload hx hb (lwD_of d4) h7 ?_
  have fin : ∀ v : Int64, W p l e room_1 s mid #[Value.ref b] below meth c H locs cells slots Q (F0 mid (T + 13) ls [.long v, .long v]) := fun v => by
    refine W.lcmp hx hb (lwD_of d9) ?_
    have e0 : lg_cmp v v = 0 := by simp [lg_cmp]
    rw [e0]
    refine lv_if_eq (tgt := T + 19) hx hb (lwD_of d10) (by omega) (fun _ => ?_) (fun hq => absurd rfl hq)
    exact lv_goto (tgt := 2278) hx hb (lwD_of d11) hoff K
  refine lv_if_eq (tgt := T + 12) hx hb (lwD_of d5) (by omega) (fun hq => ?_) (fun hq => ?_)
  · rw [if_pos hq]
    refine lv_lconst (v := 0) hx hb (lwD_of d8) (by decide) ?_
    exact fin 0
  · rw [if_neg hq]
    refine lv_lconst (v := 1) hx hb (lwD_of d6) (by decide) ?_
    refine lv_goto (tgt := T + 13) hx hb (lwD_of d7) (by omega) ?_
    exact fin 1
/-- how a case goes on -/
abbrev lwK (p : Program) (l : Launch) (e : Env) (s : State) (mid : MethodId) (b : Nat) (below : List Frame) (meth : Method) (c : Code) (Q : State → Prop) (b0 k : Nat) (ro : Nat → Nat) (cA : Nat → ClassId) (D : va_G) (d : Nat → Nat → UInt64) (cells slots : Nat) : Prop := ∀ (V2 : zVt) (J2 : zJt) (H2 : Heap) (locs2 : List Loc) (ls2 : Array Slot), zInv ((k : Int) + 1) V2 J2 → va_P D vwCl (zW b0 ro cA (zm V2 J2 d)) H2 → va_S (zA b0) s.heap H2 locs2 → lv_has ls2 8 (lwL b b0 k) → W p l e room_1 s mid #[Value.ref b] below meth c H2 locs2 (cells + 1) (slots + 6) Q (F0 mid 2278 ls2 [])
/-- an ordinary case: n arguments out of the script, a stub that keeps a number -/
def lwShape (P n iS iM : Nat) (off : Int) : Bool := lwHead P (6 * n) iS iM && (lwThr (P + 13 + 2 * (6 * n)) 15 && (lwCmp (P + 29 + 2 * (6 * n)) off && (lwArgsB (P + 1) 1 n && lwArgsB (P + 8 + 6 * n) 1 n)))
theorem lw_caseI {P n iS iM CC RR nL : Nat} {off : Int} {cs : List Nat} {lcC : List Value} {yS : MethodName} {cc : ByteArray} {hh : List (Nat × Nat × Nat × Nat)} (C : lwC p l s mid meth c b L xs b0 ro cA D) (hsh : lwShape P n iS iM off = true) (hoff : ((P + 41 + 2 * (6 * n) : Nat) : Int) + off = (2278 : Nat)) (hL : 5 * k + 1 + n ≤ L) (hv : (lwVals xs (5 * k + 1) n).map (zcv b0 ro) = lwVals xs (5 * k + 1) n)
    (hTw : zTw k V J CC lcC RR (zent RR (.ref 430 :: lwVals xs (5 * k + 1) n)) cs) (hcs : cs.length ≤ 3)
    (hM : ∀ (kk : Int) (V1 : zVt) (J1 : zJt), stO CC lcC cs V J d kk V1 J1 → stM l b0 ro cA D yS (Cond.codeWith yS cc nL (some .int) hh) (zm V J d) (zm V1 J1 d) (.ref 0 :: (lwVals xs (5 * k + 1) n ++ [.ref 474])) (zi kk))
    (hcw : Cond.codeWith yS cc nL (some .int) hh ∈ zGT) (hlink : Cond.methodLink RL iS yS ∈ zGT) (hstat : Cond.static yS ∈ zGT) (hyc : yS.cls = RL) (hn : (parseMethodDescriptor yS.desc).map (fun d => d.parameters.length) = some ((lwVals xs (5 * k + 1) n).length + 2)) (hnL : nL ≤ 7)
    (hz : RR < 237) (hzf : zf RR + 1 ≤ 12 ∧ 8 + (zl RR + 11) + zw RR ≤ 480) (hw : Cond.methodLink RL iM (zy RR) ∈ zGT) (hk : zk RR = 0) (hzc : zc RR = 12) (hlen : (lwVals xs (5 * k + 1) n).length = za RR) (harg : zarg (.ref 430 :: lwVals xs (5 * k + 1) n) = true) (hle : (lwVals xs (5 * k + 1) n).length + 1 ≤ zl RR)
    (hP : va_P D vwCl (zW b0 ro cA (zm V J d)) H) (hS : va_S (zA b0) s.heap H locs) (hl : lv_has ls 8 (lwL b b0 k)) (hf : cells + 1 ≤ 601024 ∧ slots + 6 ≤ 7293034) (K : lwK p l e s mid b below meth c Q b0 k ro cA D d cells slots) :
    W p l e room_1 s mid #[Value.ref b] below meth c H locs cells slots Q (F0 mid P ls []) := by
  unfold lwShape at hsh
  simp only [Bool.and_eq_true] at hsh
  obtain ⟨s1, s2, s3, s4, s5⟩ := hsh
  have hgo : decode code (P + 26 + 2 * (6 * n) + 15) = .ok (.goto off, 3) := by
    have h3 := s3
    unfold lwCmp at h3
    simp only [Bool.and_eq_true] at h3
    have := lwD_of h3.2.2.2.2.2.2.2
    rwa [show P + 29 + 2 * (6 * n) + 12 = P + 26 + 2 * (6 * n) + 15 by omega] at this
  exact lw_case (f := fun x => (zi x).toInt64) (O := stO CC lcC cs V J d) C s1 s2 hgo (by omega) (fun y V2 J2 H locs cells slots ls hP h3 h7 hJ K => lw_same (x := 0) (y := y) C s3 (by omega) hP h3 h7 hJ K)
    (fun H locs cells slots ls rest hS h0 h5 K => lw_args C hS h0 h5 n (P + 1) 1 rest s4 (by omega) K) (fun H locs cells slots ls rest hS h0 h5 K => lw_args C hS h0 h5 n (P + 8 + 6 * n) 1 rest s5 (by omega) K) hv hTw hcs (fun x V1 J1 h => Or.inl ⟨x, J1, h, rfl, rfl⟩) (fun i ex V1 J1 hi h => Or.inr ⟨i, ex, hi, h, rfl⟩) hM hcw hlink hstat hyc hn hnL hz hzf hw hk hzc hlen harg hle hP hS hl hf K
end
