/-! part 99r: the other cases -/
theorem qL608 : Cond.static yL_write ∈ zGT := zGT_of (l := [Cond.static yL_write]) (r := [608]) (by decide +kernel) _ List.mem_cons_self
theorem qL607 : Cond.methodLink RL 110 yL_write ∈ zGT := zGT_of (l := [Cond.methodLink RL 110 yL_write]) (r := [607]) (by decide +kernel) _ List.mem_cons_self
theorem qL1510 : Cond.methodLink RL 115 (zy 145) ∈ zGT := zGT_of (l := [Cond.methodLink RL 115 (zy 145)]) (r := [1510]) (by decide +kernel) _ List.mem_cons_self
theorem qL539 : Cond.methodLink RL 185 (zy 90) ∈ zGT := zGT_of (l := [Cond.methodLink RL 185 (zy 90)]) (r := [539]) (by decide +kernel) _ List.mem_cons_self
theorem qL1776 : Cond.methodLink RL 188 (zy 212) ∈ zGT := zGT_of (l := [Cond.methodLink RL 188 (zy 212)]) (r := [1776]) (by decide +kernel) _ List.mem_cons_self
theorem qL547 : Cond.methodLink RL 195 (zy 91) ∈ zGT := zGT_of (l := [Cond.methodLink RL 195 (zy 91)]) (r := [547]) (by decide +kernel) _ List.mem_cons_self
theorem qL1788 : Cond.methodLink RL 198 (zy 215) ∈ zGT := zGT_of (l := [Cond.methodLink RL 198 (zy 215)]) (r := [1788]) (by decide +kernel) _ List.mem_cons_self
theorem qL603 : Cond.methodLink RL 214 (zy 95) ∈ zGT := zGT_of (l := [Cond.methodLink RL 214 (zy 95)]) (r := [603]) (by decide +kernel) _ List.mem_cons_self
theorem qL1848 : Cond.methodLink RL 217 (zy 230) ∈ zGT := zGT_of (l := [Cond.methodLink RL 217 (zy 230)]) (r := [1848]) (by decide +kernel) _ List.mem_cons_self
theorem qL1137 : Cond.methodLink RL 173 yL_begins ∈ zGT := zGT_of (l := [Cond.methodLink RL 173 yL_begins]) (r := [1137]) (by decide +kernel) _ List.mem_cons_self
theorem qL1138 : Cond.static yL_begins ∈ zGT := zGT_of (l := [Cond.static yL_begins]) (r := [1138]) (by decide +kernel) _ List.mem_cons_self
theorem qL1736 : Cond.methodLink RL 175 (zy 202) ∈ zGT := zGT_of (l := [Cond.methodLink RL 175 (zy 202)]) (r := [1736]) (by decide +kernel) _ List.mem_cons_self
/-- the char in an int -/
def lwCh (xs : Nat → Int32) (a : Nat) : Int := ((xs a).toUInt32 % 65536).toInt32.toInt
theorem lwCh_rg {xs : Nat → Int32} {a : Nat} : 0 ≤ lwCh xs a ∧ lwCh xs a < 65536 := by
  have h : ((xs a).toUInt32 % 65536).toNat < 65536 := by
    rw [UInt32.toNat_mod]
    exact Nat.mod_lt _ (by decide)
  have e : lwCh xs a = (((xs a).toUInt32 % 65536).toNat : Int) := by
    show BitVec.toInt ((xs a).toUInt32 % 65536).toBitVec = _
    rw [BitVec.toInt_eq_toNat_of_lt]
    · rfl
    · show 2 * ((xs a).toUInt32 % 65536).toNat < 2 ^ 32
      omega
  omega
def lwTwo (P iC iM : Nat) (off : Int) : Bool := lwD P (.aload_n 1) 1 && (lwD (P + 1) (.invokevirtual iC) 3 && (lwD (P + 4) (.aload_n 2) 1 && (lwD (P + 5) (.invokevirtual iM) 3 && lwD (P + 8) (.if_icmp .eq off) 3)))
section
variable {p : Program} {l : Launch} {e : Env} {s : State} {mid : MethodId} {below : List Frame} {meth : Method} {c : Code} {H : Heap} {locs : List Loc} {cells slots pc : Nat} {Q : State → Prop}
variable {b L b0 k : Nat} {xs : Nat → Int32} {ro : Nat → Nat} {cA : Nat → ClassId} {D : va_G} {ls : Array Slot} {V : zVt} {J : zJt} {d : Nat → Nat → UInt64}
/-- no stub: the two answers side by side -/
theorem lw_two {P iC iM CC RR : Nat} {off : Int} (C : lwC p l s mid meth c b L xs b0 ro cA D) (hsh : lwTwo P iC iM off = true) (hoff : ((P + 8 : Nat) : Int) + off = (2278 : Nat)) (hTw : zTw k V J CC (zent CC [.ref 0]) RR (zent RR [.ref 430]) [])
    (hz : CC < 237) (hzf : zf CC + 1 ≤ 12 ∧ 8 + (zl CC + 11) + zw CC ≤ 480) (hw : Cond.methodLink RL iC (zy CC) ∈ zGT) (hk : zk CC = 0) (hzc : zc CC = 11) (hlen : 0 = za CC) (hle : 1 ≤ zl CC)
    (hz2 : RR < 237) (hzf2 : zf RR + 1 ≤ 12 ∧ 8 + (zl RR + 11) + zw RR ≤ 480) (hw2 : Cond.methodLink RL iM (zy RR) ∈ zGT) (hk2 : zk RR = 0) (hzc2 : zc RR = 12) (hlen2 : 0 = za RR) (hle2 : 1 ≤ zl RR)
    (hP : va_P D vwCl (zW b0 ro cA (zm V J d)) H) (hS : va_S (zA b0) s.heap H locs) (hl : lv_has ls 8 (lwL b b0 k)) (hf : cells + 1 ≤ 601024 ∧ slots + 6 ≤ 7293034) (K : lwK p l e s mid b below meth c Q b0 k ro cA D d cells slots) :
    W p l e room_1 s mid #[Value.ref b] below meth c H locs cells slots Q (F0 mid P ls []) := by
  unfold lwTwo at hsh
  simp only [Bool.and_eq_true] at hsh
  obtain ⟨d1, d2, d3, d4, d5⟩ := hsh
  have C2 := C
  obtain ⟨hx, hb, -⟩ := C2
  have hf0 : cells ≤ 601024 ∧ slots ≤ 7293034 := ⟨by omega, by omega⟩
  rcases hTw d with ⟨x, V1, J1, h1, hR⟩ | ⟨i, ex, V1, J1, hi, h1, hR⟩
  · obtain ⟨y, V2, J2, r1, r2, r3, r4, r5⟩ := hR J1 d (fun o ho => rfl)
    have r5 := r5 rfl
    subst r5
    refine lv_aload_n hx hb (lwD_of d1) rfl (lv_at hl 1 rfl) ?_
    refine lw_model (z := CC) (o := 0) (vals := []) (rest := []) C hP hS hl.1 h1 hz hzf hw hk (by rw [zS0_0]; exact hzc.symm) (by rw [hzc]; decide) hlen rfl rfl hle (Nat.le_of_ble_eq_true rfl) (lwD_of d2) hf0 (fun H1 locs1 hP1 hS1 => ?_)
    refine lv_aload_n hx hb (lwD_of d3) rfl (lv_at hl 2 rfl) ?_
    refine lw_model (z := RR) (o := 430) (vals := []) (rest := [zcv b0 ro (.int (zi y))]) C hP1 hS1 hl.1 r1 hz2 hzf2 hw2 hk2 (by rw [zS0_430]; exact hzc2.symm) (by rw [hzc2]; decide) hlen2 rfl rfl hle2 (Nat.le_of_ble_eq_true rfl) (lwD_of d4) hf0 (fun H2 locs2 hP2 hS2 => ?_)
    refine lv_icmp_eq (x := zi y) (y := zi y) (tgt := 2278) hx hb (lwD_of d5) hoff (fun _ => ?_) (fun hq => absurd rfl hq)
    refine W.widen (k := cells + 1) (n := slots + 6) (by omega) (by omega) ?_
    exact K V2 J2 H2 locs2 ls r3 hP2 hS2 hl
  · simp at hi
theorem lc_day (C : lwC p l s mid meth c b L xs b0 ro cA D) (hk : k < 512) (hI : zInv (k : Int) V J) (hP : va_P D vwCl (zW b0 ro cA (zm V J d)) H) (hS : va_S (zA b0) s.heap H locs) (hl : lv_has ls 8 (lwL b b0 k)) (hf : cells + 1 ≤ 601024 ∧ slots + 6 ≤ 7293034) (K : lwK p l e s mid b below meth c Q b0 k ro cA D d cells slots) : W p l e room_1 s mid #[Value.ref b] below meth c H locs cells slots Q (F0 mid 1739 ls []) :=
  lw_two (P := 1739) (iC := 185) (iM := 188) (CC := 90) (RR := 212) (off := 531) C (by decide +kernel) (by decide) (x90 hI (by omega)) (by decide) ⟨Nat.le_of_ble_eq_true rfl, Nat.le_of_ble_eq_true rfl⟩ qL539 rfl rfl rfl (Nat.le_of_ble_eq_true rfl) (by decide) ⟨Nat.le_of_ble_eq_true rfl, Nat.le_of_ble_eq_true rfl⟩ qL1776 rfl rfl rfl (Nat.le_of_ble_eq_true rfl) hP hS hl hf K
theorem lc_plan (C : lwC p l s mid meth c b L xs b0 ro cA D) (hk : k < 512) (hI : zInv (k : Int) V J) (hP : va_P D vwCl (zW b0 ro cA (zm V J d)) H) (hS : va_S (zA b0) s.heap H locs) (hl : lv_has ls 8 (lwL b b0 k)) (hf : cells + 1 ≤ 601024 ∧ slots + 6 ≤ 7293034) (K : lwK p l e s mid b below meth c Q b0 k ro cA D d cells slots) : W p l e room_1 s mid #[Value.ref b] below meth c H locs cells slots Q (F0 mid 1912 ls []) :=
  lw_two (P := 1912) (iC := 195) (iM := 198) (CC := 91) (RR := 215) (off := 358) C (by decide +kernel) (by decide) (x91 hI (by omega)) (by decide) ⟨Nat.le_of_ble_eq_true rfl, Nat.le_of_ble_eq_true rfl⟩ qL547 rfl rfl rfl (Nat.le_of_ble_eq_true rfl) (by decide) ⟨Nat.le_of_ble_eq_true rfl, Nat.le_of_ble_eq_true rfl⟩ qL1788 rfl rfl rfl (Nat.le_of_ble_eq_true rfl) hP hS hl hf K
theorem lc_concerts (C : lwC p l s mid meth c b L xs b0 ro cA D) (hk : k < 512) (hI : zInv (k : Int) V J) (hP : va_P D vwCl (zW b0 ro cA (zm V J d)) H) (hS : va_S (zA b0) s.heap H locs) (hl : lv_has ls 8 (lwL b b0 k)) (hf : cells + 1 ≤ 601024 ∧ slots + 6 ≤ 7293034) (K : lwK p l e s mid b below meth c Q b0 k ro cA D d cells slots) : W p l e room_1 s mid #[Value.ref b] below meth c H locs cells slots Q (F0 mid 2265 ls []) :=
  lw_two (P := 2265) (iC := 214) (iM := 217) (CC := 95) (RR := 230) (off := 5) C (by decide +kernel) (by decide) (x95 hI (by omega)) (by decide) ⟨Nat.le_of_ble_eq_true rfl, Nat.le_of_ble_eq_true rfl⟩ qL603 rfl rfl rfl (Nat.le_of_ble_eq_true rfl) (by decide) ⟨Nat.le_of_ble_eq_true rfl, Nat.le_of_ble_eq_true rfl⟩ qL1848 rfl rfl rfl (Nat.le_of_ble_eq_true rfl) hP hS hl hf K
def lwShB : Bool := lwHead 1448 18 173 175 && (lwThr 1497 22 && (lwCmpB 1513 746 && (lwArgsB 1449 1 3 && lwArgsB 1474 1 3)))
theorem lc_begins (C : lwC p l s mid meth c b L xs b0 ro cA D) (hL : 5 * k + 5 ≤ L) (hk : k < 512) (hI : zInv (k : Int) V J) (hP : va_P D vwCl (zW b0 ro cA (zm V J d)) H) (hS : va_S (zA b0) s.heap H locs) (hl : lv_has ls 8 (lwL b b0 k)) (hf : cells + 1 ≤ 601024 ∧ slots + 6 ≤ 7293034) (K : lwK p l e s mid b below meth c Q b0 k ro cA D d cells slots) : W p l e room_1 s mid #[Value.ref b] below meth c H locs cells slots Q (F0 mid 1448 ls []) := by
  have hsh : lwShB = true := by decide +kernel
  unfold lwShB at hsh
  simp only [Bool.and_eq_true] at hsh
  obtain ⟨s1, s2, s3, s4, s5⟩ := hsh
  have hgo : decode code (1448 + 26 + 2 * 18 + 22) = .ok (.goto 746, 3) := by
    have h3 := s3
    unfold lwCmpB at h3
    simp only [Bool.and_eq_true] at h3
    exact lwD_of h3.2.2.2.2.2.2.2.2.2.2
  exact lw_case (P := 1448) (A := 18) (iS := 173) (iM := 175) (CC := 121) (RR := 202) (nL := 6) (n9 := 22) (vals := lwVals xs (5 * k + 1) 3) (yS := yL_begins) (cc := cL_begins) (hh := [(0, 19, 22, 13)]) (f := fun x => if zi x = 0 then 0 else 1) (O := stOb 121 (zent 121 (.ref 0 :: lwVals xs (5 * k + 1) 3)) [0] V J d) C s1 s2 hgo (by decide) (fun y V2 J2 H locs cells slots ls hP h3 h7 hJ K => lw_sameB (y := y) C s3 (by decide) hP h3 h7 hJ K)
    (fun H locs cells slots ls rest hS h0 h5 K => lw_args C hS h0 h5 3 1449 1 rest s4 (by omega) K) (fun H locs cells slots ls rest hS h0 h5 K => lw_args C hS h0 h5 3 1474 1 rest s5 (by omega) K) rfl (x121 hI (by omega) (lw_rg (5 * k + 1)) (lw_rg (5 * k + 1 + 1)) (lw_rg (5 * k + 1 + 1 + 1))) (by decide) (fun x V1 J1 h => Or.inl ⟨x, J1, h, rfl, rfl⟩) (fun i ex V1 J1 hi h => Or.inr ⟨i, ex, hi, h, rfl⟩) (fun kk V1 J1 h => st_begins C.2.2.2.2.2.2.2.2.2.2.1 h) qL1139 qL1137 qL1138 rfl rfl (by decide) (by decide) ⟨Nat.le_of_ble_eq_true rfl, Nat.le_of_ble_eq_true rfl⟩ qL1736 rfl rfl rfl rfl (Nat.le_of_ble_eq_true rfl) hP hS hl hf K
def lwShW : Bool := lwHead 184 19 110 115 && (lwThr 235 15 && (lwCmp 251 2015 && (lwArgsB 185 1 3 && (lwArgsB 211 1 3 && (lwD 203 .i2c 1 && lwD 229 .i2c 1)))))
theorem lc_write (C : lwC p l s mid meth c b L xs b0 ro cA D) (hL : 5 * k + 5 ≤ L) (hk : k < 512) (hI : zInv (k : Int) V J) (hP : va_P D vwCl (zW b0 ro cA (zm V J d)) H) (hS : va_S (zA b0) s.heap H locs) (hl : lv_has ls 8 (lwL b b0 k)) (hf : cells + 1 ≤ 601024 ∧ slots + 6 ≤ 7293034) (K : lwK p l e s mid b below meth c Q b0 k ro cA D d cells slots) : W p l e room_1 s mid #[Value.ref b] below meth c H locs cells slots Q (F0 mid 184 ls []) := by
  have hsh : lwShW = true := by decide +kernel
  unfold lwShW at hsh
  simp only [Bool.and_eq_true] at hsh
  obtain ⟨s1, s2, s3, s4, s5, s6, s7⟩ := hsh
  have hgo : decode code (184 + 26 + 2 * 19 + 15) = .ok (.goto 2015, 3) := by
    have h3 := s3
    unfold lwCmp at h3
    simp only [Bool.and_eq_true] at h3
    exact lwD_of h3.2.2.2.2.2.2.2
  have hch : ((zi (lwV xs (5 * k + 1 + 1 + 1))).toUInt32 % 65536).toInt32 = zi (lwCh xs (5 * k + 1 + 1 + 1)) := by
    have e1 : zi (lwV xs (5 * k + 1 + 1 + 1)) = xs (5 * k + 1 + 1 + 1) := Int32.ofInt_toInt _
    have e2 : zi (lwCh xs (5 * k + 1 + 1 + 1)) = ((xs (5 * k + 1 + 1 + 1)).toUInt32 % 65536).toInt32 := Int32.ofInt_toInt _
    rw [e1, e2]
  have C2 := C
  obtain ⟨hx, hb, -⟩ := C2
  exact lw_case (P := 184) (A := 19) (iS := 110) (iM := 115) (CC := 96) (RR := 145) (nL := 6) (n9 := 15) (vals := [.int (zi (lwV xs (5 * k + 1))), .int (zi (lwV xs (5 * k + 1 + 1))), .int (zi (lwCh xs (5 * k + 1 + 1 + 1)))]) (yS := yL_write) (cc := cL_write) (hh := [(0, 12, 15, 13), (0, 12, 19, 15), (0, 12, 23, 17)]) (f := fun x => (zi x).toInt64) (O := stO 96 (zent 96 [.ref 0, .int (zi (lwV xs (5 * k + 1))), .int (zi (lwV xs (5 * k + 1 + 1))), .int (zi (lwCh xs (5 * k + 1 + 1 + 1)))]) [0, 1, 2] V J d) C s1 s2 hgo (by decide) (fun y V2 J2 H locs cells slots ls hP h3 h7 hJ K => lw_same (x := 0) (y := y) C s3 (by decide) hP h3 h7 hJ K)
    (fun H locs cells slots ls rest hS h0 h5 K => lw_args C hS h0 h5 3 185 1 rest s4 (by omega) (lv_i2c (x := zi (lwV xs (5 * k + 1 + 1 + 1))) hx hb (lwD_of s6) hch K)) (fun H locs cells slots ls rest hS h0 h5 K => lw_args C hS h0 h5 3 211 1 rest s5 (by omega) (lv_i2c (x := zi (lwV xs (5 * k + 1 + 1 + 1))) hx hb (lwD_of s7) hch K)) rfl (x96 hI (by omega) (lw_rg (5 * k + 1)) (lw_rg (5 * k + 1 + 1)) lwCh_rg) (by decide) (fun x V1 J1 h => Or.inl ⟨x, J1, h, rfl, rfl⟩) (fun i ex V1 J1 hi h => Or.inr ⟨i, ex, hi, h, rfl⟩) (fun kk V1 J1 h => st_write C.2.2.2.2.2.2.2.2.2.2.1 h) qL609 qL607 qL608 rfl rfl (by decide) (by decide) ⟨Nat.le_of_ble_eq_true rfl, Nat.le_of_ble_eq_true rfl⟩ qL1510 rfl rfl rfl rfl (Nat.le_of_ble_eq_true rfl) hP hS hl hf K
end
