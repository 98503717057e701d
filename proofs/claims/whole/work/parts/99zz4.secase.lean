/-! part 99zz4: the case of seconds -/
def zRnF (N : Int) (V : zVt) (J : zJt) (R : Nat) (l : List Value) (c : Int) (x : UInt32) : Prop := ∀ (J1 : zJt) (d1 : Nat → Nat → UInt64), (∀ o : Nat, o ≠ 474 → J1 o = J o) → ∃ y V2 J2, zGo false R 0 l [] (zm V J1 d1) = some (.inl (some (.float y)), zm V2 J2 d1) ∧ V2 430 60 = c ∧ zInv (N + 1) V2 J2 ∧ (c = 0 → y = x)
def zTwF (N : Int) (V : zVt) (J : zJt) (lc lr : List Value) : Prop := ∀ d : Nat → Nat → UInt64, (∃ x V1 J1, zGo false 108 0 lc [] (zm V J d) = some (.inl (some (.float x)), zm V1 J1 d) ∧ vf_n64 (FP.f2d x) ∧ FP.dcmp (FP.f2d x) (FP.f2d x) = some .eq ∧ zRnF N V1 J1 186 lr 0 x) ∨ ∃ (i e : Nat) (V1 : zVt) (J1 : zJt), ([0, 1] : List Nat)[i]? = some e ∧ zGo false 108 0 lc [] (zm V J d) = zE1 e V1 J1 d ∧ zRnF N V1 J1 186 lr ((i : Int) + 1) 0
def lwShF : Bool := (lwD 790 (.aload_n 1) 1 && (lwArgsB 791 1 3 && (lwD 809 (.aload 4) 2 && (lwD 811 (.invokestatic 144) 3 && (lwD 814 (.istore 6) 2 && (lwD 816 (.aload_n 2) 1 && (lwArgsB 817 1 3 && (lwD 835 (.invokevirtual 147) 3 && (lwD 838 (.fstore 7) 2 && lwThr 840 36))))))))) && (lwD 856 (.aload 4) 2 && (lwD 858 (.iconst 0) 1 && (lwD 859 .daload 1 && (lwD 860 (.fload 7) 2 && (lwD 862 .f2d 1 && (lwD 863 (.dcmp .l) 1 && (lwD 864 (.ifCond .eq 25) 3 && lwD 889 (.goto 1389) 3)))))))
theorem lwShF_ok : lwShF = true := by decide +kernel
theorem qL1019 : Cond.methodLink RL 144 yL_seconds ∈ zGT := zGT_of (l := [Cond.methodLink RL 144 yL_seconds]) (r := [1019]) (by decide +kernel) _ List.mem_cons_self
theorem qL1020 : Cond.static yL_seconds ∈ zGT := zGT_of (l := [Cond.static yL_seconds]) (r := [1020]) (by decide +kernel) _ List.mem_cons_self
theorem qL1670 : Cond.methodLink RL 147 (zy 186) ∈ zGT := zGT_of (l := [Cond.methodLink RL 147 (zy 186)]) (r := [1670]) (by decide +kernel) _ List.mem_cons_self
section
variable {p : Program} {l : Launch} {e : Env} {s : State} {mid : MethodId} {below : List Frame} {meth : Method} {c : Code} {H : Heap} {locs : List Loc} {cells slots : Nat} {Q : State → Prop}
variable {b L b0 k : Nat} {xs : Nat → Int32} {ro : Nat → Nat} {cA : Nat → ClassId} {D : va_G} {ls : Array Slot} {V : zVt} {J : zJt} {d : Nat → Nat → UInt64}
theorem lc_seconds (C : lwC p l s mid meth c b L xs b0 ro cA D) (hL : 5 * k + 5 ≤ L) (hTw : zTwF k V J (zent 108 (.ref 0 :: lwVals xs (5 * k + 1) 3)) (zent 186 (.ref 430 :: lwVals xs (5 * k + 1) 3))) (hP : va_P D vwCl (zW b0 ro cA (zm V J d)) H) (hS : va_S (zA b0) s.heap H locs) (hl : lv_has ls 8 (lwL b b0 k)) (hf : cells + 1 ≤ 601024 ∧ slots + 6 ≤ 7293034) (K : ∀ d2, lwK p l e s mid b below meth c Q b0 k ro cA D d2 cells slots) : W p l e room_1 s mid #[Value.ref b] below meth c H locs cells slots Q (F0 mid 790 ls []) := by
  have hsh := lwShF_ok
  unfold lwShF at hsh
  simp only [Bool.and_eq_true] at hsh
  obtain ⟨⟨d1, a1, d2, d3, d4, d5, a2, d6, d7, hTh⟩, e1, e2, e3, e4, e5, e6, e7, e8⟩ := hsh
  have C2 := C
  obtain ⟨hx, hb, hml, hown, hts, hG, hN, hX, hbl, hbA, hst, hL2⟩ := C2
  have key : ∀ (kk : Int) (x : UInt32) (V1 : zVt) (J1 : zJt) (dd : Nat → Nat → UInt64), stOf (zent 108 (.ref 0 :: lwVals xs (5 * k + 1) 3)) V J d kk V1 J1 dd → (kk = 0 → dd 475 0 = FP.f2d x ∧ vf_n64 (FP.f2d x) ∧ FP.dcmp (FP.f2d x) (FP.f2d x) = some .eq) → (zi kk = 0 → kk = 0) → (∃ y V2 J2, zGo false 186 0 (zent 186 (.ref 430 :: lwVals xs (5 * k + 1) 3)) [] (zm V1 J1 dd) = some (.inl (some (.float y)), zm V2 J2 dd) ∧ V2 430 60 = kk ∧ zInv ((k : Int) + 1) V2 J2 ∧ (kk = 0 → y = x)) → W p l e room_1 s mid #[Value.ref b] below meth c H locs cells slots Q (F0 mid 790 ls []) := by
    intro kk x V1 J1 dd hO hJ hkk ⟨y, V2, J2, hR, hthr, hI, hyx⟩
    refine lv_aload_n hx hb (lwD_of d1) rfl (lv_at hl 1 rfl) ?_
    refine lw_args C hS (lv_at hl 0 rfl) (lv_at hl 5 rfl) 3 791 1 [.ref (b0 + 0)] a1 (by omega) ?_
    refine lv_aload hx hb (lwD_of d2) (lv_at hl 4 rfl) ?_
    refine lw_call (na := 5) (as := [.ref 0, .int (zi (lwV xs (5 * k + 1))), .int (zi (lwV xs (5 * k + 1 + 1))), .int (zi (lwV xs (5 * k + 1 + 1 + 1))), .ref 475]) (m := zm V J d) (m2 := zm V1 J1 dd) C hP hS hl.1 (st_seconds hst hO) qL1021 qL1019 qL1020 qLini rfl (by decide) rfl (by decide) (lwD_of d3) hf (fun H1 locs1 hP1 hS1 => ?_)
    refine lv_istore (lv' := (6, .int (zi kk)) :: lwL b b0 k) hx hb (lwD_of d4) hl (by decide) rfl (fun ls1 hl1 => ?_)
    refine lv_aload_n hx hb (lwD_of d5) rfl (lv_at hl1 3 rfl) ?_
    refine lw_args C hS1 (lv_at hl1 1 rfl) (lv_at hl1 6 rfl) 3 817 1 [.ref (b0 + 430)] a2 (by omega) ?_
    refine lw_model (z := 186) (o := 430) (vals := lwVals xs (5 * k + 1) 3) (rest := []) C hP1 hS1 hl1.1 hR (by decide) ⟨Nat.le_of_ble_eq_true rfl, Nat.le_of_ble_eq_true rfl⟩ qL1670 rfl (by rw [zS0_430]; rfl) (by decide) rfl rfl rfl (Nat.le_of_ble_eq_true rfl) (Nat.le_of_ble_eq_true rfl) (lwD_of d6) hf (fun H2 locs2 hP2 hS2 => ?_)
    refine lv_fstore (x := y) (lv' := (7, .float y) :: (6, .int (zi kk)) :: lwL b b0 k) hx hb (lwD_of d7) hl1 (by decide) rfl (fun ls2 hl2 => ?_)
    refine lw_thrown (kk := kk) C hTh hP2 hS2 hl2.1 (lv_at hl2 4 rfl) (lv_at hl2 1 rfl) hthr hf (fun H3 locs3 hP3 hS3 h0 => ?_) (fun H3 locs3 hP3 hS3 _ => ?_)
    · obtain ⟨j1, j2, j3⟩ := hJ (hkk h0)
      have hyx := hyx (hkk h0)
      subst hyx
      have ht1 : ((zm V2 J2 dd).1 475).1 = 17 := (by decide +kernel : (zS0 475).1 = 17)
      have hlt : 475 < (zm V2 J2 dd).2.2.1.1 := (by decide : 475 < 476)
      refine lv_aload hx hb (lwD_of e1) (lv_at hl2 6 rfl) ?_
      refine lv_iconst (v := 0) hx hb (lwD_of e2) (by decide) ?_
      refine va_dald hx hb hG.1 hP3 475 4 (by rw [zW_at hlt, zE_arrD ht1]) rfl (z_in (by
        show zix 0 (zS0 475).2
        rw [show zS0 475 = (17, 1) by decide +kernel]
        exact ⟨by decide, by decide⟩)) (lwD_of e3) ?_
      have hJ2 : (zm V2 J2 dd).2.2.2.2.2 475 (0 : Int32).toNatClampNeg = FP.f2d y := j1
      rw [hJ2]
      refine lv_fload hx hb (lwD_of e4) (lv_at hl2 0 rfl) ?_
      refine lv_f2d hx hb (lwD_of e5) j2 ?_
      refine lv_dcmp hx hb (lwD_of e6) ?_
      rw [j3]
      refine lv_if_eq (tgt := 889) hx hb (lwD_of e7) (by decide) (fun _ => ?_) (fun hq => absurd rfl hq)
      refine lv_goto (tgt := 2278) hx hb (lwD_of e8) (by decide) ?_
      exact K dd V2 J2 H3 locs3 ls2 hI hP3 hS3 (lv_sub hl2 [2, 3, 4, 5, 6, 7] rfl)
    · refine lv_goto (tgt := 2278) hx hb (lwD_of e8) (by decide) ?_
      exact K dd V2 J2 H3 locs3 ls2 hI hP3 hS3 (lv_sub hl2 [2, 3, 4, 5, 6, 7] rfl)
  rcases hTw d with ⟨x, V1, J1, h1, n1, n2, hR⟩ | ⟨i, ex, V1, J1, hi, h1, hR⟩
  · refine key 0 x V1 J1 (zup d 475 0 (FP.f2d x)) (Or.inl ⟨x, h1, n1, rfl, rfl⟩) (fun _ => ⟨by simp [zup], n1, n2⟩) (fun _ => rfl) ?_
    exact hR J1 _ (fun o ho => rfl)
  · have hi3 : i < 2 := (List.getElem?_eq_some_iff.mp hi).1
    refine key ((i : Int) + 1) 0 V1 J1 d (Or.inr ⟨i, ex, hi, h1, rfl, rfl⟩) (fun q => by omega) (fun q => by
      rw [← zi_0, zi_eq, qw_0, qw_id (by omega) (by omega)] at q
      exact q) ?_
    exact hR J1 d (fun o ho => rfl)
end
