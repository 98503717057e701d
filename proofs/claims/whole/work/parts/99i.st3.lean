/-! part 99i.st3: the law's own methods: holder, copyError, copyPitch, copyPitchAnew, differ, clashes, clashesOf; printed by program (wip/whole/gen/gen_stub.py) -/
theorem dL_holder_0 : decode cL_holder 0 = .ok (.aload_n 2, 1) := by decide +kernel
theorem dL_holder_1 : decode cL_holder 1 = .ok (.iconst 0, 1) := by decide +kernel
theorem dL_holder_2 : decode cL_holder 2 = .ok (.aload_n 0, 1) := by decide +kernel
theorem dL_holder_3 : decode cL_holder 3 = .ok (.iload_n 1, 1) := by decide +kernel
theorem dL_holder_4 : decode cL_holder 4 = .ok (.invokevirtual 60, 3) := by decide +kernel
theorem dL_holder_7 : decode cL_holder 7 = .ok (.i2l, 1) := by decide +kernel
theorem dL_holder_8 : decode cL_holder 8 = .ok (.lastore, 1) := by decide +kernel
theorem dL_holder_9 : decode cL_holder 9 = .ok (.goto 6, 3) := by decide +kernel
theorem dL_holder_12 : decode cL_holder 12 = .ok (.astore_n 3, 1) := by decide +kernel
theorem dL_holder_13 : decode cL_holder 13 = .ok (.iconst 1, 1) := by decide +kernel
theorem dL_holder_14 : decode cL_holder 14 = .ok (.ireturn, 1) := by decide +kernel
theorem dL_holder_15 : decode cL_holder 15 = .ok (.iconst 0, 1) := by decide +kernel
theorem dL_holder_16 : decode cL_holder 16 = .ok (.ireturn, 1) := by decide +kernel
theorem qL1112 : Cond.methodLink RL 60 (zy 117) ∈ zGT := zGT_of (l := [Cond.methodLink RL 60 (zy 117)]) (r := [1112]) (by decide +kernel) _ List.mem_cons_self
theorem qL1111 : Cond.codeWith yL_holder cL_holder 4 (some .int) [(0, 9, 12, 13)] ∈ zGT := zGT_of (l := [Cond.codeWith yL_holder cL_holder 4 (some .int) [(0, 9, 12, 13)]]) (r := [1111]) (by decide +kernel) _ List.mem_cons_self
theorem st_holder {l : Launch} (hl : l.stackTraces = false) {b : Nat} {ro : Nat → Nat} {cA : Nat → ClassId} {D : va_G} {V V1 : zVt} {J J1 : zJt} {d : Nat → Nat → UInt64} {k a0 : Int} (h : stO 117 (zent 117 [.ref 0, .int (zi a0)]) [0] V J d k V1 J1) : stM l b ro cA D yL_holder (Cond.codeWith yL_holder cL_holder 4 (some .int) [(0, 9, 12, 13)]) (zm V J d) (zm V1 J1 d) [.ref 0, .int (zi a0), .ref 474] (zi k) := by
  refine st_of (by decide) rfl [.ref (b + 0), .int (zi a0), .ref (b + 474)] rfl (Nat.le_of_ble_eq_true rfl) ?_
  intro p e s mid below meth c ls hx hb hml hown hts hG hN hr hlocks hT hP hl0
  have hS : va_S (zA b) s.heap s.heap [] := va_S.rf
  refine lv_aload_n hx hb dL_holder_0 rfl (lv_at hl0 2 rfl) ?_
  refine lv_iconst (v := 0) hx hb dL_holder_1 (by decide) ?_
  refine lv_aload_n hx hb dL_holder_2 rfl (lv_at hl0 0 rfl) ?_
  refine lv_iload_n hx hb dL_holder_3 rfl (lv_at hl0 1 rfl) ?_
  rcases h with ⟨x, J0, h, rfl, rfl⟩ | ⟨i, ex, hi, h, rfl⟩
  · refine zcall_ret (st_run (m := zm V J d) (t := [.int (zi a0)]) (o := 0) (rest := [.int 0, .ref (b + 474)]) (z := 117) hx hb hml hown hts hG zm_wf hP hS hl0.1 (st_met0 (y := 117) hl (by decide) rfl (Nat.le_of_ble_eq_true rfl) h) (by decide) ⟨Nat.le_of_ble_eq_true rfl, Nat.le_of_ble_eq_true rfl⟩ qL1112 rfl rfl (by decide) rfl (Nat.le_of_ble_eq_true rfl) dL_holder_4 ⟨Nat.le_of_ble_eq_true rfl, Nat.le_of_ble_eq_true rfl⟩) hS (fun H1 locs1 hP1 hS1 _ => ?_)
    refine lv_i2l hx hb dL_holder_7 rfl ?_
    exact st_store hx hb hr hlocks hG dL_holder_8 dL_holder_9 (tgt := 15) (by decide) dL_holder_15 dL_holder_16 hP1 hS1 (Nat.le_of_ble_eq_true rfl) (Nat.le_of_ble_eq_true rfl)
  · match i, hi with
    | 0, hi =>
      cases hi
      refine st_catch (k := 0) (hh := [(0, 9, 12, 13)]) (st_run (m := zm V J d) (t := [.int (zi a0)]) (o := 0) (rest := [.int 0, .ref (b + 474)]) (z := 117) hx hb hml hown hts hG zm_wf hP hS hl0.1 (st_met1 (y := 117) hl (by decide) rfl (Nat.le_of_ble_eq_true rfl) h) (by decide) ⟨Nat.le_of_ble_eq_true rfl, Nat.le_of_ble_eq_true rfl⟩ qL1112 rfl rfl (by decide) rfl (Nat.le_of_ble_eq_true rfl) dL_holder_4 ⟨Nat.le_of_ble_eq_true rfl, Nat.le_of_ble_eq_true rfl⟩) hS hown hts hG hN hT (by decide) rfl rfl (by decide) (fun H1 locs1 q hP1 hS1 => ?_)
      refine lv_astore_n hx hb dL_holder_12 rfl hl0 (by decide) rfl (fun ls1 _ => ?_)
      exact st_end hx hb hr hlocks dL_holder_13 dL_holder_14 rfl hP1 hS1 (Nat.le_of_ble_eq_true rfl) (Nat.le_of_ble_eq_true rfl)
    | i + 1, hi => simp at hi
theorem dL_copyError_0 : decode cL_copyError 0 = .ok (.aload_n 2, 1) := by decide +kernel
theorem dL_copyError_1 : decode cL_copyError 1 = .ok (.iconst 0, 1) := by decide +kernel
theorem dL_copyError_2 : decode cL_copyError 2 = .ok (.aload_n 0, 1) := by decide +kernel
theorem dL_copyError_3 : decode cL_copyError 3 = .ok (.iload_n 1, 1) := by decide +kernel
theorem dL_copyError_4 : decode cL_copyError 4 = .ok (.invokevirtual 63, 3) := by decide +kernel
theorem dL_copyError_7 : decode cL_copyError 7 = .ok (.i2l, 1) := by decide +kernel
theorem dL_copyError_8 : decode cL_copyError 8 = .ok (.lastore, 1) := by decide +kernel
theorem dL_copyError_9 : decode cL_copyError 9 = .ok (.goto 6, 3) := by decide +kernel
theorem dL_copyError_12 : decode cL_copyError 12 = .ok (.astore_n 3, 1) := by decide +kernel
theorem dL_copyError_13 : decode cL_copyError 13 = .ok (.iconst 1, 1) := by decide +kernel
theorem dL_copyError_14 : decode cL_copyError 14 = .ok (.ireturn, 1) := by decide +kernel
theorem dL_copyError_15 : decode cL_copyError 15 = .ok (.iconst 0, 1) := by decide +kernel
theorem dL_copyError_16 : decode cL_copyError 16 = .ok (.ireturn, 1) := by decide +kernel
theorem qL1119 : Cond.methodLink RL 63 (zy 118) ∈ zGT := zGT_of (l := [Cond.methodLink RL 63 (zy 118)]) (r := [1119]) (by decide +kernel) _ List.mem_cons_self
theorem qL1118 : Cond.codeWith yL_copyError cL_copyError 4 (some .int) [(0, 9, 12, 13)] ∈ zGT := zGT_of (l := [Cond.codeWith yL_copyError cL_copyError 4 (some .int) [(0, 9, 12, 13)]]) (r := [1118]) (by decide +kernel) _ List.mem_cons_self
theorem st_copyError {l : Launch} (hl : l.stackTraces = false) {b : Nat} {ro : Nat → Nat} {cA : Nat → ClassId} {D : va_G} {V V1 : zVt} {J J1 : zJt} {d : Nat → Nat → UInt64} {k a0 : Int} (h : stO 118 (zent 118 [.ref 0, .int (zi a0)]) [0] V J d k V1 J1) : stM l b ro cA D yL_copyError (Cond.codeWith yL_copyError cL_copyError 4 (some .int) [(0, 9, 12, 13)]) (zm V J d) (zm V1 J1 d) [.ref 0, .int (zi a0), .ref 474] (zi k) := by
  refine st_of (by decide) rfl [.ref (b + 0), .int (zi a0), .ref (b + 474)] rfl (Nat.le_of_ble_eq_true rfl) ?_
  intro p e s mid below meth c ls hx hb hml hown hts hG hN hr hlocks hT hP hl0
  have hS : va_S (zA b) s.heap s.heap [] := va_S.rf
  refine lv_aload_n hx hb dL_copyError_0 rfl (lv_at hl0 2 rfl) ?_
  refine lv_iconst (v := 0) hx hb dL_copyError_1 (by decide) ?_
  refine lv_aload_n hx hb dL_copyError_2 rfl (lv_at hl0 0 rfl) ?_
  refine lv_iload_n hx hb dL_copyError_3 rfl (lv_at hl0 1 rfl) ?_
  rcases h with ⟨x, J0, h, rfl, rfl⟩ | ⟨i, ex, hi, h, rfl⟩
  · refine zcall_ret (st_run (m := zm V J d) (t := [.int (zi a0)]) (o := 0) (rest := [.int 0, .ref (b + 474)]) (z := 118) hx hb hml hown hts hG zm_wf hP hS hl0.1 (st_met0 (y := 118) hl (by decide) rfl (Nat.le_of_ble_eq_true rfl) h) (by decide) ⟨Nat.le_of_ble_eq_true rfl, Nat.le_of_ble_eq_true rfl⟩ qL1119 rfl rfl (by decide) rfl (Nat.le_of_ble_eq_true rfl) dL_copyError_4 ⟨Nat.le_of_ble_eq_true rfl, Nat.le_of_ble_eq_true rfl⟩) hS (fun H1 locs1 hP1 hS1 _ => ?_)
    refine lv_i2l hx hb dL_copyError_7 rfl ?_
    exact st_store hx hb hr hlocks hG dL_copyError_8 dL_copyError_9 (tgt := 15) (by decide) dL_copyError_15 dL_copyError_16 hP1 hS1 (Nat.le_of_ble_eq_true rfl) (Nat.le_of_ble_eq_true rfl)
  · match i, hi with
    | 0, hi =>
      cases hi
      refine st_catch (k := 0) (hh := [(0, 9, 12, 13)]) (st_run (m := zm V J d) (t := [.int (zi a0)]) (o := 0) (rest := [.int 0, .ref (b + 474)]) (z := 118) hx hb hml hown hts hG zm_wf hP hS hl0.1 (st_met1 (y := 118) hl (by decide) rfl (Nat.le_of_ble_eq_true rfl) h) (by decide) ⟨Nat.le_of_ble_eq_true rfl, Nat.le_of_ble_eq_true rfl⟩ qL1119 rfl rfl (by decide) rfl (Nat.le_of_ble_eq_true rfl) dL_copyError_4 ⟨Nat.le_of_ble_eq_true rfl, Nat.le_of_ble_eq_true rfl⟩) hS hown hts hG hN hT (by decide) rfl rfl (by decide) (fun H1 locs1 q hP1 hS1 => ?_)
      refine lv_astore_n hx hb dL_copyError_12 rfl hl0 (by decide) rfl (fun ls1 _ => ?_)
      exact st_end hx hb hr hlocks dL_copyError_13 dL_copyError_14 rfl hP1 hS1 (Nat.le_of_ble_eq_true rfl) (Nat.le_of_ble_eq_true rfl)
    | i + 1, hi => simp at hi
theorem dL_copyPitch_0 : decode cL_copyPitch 0 = .ok (.aload 4, 2) := by decide +kernel
theorem dL_copyPitch_2 : decode cL_copyPitch 2 = .ok (.iconst 0, 1) := by decide +kernel
theorem dL_copyPitch_3 : decode cL_copyPitch 3 = .ok (.aload_n 0, 1) := by decide +kernel
theorem dL_copyPitch_4 : decode cL_copyPitch 4 = .ok (.iload_n 1, 1) := by decide +kernel
theorem dL_copyPitch_5 : decode cL_copyPitch 5 = .ok (.iload_n 2, 1) := by decide +kernel
theorem dL_copyPitch_6 : decode cL_copyPitch 6 = .ok (.iload_n 3, 1) := by decide +kernel
theorem dL_copyPitch_7 : decode cL_copyPitch 7 = .ok (.invokevirtual 66, 3) := by decide +kernel
theorem dL_copyPitch_10 : decode cL_copyPitch 10 = .ok (.i2l, 1) := by decide +kernel
theorem dL_copyPitch_11 : decode cL_copyPitch 11 = .ok (.lastore, 1) := by decide +kernel
theorem dL_copyPitch_12 : decode cL_copyPitch 12 = .ok (.goto 7, 3) := by decide +kernel
theorem dL_copyPitch_15 : decode cL_copyPitch 15 = .ok (.astore 5, 2) := by decide +kernel
theorem dL_copyPitch_17 : decode cL_copyPitch 17 = .ok (.iconst 1, 1) := by decide +kernel
theorem dL_copyPitch_18 : decode cL_copyPitch 18 = .ok (.ireturn, 1) := by decide +kernel
theorem dL_copyPitch_19 : decode cL_copyPitch 19 = .ok (.iconst 0, 1) := by decide +kernel
theorem dL_copyPitch_20 : decode cL_copyPitch 20 = .ok (.ireturn, 1) := by decide +kernel
theorem qL1126 : Cond.methodLink RL 66 (zy 119) ∈ zGT := zGT_of (l := [Cond.methodLink RL 66 (zy 119)]) (r := [1126]) (by decide +kernel) _ List.mem_cons_self
theorem qL1125 : Cond.codeWith yL_copyPitch cL_copyPitch 6 (some .int) [(0, 12, 15, 13)] ∈ zGT := zGT_of (l := [Cond.codeWith yL_copyPitch cL_copyPitch 6 (some .int) [(0, 12, 15, 13)]]) (r := [1125]) (by decide +kernel) _ List.mem_cons_self
theorem st_copyPitch {l : Launch} (hl : l.stackTraces = false) {b : Nat} {ro : Nat → Nat} {cA : Nat → ClassId} {D : va_G} {V V1 : zVt} {J J1 : zJt} {d : Nat → Nat → UInt64} {k a0 a1 a2 : Int} (h : stO 119 (zent 119 [.ref 0, .int (zi a0), .int (zi a1), .int (zi a2)]) [0] V J d k V1 J1) : stM l b ro cA D yL_copyPitch (Cond.codeWith yL_copyPitch cL_copyPitch 6 (some .int) [(0, 12, 15, 13)]) (zm V J d) (zm V1 J1 d) [.ref 0, .int (zi a0), .int (zi a1), .int (zi a2), .ref 474] (zi k) := by
  refine st_of (by decide) rfl [.ref (b + 0), .int (zi a0), .int (zi a1), .int (zi a2), .ref (b + 474)] rfl (Nat.le_of_ble_eq_true rfl) ?_
  intro p e s mid below meth c ls hx hb hml hown hts hG hN hr hlocks hT hP hl0
  have hS : va_S (zA b) s.heap s.heap [] := va_S.rf
  refine lv_aload hx hb dL_copyPitch_0 (lv_at hl0 4 rfl) ?_
  refine lv_iconst (v := 0) hx hb dL_copyPitch_2 (by decide) ?_
  refine lv_aload_n hx hb dL_copyPitch_3 rfl (lv_at hl0 0 rfl) ?_
  refine lv_iload_n hx hb dL_copyPitch_4 rfl (lv_at hl0 1 rfl) ?_
  refine lv_iload_n hx hb dL_copyPitch_5 rfl (lv_at hl0 2 rfl) ?_
  refine lv_iload_n hx hb dL_copyPitch_6 rfl (lv_at hl0 3 rfl) ?_
  rcases h with ⟨x, J0, h, rfl, rfl⟩ | ⟨i, ex, hi, h, rfl⟩
  · refine zcall_ret (st_run (m := zm V J d) (t := [.int (zi a2), .int (zi a1), .int (zi a0)]) (o := 0) (rest := [.int 0, .ref (b + 474)]) (z := 119) hx hb hml hown hts hG zm_wf hP hS hl0.1 (st_met0 (y := 119) hl (by decide) rfl (Nat.le_of_ble_eq_true rfl) h) (by decide) ⟨Nat.le_of_ble_eq_true rfl, Nat.le_of_ble_eq_true rfl⟩ qL1126 rfl rfl (by decide) rfl (Nat.le_of_ble_eq_true rfl) dL_copyPitch_7 ⟨Nat.le_of_ble_eq_true rfl, Nat.le_of_ble_eq_true rfl⟩) hS (fun H1 locs1 hP1 hS1 _ => ?_)
    refine lv_i2l hx hb dL_copyPitch_10 rfl ?_
    exact st_store hx hb hr hlocks hG dL_copyPitch_11 dL_copyPitch_12 (tgt := 19) (by decide) dL_copyPitch_19 dL_copyPitch_20 hP1 hS1 (Nat.le_of_ble_eq_true rfl) (Nat.le_of_ble_eq_true rfl)
  · match i, hi with
    | 0, hi =>
      cases hi
      refine st_catch (k := 0) (hh := [(0, 12, 15, 13)]) (st_run (m := zm V J d) (t := [.int (zi a2), .int (zi a1), .int (zi a0)]) (o := 0) (rest := [.int 0, .ref (b + 474)]) (z := 119) hx hb hml hown hts hG zm_wf hP hS hl0.1 (st_met1 (y := 119) hl (by decide) rfl (Nat.le_of_ble_eq_true rfl) h) (by decide) ⟨Nat.le_of_ble_eq_true rfl, Nat.le_of_ble_eq_true rfl⟩ qL1126 rfl rfl (by decide) rfl (Nat.le_of_ble_eq_true rfl) dL_copyPitch_7 ⟨Nat.le_of_ble_eq_true rfl, Nat.le_of_ble_eq_true rfl⟩) hS hown hts hG hN hT (by decide) rfl rfl (by decide) (fun H1 locs1 q hP1 hS1 => ?_)
      refine lv_astore hx hb dL_copyPitch_15 hl0 (by decide) rfl (fun ls1 _ => ?_)
      exact st_end hx hb hr hlocks dL_copyPitch_17 dL_copyPitch_18 rfl hP1 hS1 (Nat.le_of_ble_eq_true rfl) (Nat.le_of_ble_eq_true rfl)
    | i + 1, hi => simp at hi
theorem dL_copyPitchAnew_0 : decode cL_copyPitchAnew 0 = .ok (.aload 4, 2) := by decide +kernel
theorem dL_copyPitchAnew_2 : decode cL_copyPitchAnew 2 = .ok (.iconst 0, 1) := by decide +kernel
theorem dL_copyPitchAnew_3 : decode cL_copyPitchAnew 3 = .ok (.aload_n 0, 1) := by decide +kernel
theorem dL_copyPitchAnew_4 : decode cL_copyPitchAnew 4 = .ok (.iload_n 1, 1) := by decide +kernel
theorem dL_copyPitchAnew_5 : decode cL_copyPitchAnew 5 = .ok (.iload_n 2, 1) := by decide +kernel
theorem dL_copyPitchAnew_6 : decode cL_copyPitchAnew 6 = .ok (.iload_n 3, 1) := by decide +kernel
theorem dL_copyPitchAnew_7 : decode cL_copyPitchAnew 7 = .ok (.invokevirtual 69, 3) := by decide +kernel
theorem dL_copyPitchAnew_10 : decode cL_copyPitchAnew 10 = .ok (.i2l, 1) := by decide +kernel
theorem dL_copyPitchAnew_11 : decode cL_copyPitchAnew 11 = .ok (.lastore, 1) := by decide +kernel
theorem dL_copyPitchAnew_12 : decode cL_copyPitchAnew 12 = .ok (.goto 7, 3) := by decide +kernel
theorem dL_copyPitchAnew_15 : decode cL_copyPitchAnew 15 = .ok (.astore 5, 2) := by decide +kernel
theorem dL_copyPitchAnew_17 : decode cL_copyPitchAnew 17 = .ok (.iconst 1, 1) := by decide +kernel
theorem dL_copyPitchAnew_18 : decode cL_copyPitchAnew 18 = .ok (.ireturn, 1) := by decide +kernel
theorem dL_copyPitchAnew_19 : decode cL_copyPitchAnew 19 = .ok (.iconst 0, 1) := by decide +kernel
theorem dL_copyPitchAnew_20 : decode cL_copyPitchAnew 20 = .ok (.ireturn, 1) := by decide +kernel
theorem qL1133 : Cond.methodLink RL 69 (zy 120) ∈ zGT := zGT_of (l := [Cond.methodLink RL 69 (zy 120)]) (r := [1133]) (by decide +kernel) _ List.mem_cons_self
theorem qL1132 : Cond.codeWith yL_copyPitchAnew cL_copyPitchAnew 6 (some .int) [(0, 12, 15, 13)] ∈ zGT := zGT_of (l := [Cond.codeWith yL_copyPitchAnew cL_copyPitchAnew 6 (some .int) [(0, 12, 15, 13)]]) (r := [1132]) (by decide +kernel) _ List.mem_cons_self
theorem st_copyPitchAnew {l : Launch} (hl : l.stackTraces = false) {b : Nat} {ro : Nat → Nat} {cA : Nat → ClassId} {D : va_G} {V V1 : zVt} {J J1 : zJt} {d : Nat → Nat → UInt64} {k a0 a1 a2 : Int} (h : stO 120 (zent 120 [.ref 0, .int (zi a0), .int (zi a1), .int (zi a2)]) [0] V J d k V1 J1) : stM l b ro cA D yL_copyPitchAnew (Cond.codeWith yL_copyPitchAnew cL_copyPitchAnew 6 (some .int) [(0, 12, 15, 13)]) (zm V J d) (zm V1 J1 d) [.ref 0, .int (zi a0), .int (zi a1), .int (zi a2), .ref 474] (zi k) := by
  refine st_of (by decide) rfl [.ref (b + 0), .int (zi a0), .int (zi a1), .int (zi a2), .ref (b + 474)] rfl (Nat.le_of_ble_eq_true rfl) ?_
  intro p e s mid below meth c ls hx hb hml hown hts hG hN hr hlocks hT hP hl0
  have hS : va_S (zA b) s.heap s.heap [] := va_S.rf
  refine lv_aload hx hb dL_copyPitchAnew_0 (lv_at hl0 4 rfl) ?_
  refine lv_iconst (v := 0) hx hb dL_copyPitchAnew_2 (by decide) ?_
  refine lv_aload_n hx hb dL_copyPitchAnew_3 rfl (lv_at hl0 0 rfl) ?_
  refine lv_iload_n hx hb dL_copyPitchAnew_4 rfl (lv_at hl0 1 rfl) ?_
  refine lv_iload_n hx hb dL_copyPitchAnew_5 rfl (lv_at hl0 2 rfl) ?_
  refine lv_iload_n hx hb dL_copyPitchAnew_6 rfl (lv_at hl0 3 rfl) ?_
  rcases h with ⟨x, J0, h, rfl, rfl⟩ | ⟨i, ex, hi, h, rfl⟩
  · refine zcall_ret (st_run (m := zm V J d) (t := [.int (zi a2), .int (zi a1), .int (zi a0)]) (o := 0) (rest := [.int 0, .ref (b + 474)]) (z := 120) hx hb hml hown hts hG zm_wf hP hS hl0.1 (st_met0 (y := 120) hl (by decide) rfl (Nat.le_of_ble_eq_true rfl) h) (by decide) ⟨Nat.le_of_ble_eq_true rfl, Nat.le_of_ble_eq_true rfl⟩ qL1133 rfl rfl (by decide) rfl (Nat.le_of_ble_eq_true rfl) dL_copyPitchAnew_7 ⟨Nat.le_of_ble_eq_true rfl, Nat.le_of_ble_eq_true rfl⟩) hS (fun H1 locs1 hP1 hS1 _ => ?_)
    refine lv_i2l hx hb dL_copyPitchAnew_10 rfl ?_
    exact st_store hx hb hr hlocks hG dL_copyPitchAnew_11 dL_copyPitchAnew_12 (tgt := 19) (by decide) dL_copyPitchAnew_19 dL_copyPitchAnew_20 hP1 hS1 (Nat.le_of_ble_eq_true rfl) (Nat.le_of_ble_eq_true rfl)
  · match i, hi with
    | 0, hi =>
      cases hi
      refine st_catch (k := 0) (hh := [(0, 12, 15, 13)]) (st_run (m := zm V J d) (t := [.int (zi a2), .int (zi a1), .int (zi a0)]) (o := 0) (rest := [.int 0, .ref (b + 474)]) (z := 120) hx hb hml hown hts hG zm_wf hP hS hl0.1 (st_met1 (y := 120) hl (by decide) rfl (Nat.le_of_ble_eq_true rfl) h) (by decide) ⟨Nat.le_of_ble_eq_true rfl, Nat.le_of_ble_eq_true rfl⟩ qL1133 rfl rfl (by decide) rfl (Nat.le_of_ble_eq_true rfl) dL_copyPitchAnew_7 ⟨Nat.le_of_ble_eq_true rfl, Nat.le_of_ble_eq_true rfl⟩) hS hown hts hG hN hT (by decide) rfl rfl (by decide) (fun H1 locs1 q hP1 hS1 => ?_)
      refine lv_astore hx hb dL_copyPitchAnew_15 hl0 (by decide) rfl (fun ls1 _ => ?_)
      exact st_end hx hb hr hlocks dL_copyPitchAnew_17 dL_copyPitchAnew_18 rfl hP1 hS1 (Nat.le_of_ble_eq_true rfl) (Nat.le_of_ble_eq_true rfl)
    | i + 1, hi => simp at hi
theorem dL_differ_0 : decode cL_differ 0 = .ok (.aload_n 3, 1) := by decide +kernel
theorem dL_differ_1 : decode cL_differ 1 = .ok (.iconst 0, 1) := by decide +kernel
theorem dL_differ_2 : decode cL_differ 2 = .ok (.aload_n 0, 1) := by decide +kernel
theorem dL_differ_3 : decode cL_differ 3 = .ok (.iload_n 1, 1) := by decide +kernel
theorem dL_differ_4 : decode cL_differ 4 = .ok (.iload_n 2, 1) := by decide +kernel
theorem dL_differ_5 : decode cL_differ 5 = .ok (.invokevirtual 76, 3) := by decide +kernel
theorem dL_differ_8 : decode cL_differ 8 = .ok (.i2l, 1) := by decide +kernel
theorem dL_differ_9 : decode cL_differ 9 = .ok (.lastore, 1) := by decide +kernel
theorem dL_differ_10 : decode cL_differ 10 = .ok (.goto 15, 3) := by decide +kernel
theorem dL_differ_13 : decode cL_differ 13 = .ok (.astore 4, 2) := by decide +kernel
theorem dL_differ_15 : decode cL_differ 15 = .ok (.iconst 1, 1) := by decide +kernel
theorem dL_differ_16 : decode cL_differ 16 = .ok (.ireturn, 1) := by decide +kernel
theorem dL_differ_17 : decode cL_differ 17 = .ok (.astore 4, 2) := by decide +kernel
theorem dL_differ_19 : decode cL_differ 19 = .ok (.iconst 2, 1) := by decide +kernel
theorem dL_differ_20 : decode cL_differ 20 = .ok (.ireturn, 1) := by decide +kernel
theorem dL_differ_21 : decode cL_differ 21 = .ok (.astore 4, 2) := by decide +kernel
theorem dL_differ_23 : decode cL_differ 23 = .ok (.iconst 3, 1) := by decide +kernel
theorem dL_differ_24 : decode cL_differ 24 = .ok (.ireturn, 1) := by decide +kernel
theorem dL_differ_25 : decode cL_differ 25 = .ok (.iconst 0, 1) := by decide +kernel
theorem dL_differ_26 : decode cL_differ 26 = .ok (.ireturn, 1) := by decide +kernel
theorem qL1151 : Cond.methodLink RL 76 (zy 122) ∈ zGT := zGT_of (l := [Cond.methodLink RL 76 (zy 122)]) (r := [1151]) (by decide +kernel) _ List.mem_cons_self
theorem qL1150 : Cond.codeWith yL_differ cL_differ 5 (some .int) [(0, 10, 13, 13), (0, 10, 17, 15), (0, 10, 21, 17)] ∈ zGT := zGT_of (l := [Cond.codeWith yL_differ cL_differ 5 (some .int) [(0, 10, 13, 13), (0, 10, 17, 15), (0, 10, 21, 17)]]) (r := [1150]) (by decide +kernel) _ List.mem_cons_self
theorem st_differ {l : Launch} (hl : l.stackTraces = false) {b : Nat} {ro : Nat → Nat} {cA : Nat → ClassId} {D : va_G} {V V1 : zVt} {J J1 : zJt} {d : Nat → Nat → UInt64} {k a0 a1 : Int} (h : stO 122 (zent 122 [.ref 0, .int (zi a0), .int (zi a1)]) [0, 1, 2] V J d k V1 J1) : stM l b ro cA D yL_differ (Cond.codeWith yL_differ cL_differ 5 (some .int) [(0, 10, 13, 13), (0, 10, 17, 15), (0, 10, 21, 17)]) (zm V J d) (zm V1 J1 d) [.ref 0, .int (zi a0), .int (zi a1), .ref 474] (zi k) := by
  refine st_of (by decide) rfl [.ref (b + 0), .int (zi a0), .int (zi a1), .ref (b + 474)] rfl (Nat.le_of_ble_eq_true rfl) ?_
  intro p e s mid below meth c ls hx hb hml hown hts hG hN hr hlocks hT hP hl0
  have hS : va_S (zA b) s.heap s.heap [] := va_S.rf
  refine lv_aload_n hx hb dL_differ_0 rfl (lv_at hl0 3 rfl) ?_
  refine lv_iconst (v := 0) hx hb dL_differ_1 (by decide) ?_
  refine lv_aload_n hx hb dL_differ_2 rfl (lv_at hl0 0 rfl) ?_
  refine lv_iload_n hx hb dL_differ_3 rfl (lv_at hl0 1 rfl) ?_
  refine lv_iload_n hx hb dL_differ_4 rfl (lv_at hl0 2 rfl) ?_
  rcases h with ⟨x, J0, h, rfl, rfl⟩ | ⟨i, ex, hi, h, rfl⟩
  · refine zcall_ret (st_run (m := zm V J d) (t := [.int (zi a1), .int (zi a0)]) (o := 0) (rest := [.int 0, .ref (b + 474)]) (z := 122) hx hb hml hown hts hG zm_wf hP hS hl0.1 (st_met0 (y := 122) hl (by decide) rfl (Nat.le_of_ble_eq_true rfl) h) (by decide) ⟨Nat.le_of_ble_eq_true rfl, Nat.le_of_ble_eq_true rfl⟩ qL1151 rfl rfl (by decide) rfl (Nat.le_of_ble_eq_true rfl) dL_differ_5 ⟨Nat.le_of_ble_eq_true rfl, Nat.le_of_ble_eq_true rfl⟩) hS (fun H1 locs1 hP1 hS1 _ => ?_)
    refine lv_i2l hx hb dL_differ_8 rfl ?_
    exact st_store hx hb hr hlocks hG dL_differ_9 dL_differ_10 (tgt := 25) (by decide) dL_differ_25 dL_differ_26 hP1 hS1 (Nat.le_of_ble_eq_true rfl) (Nat.le_of_ble_eq_true rfl)
  · match i, hi with
    | 0, hi =>
      cases hi
      refine st_catch (k := 0) (hh := [(0, 10, 13, 13), (0, 10, 17, 15), (0, 10, 21, 17)]) (st_run (m := zm V J d) (t := [.int (zi a1), .int (zi a0)]) (o := 0) (rest := [.int 0, .ref (b + 474)]) (z := 122) hx hb hml hown hts hG zm_wf hP hS hl0.1 (st_met1 (y := 122) hl (by decide) rfl (Nat.le_of_ble_eq_true rfl) h) (by decide) ⟨Nat.le_of_ble_eq_true rfl, Nat.le_of_ble_eq_true rfl⟩ qL1151 rfl rfl (by decide) rfl (Nat.le_of_ble_eq_true rfl) dL_differ_5 ⟨Nat.le_of_ble_eq_true rfl, Nat.le_of_ble_eq_true rfl⟩) hS hown hts hG hN hT (by decide) rfl rfl (by decide) (fun H1 locs1 q hP1 hS1 => ?_)
      refine lv_astore hx hb dL_differ_13 hl0 (by decide) rfl (fun ls1 _ => ?_)
      exact st_end hx hb hr hlocks dL_differ_15 dL_differ_16 rfl hP1 hS1 (Nat.le_of_ble_eq_true rfl) (Nat.le_of_ble_eq_true rfl)
    | 1, hi =>
      cases hi
      refine st_catch (k := 1) (hh := [(0, 10, 13, 13), (0, 10, 17, 15), (0, 10, 21, 17)]) (st_run (m := zm V J d) (t := [.int (zi a1), .int (zi a0)]) (o := 0) (rest := [.int 0, .ref (b + 474)]) (z := 122) hx hb hml hown hts hG zm_wf hP hS hl0.1 (st_met1 (y := 122) hl (by decide) rfl (Nat.le_of_ble_eq_true rfl) h) (by decide) ⟨Nat.le_of_ble_eq_true rfl, Nat.le_of_ble_eq_true rfl⟩ qL1151 rfl rfl (by decide) rfl (Nat.le_of_ble_eq_true rfl) dL_differ_5 ⟨Nat.le_of_ble_eq_true rfl, Nat.le_of_ble_eq_true rfl⟩) hS hown hts hG hN hT (by decide) rfl rfl (by decide) (fun H1 locs1 q hP1 hS1 => ?_)
      refine lv_astore hx hb dL_differ_17 hl0 (by decide) rfl (fun ls1 _ => ?_)
      exact st_end hx hb hr hlocks dL_differ_19 dL_differ_20 rfl hP1 hS1 (Nat.le_of_ble_eq_true rfl) (Nat.le_of_ble_eq_true rfl)
    | 2, hi =>
      cases hi
      refine st_catch (k := 2) (hh := [(0, 10, 13, 13), (0, 10, 17, 15), (0, 10, 21, 17)]) (st_run (m := zm V J d) (t := [.int (zi a1), .int (zi a0)]) (o := 0) (rest := [.int 0, .ref (b + 474)]) (z := 122) hx hb hml hown hts hG zm_wf hP hS hl0.1 (st_met1 (y := 122) hl (by decide) rfl (Nat.le_of_ble_eq_true rfl) h) (by decide) ⟨Nat.le_of_ble_eq_true rfl, Nat.le_of_ble_eq_true rfl⟩ qL1151 rfl rfl (by decide) rfl (Nat.le_of_ble_eq_true rfl) dL_differ_5 ⟨Nat.le_of_ble_eq_true rfl, Nat.le_of_ble_eq_true rfl⟩) hS hown hts hG hN hT (by decide) rfl rfl (by decide) (fun H1 locs1 q hP1 hS1 => ?_)
      refine lv_astore hx hb dL_differ_21 hl0 (by decide) rfl (fun ls1 _ => ?_)
      exact st_end hx hb hr hlocks dL_differ_23 dL_differ_24 rfl hP1 hS1 (Nat.le_of_ble_eq_true rfl) (Nat.le_of_ble_eq_true rfl)
    | i + 3, hi => simp at hi
theorem dL_clashes_0 : decode cL_clashes 0 = .ok (.aload_n 3, 1) := by decide +kernel
theorem dL_clashes_1 : decode cL_clashes 1 = .ok (.iconst 0, 1) := by decide +kernel
theorem dL_clashes_2 : decode cL_clashes 2 = .ok (.aload_n 0, 1) := by decide +kernel
theorem dL_clashes_3 : decode cL_clashes 3 = .ok (.iload_n 1, 1) := by decide +kernel
theorem dL_clashes_4 : decode cL_clashes 4 = .ok (.iload_n 2, 1) := by decide +kernel
theorem dL_clashes_5 : decode cL_clashes 5 = .ok (.invokevirtual 79, 3) := by decide +kernel
theorem dL_clashes_8 : decode cL_clashes 8 = .ok (.i2l, 1) := by decide +kernel
theorem dL_clashes_9 : decode cL_clashes 9 = .ok (.lastore, 1) := by decide +kernel
theorem dL_clashes_10 : decode cL_clashes 10 = .ok (.goto 7, 3) := by decide +kernel
theorem dL_clashes_13 : decode cL_clashes 13 = .ok (.astore 4, 2) := by decide +kernel
theorem dL_clashes_15 : decode cL_clashes 15 = .ok (.iconst 1, 1) := by decide +kernel
theorem dL_clashes_16 : decode cL_clashes 16 = .ok (.ireturn, 1) := by decide +kernel
theorem dL_clashes_17 : decode cL_clashes 17 = .ok (.iconst 0, 1) := by decide +kernel
theorem dL_clashes_18 : decode cL_clashes 18 = .ok (.ireturn, 1) := by decide +kernel
theorem qL1164 : Cond.methodLink RL 79 (zy 123) ∈ zGT := zGT_of (l := [Cond.methodLink RL 79 (zy 123)]) (r := [1164]) (by decide +kernel) _ List.mem_cons_self
theorem qL1163 : Cond.codeWith yL_clashes cL_clashes 5 (some .int) [(0, 10, 13, 13)] ∈ zGT := zGT_of (l := [Cond.codeWith yL_clashes cL_clashes 5 (some .int) [(0, 10, 13, 13)]]) (r := [1163]) (by decide +kernel) _ List.mem_cons_self
theorem st_clashes {l : Launch} (hl : l.stackTraces = false) {b : Nat} {ro : Nat → Nat} {cA : Nat → ClassId} {D : va_G} {V V1 : zVt} {J J1 : zJt} {d : Nat → Nat → UInt64} {k a0 a1 : Int} (h : stO 123 (zent 123 [.ref 0, .int (zi a0), .int (zi a1)]) [0] V J d k V1 J1) : stM l b ro cA D yL_clashes (Cond.codeWith yL_clashes cL_clashes 5 (some .int) [(0, 10, 13, 13)]) (zm V J d) (zm V1 J1 d) [.ref 0, .int (zi a0), .int (zi a1), .ref 474] (zi k) := by
  refine st_of (by decide) rfl [.ref (b + 0), .int (zi a0), .int (zi a1), .ref (b + 474)] rfl (Nat.le_of_ble_eq_true rfl) ?_
  intro p e s mid below meth c ls hx hb hml hown hts hG hN hr hlocks hT hP hl0
  have hS : va_S (zA b) s.heap s.heap [] := va_S.rf
  refine lv_aload_n hx hb dL_clashes_0 rfl (lv_at hl0 3 rfl) ?_
  refine lv_iconst (v := 0) hx hb dL_clashes_1 (by decide) ?_
  refine lv_aload_n hx hb dL_clashes_2 rfl (lv_at hl0 0 rfl) ?_
  refine lv_iload_n hx hb dL_clashes_3 rfl (lv_at hl0 1 rfl) ?_
  refine lv_iload_n hx hb dL_clashes_4 rfl (lv_at hl0 2 rfl) ?_
  rcases h with ⟨x, J0, h, rfl, rfl⟩ | ⟨i, ex, hi, h, rfl⟩
  · refine zcall_ret (st_run (m := zm V J d) (t := [.int (zi a1), .int (zi a0)]) (o := 0) (rest := [.int 0, .ref (b + 474)]) (z := 123) hx hb hml hown hts hG zm_wf hP hS hl0.1 (st_met0 (y := 123) hl (by decide) rfl (Nat.le_of_ble_eq_true rfl) h) (by decide) ⟨Nat.le_of_ble_eq_true rfl, Nat.le_of_ble_eq_true rfl⟩ qL1164 rfl rfl (by decide) rfl (Nat.le_of_ble_eq_true rfl) dL_clashes_5 ⟨Nat.le_of_ble_eq_true rfl, Nat.le_of_ble_eq_true rfl⟩) hS (fun H1 locs1 hP1 hS1 _ => ?_)
    refine lv_i2l hx hb dL_clashes_8 rfl ?_
    exact st_store hx hb hr hlocks hG dL_clashes_9 dL_clashes_10 (tgt := 17) (by decide) dL_clashes_17 dL_clashes_18 hP1 hS1 (Nat.le_of_ble_eq_true rfl) (Nat.le_of_ble_eq_true rfl)
  · match i, hi with
    | 0, hi =>
      cases hi
      refine st_catch (k := 0) (hh := [(0, 10, 13, 13)]) (st_run (m := zm V J d) (t := [.int (zi a1), .int (zi a0)]) (o := 0) (rest := [.int 0, .ref (b + 474)]) (z := 123) hx hb hml hown hts hG zm_wf hP hS hl0.1 (st_met1 (y := 123) hl (by decide) rfl (Nat.le_of_ble_eq_true rfl) h) (by decide) ⟨Nat.le_of_ble_eq_true rfl, Nat.le_of_ble_eq_true rfl⟩ qL1164 rfl rfl (by decide) rfl (Nat.le_of_ble_eq_true rfl) dL_clashes_5 ⟨Nat.le_of_ble_eq_true rfl, Nat.le_of_ble_eq_true rfl⟩) hS hown hts hG hN hT (by decide) rfl rfl (by decide) (fun H1 locs1 q hP1 hS1 => ?_)
      refine lv_astore hx hb dL_clashes_13 hl0 (by decide) rfl (fun ls1 _ => ?_)
      exact st_end hx hb hr hlocks dL_clashes_15 dL_clashes_16 rfl hP1 hS1 (Nat.le_of_ble_eq_true rfl) (Nat.le_of_ble_eq_true rfl)
    | i + 1, hi => simp at hi
theorem dL_clashesOf_0 : decode cL_clashesOf 0 = .ok (.aload_n 3, 1) := by decide +kernel
theorem dL_clashesOf_1 : decode cL_clashesOf 1 = .ok (.iconst 0, 1) := by decide +kernel
theorem dL_clashesOf_2 : decode cL_clashesOf 2 = .ok (.aload_n 0, 1) := by decide +kernel
theorem dL_clashesOf_3 : decode cL_clashesOf 3 = .ok (.iload_n 1, 1) := by decide +kernel
theorem dL_clashesOf_4 : decode cL_clashesOf 4 = .ok (.iload_n 2, 1) := by decide +kernel
theorem dL_clashesOf_5 : decode cL_clashesOf 5 = .ok (.invokevirtual 82, 3) := by decide +kernel
theorem dL_clashesOf_8 : decode cL_clashesOf 8 = .ok (.i2l, 1) := by decide +kernel
theorem dL_clashesOf_9 : decode cL_clashesOf 9 = .ok (.lastore, 1) := by decide +kernel
theorem dL_clashesOf_10 : decode cL_clashesOf 10 = .ok (.goto 11, 3) := by decide +kernel
theorem dL_clashesOf_13 : decode cL_clashesOf 13 = .ok (.astore 4, 2) := by decide +kernel
theorem dL_clashesOf_15 : decode cL_clashesOf 15 = .ok (.iconst 1, 1) := by decide +kernel
theorem dL_clashesOf_16 : decode cL_clashesOf 16 = .ok (.ireturn, 1) := by decide +kernel
theorem dL_clashesOf_17 : decode cL_clashesOf 17 = .ok (.astore 4, 2) := by decide +kernel
theorem dL_clashesOf_19 : decode cL_clashesOf 19 = .ok (.iconst 2, 1) := by decide +kernel
theorem dL_clashesOf_20 : decode cL_clashesOf 20 = .ok (.ireturn, 1) := by decide +kernel
theorem dL_clashesOf_21 : decode cL_clashesOf 21 = .ok (.iconst 0, 1) := by decide +kernel
theorem dL_clashesOf_22 : decode cL_clashesOf 22 = .ok (.ireturn, 1) := by decide +kernel
theorem qL1206 : Cond.methodLink RL 82 (zy 128) ∈ zGT := zGT_of (l := [Cond.methodLink RL 82 (zy 128)]) (r := [1206]) (by decide +kernel) _ List.mem_cons_self
theorem qL1205 : Cond.codeWith yL_clashesOf cL_clashesOf 5 (some .int) [(0, 10, 13, 13), (0, 10, 17, 15)] ∈ zGT := zGT_of (l := [Cond.codeWith yL_clashesOf cL_clashesOf 5 (some .int) [(0, 10, 13, 13), (0, 10, 17, 15)]]) (r := [1205]) (by decide +kernel) _ List.mem_cons_self
theorem st_clashesOf {l : Launch} (hl : l.stackTraces = false) {b : Nat} {ro : Nat → Nat} {cA : Nat → ClassId} {D : va_G} {V V1 : zVt} {J J1 : zJt} {d : Nat → Nat → UInt64} {k a0 a1 : Int} (h : stO 128 (zent 128 [.ref 0, .int (zi a0), .int (zi a1)]) [0, 1] V J d k V1 J1) : stM l b ro cA D yL_clashesOf (Cond.codeWith yL_clashesOf cL_clashesOf 5 (some .int) [(0, 10, 13, 13), (0, 10, 17, 15)]) (zm V J d) (zm V1 J1 d) [.ref 0, .int (zi a0), .int (zi a1), .ref 474] (zi k) := by
  refine st_of (by decide) rfl [.ref (b + 0), .int (zi a0), .int (zi a1), .ref (b + 474)] rfl (Nat.le_of_ble_eq_true rfl) ?_
  intro p e s mid below meth c ls hx hb hml hown hts hG hN hr hlocks hT hP hl0
  have hS : va_S (zA b) s.heap s.heap [] := va_S.rf
  refine lv_aload_n hx hb dL_clashesOf_0 rfl (lv_at hl0 3 rfl) ?_
  refine lv_iconst (v := 0) hx hb dL_clashesOf_1 (by decide) ?_
  refine lv_aload_n hx hb dL_clashesOf_2 rfl (lv_at hl0 0 rfl) ?_
  refine lv_iload_n hx hb dL_clashesOf_3 rfl (lv_at hl0 1 rfl) ?_
  refine lv_iload_n hx hb dL_clashesOf_4 rfl (lv_at hl0 2 rfl) ?_
  rcases h with ⟨x, J0, h, rfl, rfl⟩ | ⟨i, ex, hi, h, rfl⟩
  · refine zcall_ret (st_run (m := zm V J d) (t := [.int (zi a1), .int (zi a0)]) (o := 0) (rest := [.int 0, .ref (b + 474)]) (z := 128) hx hb hml hown hts hG zm_wf hP hS hl0.1 (st_met0 (y := 128) hl (by decide) rfl (Nat.le_of_ble_eq_true rfl) h) (by decide) ⟨Nat.le_of_ble_eq_true rfl, Nat.le_of_ble_eq_true rfl⟩ qL1206 rfl rfl (by decide) rfl (Nat.le_of_ble_eq_true rfl) dL_clashesOf_5 ⟨Nat.le_of_ble_eq_true rfl, Nat.le_of_ble_eq_true rfl⟩) hS (fun H1 locs1 hP1 hS1 _ => ?_)
    refine lv_i2l hx hb dL_clashesOf_8 rfl ?_
    exact st_store hx hb hr hlocks hG dL_clashesOf_9 dL_clashesOf_10 (tgt := 21) (by decide) dL_clashesOf_21 dL_clashesOf_22 hP1 hS1 (Nat.le_of_ble_eq_true rfl) (Nat.le_of_ble_eq_true rfl)
  · match i, hi with
    | 0, hi =>
      cases hi
      refine st_catch (k := 0) (hh := [(0, 10, 13, 13), (0, 10, 17, 15)]) (st_run (m := zm V J d) (t := [.int (zi a1), .int (zi a0)]) (o := 0) (rest := [.int 0, .ref (b + 474)]) (z := 128) hx hb hml hown hts hG zm_wf hP hS hl0.1 (st_met1 (y := 128) hl (by decide) rfl (Nat.le_of_ble_eq_true rfl) h) (by decide) ⟨Nat.le_of_ble_eq_true rfl, Nat.le_of_ble_eq_true rfl⟩ qL1206 rfl rfl (by decide) rfl (Nat.le_of_ble_eq_true rfl) dL_clashesOf_5 ⟨Nat.le_of_ble_eq_true rfl, Nat.le_of_ble_eq_true rfl⟩) hS hown hts hG hN hT (by decide) rfl rfl (by decide) (fun H1 locs1 q hP1 hS1 => ?_)
      refine lv_astore hx hb dL_clashesOf_13 hl0 (by decide) rfl (fun ls1 _ => ?_)
      exact st_end hx hb hr hlocks dL_clashesOf_15 dL_clashesOf_16 rfl hP1 hS1 (Nat.le_of_ble_eq_true rfl) (Nat.le_of_ble_eq_true rfl)
    | 1, hi =>
      cases hi
      refine st_catch (k := 1) (hh := [(0, 10, 13, 13), (0, 10, 17, 15)]) (st_run (m := zm V J d) (t := [.int (zi a1), .int (zi a0)]) (o := 0) (rest := [.int 0, .ref (b + 474)]) (z := 128) hx hb hml hown hts hG zm_wf hP hS hl0.1 (st_met1 (y := 128) hl (by decide) rfl (Nat.le_of_ble_eq_true rfl) h) (by decide) ⟨Nat.le_of_ble_eq_true rfl, Nat.le_of_ble_eq_true rfl⟩ qL1206 rfl rfl (by decide) rfl (Nat.le_of_ble_eq_true rfl) dL_clashesOf_5 ⟨Nat.le_of_ble_eq_true rfl, Nat.le_of_ble_eq_true rfl⟩) hS hown hts hG hN hT (by decide) rfl rfl (by decide) (fun H1 locs1 q hP1 hS1 => ?_)
      refine lv_astore hx hb dL_clashesOf_17 hl0 (by decide) rfl (fun ls1 _ => ?_)
      exact st_end hx hb hr hlocks dL_clashesOf_19 dL_clashesOf_20 rfl hP1 hS1 (Nat.le_of_ble_eq_true rfl) (Nat.le_of_ble_eq_true rfl)
    | i + 2, hi => simp at hi
