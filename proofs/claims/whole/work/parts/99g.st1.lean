/-! part 99g.st1: the law's own methods: error, begins, write, back, pencil, strike; printed by program (wip/whole/gen/gen_stub.py) -/
theorem dL_error_0 : decode cL_error 0 = .ok (.aload_n 3, 1) := by decide +kernel
theorem dL_error_1 : decode cL_error 1 = .ok (.iconst 0, 1) := by decide +kernel
theorem dL_error_2 : decode cL_error 2 = .ok (.aload_n 0, 1) := by decide +kernel
theorem dL_error_3 : decode cL_error 3 = .ok (.iload_n 1, 1) := by decide +kernel
theorem dL_error_4 : decode cL_error 4 = .ok (.iload_n 2, 1) := by decide +kernel
theorem dL_error_5 : decode cL_error 5 = .ok (.invokevirtual 23, 3) := by decide +kernel
theorem dL_error_8 : decode cL_error 8 = .ok (.i2l, 1) := by decide +kernel
theorem dL_error_9 : decode cL_error 9 = .ok (.lastore, 1) := by decide +kernel
theorem dL_error_10 : decode cL_error 10 = .ok (.goto 7, 3) := by decide +kernel
theorem dL_error_13 : decode cL_error 13 = .ok (.astore 4, 2) := by decide +kernel
theorem dL_error_15 : decode cL_error 15 = .ok (.iconst 1, 1) := by decide +kernel
theorem dL_error_16 : decode cL_error 16 = .ok (.ireturn, 1) := by decide +kernel
theorem dL_error_17 : decode cL_error 17 = .ok (.iconst 0, 1) := by decide +kernel
theorem dL_error_18 : decode cL_error 18 = .ok (.ireturn, 1) := by decide +kernel
theorem qL736 : Cond.methodLink RL 23 (zy 99) ∈ zGT := zGT_of (l := [Cond.methodLink RL 23 (zy 99)]) (r := [736]) (by decide +kernel) _ List.mem_cons_self
theorem qL735 : Cond.codeWith yL_error cL_error 5 (some .int) [(0, 10, 13, 13)] ∈ zGT := zGT_of (l := [Cond.codeWith yL_error cL_error 5 (some .int) [(0, 10, 13, 13)]]) (r := [735]) (by decide +kernel) _ List.mem_cons_self
theorem st_error {l : Launch} (hl : l.stackTraces = false) {b : Nat} {ro : Nat → Nat} {cA : Nat → ClassId} {D : va_G} {V V1 : zVt} {J J1 : zJt} {d : Nat → Nat → UInt64} {k a0 a1 : Int} (h : stO 99 (zent 99 [.ref 0, .int (zi a0), .int (zi a1)]) [0] V J d k V1 J1) : stM l b ro cA D yL_error (Cond.codeWith yL_error cL_error 5 (some .int) [(0, 10, 13, 13)]) (zm V J d) (zm V1 J1 d) [.ref 0, .int (zi a0), .int (zi a1), .ref 474] (zi k) := by
  refine st_of (by decide) rfl [.ref (b + 0), .int (zi a0), .int (zi a1), .ref (b + 474)] rfl (Nat.le_of_ble_eq_true rfl) ?_
  intro p e s mid below meth c ls hx hb hml hown hts hG hN hr hlocks hT hP hl0
  have hS : va_S (zA b) s.heap s.heap [] := va_S.rf
  refine lv_aload_n hx hb dL_error_0 rfl (lv_at hl0 3 rfl) ?_
  refine lv_iconst (v := 0) hx hb dL_error_1 (by decide) ?_
  refine lv_aload_n hx hb dL_error_2 rfl (lv_at hl0 0 rfl) ?_
  refine lv_iload_n hx hb dL_error_3 rfl (lv_at hl0 1 rfl) ?_
  refine lv_iload_n hx hb dL_error_4 rfl (lv_at hl0 2 rfl) ?_
  rcases h with ⟨x, J0, h, rfl, rfl⟩ | ⟨i, ex, hi, h, rfl⟩
  · refine zcall_ret (st_run (m := zm V J d) (t := [.int (zi a1), .int (zi a0)]) (o := 0) (rest := [.int 0, .ref (b + 474)]) (z := 99) hx hb hml hown hts hG zm_wf hP hS hl0.1 (st_met0 (y := 99) hl (by decide) rfl (Nat.le_of_ble_eq_true rfl) h) (by decide) ⟨Nat.le_of_ble_eq_true rfl, Nat.le_of_ble_eq_true rfl⟩ qL736 rfl rfl (by decide) rfl (Nat.le_of_ble_eq_true rfl) dL_error_5 ⟨Nat.le_of_ble_eq_true rfl, Nat.le_of_ble_eq_true rfl⟩) hS (fun H1 locs1 hP1 hS1 _ => ?_)
    refine lv_i2l hx hb dL_error_8 rfl ?_
    exact st_store hx hb hr hlocks hG dL_error_9 dL_error_10 (tgt := 17) (by decide) dL_error_17 dL_error_18 hP1 hS1 (Nat.le_of_ble_eq_true rfl) (Nat.le_of_ble_eq_true rfl)
  · match i, hi with
    | 0, hi =>
      cases hi
      refine st_catch (k := 0) (hh := [(0, 10, 13, 13)]) (st_run (m := zm V J d) (t := [.int (zi a1), .int (zi a0)]) (o := 0) (rest := [.int 0, .ref (b + 474)]) (z := 99) hx hb hml hown hts hG zm_wf hP hS hl0.1 (st_met1 (y := 99) hl (by decide) rfl (Nat.le_of_ble_eq_true rfl) h) (by decide) ⟨Nat.le_of_ble_eq_true rfl, Nat.le_of_ble_eq_true rfl⟩ qL736 rfl rfl (by decide) rfl (Nat.le_of_ble_eq_true rfl) dL_error_5 ⟨Nat.le_of_ble_eq_true rfl, Nat.le_of_ble_eq_true rfl⟩) hS hown hts hG hN hT (by decide) rfl rfl (by decide) (fun H1 locs1 q hP1 hS1 => ?_)
      refine lv_astore hx hb dL_error_13 hl0 (by decide) rfl (fun ls1 _ => ?_)
      exact st_end hx hb hr hlocks dL_error_15 dL_error_16 rfl hP1 hS1 (Nat.le_of_ble_eq_true rfl) (Nat.le_of_ble_eq_true rfl)
    | i + 1, hi => simp at hi
theorem dL_begins_0 : decode cL_begins 0 = .ok (.aload 4, 2) := by decide +kernel
theorem dL_begins_2 : decode cL_begins 2 = .ok (.iconst 0, 1) := by decide +kernel
theorem dL_begins_3 : decode cL_begins 3 = .ok (.aload_n 0, 1) := by decide +kernel
theorem dL_begins_4 : decode cL_begins 4 = .ok (.iload_n 1, 1) := by decide +kernel
theorem dL_begins_5 : decode cL_begins 5 = .ok (.iload_n 2, 1) := by decide +kernel
theorem dL_begins_6 : decode cL_begins 6 = .ok (.iload_n 3, 1) := by decide +kernel
theorem dL_begins_7 : decode cL_begins 7 = .ok (.invokevirtual 72, 3) := by decide +kernel
theorem dL_begins_10 : decode cL_begins 10 = .ok (.ifCond .eq 7, 3) := by decide +kernel
theorem dL_begins_13 : decode cL_begins 13 = .ok (.lconst 1, 1) := by decide +kernel
theorem dL_begins_14 : decode cL_begins 14 = .ok (.goto 4, 3) := by decide +kernel
theorem dL_begins_17 : decode cL_begins 17 = .ok (.lconst 0, 1) := by decide +kernel
theorem dL_begins_18 : decode cL_begins 18 = .ok (.lastore, 1) := by decide +kernel
theorem dL_begins_19 : decode cL_begins 19 = .ok (.goto 7, 3) := by decide +kernel
theorem dL_begins_22 : decode cL_begins 22 = .ok (.astore 5, 2) := by decide +kernel
theorem dL_begins_24 : decode cL_begins 24 = .ok (.iconst 1, 1) := by decide +kernel
theorem dL_begins_25 : decode cL_begins 25 = .ok (.ireturn, 1) := by decide +kernel
theorem dL_begins_26 : decode cL_begins 26 = .ok (.iconst 0, 1) := by decide +kernel
theorem dL_begins_27 : decode cL_begins 27 = .ok (.ireturn, 1) := by decide +kernel
theorem qL1140 : Cond.methodLink RL 72 (zy 121) ∈ zGT := zGT_of (l := [Cond.methodLink RL 72 (zy 121)]) (r := [1140]) (by decide +kernel) _ List.mem_cons_self
theorem qL1139 : Cond.codeWith yL_begins cL_begins 6 (some .int) [(0, 19, 22, 13)] ∈ zGT := zGT_of (l := [Cond.codeWith yL_begins cL_begins 6 (some .int) [(0, 19, 22, 13)]]) (r := [1139]) (by decide +kernel) _ List.mem_cons_self
theorem st_begins {l : Launch} (hl : l.stackTraces = false) {b : Nat} {ro : Nat → Nat} {cA : Nat → ClassId} {D : va_G} {V V1 : zVt} {J J1 : zJt} {d : Nat → Nat → UInt64} {k a0 a1 a2 : Int} (h : stOb 121 (zent 121 [.ref 0, .int (zi a0), .int (zi a1), .int (zi a2)]) [0] V J d k V1 J1) : stM l b ro cA D yL_begins (Cond.codeWith yL_begins cL_begins 6 (some .int) [(0, 19, 22, 13)]) (zm V J d) (zm V1 J1 d) [.ref 0, .int (zi a0), .int (zi a1), .int (zi a2), .ref 474] (zi k) := by
  refine st_of (by decide) rfl [.ref (b + 0), .int (zi a0), .int (zi a1), .int (zi a2), .ref (b + 474)] rfl (Nat.le_of_ble_eq_true rfl) ?_
  intro p e s mid below meth c ls hx hb hml hown hts hG hN hr hlocks hT hP hl0
  have hS : va_S (zA b) s.heap s.heap [] := va_S.rf
  refine lv_aload hx hb dL_begins_0 (lv_at hl0 4 rfl) ?_
  refine lv_iconst (v := 0) hx hb dL_begins_2 (by decide) ?_
  refine lv_aload_n hx hb dL_begins_3 rfl (lv_at hl0 0 rfl) ?_
  refine lv_iload_n hx hb dL_begins_4 rfl (lv_at hl0 1 rfl) ?_
  refine lv_iload_n hx hb dL_begins_5 rfl (lv_at hl0 2 rfl) ?_
  refine lv_iload_n hx hb dL_begins_6 rfl (lv_at hl0 3 rfl) ?_
  rcases h with ⟨x, J0, h, rfl, rfl⟩ | ⟨i, ex, hi, h, rfl⟩
  · refine zcall_ret (st_run (m := zm V J d) (t := [.int (zi a2), .int (zi a1), .int (zi a0)]) (o := 0) (rest := [.int 0, .ref (b + 474)]) (z := 121) hx hb hml hown hts hG zm_wf hP hS hl0.1 (st_met0 (y := 121) hl (by decide) rfl (Nat.le_of_ble_eq_true rfl) h) (by decide) ⟨Nat.le_of_ble_eq_true rfl, Nat.le_of_ble_eq_true rfl⟩ qL1140 rfl rfl (by decide) rfl (Nat.le_of_ble_eq_true rfl) dL_begins_7 ⟨Nat.le_of_ble_eq_true rfl, Nat.le_of_ble_eq_true rfl⟩) hS (fun H1 locs1 hP1 hS1 _ => ?_)
    refine lv_if_eq (tgt := 17) hx hb dL_begins_10 (by decide) (fun hq => ?_) (fun hq => ?_)
    · rw [if_pos hq]
      refine lv_lconst (v := 0) hx hb dL_begins_17 (by decide) ?_
      exact st_store hx hb hr hlocks hG dL_begins_18 dL_begins_19 (tgt := 26) (by decide) dL_begins_26 dL_begins_27 hP1 hS1 (Nat.le_of_ble_eq_true rfl) (Nat.le_of_ble_eq_true rfl)
    · rw [if_neg hq]
      refine lv_lconst (v := 1) hx hb dL_begins_13 (by decide) ?_
      refine lv_goto (tgt := 18) hx hb dL_begins_14 (by decide) ?_
      exact st_store hx hb hr hlocks hG dL_begins_18 dL_begins_19 (tgt := 26) (by decide) dL_begins_26 dL_begins_27 hP1 hS1 (Nat.le_of_ble_eq_true rfl) (Nat.le_of_ble_eq_true rfl)
  · match i, hi with
    | 0, hi =>
      cases hi
      refine st_catch (k := 0) (hh := [(0, 19, 22, 13)]) (st_run (m := zm V J d) (t := [.int (zi a2), .int (zi a1), .int (zi a0)]) (o := 0) (rest := [.int 0, .ref (b + 474)]) (z := 121) hx hb hml hown hts hG zm_wf hP hS hl0.1 (st_met1 (y := 121) hl (by decide) rfl (Nat.le_of_ble_eq_true rfl) h) (by decide) ⟨Nat.le_of_ble_eq_true rfl, Nat.le_of_ble_eq_true rfl⟩ qL1140 rfl rfl (by decide) rfl (Nat.le_of_ble_eq_true rfl) dL_begins_7 ⟨Nat.le_of_ble_eq_true rfl, Nat.le_of_ble_eq_true rfl⟩) hS hown hts hG hN hT (by decide) rfl rfl (by decide) (fun H1 locs1 q hP1 hS1 => ?_)
      refine lv_astore hx hb dL_begins_22 hl0 (by decide) rfl (fun ls1 _ => ?_)
      exact st_end hx hb hr hlocks dL_begins_24 dL_begins_25 rfl hP1 hS1 (Nat.le_of_ble_eq_true rfl) (Nat.le_of_ble_eq_true rfl)
    | i + 1, hi => simp at hi
theorem dL_write_0 : decode cL_write 0 = .ok (.aload 4, 2) := by decide +kernel
theorem dL_write_2 : decode cL_write 2 = .ok (.iconst 0, 1) := by decide +kernel
theorem dL_write_3 : decode cL_write 3 = .ok (.aload_n 0, 1) := by decide +kernel
theorem dL_write_4 : decode cL_write 4 = .ok (.iload_n 1, 1) := by decide +kernel
theorem dL_write_5 : decode cL_write 5 = .ok (.iload_n 2, 1) := by decide +kernel
theorem dL_write_6 : decode cL_write 6 = .ok (.iload_n 3, 1) := by decide +kernel
theorem dL_write_7 : decode cL_write 7 = .ok (.invokevirtual 7, 3) := by decide +kernel
theorem dL_write_10 : decode cL_write 10 = .ok (.i2l, 1) := by decide +kernel
theorem dL_write_11 : decode cL_write 11 = .ok (.lastore, 1) := by decide +kernel
theorem dL_write_12 : decode cL_write 12 = .ok (.goto 15, 3) := by decide +kernel
theorem dL_write_15 : decode cL_write 15 = .ok (.astore 5, 2) := by decide +kernel
theorem dL_write_17 : decode cL_write 17 = .ok (.iconst 1, 1) := by decide +kernel
theorem dL_write_18 : decode cL_write 18 = .ok (.ireturn, 1) := by decide +kernel
theorem dL_write_19 : decode cL_write 19 = .ok (.astore 5, 2) := by decide +kernel
theorem dL_write_21 : decode cL_write 21 = .ok (.iconst 2, 1) := by decide +kernel
theorem dL_write_22 : decode cL_write 22 = .ok (.ireturn, 1) := by decide +kernel
theorem dL_write_23 : decode cL_write 23 = .ok (.astore 5, 2) := by decide +kernel
theorem dL_write_25 : decode cL_write 25 = .ok (.iconst 3, 1) := by decide +kernel
theorem dL_write_26 : decode cL_write 26 = .ok (.ireturn, 1) := by decide +kernel
theorem dL_write_27 : decode cL_write 27 = .ok (.iconst 0, 1) := by decide +kernel
theorem dL_write_28 : decode cL_write 28 = .ok (.ireturn, 1) := by decide +kernel
theorem qL613 : Cond.methodLink RL 7 (zy 96) ∈ zGT := zGT_of (l := [Cond.methodLink RL 7 (zy 96)]) (r := [613]) (by decide +kernel) _ List.mem_cons_self
theorem qL609 : Cond.codeWith yL_write cL_write 6 (some .int) [(0, 12, 15, 13), (0, 12, 19, 15), (0, 12, 23, 17)] ∈ zGT := zGT_of (l := [Cond.codeWith yL_write cL_write 6 (some .int) [(0, 12, 15, 13), (0, 12, 19, 15), (0, 12, 23, 17)]]) (r := [609]) (by decide +kernel) _ List.mem_cons_self
theorem st_write {l : Launch} (hl : l.stackTraces = false) {b : Nat} {ro : Nat → Nat} {cA : Nat → ClassId} {D : va_G} {V V1 : zVt} {J J1 : zJt} {d : Nat → Nat → UInt64} {k a0 a1 a2 : Int} (h : stO 96 (zent 96 [.ref 0, .int (zi a0), .int (zi a1), .int (zi a2)]) [0, 1, 2] V J d k V1 J1) : stM l b ro cA D yL_write (Cond.codeWith yL_write cL_write 6 (some .int) [(0, 12, 15, 13), (0, 12, 19, 15), (0, 12, 23, 17)]) (zm V J d) (zm V1 J1 d) [.ref 0, .int (zi a0), .int (zi a1), .int (zi a2), .ref 474] (zi k) := by
  refine st_of (by decide) rfl [.ref (b + 0), .int (zi a0), .int (zi a1), .int (zi a2), .ref (b + 474)] rfl (Nat.le_of_ble_eq_true rfl) ?_
  intro p e s mid below meth c ls hx hb hml hown hts hG hN hr hlocks hT hP hl0
  have hS : va_S (zA b) s.heap s.heap [] := va_S.rf
  refine lv_aload hx hb dL_write_0 (lv_at hl0 4 rfl) ?_
  refine lv_iconst (v := 0) hx hb dL_write_2 (by decide) ?_
  refine lv_aload_n hx hb dL_write_3 rfl (lv_at hl0 0 rfl) ?_
  refine lv_iload_n hx hb dL_write_4 rfl (lv_at hl0 1 rfl) ?_
  refine lv_iload_n hx hb dL_write_5 rfl (lv_at hl0 2 rfl) ?_
  refine lv_iload_n hx hb dL_write_6 rfl (lv_at hl0 3 rfl) ?_
  rcases h with ⟨x, J0, h, rfl, rfl⟩ | ⟨i, ex, hi, h, rfl⟩
  · refine zcall_ret (st_run (m := zm V J d) (t := [.int (zi a2), .int (zi a1), .int (zi a0)]) (o := 0) (rest := [.int 0, .ref (b + 474)]) (z := 96) hx hb hml hown hts hG zm_wf hP hS hl0.1 (st_met0 (y := 96) hl (by decide) rfl (Nat.le_of_ble_eq_true rfl) h) (by decide) ⟨Nat.le_of_ble_eq_true rfl, Nat.le_of_ble_eq_true rfl⟩ qL613 rfl rfl (by decide) rfl (Nat.le_of_ble_eq_true rfl) dL_write_7 ⟨Nat.le_of_ble_eq_true rfl, Nat.le_of_ble_eq_true rfl⟩) hS (fun H1 locs1 hP1 hS1 _ => ?_)
    refine lv_i2l hx hb dL_write_10 rfl ?_
    exact st_store hx hb hr hlocks hG dL_write_11 dL_write_12 (tgt := 27) (by decide) dL_write_27 dL_write_28 hP1 hS1 (Nat.le_of_ble_eq_true rfl) (Nat.le_of_ble_eq_true rfl)
  · match i, hi with
    | 0, hi =>
      cases hi
      refine st_catch (k := 0) (hh := [(0, 12, 15, 13), (0, 12, 19, 15), (0, 12, 23, 17)]) (st_run (m := zm V J d) (t := [.int (zi a2), .int (zi a1), .int (zi a0)]) (o := 0) (rest := [.int 0, .ref (b + 474)]) (z := 96) hx hb hml hown hts hG zm_wf hP hS hl0.1 (st_met1 (y := 96) hl (by decide) rfl (Nat.le_of_ble_eq_true rfl) h) (by decide) ⟨Nat.le_of_ble_eq_true rfl, Nat.le_of_ble_eq_true rfl⟩ qL613 rfl rfl (by decide) rfl (Nat.le_of_ble_eq_true rfl) dL_write_7 ⟨Nat.le_of_ble_eq_true rfl, Nat.le_of_ble_eq_true rfl⟩) hS hown hts hG hN hT (by decide) rfl rfl (by decide) (fun H1 locs1 q hP1 hS1 => ?_)
      refine lv_astore hx hb dL_write_15 hl0 (by decide) rfl (fun ls1 _ => ?_)
      exact st_end hx hb hr hlocks dL_write_17 dL_write_18 rfl hP1 hS1 (Nat.le_of_ble_eq_true rfl) (Nat.le_of_ble_eq_true rfl)
    | 1, hi =>
      cases hi
      refine st_catch (k := 1) (hh := [(0, 12, 15, 13), (0, 12, 19, 15), (0, 12, 23, 17)]) (st_run (m := zm V J d) (t := [.int (zi a2), .int (zi a1), .int (zi a0)]) (o := 0) (rest := [.int 0, .ref (b + 474)]) (z := 96) hx hb hml hown hts hG zm_wf hP hS hl0.1 (st_met1 (y := 96) hl (by decide) rfl (Nat.le_of_ble_eq_true rfl) h) (by decide) ⟨Nat.le_of_ble_eq_true rfl, Nat.le_of_ble_eq_true rfl⟩ qL613 rfl rfl (by decide) rfl (Nat.le_of_ble_eq_true rfl) dL_write_7 ⟨Nat.le_of_ble_eq_true rfl, Nat.le_of_ble_eq_true rfl⟩) hS hown hts hG hN hT (by decide) rfl rfl (by decide) (fun H1 locs1 q hP1 hS1 => ?_)
      refine lv_astore hx hb dL_write_19 hl0 (by decide) rfl (fun ls1 _ => ?_)
      exact st_end hx hb hr hlocks dL_write_21 dL_write_22 rfl hP1 hS1 (Nat.le_of_ble_eq_true rfl) (Nat.le_of_ble_eq_true rfl)
    | 2, hi =>
      cases hi
      refine st_catch (k := 2) (hh := [(0, 12, 15, 13), (0, 12, 19, 15), (0, 12, 23, 17)]) (st_run (m := zm V J d) (t := [.int (zi a2), .int (zi a1), .int (zi a0)]) (o := 0) (rest := [.int 0, .ref (b + 474)]) (z := 96) hx hb hml hown hts hG zm_wf hP hS hl0.1 (st_met1 (y := 96) hl (by decide) rfl (Nat.le_of_ble_eq_true rfl) h) (by decide) ⟨Nat.le_of_ble_eq_true rfl, Nat.le_of_ble_eq_true rfl⟩ qL613 rfl rfl (by decide) rfl (Nat.le_of_ble_eq_true rfl) dL_write_7 ⟨Nat.le_of_ble_eq_true rfl, Nat.le_of_ble_eq_true rfl⟩) hS hown hts hG hN hT (by decide) rfl rfl (by decide) (fun H1 locs1 q hP1 hS1 => ?_)
      refine lv_astore hx hb dL_write_23 hl0 (by decide) rfl (fun ls1 _ => ?_)
      exact st_end hx hb hr hlocks dL_write_25 dL_write_26 rfl hP1 hS1 (Nat.le_of_ble_eq_true rfl) (Nat.le_of_ble_eq_true rfl)
    | i + 3, hi => simp at hi
theorem dL_back_0 : decode cL_back 0 = .ok (.aload_n 2, 1) := by decide +kernel
theorem dL_back_1 : decode cL_back 1 = .ok (.iconst 0, 1) := by decide +kernel
theorem dL_back_2 : decode cL_back 2 = .ok (.aload_n 0, 1) := by decide +kernel
theorem dL_back_3 : decode cL_back 3 = .ok (.iload_n 1, 1) := by decide +kernel
theorem dL_back_4 : decode cL_back 4 = .ok (.invokevirtual 53, 3) := by decide +kernel
theorem dL_back_7 : decode cL_back 7 = .ok (.i2l, 1) := by decide +kernel
theorem dL_back_8 : decode cL_back 8 = .ok (.lastore, 1) := by decide +kernel
theorem dL_back_9 : decode cL_back 9 = .ok (.goto 9, 3) := by decide +kernel
theorem dL_back_12 : decode cL_back 12 = .ok (.astore_n 3, 1) := by decide +kernel
theorem dL_back_13 : decode cL_back 13 = .ok (.iconst 1, 1) := by decide +kernel
theorem dL_back_14 : decode cL_back 14 = .ok (.ireturn, 1) := by decide +kernel
theorem dL_back_15 : decode cL_back 15 = .ok (.astore_n 3, 1) := by decide +kernel
theorem dL_back_16 : decode cL_back 16 = .ok (.iconst 2, 1) := by decide +kernel
theorem dL_back_17 : decode cL_back 17 = .ok (.ireturn, 1) := by decide +kernel
theorem dL_back_18 : decode cL_back 18 = .ok (.iconst 0, 1) := by decide +kernel
theorem dL_back_19 : decode cL_back 19 = .ok (.ireturn, 1) := by decide +kernel
theorem qL1066 : Cond.methodLink RL 53 (zy 114) ∈ zGT := zGT_of (l := [Cond.methodLink RL 53 (zy 114)]) (r := [1066]) (by decide +kernel) _ List.mem_cons_self
theorem qL1065 : Cond.codeWith yL_back cL_back 4 (some .int) [(0, 9, 12, 13), (0, 9, 15, 17)] ∈ zGT := zGT_of (l := [Cond.codeWith yL_back cL_back 4 (some .int) [(0, 9, 12, 13), (0, 9, 15, 17)]]) (r := [1065]) (by decide +kernel) _ List.mem_cons_self
theorem st_back {l : Launch} (hl : l.stackTraces = false) {b : Nat} {ro : Nat → Nat} {cA : Nat → ClassId} {D : va_G} {V V1 : zVt} {J J1 : zJt} {d : Nat → Nat → UInt64} {k a0 : Int} (h : stO 114 (zent 114 [.ref 0, .int (zi a0)]) [0, 2] V J d k V1 J1) : stM l b ro cA D yL_back (Cond.codeWith yL_back cL_back 4 (some .int) [(0, 9, 12, 13), (0, 9, 15, 17)]) (zm V J d) (zm V1 J1 d) [.ref 0, .int (zi a0), .ref 474] (zi k) := by
  refine st_of (by decide) rfl [.ref (b + 0), .int (zi a0), .ref (b + 474)] rfl (Nat.le_of_ble_eq_true rfl) ?_
  intro p e s mid below meth c ls hx hb hml hown hts hG hN hr hlocks hT hP hl0
  have hS : va_S (zA b) s.heap s.heap [] := va_S.rf
  refine lv_aload_n hx hb dL_back_0 rfl (lv_at hl0 2 rfl) ?_
  refine lv_iconst (v := 0) hx hb dL_back_1 (by decide) ?_
  refine lv_aload_n hx hb dL_back_2 rfl (lv_at hl0 0 rfl) ?_
  refine lv_iload_n hx hb dL_back_3 rfl (lv_at hl0 1 rfl) ?_
  rcases h with ⟨x, J0, h, rfl, rfl⟩ | ⟨i, ex, hi, h, rfl⟩
  · refine zcall_ret (st_run (m := zm V J d) (t := [.int (zi a0)]) (o := 0) (rest := [.int 0, .ref (b + 474)]) (z := 114) hx hb hml hown hts hG zm_wf hP hS hl0.1 (st_met0 (y := 114) hl (by decide) rfl (Nat.le_of_ble_eq_true rfl) h) (by decide) ⟨Nat.le_of_ble_eq_true rfl, Nat.le_of_ble_eq_true rfl⟩ qL1066 rfl rfl (by decide) rfl (Nat.le_of_ble_eq_true rfl) dL_back_4 ⟨Nat.le_of_ble_eq_true rfl, Nat.le_of_ble_eq_true rfl⟩) hS (fun H1 locs1 hP1 hS1 _ => ?_)
    refine lv_i2l hx hb dL_back_7 rfl ?_
    exact st_store hx hb hr hlocks hG dL_back_8 dL_back_9 (tgt := 18) (by decide) dL_back_18 dL_back_19 hP1 hS1 (Nat.le_of_ble_eq_true rfl) (Nat.le_of_ble_eq_true rfl)
  · match i, hi with
    | 0, hi =>
      cases hi
      refine st_catch (k := 0) (hh := [(0, 9, 12, 13), (0, 9, 15, 17)]) (st_run (m := zm V J d) (t := [.int (zi a0)]) (o := 0) (rest := [.int 0, .ref (b + 474)]) (z := 114) hx hb hml hown hts hG zm_wf hP hS hl0.1 (st_met1 (y := 114) hl (by decide) rfl (Nat.le_of_ble_eq_true rfl) h) (by decide) ⟨Nat.le_of_ble_eq_true rfl, Nat.le_of_ble_eq_true rfl⟩ qL1066 rfl rfl (by decide) rfl (Nat.le_of_ble_eq_true rfl) dL_back_4 ⟨Nat.le_of_ble_eq_true rfl, Nat.le_of_ble_eq_true rfl⟩) hS hown hts hG hN hT (by decide) rfl rfl (by decide) (fun H1 locs1 q hP1 hS1 => ?_)
      refine lv_astore_n hx hb dL_back_12 rfl hl0 (by decide) rfl (fun ls1 _ => ?_)
      exact st_end hx hb hr hlocks dL_back_13 dL_back_14 rfl hP1 hS1 (Nat.le_of_ble_eq_true rfl) (Nat.le_of_ble_eq_true rfl)
    | 1, hi =>
      cases hi
      refine st_catch (k := 1) (hh := [(0, 9, 12, 13), (0, 9, 15, 17)]) (st_run (m := zm V J d) (t := [.int (zi a0)]) (o := 0) (rest := [.int 0, .ref (b + 474)]) (z := 114) hx hb hml hown hts hG zm_wf hP hS hl0.1 (st_met1 (y := 114) hl (by decide) rfl (Nat.le_of_ble_eq_true rfl) h) (by decide) ⟨Nat.le_of_ble_eq_true rfl, Nat.le_of_ble_eq_true rfl⟩ qL1066 rfl rfl (by decide) rfl (Nat.le_of_ble_eq_true rfl) dL_back_4 ⟨Nat.le_of_ble_eq_true rfl, Nat.le_of_ble_eq_true rfl⟩) hS hown hts hG hN hT (by decide) rfl rfl (by decide) (fun H1 locs1 q hP1 hS1 => ?_)
      refine lv_astore_n hx hb dL_back_15 rfl hl0 (by decide) rfl (fun ls1 _ => ?_)
      exact st_end hx hb hr hlocks dL_back_16 dL_back_17 rfl hP1 hS1 (Nat.le_of_ble_eq_true rfl) (Nat.le_of_ble_eq_true rfl)
    | i + 2, hi => simp at hi
theorem dL_pencil_0 : decode cL_pencil 0 = .ok (.aload 5, 2) := by decide +kernel
theorem dL_pencil_2 : decode cL_pencil 2 = .ok (.iconst 0, 1) := by decide +kernel
theorem dL_pencil_3 : decode cL_pencil 3 = .ok (.aload_n 0, 1) := by decide +kernel
theorem dL_pencil_4 : decode cL_pencil 4 = .ok (.iload_n 1, 1) := by decide +kernel
theorem dL_pencil_5 : decode cL_pencil 5 = .ok (.iload_n 2, 1) := by decide +kernel
theorem dL_pencil_6 : decode cL_pencil 6 = .ok (.iload_n 3, 1) := by decide +kernel
theorem dL_pencil_7 : decode cL_pencil 7 = .ok (.iload 4, 2) := by decide +kernel
theorem dL_pencil_9 : decode cL_pencil 9 = .ok (.invokevirtual 57, 3) := by decide +kernel
theorem dL_pencil_12 : decode cL_pencil 12 = .ok (.i2l, 1) := by decide +kernel
theorem dL_pencil_13 : decode cL_pencil 13 = .ok (.lastore, 1) := by decide +kernel
theorem dL_pencil_14 : decode cL_pencil 14 = .ok (.goto 15, 3) := by decide +kernel
theorem dL_pencil_17 : decode cL_pencil 17 = .ok (.astore 6, 2) := by decide +kernel
theorem dL_pencil_19 : decode cL_pencil 19 = .ok (.iconst 1, 1) := by decide +kernel
theorem dL_pencil_20 : decode cL_pencil 20 = .ok (.ireturn, 1) := by decide +kernel
theorem dL_pencil_21 : decode cL_pencil 21 = .ok (.astore 6, 2) := by decide +kernel
theorem dL_pencil_23 : decode cL_pencil 23 = .ok (.iconst 2, 1) := by decide +kernel
theorem dL_pencil_24 : decode cL_pencil 24 = .ok (.ireturn, 1) := by decide +kernel
theorem dL_pencil_25 : decode cL_pencil 25 = .ok (.astore 6, 2) := by decide +kernel
theorem dL_pencil_27 : decode cL_pencil 27 = .ok (.iconst 3, 1) := by decide +kernel
theorem dL_pencil_28 : decode cL_pencil 28 = .ok (.ireturn, 1) := by decide +kernel
theorem dL_pencil_29 : decode cL_pencil 29 = .ok (.iconst 0, 1) := by decide +kernel
theorem dL_pencil_30 : decode cL_pencil 30 = .ok (.ireturn, 1) := by decide +kernel
theorem qL1086 : Cond.methodLink RL 57 (zy 116) ∈ zGT := zGT_of (l := [Cond.methodLink RL 57 (zy 116)]) (r := [1086]) (by decide +kernel) _ List.mem_cons_self
theorem qL1085 : Cond.codeWith yL_pencil cL_pencil 7 (some .int) [(0, 14, 17, 13), (0, 14, 21, 15), (0, 14, 25, 17)] ∈ zGT := zGT_of (l := [Cond.codeWith yL_pencil cL_pencil 7 (some .int) [(0, 14, 17, 13), (0, 14, 21, 15), (0, 14, 25, 17)]]) (r := [1085]) (by decide +kernel) _ List.mem_cons_self
theorem st_pencil {l : Launch} (hl : l.stackTraces = false) {b : Nat} {ro : Nat → Nat} {cA : Nat → ClassId} {D : va_G} {V V1 : zVt} {J J1 : zJt} {d : Nat → Nat → UInt64} {k a0 a1 a2 a3 : Int} (h : stO 116 (zent 116 [.ref 0, .int (zi a0), .int (zi a1), .int (zi a2), .int (zi a3)]) [0, 1, 2] V J d k V1 J1) : stM l b ro cA D yL_pencil (Cond.codeWith yL_pencil cL_pencil 7 (some .int) [(0, 14, 17, 13), (0, 14, 21, 15), (0, 14, 25, 17)]) (zm V J d) (zm V1 J1 d) [.ref 0, .int (zi a0), .int (zi a1), .int (zi a2), .int (zi a3), .ref 474] (zi k) := by
  refine st_of (by decide) rfl [.ref (b + 0), .int (zi a0), .int (zi a1), .int (zi a2), .int (zi a3), .ref (b + 474)] rfl (Nat.le_of_ble_eq_true rfl) ?_
  intro p e s mid below meth c ls hx hb hml hown hts hG hN hr hlocks hT hP hl0
  have hS : va_S (zA b) s.heap s.heap [] := va_S.rf
  refine lv_aload hx hb dL_pencil_0 (lv_at hl0 5 rfl) ?_
  refine lv_iconst (v := 0) hx hb dL_pencil_2 (by decide) ?_
  refine lv_aload_n hx hb dL_pencil_3 rfl (lv_at hl0 0 rfl) ?_
  refine lv_iload_n hx hb dL_pencil_4 rfl (lv_at hl0 1 rfl) ?_
  refine lv_iload_n hx hb dL_pencil_5 rfl (lv_at hl0 2 rfl) ?_
  refine lv_iload_n hx hb dL_pencil_6 rfl (lv_at hl0 3 rfl) ?_
  refine lv_iload hx hb dL_pencil_7 (lv_at hl0 4 rfl) ?_
  rcases h with ⟨x, J0, h, rfl, rfl⟩ | ⟨i, ex, hi, h, rfl⟩
  · refine zcall_ret (st_run (m := zm V J d) (t := [.int (zi a3), .int (zi a2), .int (zi a1), .int (zi a0)]) (o := 0) (rest := [.int 0, .ref (b + 474)]) (z := 116) hx hb hml hown hts hG zm_wf hP hS hl0.1 (st_met0 (y := 116) hl (by decide) rfl (Nat.le_of_ble_eq_true rfl) h) (by decide) ⟨Nat.le_of_ble_eq_true rfl, Nat.le_of_ble_eq_true rfl⟩ qL1086 rfl rfl (by decide) rfl (Nat.le_of_ble_eq_true rfl) dL_pencil_9 ⟨Nat.le_of_ble_eq_true rfl, Nat.le_of_ble_eq_true rfl⟩) hS (fun H1 locs1 hP1 hS1 _ => ?_)
    refine lv_i2l hx hb dL_pencil_12 rfl ?_
    exact st_store hx hb hr hlocks hG dL_pencil_13 dL_pencil_14 (tgt := 29) (by decide) dL_pencil_29 dL_pencil_30 hP1 hS1 (Nat.le_of_ble_eq_true rfl) (Nat.le_of_ble_eq_true rfl)
  · match i, hi with
    | 0, hi =>
      cases hi
      refine st_catch (k := 0) (hh := [(0, 14, 17, 13), (0, 14, 21, 15), (0, 14, 25, 17)]) (st_run (m := zm V J d) (t := [.int (zi a3), .int (zi a2), .int (zi a1), .int (zi a0)]) (o := 0) (rest := [.int 0, .ref (b + 474)]) (z := 116) hx hb hml hown hts hG zm_wf hP hS hl0.1 (st_met1 (y := 116) hl (by decide) rfl (Nat.le_of_ble_eq_true rfl) h) (by decide) ⟨Nat.le_of_ble_eq_true rfl, Nat.le_of_ble_eq_true rfl⟩ qL1086 rfl rfl (by decide) rfl (Nat.le_of_ble_eq_true rfl) dL_pencil_9 ⟨Nat.le_of_ble_eq_true rfl, Nat.le_of_ble_eq_true rfl⟩) hS hown hts hG hN hT (by decide) rfl rfl (by decide) (fun H1 locs1 q hP1 hS1 => ?_)
      refine lv_astore hx hb dL_pencil_17 hl0 (by decide) rfl (fun ls1 _ => ?_)
      exact st_end hx hb hr hlocks dL_pencil_19 dL_pencil_20 rfl hP1 hS1 (Nat.le_of_ble_eq_true rfl) (Nat.le_of_ble_eq_true rfl)
    | 1, hi =>
      cases hi
      refine st_catch (k := 1) (hh := [(0, 14, 17, 13), (0, 14, 21, 15), (0, 14, 25, 17)]) (st_run (m := zm V J d) (t := [.int (zi a3), .int (zi a2), .int (zi a1), .int (zi a0)]) (o := 0) (rest := [.int 0, .ref (b + 474)]) (z := 116) hx hb hml hown hts hG zm_wf hP hS hl0.1 (st_met1 (y := 116) hl (by decide) rfl (Nat.le_of_ble_eq_true rfl) h) (by decide) ⟨Nat.le_of_ble_eq_true rfl, Nat.le_of_ble_eq_true rfl⟩ qL1086 rfl rfl (by decide) rfl (Nat.le_of_ble_eq_true rfl) dL_pencil_9 ⟨Nat.le_of_ble_eq_true rfl, Nat.le_of_ble_eq_true rfl⟩) hS hown hts hG hN hT (by decide) rfl rfl (by decide) (fun H1 locs1 q hP1 hS1 => ?_)
      refine lv_astore hx hb dL_pencil_21 hl0 (by decide) rfl (fun ls1 _ => ?_)
      exact st_end hx hb hr hlocks dL_pencil_23 dL_pencil_24 rfl hP1 hS1 (Nat.le_of_ble_eq_true rfl) (Nat.le_of_ble_eq_true rfl)
    | 2, hi =>
      cases hi
      refine st_catch (k := 2) (hh := [(0, 14, 17, 13), (0, 14, 21, 15), (0, 14, 25, 17)]) (st_run (m := zm V J d) (t := [.int (zi a3), .int (zi a2), .int (zi a1), .int (zi a0)]) (o := 0) (rest := [.int 0, .ref (b + 474)]) (z := 116) hx hb hml hown hts hG zm_wf hP hS hl0.1 (st_met1 (y := 116) hl (by decide) rfl (Nat.le_of_ble_eq_true rfl) h) (by decide) ⟨Nat.le_of_ble_eq_true rfl, Nat.le_of_ble_eq_true rfl⟩ qL1086 rfl rfl (by decide) rfl (Nat.le_of_ble_eq_true rfl) dL_pencil_9 ⟨Nat.le_of_ble_eq_true rfl, Nat.le_of_ble_eq_true rfl⟩) hS hown hts hG hN hT (by decide) rfl rfl (by decide) (fun H1 locs1 q hP1 hS1 => ?_)
      refine lv_astore hx hb dL_pencil_25 hl0 (by decide) rfl (fun ls1 _ => ?_)
      exact st_end hx hb hr hlocks dL_pencil_27 dL_pencil_28 rfl hP1 hS1 (Nat.le_of_ble_eq_true rfl) (Nat.le_of_ble_eq_true rfl)
    | i + 3, hi => simp at hi
theorem dL_strike_0 : decode cL_strike 0 = .ok (.aload 4, 2) := by decide +kernel
theorem dL_strike_2 : decode cL_strike 2 = .ok (.iconst 0, 1) := by decide +kernel
theorem dL_strike_3 : decode cL_strike 3 = .ok (.aload_n 0, 1) := by decide +kernel
theorem dL_strike_4 : decode cL_strike 4 = .ok (.iload_n 1, 1) := by decide +kernel
theorem dL_strike_5 : decode cL_strike 5 = .ok (.iload_n 2, 1) := by decide +kernel
theorem dL_strike_6 : decode cL_strike 6 = .ok (.iload_n 3, 1) := by decide +kernel
theorem dL_strike_7 : decode cL_strike 7 = .ok (.invokevirtual 19, 3) := by decide +kernel
theorem dL_strike_10 : decode cL_strike 10 = .ok (.i2l, 1) := by decide +kernel
theorem dL_strike_11 : decode cL_strike 11 = .ok (.lastore, 1) := by decide +kernel
theorem dL_strike_12 : decode cL_strike 12 = .ok (.goto 15, 3) := by decide +kernel
theorem dL_strike_15 : decode cL_strike 15 = .ok (.astore 5, 2) := by decide +kernel
theorem dL_strike_17 : decode cL_strike 17 = .ok (.iconst 1, 1) := by decide +kernel
theorem dL_strike_18 : decode cL_strike 18 = .ok (.ireturn, 1) := by decide +kernel
theorem dL_strike_19 : decode cL_strike 19 = .ok (.astore 5, 2) := by decide +kernel
theorem dL_strike_21 : decode cL_strike 21 = .ok (.iconst 2, 1) := by decide +kernel
theorem dL_strike_22 : decode cL_strike 22 = .ok (.ireturn, 1) := by decide +kernel
theorem dL_strike_23 : decode cL_strike 23 = .ok (.astore 5, 2) := by decide +kernel
theorem dL_strike_25 : decode cL_strike 25 = .ok (.iconst 3, 1) := by decide +kernel
theorem dL_strike_26 : decode cL_strike 26 = .ok (.ireturn, 1) := by decide +kernel
theorem dL_strike_27 : decode cL_strike 27 = .ok (.iconst 0, 1) := by decide +kernel
theorem dL_strike_28 : decode cL_strike 28 = .ok (.ireturn, 1) := by decide +kernel
theorem qL724 : Cond.methodLink RL 19 (zy 98) ∈ zGT := zGT_of (l := [Cond.methodLink RL 19 (zy 98)]) (r := [724]) (by decide +kernel) _ List.mem_cons_self
theorem qL723 : Cond.codeWith yL_strike cL_strike 6 (some .int) [(0, 12, 15, 13), (0, 12, 19, 15), (0, 12, 23, 17)] ∈ zGT := zGT_of (l := [Cond.codeWith yL_strike cL_strike 6 (some .int) [(0, 12, 15, 13), (0, 12, 19, 15), (0, 12, 23, 17)]]) (r := [723]) (by decide +kernel) _ List.mem_cons_self
theorem st_strike {l : Launch} (hl : l.stackTraces = false) {b : Nat} {ro : Nat → Nat} {cA : Nat → ClassId} {D : va_G} {V V1 : zVt} {J J1 : zJt} {d : Nat → Nat → UInt64} {k a0 a1 a2 : Int} (h : stO 98 (zent 98 [.ref 0, .int (zi a0), .int (zi a1), .int (zi a2)]) [0, 1, 2] V J d k V1 J1) : stM l b ro cA D yL_strike (Cond.codeWith yL_strike cL_strike 6 (some .int) [(0, 12, 15, 13), (0, 12, 19, 15), (0, 12, 23, 17)]) (zm V J d) (zm V1 J1 d) [.ref 0, .int (zi a0), .int (zi a1), .int (zi a2), .ref 474] (zi k) := by
  refine st_of (by decide) rfl [.ref (b + 0), .int (zi a0), .int (zi a1), .int (zi a2), .ref (b + 474)] rfl (Nat.le_of_ble_eq_true rfl) ?_
  intro p e s mid below meth c ls hx hb hml hown hts hG hN hr hlocks hT hP hl0
  have hS : va_S (zA b) s.heap s.heap [] := va_S.rf
  refine lv_aload hx hb dL_strike_0 (lv_at hl0 4 rfl) ?_
  refine lv_iconst (v := 0) hx hb dL_strike_2 (by decide) ?_
  refine lv_aload_n hx hb dL_strike_3 rfl (lv_at hl0 0 rfl) ?_
  refine lv_iload_n hx hb dL_strike_4 rfl (lv_at hl0 1 rfl) ?_
  refine lv_iload_n hx hb dL_strike_5 rfl (lv_at hl0 2 rfl) ?_
  refine lv_iload_n hx hb dL_strike_6 rfl (lv_at hl0 3 rfl) ?_
  rcases h with ⟨x, J0, h, rfl, rfl⟩ | ⟨i, ex, hi, h, rfl⟩
  · refine zcall_ret (st_run (m := zm V J d) (t := [.int (zi a2), .int (zi a1), .int (zi a0)]) (o := 0) (rest := [.int 0, .ref (b + 474)]) (z := 98) hx hb hml hown hts hG zm_wf hP hS hl0.1 (st_met0 (y := 98) hl (by decide) rfl (Nat.le_of_ble_eq_true rfl) h) (by decide) ⟨Nat.le_of_ble_eq_true rfl, Nat.le_of_ble_eq_true rfl⟩ qL724 rfl rfl (by decide) rfl (Nat.le_of_ble_eq_true rfl) dL_strike_7 ⟨Nat.le_of_ble_eq_true rfl, Nat.le_of_ble_eq_true rfl⟩) hS (fun H1 locs1 hP1 hS1 _ => ?_)
    refine lv_i2l hx hb dL_strike_10 rfl ?_
    exact st_store hx hb hr hlocks hG dL_strike_11 dL_strike_12 (tgt := 27) (by decide) dL_strike_27 dL_strike_28 hP1 hS1 (Nat.le_of_ble_eq_true rfl) (Nat.le_of_ble_eq_true rfl)
  · match i, hi with
    | 0, hi =>
      cases hi
      refine st_catch (k := 0) (hh := [(0, 12, 15, 13), (0, 12, 19, 15), (0, 12, 23, 17)]) (st_run (m := zm V J d) (t := [.int (zi a2), .int (zi a1), .int (zi a0)]) (o := 0) (rest := [.int 0, .ref (b + 474)]) (z := 98) hx hb hml hown hts hG zm_wf hP hS hl0.1 (st_met1 (y := 98) hl (by decide) rfl (Nat.le_of_ble_eq_true rfl) h) (by decide) ⟨Nat.le_of_ble_eq_true rfl, Nat.le_of_ble_eq_true rfl⟩ qL724 rfl rfl (by decide) rfl (Nat.le_of_ble_eq_true rfl) dL_strike_7 ⟨Nat.le_of_ble_eq_true rfl, Nat.le_of_ble_eq_true rfl⟩) hS hown hts hG hN hT (by decide) rfl rfl (by decide) (fun H1 locs1 q hP1 hS1 => ?_)
      refine lv_astore hx hb dL_strike_15 hl0 (by decide) rfl (fun ls1 _ => ?_)
      exact st_end hx hb hr hlocks dL_strike_17 dL_strike_18 rfl hP1 hS1 (Nat.le_of_ble_eq_true rfl) (Nat.le_of_ble_eq_true rfl)
    | 1, hi =>
      cases hi
      refine st_catch (k := 1) (hh := [(0, 12, 15, 13), (0, 12, 19, 15), (0, 12, 23, 17)]) (st_run (m := zm V J d) (t := [.int (zi a2), .int (zi a1), .int (zi a0)]) (o := 0) (rest := [.int 0, .ref (b + 474)]) (z := 98) hx hb hml hown hts hG zm_wf hP hS hl0.1 (st_met1 (y := 98) hl (by decide) rfl (Nat.le_of_ble_eq_true rfl) h) (by decide) ⟨Nat.le_of_ble_eq_true rfl, Nat.le_of_ble_eq_true rfl⟩ qL724 rfl rfl (by decide) rfl (Nat.le_of_ble_eq_true rfl) dL_strike_7 ⟨Nat.le_of_ble_eq_true rfl, Nat.le_of_ble_eq_true rfl⟩) hS hown hts hG hN hT (by decide) rfl rfl (by decide) (fun H1 locs1 q hP1 hS1 => ?_)
      refine lv_astore hx hb dL_strike_19 hl0 (by decide) rfl (fun ls1 _ => ?_)
      exact st_end hx hb hr hlocks dL_strike_21 dL_strike_22 rfl hP1 hS1 (Nat.le_of_ble_eq_true rfl) (Nat.le_of_ble_eq_true rfl)
    | 2, hi =>
      cases hi
      refine st_catch (k := 2) (hh := [(0, 12, 15, 13), (0, 12, 19, 15), (0, 12, 23, 17)]) (st_run (m := zm V J d) (t := [.int (zi a2), .int (zi a1), .int (zi a0)]) (o := 0) (rest := [.int 0, .ref (b + 474)]) (z := 98) hx hb hml hown hts hG zm_wf hP hS hl0.1 (st_met1 (y := 98) hl (by decide) rfl (Nat.le_of_ble_eq_true rfl) h) (by decide) ⟨Nat.le_of_ble_eq_true rfl, Nat.le_of_ble_eq_true rfl⟩ qL724 rfl rfl (by decide) rfl (Nat.le_of_ble_eq_true rfl) dL_strike_7 ⟨Nat.le_of_ble_eq_true rfl, Nat.le_of_ble_eq_true rfl⟩) hS hown hts hG hN hT (by decide) rfl rfl (by decide) (fun H1 locs1 q hP1 hS1 => ?_)
      refine lv_astore hx hb dL_strike_23 hl0 (by decide) rfl (fun ls1 _ => ?_)
      exact st_end hx hb hr hlocks dL_strike_25 dL_strike_26 rfl hP1 hS1 (Nat.le_of_ble_eq_true rfl) (Nat.le_of_ble_eq_true rfl)
    | i + 3, hi => simp at hi
