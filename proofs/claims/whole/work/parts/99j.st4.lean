/-! part 99j.st4: the law's own methods: room, ask, done, learned, misled, judge, concert; printed by program (wip/whole/gen/gen_stub.py) -/
theorem dL_room_0 : decode cL_room 0 = .ok (.aload_n 3, 1) := by decide +kernel
theorem dL_room_1 : decode cL_room 1 = .ok (.iconst 0, 1) := by decide +kernel
theorem dL_room_2 : decode cL_room 2 = .ok (.aload_n 0, 1) := by decide +kernel
theorem dL_room_3 : decode cL_room 3 = .ok (.iload_n 1, 1) := by decide +kernel
theorem dL_room_4 : decode cL_room 4 = .ok (.iload_n 2, 1) := by decide +kernel
theorem dL_room_5 : decode cL_room 5 = .ok (.invokevirtual 85, 3) := by decide +kernel
theorem dL_room_8 : decode cL_room 8 = .ok (.i2l, 1) := by decide +kernel
theorem dL_room_9 : decode cL_room 9 = .ok (.lastore, 1) := by decide +kernel
theorem dL_room_10 : decode cL_room 10 = .ok (.goto 11, 3) := by decide +kernel
theorem dL_room_13 : decode cL_room 13 = .ok (.astore 4, 2) := by decide +kernel
theorem dL_room_15 : decode cL_room 15 = .ok (.iconst 1, 1) := by decide +kernel
theorem dL_room_16 : decode cL_room 16 = .ok (.ireturn, 1) := by decide +kernel
theorem dL_room_17 : decode cL_room 17 = .ok (.astore 4, 2) := by decide +kernel
theorem dL_room_19 : decode cL_room 19 = .ok (.iconst 2, 1) := by decide +kernel
theorem dL_room_20 : decode cL_room 20 = .ok (.ireturn, 1) := by decide +kernel
theorem dL_room_21 : decode cL_room 21 = .ok (.iconst 0, 1) := by decide +kernel
theorem dL_room_22 : decode cL_room 22 = .ok (.ireturn, 1) := by decide +kernel
theorem qL1214 : Cond.methodLink RL 85 (zy 129) ∈ zGT := zGT_of (l := [Cond.methodLink RL 85 (zy 129)]) (r := [1214]) (by decide +kernel) _ List.mem_cons_self
theorem qL1213 : Cond.codeWith yL_room cL_room 5 (some .int) [(0, 10, 13, 13), (0, 10, 17, 15)] ∈ zGT := zGT_of (l := [Cond.codeWith yL_room cL_room 5 (some .int) [(0, 10, 13, 13), (0, 10, 17, 15)]]) (r := [1213]) (by decide +kernel) _ List.mem_cons_self
theorem st_room {l : Launch} (hl : l.stackTraces = false) {b : Nat} {ro : Nat → Nat} {cA : Nat → ClassId} {D : va_G} {V V1 : zVt} {J J1 : zJt} {d : Nat → Nat → UInt64} {k a0 a1 : Int} (h : stO 129 (zent 129 [.ref 0, .int (zi a0), .int (zi a1)]) [0, 1] V J d k V1 J1) : stM l b ro cA D yL_room (Cond.codeWith yL_room cL_room 5 (some .int) [(0, 10, 13, 13), (0, 10, 17, 15)]) (zm V J d) (zm V1 J1 d) [.ref 0, .int (zi a0), .int (zi a1), .ref 474] (zi k) := by
  refine st_of (by decide) rfl [.ref (b + 0), .int (zi a0), .int (zi a1), .ref (b + 474)] rfl (Nat.le_of_ble_eq_true rfl) ?_
  intro p e s mid below meth c ls hx hb hml hown hts hG hN hr hlocks hT hP hl0
  have hS : va_S (zA b) s.heap s.heap [] := va_S.rf
  refine lv_aload_n hx hb dL_room_0 rfl (lv_at hl0 3 rfl) ?_
  refine lv_iconst (v := 0) hx hb dL_room_1 (by decide) ?_
  refine lv_aload_n hx hb dL_room_2 rfl (lv_at hl0 0 rfl) ?_
  refine lv_iload_n hx hb dL_room_3 rfl (lv_at hl0 1 rfl) ?_
  refine lv_iload_n hx hb dL_room_4 rfl (lv_at hl0 2 rfl) ?_
  rcases h with ⟨x, J0, h, rfl, rfl⟩ | ⟨i, ex, hi, h, rfl⟩
  · refine zcall_ret (st_run (m := zm V J d) (t := [.int (zi a1), .int (zi a0)]) (o := 0) (rest := [.int 0, .ref (b + 474)]) (z := 129) hx hb hml hown hts hG zm_wf hP hS hl0.1 (st_met0 (y := 129) hl (by decide) rfl (Nat.le_of_ble_eq_true rfl) h) (by decide) ⟨Nat.le_of_ble_eq_true rfl, Nat.le_of_ble_eq_true rfl⟩ qL1214 rfl rfl (by decide) rfl (Nat.le_of_ble_eq_true rfl) dL_room_5 ⟨Nat.le_of_ble_eq_true rfl, Nat.le_of_ble_eq_true rfl⟩) hS (fun H1 locs1 hP1 hS1 _ => ?_)
    refine lv_i2l hx hb dL_room_8 rfl ?_
    exact st_store hx hb hr hlocks hG dL_room_9 dL_room_10 (tgt := 21) (by decide) dL_room_21 dL_room_22 hP1 hS1 (Nat.le_of_ble_eq_true rfl) (Nat.le_of_ble_eq_true rfl)
  · match i, hi with
    | 0, hi =>
      cases hi
      refine st_catch (k := 0) (hh := [(0, 10, 13, 13), (0, 10, 17, 15)]) (st_run (m := zm V J d) (t := [.int (zi a1), .int (zi a0)]) (o := 0) (rest := [.int 0, .ref (b + 474)]) (z := 129) hx hb hml hown hts hG zm_wf hP hS hl0.1 (st_met1 (y := 129) hl (by decide) rfl (Nat.le_of_ble_eq_true rfl) h) (by decide) ⟨Nat.le_of_ble_eq_true rfl, Nat.le_of_ble_eq_true rfl⟩ qL1214 rfl rfl (by decide) rfl (Nat.le_of_ble_eq_true rfl) dL_room_5 ⟨Nat.le_of_ble_eq_true rfl, Nat.le_of_ble_eq_true rfl⟩) hS hown hts hG hN hT (by decide) rfl rfl (by decide) (fun H1 locs1 q hP1 hS1 => ?_)
      refine lv_astore hx hb dL_room_13 hl0 (by decide) rfl (fun ls1 _ => ?_)
      exact st_end hx hb hr hlocks dL_room_15 dL_room_16 rfl hP1 hS1 (Nat.le_of_ble_eq_true rfl) (Nat.le_of_ble_eq_true rfl)
    | 1, hi =>
      cases hi
      refine st_catch (k := 1) (hh := [(0, 10, 13, 13), (0, 10, 17, 15)]) (st_run (m := zm V J d) (t := [.int (zi a1), .int (zi a0)]) (o := 0) (rest := [.int 0, .ref (b + 474)]) (z := 129) hx hb hml hown hts hG zm_wf hP hS hl0.1 (st_met1 (y := 129) hl (by decide) rfl (Nat.le_of_ble_eq_true rfl) h) (by decide) ⟨Nat.le_of_ble_eq_true rfl, Nat.le_of_ble_eq_true rfl⟩ qL1214 rfl rfl (by decide) rfl (Nat.le_of_ble_eq_true rfl) dL_room_5 ⟨Nat.le_of_ble_eq_true rfl, Nat.le_of_ble_eq_true rfl⟩) hS hown hts hG hN hT (by decide) rfl rfl (by decide) (fun H1 locs1 q hP1 hS1 => ?_)
      refine lv_astore hx hb dL_room_17 hl0 (by decide) rfl (fun ls1 _ => ?_)
      exact st_end hx hb hr hlocks dL_room_19 dL_room_20 rfl hP1 hS1 (Nat.le_of_ble_eq_true rfl) (Nat.le_of_ble_eq_true rfl)
    | i + 2, hi => simp at hi
theorem dL_ask_0 : decode cL_ask 0 = .ok (.aload 5, 2) := by decide +kernel
theorem dL_ask_2 : decode cL_ask 2 = .ok (.iconst 0, 1) := by decide +kernel
theorem dL_ask_3 : decode cL_ask 3 = .ok (.aload_n 0, 1) := by decide +kernel
theorem dL_ask_4 : decode cL_ask 4 = .ok (.iload_n 1, 1) := by decide +kernel
theorem dL_ask_5 : decode cL_ask 5 = .ok (.iload_n 2, 1) := by decide +kernel
theorem dL_ask_6 : decode cL_ask 6 = .ok (.iload_n 3, 1) := by decide +kernel
theorem dL_ask_7 : decode cL_ask 7 = .ok (.iload 4, 2) := by decide +kernel
theorem dL_ask_9 : decode cL_ask 9 = .ok (.invokevirtual 88, 3) := by decide +kernel
theorem dL_ask_12 : decode cL_ask 12 = .ok (.i2l, 1) := by decide +kernel
theorem dL_ask_13 : decode cL_ask 13 = .ok (.lastore, 1) := by decide +kernel
theorem dL_ask_14 : decode cL_ask 14 = .ok (.goto 15, 3) := by decide +kernel
theorem dL_ask_17 : decode cL_ask 17 = .ok (.astore 6, 2) := by decide +kernel
theorem dL_ask_19 : decode cL_ask 19 = .ok (.iconst 1, 1) := by decide +kernel
theorem dL_ask_20 : decode cL_ask 20 = .ok (.ireturn, 1) := by decide +kernel
theorem dL_ask_21 : decode cL_ask 21 = .ok (.astore 6, 2) := by decide +kernel
theorem dL_ask_23 : decode cL_ask 23 = .ok (.iconst 2, 1) := by decide +kernel
theorem dL_ask_24 : decode cL_ask 24 = .ok (.ireturn, 1) := by decide +kernel
theorem dL_ask_25 : decode cL_ask 25 = .ok (.astore 6, 2) := by decide +kernel
theorem dL_ask_27 : decode cL_ask 27 = .ok (.iconst 3, 1) := by decide +kernel
theorem dL_ask_28 : decode cL_ask 28 = .ok (.ireturn, 1) := by decide +kernel
theorem dL_ask_29 : decode cL_ask 29 = .ok (.iconst 0, 1) := by decide +kernel
theorem dL_ask_30 : decode cL_ask 30 = .ok (.ireturn, 1) := by decide +kernel
theorem qL1223 : Cond.methodLink RL 88 (zy 130) ∈ zGT := zGT_of (l := [Cond.methodLink RL 88 (zy 130)]) (r := [1223]) (by decide +kernel) _ List.mem_cons_self
theorem qL1222 : Cond.codeWith yL_ask cL_ask 7 (some .int) [(0, 14, 17, 13), (0, 14, 21, 15), (0, 14, 25, 17)] ∈ zGT := zGT_of (l := [Cond.codeWith yL_ask cL_ask 7 (some .int) [(0, 14, 17, 13), (0, 14, 21, 15), (0, 14, 25, 17)]]) (r := [1222]) (by decide +kernel) _ List.mem_cons_self
theorem st_ask {l : Launch} (hl : l.stackTraces = false) {b : Nat} {ro : Nat → Nat} {cA : Nat → ClassId} {D : va_G} {V V1 : zVt} {J J1 : zJt} {d : Nat → Nat → UInt64} {k a0 a1 a2 a3 : Int} (h : stO 130 (zent 130 [.ref 0, .int (zi a0), .int (zi a1), .int (zi a2), .int (zi a3)]) [0, 1, 2] V J d k V1 J1) : stM l b ro cA D yL_ask (Cond.codeWith yL_ask cL_ask 7 (some .int) [(0, 14, 17, 13), (0, 14, 21, 15), (0, 14, 25, 17)]) (zm V J d) (zm V1 J1 d) [.ref 0, .int (zi a0), .int (zi a1), .int (zi a2), .int (zi a3), .ref 474] (zi k) := by
  refine st_of (by decide) rfl [.ref (b + 0), .int (zi a0), .int (zi a1), .int (zi a2), .int (zi a3), .ref (b + 474)] rfl (Nat.le_of_ble_eq_true rfl) ?_
  intro p e s mid below meth c ls hx hb hml hown hts hG hN hr hlocks hT hP hl0
  have hS : va_S (zA b) s.heap s.heap [] := va_S.rf
  refine lv_aload hx hb dL_ask_0 (lv_at hl0 5 rfl) ?_
  refine lv_iconst (v := 0) hx hb dL_ask_2 (by decide) ?_
  refine lv_aload_n hx hb dL_ask_3 rfl (lv_at hl0 0 rfl) ?_
  refine lv_iload_n hx hb dL_ask_4 rfl (lv_at hl0 1 rfl) ?_
  refine lv_iload_n hx hb dL_ask_5 rfl (lv_at hl0 2 rfl) ?_
  refine lv_iload_n hx hb dL_ask_6 rfl (lv_at hl0 3 rfl) ?_
  refine lv_iload hx hb dL_ask_7 (lv_at hl0 4 rfl) ?_
  rcases h with ⟨x, J0, h, rfl, rfl⟩ | ⟨i, ex, hi, h, rfl⟩
  · refine zcall_ret (st_run (m := zm V J d) (t := [.int (zi a3), .int (zi a2), .int (zi a1), .int (zi a0)]) (o := 0) (rest := [.int 0, .ref (b + 474)]) (z := 130) hx hb hml hown hts hG zm_wf hP hS hl0.1 (st_met0 (y := 130) hl (by decide) rfl (Nat.le_of_ble_eq_true rfl) h) (by decide) ⟨Nat.le_of_ble_eq_true rfl, Nat.le_of_ble_eq_true rfl⟩ qL1223 rfl rfl (by decide) rfl (Nat.le_of_ble_eq_true rfl) dL_ask_9 ⟨Nat.le_of_ble_eq_true rfl, Nat.le_of_ble_eq_true rfl⟩) hS (fun H1 locs1 hP1 hS1 _ => ?_)
    refine lv_i2l hx hb dL_ask_12 rfl ?_
    exact st_store hx hb hr hlocks hG dL_ask_13 dL_ask_14 (tgt := 29) (by decide) dL_ask_29 dL_ask_30 hP1 hS1 (Nat.le_of_ble_eq_true rfl) (Nat.le_of_ble_eq_true rfl)
  · match i, hi with
    | 0, hi =>
      cases hi
      refine st_catch (k := 0) (hh := [(0, 14, 17, 13), (0, 14, 21, 15), (0, 14, 25, 17)]) (st_run (m := zm V J d) (t := [.int (zi a3), .int (zi a2), .int (zi a1), .int (zi a0)]) (o := 0) (rest := [.int 0, .ref (b + 474)]) (z := 130) hx hb hml hown hts hG zm_wf hP hS hl0.1 (st_met1 (y := 130) hl (by decide) rfl (Nat.le_of_ble_eq_true rfl) h) (by decide) ⟨Nat.le_of_ble_eq_true rfl, Nat.le_of_ble_eq_true rfl⟩ qL1223 rfl rfl (by decide) rfl (Nat.le_of_ble_eq_true rfl) dL_ask_9 ⟨Nat.le_of_ble_eq_true rfl, Nat.le_of_ble_eq_true rfl⟩) hS hown hts hG hN hT (by decide) rfl rfl (by decide) (fun H1 locs1 q hP1 hS1 => ?_)
      refine lv_astore hx hb dL_ask_17 hl0 (by decide) rfl (fun ls1 _ => ?_)
      exact st_end hx hb hr hlocks dL_ask_19 dL_ask_20 rfl hP1 hS1 (Nat.le_of_ble_eq_true rfl) (Nat.le_of_ble_eq_true rfl)
    | 1, hi =>
      cases hi
      refine st_catch (k := 1) (hh := [(0, 14, 17, 13), (0, 14, 21, 15), (0, 14, 25, 17)]) (st_run (m := zm V J d) (t := [.int (zi a3), .int (zi a2), .int (zi a1), .int (zi a0)]) (o := 0) (rest := [.int 0, .ref (b + 474)]) (z := 130) hx hb hml hown hts hG zm_wf hP hS hl0.1 (st_met1 (y := 130) hl (by decide) rfl (Nat.le_of_ble_eq_true rfl) h) (by decide) ⟨Nat.le_of_ble_eq_true rfl, Nat.le_of_ble_eq_true rfl⟩ qL1223 rfl rfl (by decide) rfl (Nat.le_of_ble_eq_true rfl) dL_ask_9 ⟨Nat.le_of_ble_eq_true rfl, Nat.le_of_ble_eq_true rfl⟩) hS hown hts hG hN hT (by decide) rfl rfl (by decide) (fun H1 locs1 q hP1 hS1 => ?_)
      refine lv_astore hx hb dL_ask_21 hl0 (by decide) rfl (fun ls1 _ => ?_)
      exact st_end hx hb hr hlocks dL_ask_23 dL_ask_24 rfl hP1 hS1 (Nat.le_of_ble_eq_true rfl) (Nat.le_of_ble_eq_true rfl)
    | 2, hi =>
      cases hi
      refine st_catch (k := 2) (hh := [(0, 14, 17, 13), (0, 14, 21, 15), (0, 14, 25, 17)]) (st_run (m := zm V J d) (t := [.int (zi a3), .int (zi a2), .int (zi a1), .int (zi a0)]) (o := 0) (rest := [.int 0, .ref (b + 474)]) (z := 130) hx hb hml hown hts hG zm_wf hP hS hl0.1 (st_met1 (y := 130) hl (by decide) rfl (Nat.le_of_ble_eq_true rfl) h) (by decide) ⟨Nat.le_of_ble_eq_true rfl, Nat.le_of_ble_eq_true rfl⟩ qL1223 rfl rfl (by decide) rfl (Nat.le_of_ble_eq_true rfl) dL_ask_9 ⟨Nat.le_of_ble_eq_true rfl, Nat.le_of_ble_eq_true rfl⟩) hS hown hts hG hN hT (by decide) rfl rfl (by decide) (fun H1 locs1 q hP1 hS1 => ?_)
      refine lv_astore hx hb dL_ask_25 hl0 (by decide) rfl (fun ls1 _ => ?_)
      exact st_end hx hb hr hlocks dL_ask_27 dL_ask_28 rfl hP1 hS1 (Nat.le_of_ble_eq_true rfl) (Nat.le_of_ble_eq_true rfl)
    | i + 3, hi => simp at hi
theorem dL_done_0 : decode cL_done 0 = .ok (.aload_n 2, 1) := by decide +kernel
theorem dL_done_1 : decode cL_done 1 = .ok (.iconst 0, 1) := by decide +kernel
theorem dL_done_2 : decode cL_done 2 = .ok (.aload_n 0, 1) := by decide +kernel
theorem dL_done_3 : decode cL_done 3 = .ok (.iload_n 1, 1) := by decide +kernel
theorem dL_done_4 : decode cL_done 4 = .ok (.invokevirtual 91, 3) := by decide +kernel
theorem dL_done_7 : decode cL_done 7 = .ok (.i2l, 1) := by decide +kernel
theorem dL_done_8 : decode cL_done 8 = .ok (.lastore, 1) := by decide +kernel
theorem dL_done_9 : decode cL_done 9 = .ok (.goto 6, 3) := by decide +kernel
theorem dL_done_12 : decode cL_done 12 = .ok (.astore_n 3, 1) := by decide +kernel
theorem dL_done_13 : decode cL_done 13 = .ok (.iconst 1, 1) := by decide +kernel
theorem dL_done_14 : decode cL_done 14 = .ok (.ireturn, 1) := by decide +kernel
theorem dL_done_15 : decode cL_done 15 = .ok (.iconst 0, 1) := by decide +kernel
theorem dL_done_16 : decode cL_done 16 = .ok (.ireturn, 1) := by decide +kernel
theorem qL1236 : Cond.methodLink RL 91 (zy 131) ∈ zGT := zGT_of (l := [Cond.methodLink RL 91 (zy 131)]) (r := [1236]) (by decide +kernel) _ List.mem_cons_self
theorem qL1235 : Cond.codeWith yL_done cL_done 4 (some .int) [(0, 9, 12, 13)] ∈ zGT := zGT_of (l := [Cond.codeWith yL_done cL_done 4 (some .int) [(0, 9, 12, 13)]]) (r := [1235]) (by decide +kernel) _ List.mem_cons_self
theorem st_done {l : Launch} (hl : l.stackTraces = false) {b : Nat} {ro : Nat → Nat} {cA : Nat → ClassId} {D : va_G} {V V1 : zVt} {J J1 : zJt} {d : Nat → Nat → UInt64} {k a0 : Int} (h : stO 131 (zent 131 [.ref 0, .int (zi a0)]) [0] V J d k V1 J1) : stM l b ro cA D yL_done (Cond.codeWith yL_done cL_done 4 (some .int) [(0, 9, 12, 13)]) (zm V J d) (zm V1 J1 d) [.ref 0, .int (zi a0), .ref 474] (zi k) := by
  refine st_of (by decide) rfl [.ref (b + 0), .int (zi a0), .ref (b + 474)] rfl (Nat.le_of_ble_eq_true rfl) ?_
  intro p e s mid below meth c ls hx hb hml hown hts hG hN hr hlocks hT hP hl0
  have hS : va_S (zA b) s.heap s.heap [] := va_S.rf
  refine lv_aload_n hx hb dL_done_0 rfl (lv_at hl0 2 rfl) ?_
  refine lv_iconst (v := 0) hx hb dL_done_1 (by decide) ?_
  refine lv_aload_n hx hb dL_done_2 rfl (lv_at hl0 0 rfl) ?_
  refine lv_iload_n hx hb dL_done_3 rfl (lv_at hl0 1 rfl) ?_
  rcases h with ⟨x, J0, h, rfl, rfl⟩ | ⟨i, ex, hi, h, rfl⟩
  · refine zcall_ret (st_run (m := zm V J d) (t := [.int (zi a0)]) (o := 0) (rest := [.int 0, .ref (b + 474)]) (z := 131) hx hb hml hown hts hG zm_wf hP hS hl0.1 (st_met0 (y := 131) hl (by decide) rfl (Nat.le_of_ble_eq_true rfl) h) (by decide) ⟨Nat.le_of_ble_eq_true rfl, Nat.le_of_ble_eq_true rfl⟩ qL1236 rfl rfl (by decide) rfl (Nat.le_of_ble_eq_true rfl) dL_done_4 ⟨Nat.le_of_ble_eq_true rfl, Nat.le_of_ble_eq_true rfl⟩) hS (fun H1 locs1 hP1 hS1 _ => ?_)
    refine lv_i2l hx hb dL_done_7 rfl ?_
    exact st_store hx hb hr hlocks hG dL_done_8 dL_done_9 (tgt := 15) (by decide) dL_done_15 dL_done_16 hP1 hS1 (Nat.le_of_ble_eq_true rfl) (Nat.le_of_ble_eq_true rfl)
  · match i, hi with
    | 0, hi =>
      cases hi
      refine st_catch (k := 0) (hh := [(0, 9, 12, 13)]) (st_run (m := zm V J d) (t := [.int (zi a0)]) (o := 0) (rest := [.int 0, .ref (b + 474)]) (z := 131) hx hb hml hown hts hG zm_wf hP hS hl0.1 (st_met1 (y := 131) hl (by decide) rfl (Nat.le_of_ble_eq_true rfl) h) (by decide) ⟨Nat.le_of_ble_eq_true rfl, Nat.le_of_ble_eq_true rfl⟩ qL1236 rfl rfl (by decide) rfl (Nat.le_of_ble_eq_true rfl) dL_done_4 ⟨Nat.le_of_ble_eq_true rfl, Nat.le_of_ble_eq_true rfl⟩) hS hown hts hG hN hT (by decide) rfl rfl (by decide) (fun H1 locs1 q hP1 hS1 => ?_)
      refine lv_astore_n hx hb dL_done_12 rfl hl0 (by decide) rfl (fun ls1 _ => ?_)
      exact st_end hx hb hr hlocks dL_done_13 dL_done_14 rfl hP1 hS1 (Nat.le_of_ble_eq_true rfl) (Nat.le_of_ble_eq_true rfl)
    | i + 1, hi => simp at hi
theorem dL_learned_0 : decode cL_learned 0 = .ok (.aload 5, 2) := by decide +kernel
theorem dL_learned_2 : decode cL_learned 2 = .ok (.iconst 0, 1) := by decide +kernel
theorem dL_learned_3 : decode cL_learned 3 = .ok (.aload_n 0, 1) := by decide +kernel
theorem dL_learned_4 : decode cL_learned 4 = .ok (.iload_n 1, 1) := by decide +kernel
theorem dL_learned_5 : decode cL_learned 5 = .ok (.iload_n 2, 1) := by decide +kernel
theorem dL_learned_6 : decode cL_learned 6 = .ok (.iload_n 3, 1) := by decide +kernel
theorem dL_learned_7 : decode cL_learned 7 = .ok (.iload 4, 2) := by decide +kernel
theorem dL_learned_9 : decode cL_learned 9 = .ok (.invokevirtual 94, 3) := by decide +kernel
theorem dL_learned_12 : decode cL_learned 12 = .ok (.i2l, 1) := by decide +kernel
theorem dL_learned_13 : decode cL_learned 13 = .ok (.lastore, 1) := by decide +kernel
theorem dL_learned_14 : decode cL_learned 14 = .ok (.goto 7, 3) := by decide +kernel
theorem dL_learned_17 : decode cL_learned 17 = .ok (.astore 6, 2) := by decide +kernel
theorem dL_learned_19 : decode cL_learned 19 = .ok (.iconst 1, 1) := by decide +kernel
theorem dL_learned_20 : decode cL_learned 20 = .ok (.ireturn, 1) := by decide +kernel
theorem dL_learned_21 : decode cL_learned 21 = .ok (.iconst 0, 1) := by decide +kernel
theorem dL_learned_22 : decode cL_learned 22 = .ok (.ireturn, 1) := by decide +kernel
theorem qL1244 : Cond.methodLink RL 94 (zy 132) ∈ zGT := zGT_of (l := [Cond.methodLink RL 94 (zy 132)]) (r := [1244]) (by decide +kernel) _ List.mem_cons_self
theorem qL1243 : Cond.codeWith yL_learned cL_learned 7 (some .int) [(0, 14, 17, 13)] ∈ zGT := zGT_of (l := [Cond.codeWith yL_learned cL_learned 7 (some .int) [(0, 14, 17, 13)]]) (r := [1243]) (by decide +kernel) _ List.mem_cons_self
theorem st_learned {l : Launch} (hl : l.stackTraces = false) {b : Nat} {ro : Nat → Nat} {cA : Nat → ClassId} {D : va_G} {V V1 : zVt} {J J1 : zJt} {d : Nat → Nat → UInt64} {k a0 a1 a2 a3 : Int} (h : stO 132 (zent 132 [.ref 0, .int (zi a0), .int (zi a1), .int (zi a2), .int (zi a3)]) [0] V J d k V1 J1) : stM l b ro cA D yL_learned (Cond.codeWith yL_learned cL_learned 7 (some .int) [(0, 14, 17, 13)]) (zm V J d) (zm V1 J1 d) [.ref 0, .int (zi a0), .int (zi a1), .int (zi a2), .int (zi a3), .ref 474] (zi k) := by
  refine st_of (by decide) rfl [.ref (b + 0), .int (zi a0), .int (zi a1), .int (zi a2), .int (zi a3), .ref (b + 474)] rfl (Nat.le_of_ble_eq_true rfl) ?_
  intro p e s mid below meth c ls hx hb hml hown hts hG hN hr hlocks hT hP hl0
  have hS : va_S (zA b) s.heap s.heap [] := va_S.rf
  refine lv_aload hx hb dL_learned_0 (lv_at hl0 5 rfl) ?_
  refine lv_iconst (v := 0) hx hb dL_learned_2 (by decide) ?_
  refine lv_aload_n hx hb dL_learned_3 rfl (lv_at hl0 0 rfl) ?_
  refine lv_iload_n hx hb dL_learned_4 rfl (lv_at hl0 1 rfl) ?_
  refine lv_iload_n hx hb dL_learned_5 rfl (lv_at hl0 2 rfl) ?_
  refine lv_iload_n hx hb dL_learned_6 rfl (lv_at hl0 3 rfl) ?_
  refine lv_iload hx hb dL_learned_7 (lv_at hl0 4 rfl) ?_
  rcases h with ⟨x, J0, h, rfl, rfl⟩ | ⟨i, ex, hi, h, rfl⟩
  · refine zcall_ret (st_run (m := zm V J d) (t := [.int (zi a3), .int (zi a2), .int (zi a1), .int (zi a0)]) (o := 0) (rest := [.int 0, .ref (b + 474)]) (z := 132) hx hb hml hown hts hG zm_wf hP hS hl0.1 (st_met0 (y := 132) hl (by decide) rfl (Nat.le_of_ble_eq_true rfl) h) (by decide) ⟨Nat.le_of_ble_eq_true rfl, Nat.le_of_ble_eq_true rfl⟩ qL1244 rfl rfl (by decide) rfl (Nat.le_of_ble_eq_true rfl) dL_learned_9 ⟨Nat.le_of_ble_eq_true rfl, Nat.le_of_ble_eq_true rfl⟩) hS (fun H1 locs1 hP1 hS1 _ => ?_)
    refine lv_i2l hx hb dL_learned_12 rfl ?_
    exact st_store hx hb hr hlocks hG dL_learned_13 dL_learned_14 (tgt := 21) (by decide) dL_learned_21 dL_learned_22 hP1 hS1 (Nat.le_of_ble_eq_true rfl) (Nat.le_of_ble_eq_true rfl)
  · match i, hi with
    | 0, hi =>
      cases hi
      refine st_catch (k := 0) (hh := [(0, 14, 17, 13)]) (st_run (m := zm V J d) (t := [.int (zi a3), .int (zi a2), .int (zi a1), .int (zi a0)]) (o := 0) (rest := [.int 0, .ref (b + 474)]) (z := 132) hx hb hml hown hts hG zm_wf hP hS hl0.1 (st_met1 (y := 132) hl (by decide) rfl (Nat.le_of_ble_eq_true rfl) h) (by decide) ⟨Nat.le_of_ble_eq_true rfl, Nat.le_of_ble_eq_true rfl⟩ qL1244 rfl rfl (by decide) rfl (Nat.le_of_ble_eq_true rfl) dL_learned_9 ⟨Nat.le_of_ble_eq_true rfl, Nat.le_of_ble_eq_true rfl⟩) hS hown hts hG hN hT (by decide) rfl rfl (by decide) (fun H1 locs1 q hP1 hS1 => ?_)
      refine lv_astore hx hb dL_learned_17 hl0 (by decide) rfl (fun ls1 _ => ?_)
      exact st_end hx hb hr hlocks dL_learned_19 dL_learned_20 rfl hP1 hS1 (Nat.le_of_ble_eq_true rfl) (Nat.le_of_ble_eq_true rfl)
    | i + 1, hi => simp at hi
theorem dL_misled_0 : decode cL_misled 0 = .ok (.aload 4, 2) := by decide +kernel
theorem dL_misled_2 : decode cL_misled 2 = .ok (.iconst 0, 1) := by decide +kernel
theorem dL_misled_3 : decode cL_misled 3 = .ok (.aload_n 0, 1) := by decide +kernel
theorem dL_misled_4 : decode cL_misled 4 = .ok (.iload_n 1, 1) := by decide +kernel
theorem dL_misled_5 : decode cL_misled 5 = .ok (.iload_n 2, 1) := by decide +kernel
theorem dL_misled_6 : decode cL_misled 6 = .ok (.iload_n 3, 1) := by decide +kernel
theorem dL_misled_7 : decode cL_misled 7 = .ok (.invokevirtual 97, 3) := by decide +kernel
theorem dL_misled_10 : decode cL_misled 10 = .ok (.i2l, 1) := by decide +kernel
theorem dL_misled_11 : decode cL_misled 11 = .ok (.lastore, 1) := by decide +kernel
theorem dL_misled_12 : decode cL_misled 12 = .ok (.goto 7, 3) := by decide +kernel
theorem dL_misled_15 : decode cL_misled 15 = .ok (.astore 5, 2) := by decide +kernel
theorem dL_misled_17 : decode cL_misled 17 = .ok (.iconst 1, 1) := by decide +kernel
theorem dL_misled_18 : decode cL_misled 18 = .ok (.ireturn, 1) := by decide +kernel
theorem dL_misled_19 : decode cL_misled 19 = .ok (.iconst 0, 1) := by decide +kernel
theorem dL_misled_20 : decode cL_misled 20 = .ok (.ireturn, 1) := by decide +kernel
theorem qL1260 : Cond.methodLink RL 97 (zy 134) ∈ zGT := zGT_of (l := [Cond.methodLink RL 97 (zy 134)]) (r := [1260]) (by decide +kernel) _ List.mem_cons_self
theorem qL1259 : Cond.codeWith yL_misled cL_misled 6 (some .int) [(0, 12, 15, 13)] ∈ zGT := zGT_of (l := [Cond.codeWith yL_misled cL_misled 6 (some .int) [(0, 12, 15, 13)]]) (r := [1259]) (by decide +kernel) _ List.mem_cons_self
theorem st_misled {l : Launch} (hl : l.stackTraces = false) {b : Nat} {ro : Nat → Nat} {cA : Nat → ClassId} {D : va_G} {V V1 : zVt} {J J1 : zJt} {d : Nat → Nat → UInt64} {k a0 a1 a2 : Int} (h : stO 134 (zent 134 [.ref 0, .int (zi a0), .int (zi a1), .int (zi a2)]) [0] V J d k V1 J1) : stM l b ro cA D yL_misled (Cond.codeWith yL_misled cL_misled 6 (some .int) [(0, 12, 15, 13)]) (zm V J d) (zm V1 J1 d) [.ref 0, .int (zi a0), .int (zi a1), .int (zi a2), .ref 474] (zi k) := by
  refine st_of (by decide) rfl [.ref (b + 0), .int (zi a0), .int (zi a1), .int (zi a2), .ref (b + 474)] rfl (Nat.le_of_ble_eq_true rfl) ?_
  intro p e s mid below meth c ls hx hb hml hown hts hG hN hr hlocks hT hP hl0
  have hS : va_S (zA b) s.heap s.heap [] := va_S.rf
  refine lv_aload hx hb dL_misled_0 (lv_at hl0 4 rfl) ?_
  refine lv_iconst (v := 0) hx hb dL_misled_2 (by decide) ?_
  refine lv_aload_n hx hb dL_misled_3 rfl (lv_at hl0 0 rfl) ?_
  refine lv_iload_n hx hb dL_misled_4 rfl (lv_at hl0 1 rfl) ?_
  refine lv_iload_n hx hb dL_misled_5 rfl (lv_at hl0 2 rfl) ?_
  refine lv_iload_n hx hb dL_misled_6 rfl (lv_at hl0 3 rfl) ?_
  rcases h with ⟨x, J0, h, rfl, rfl⟩ | ⟨i, ex, hi, h, rfl⟩
  · refine zcall_ret (st_run (m := zm V J d) (t := [.int (zi a2), .int (zi a1), .int (zi a0)]) (o := 0) (rest := [.int 0, .ref (b + 474)]) (z := 134) hx hb hml hown hts hG zm_wf hP hS hl0.1 (st_met0 (y := 134) hl (by decide) rfl (Nat.le_of_ble_eq_true rfl) h) (by decide) ⟨Nat.le_of_ble_eq_true rfl, Nat.le_of_ble_eq_true rfl⟩ qL1260 rfl rfl (by decide) rfl (Nat.le_of_ble_eq_true rfl) dL_misled_7 ⟨Nat.le_of_ble_eq_true rfl, Nat.le_of_ble_eq_true rfl⟩) hS (fun H1 locs1 hP1 hS1 _ => ?_)
    refine lv_i2l hx hb dL_misled_10 rfl ?_
    exact st_store hx hb hr hlocks hG dL_misled_11 dL_misled_12 (tgt := 19) (by decide) dL_misled_19 dL_misled_20 hP1 hS1 (Nat.le_of_ble_eq_true rfl) (Nat.le_of_ble_eq_true rfl)
  · match i, hi with
    | 0, hi =>
      cases hi
      refine st_catch (k := 0) (hh := [(0, 12, 15, 13)]) (st_run (m := zm V J d) (t := [.int (zi a2), .int (zi a1), .int (zi a0)]) (o := 0) (rest := [.int 0, .ref (b + 474)]) (z := 134) hx hb hml hown hts hG zm_wf hP hS hl0.1 (st_met1 (y := 134) hl (by decide) rfl (Nat.le_of_ble_eq_true rfl) h) (by decide) ⟨Nat.le_of_ble_eq_true rfl, Nat.le_of_ble_eq_true rfl⟩ qL1260 rfl rfl (by decide) rfl (Nat.le_of_ble_eq_true rfl) dL_misled_7 ⟨Nat.le_of_ble_eq_true rfl, Nat.le_of_ble_eq_true rfl⟩) hS hown hts hG hN hT (by decide) rfl rfl (by decide) (fun H1 locs1 q hP1 hS1 => ?_)
      refine lv_astore hx hb dL_misled_15 hl0 (by decide) rfl (fun ls1 _ => ?_)
      exact st_end hx hb hr hlocks dL_misled_17 dL_misled_18 rfl hP1 hS1 (Nat.le_of_ble_eq_true rfl) (Nat.le_of_ble_eq_true rfl)
    | i + 1, hi => simp at hi
theorem dL_judge_0 : decode cL_judge 0 = .ok (.aload_n 2, 1) := by decide +kernel
theorem dL_judge_1 : decode cL_judge 1 = .ok (.iconst 0, 1) := by decide +kernel
theorem dL_judge_2 : decode cL_judge 2 = .ok (.aload_n 0, 1) := by decide +kernel
theorem dL_judge_3 : decode cL_judge 3 = .ok (.iload_n 1, 1) := by decide +kernel
theorem dL_judge_4 : decode cL_judge 4 = .ok (.invokevirtual 100, 3) := by decide +kernel
theorem dL_judge_7 : decode cL_judge 7 = .ok (.i2l, 1) := by decide +kernel
theorem dL_judge_8 : decode cL_judge 8 = .ok (.lastore, 1) := by decide +kernel
theorem dL_judge_9 : decode cL_judge 9 = .ok (.goto 6, 3) := by decide +kernel
theorem dL_judge_12 : decode cL_judge 12 = .ok (.astore_n 3, 1) := by decide +kernel
theorem dL_judge_13 : decode cL_judge 13 = .ok (.iconst 1, 1) := by decide +kernel
theorem dL_judge_14 : decode cL_judge 14 = .ok (.ireturn, 1) := by decide +kernel
theorem dL_judge_15 : decode cL_judge 15 = .ok (.iconst 0, 1) := by decide +kernel
theorem dL_judge_16 : decode cL_judge 16 = .ok (.ireturn, 1) := by decide +kernel
theorem qL1272 : Cond.methodLink RL 100 (zy 135) ∈ zGT := zGT_of (l := [Cond.methodLink RL 100 (zy 135)]) (r := [1272]) (by decide +kernel) _ List.mem_cons_self
theorem qL1271 : Cond.codeWith yL_judge cL_judge 4 (some .int) [(0, 9, 12, 13)] ∈ zGT := zGT_of (l := [Cond.codeWith yL_judge cL_judge 4 (some .int) [(0, 9, 12, 13)]]) (r := [1271]) (by decide +kernel) _ List.mem_cons_self
theorem st_judge {l : Launch} (hl : l.stackTraces = false) {b : Nat} {ro : Nat → Nat} {cA : Nat → ClassId} {D : va_G} {V V1 : zVt} {J J1 : zJt} {d : Nat → Nat → UInt64} {k a0 : Int} (h : stO 135 (zent 135 [.ref 0, .int (zi a0)]) [0] V J d k V1 J1) : stM l b ro cA D yL_judge (Cond.codeWith yL_judge cL_judge 4 (some .int) [(0, 9, 12, 13)]) (zm V J d) (zm V1 J1 d) [.ref 0, .int (zi a0), .ref 474] (zi k) := by
  refine st_of (by decide) rfl [.ref (b + 0), .int (zi a0), .ref (b + 474)] rfl (Nat.le_of_ble_eq_true rfl) ?_
  intro p e s mid below meth c ls hx hb hml hown hts hG hN hr hlocks hT hP hl0
  have hS : va_S (zA b) s.heap s.heap [] := va_S.rf
  refine lv_aload_n hx hb dL_judge_0 rfl (lv_at hl0 2 rfl) ?_
  refine lv_iconst (v := 0) hx hb dL_judge_1 (by decide) ?_
  refine lv_aload_n hx hb dL_judge_2 rfl (lv_at hl0 0 rfl) ?_
  refine lv_iload_n hx hb dL_judge_3 rfl (lv_at hl0 1 rfl) ?_
  rcases h with ⟨x, J0, h, rfl, rfl⟩ | ⟨i, ex, hi, h, rfl⟩
  · refine zcall_ret (st_run (m := zm V J d) (t := [.int (zi a0)]) (o := 0) (rest := [.int 0, .ref (b + 474)]) (z := 135) hx hb hml hown hts hG zm_wf hP hS hl0.1 (st_met0 (y := 135) hl (by decide) rfl (Nat.le_of_ble_eq_true rfl) h) (by decide) ⟨Nat.le_of_ble_eq_true rfl, Nat.le_of_ble_eq_true rfl⟩ qL1272 rfl rfl (by decide) rfl (Nat.le_of_ble_eq_true rfl) dL_judge_4 ⟨Nat.le_of_ble_eq_true rfl, Nat.le_of_ble_eq_true rfl⟩) hS (fun H1 locs1 hP1 hS1 _ => ?_)
    refine lv_i2l hx hb dL_judge_7 rfl ?_
    exact st_store hx hb hr hlocks hG dL_judge_8 dL_judge_9 (tgt := 15) (by decide) dL_judge_15 dL_judge_16 hP1 hS1 (Nat.le_of_ble_eq_true rfl) (Nat.le_of_ble_eq_true rfl)
  · match i, hi with
    | 0, hi =>
      cases hi
      refine st_catch (k := 0) (hh := [(0, 9, 12, 13)]) (st_run (m := zm V J d) (t := [.int (zi a0)]) (o := 0) (rest := [.int 0, .ref (b + 474)]) (z := 135) hx hb hml hown hts hG zm_wf hP hS hl0.1 (st_met1 (y := 135) hl (by decide) rfl (Nat.le_of_ble_eq_true rfl) h) (by decide) ⟨Nat.le_of_ble_eq_true rfl, Nat.le_of_ble_eq_true rfl⟩ qL1272 rfl rfl (by decide) rfl (Nat.le_of_ble_eq_true rfl) dL_judge_4 ⟨Nat.le_of_ble_eq_true rfl, Nat.le_of_ble_eq_true rfl⟩) hS hown hts hG hN hT (by decide) rfl rfl (by decide) (fun H1 locs1 q hP1 hS1 => ?_)
      refine lv_astore_n hx hb dL_judge_12 rfl hl0 (by decide) rfl (fun ls1 _ => ?_)
      exact st_end hx hb hr hlocks dL_judge_13 dL_judge_14 rfl hP1 hS1 (Nat.le_of_ble_eq_true rfl) (Nat.le_of_ble_eq_true rfl)
    | i + 1, hi => simp at hi
theorem dL_concert_0 : decode cL_concert 0 = .ok (.aload_n 2, 1) := by decide +kernel
theorem dL_concert_1 : decode cL_concert 1 = .ok (.iconst 0, 1) := by decide +kernel
theorem dL_concert_2 : decode cL_concert 2 = .ok (.aload_n 0, 1) := by decide +kernel
theorem dL_concert_3 : decode cL_concert 3 = .ok (.iload_n 1, 1) := by decide +kernel
theorem dL_concert_4 : decode cL_concert 4 = .ok (.invokevirtual 103, 3) := by decide +kernel
theorem dL_concert_7 : decode cL_concert 7 = .ok (.i2l, 1) := by decide +kernel
theorem dL_concert_8 : decode cL_concert 8 = .ok (.lastore, 1) := by decide +kernel
theorem dL_concert_9 : decode cL_concert 9 = .ok (.goto 9, 3) := by decide +kernel
theorem dL_concert_12 : decode cL_concert 12 = .ok (.astore_n 3, 1) := by decide +kernel
theorem dL_concert_13 : decode cL_concert 13 = .ok (.iconst 1, 1) := by decide +kernel
theorem dL_concert_14 : decode cL_concert 14 = .ok (.ireturn, 1) := by decide +kernel
theorem dL_concert_15 : decode cL_concert 15 = .ok (.astore_n 3, 1) := by decide +kernel
theorem dL_concert_16 : decode cL_concert 16 = .ok (.iconst 2, 1) := by decide +kernel
theorem dL_concert_17 : decode cL_concert 17 = .ok (.ireturn, 1) := by decide +kernel
theorem dL_concert_18 : decode cL_concert 18 = .ok (.iconst 0, 1) := by decide +kernel
theorem dL_concert_19 : decode cL_concert 19 = .ok (.ireturn, 1) := by decide +kernel
theorem qL1311 : Cond.methodLink RL 103 (zy 142) ∈ zGT := zGT_of (l := [Cond.methodLink RL 103 (zy 142)]) (r := [1311]) (by decide +kernel) _ List.mem_cons_self
theorem qL1310 : Cond.codeWith yL_concert cL_concert 4 (some .int) [(0, 9, 12, 13), (0, 9, 15, 17)] ∈ zGT := zGT_of (l := [Cond.codeWith yL_concert cL_concert 4 (some .int) [(0, 9, 12, 13), (0, 9, 15, 17)]]) (r := [1310]) (by decide +kernel) _ List.mem_cons_self
theorem st_concert {l : Launch} (hl : l.stackTraces = false) {b : Nat} {ro : Nat → Nat} {cA : Nat → ClassId} {D : va_G} {V V1 : zVt} {J J1 : zJt} {d : Nat → Nat → UInt64} {k a0 : Int} (h : stO 142 (zent 142 [.ref 0, .int (zi a0)]) [0, 2] V J d k V1 J1) : stM l b ro cA D yL_concert (Cond.codeWith yL_concert cL_concert 4 (some .int) [(0, 9, 12, 13), (0, 9, 15, 17)]) (zm V J d) (zm V1 J1 d) [.ref 0, .int (zi a0), .ref 474] (zi k) := by
  refine st_of (by decide) rfl [.ref (b + 0), .int (zi a0), .ref (b + 474)] rfl (Nat.le_of_ble_eq_true rfl) ?_
  intro p e s mid below meth c ls hx hb hml hown hts hG hN hr hlocks hT hP hl0
  have hS : va_S (zA b) s.heap s.heap [] := va_S.rf
  refine lv_aload_n hx hb dL_concert_0 rfl (lv_at hl0 2 rfl) ?_
  refine lv_iconst (v := 0) hx hb dL_concert_1 (by decide) ?_
  refine lv_aload_n hx hb dL_concert_2 rfl (lv_at hl0 0 rfl) ?_
  refine lv_iload_n hx hb dL_concert_3 rfl (lv_at hl0 1 rfl) ?_
  rcases h with ⟨x, J0, h, rfl, rfl⟩ | ⟨i, ex, hi, h, rfl⟩
  · refine zcall_ret (st_run (m := zm V J d) (t := [.int (zi a0)]) (o := 0) (rest := [.int 0, .ref (b + 474)]) (z := 142) hx hb hml hown hts hG zm_wf hP hS hl0.1 (st_met0 (y := 142) hl (by decide) rfl (Nat.le_of_ble_eq_true rfl) h) (by decide) ⟨Nat.le_of_ble_eq_true rfl, Nat.le_of_ble_eq_true rfl⟩ qL1311 rfl rfl (by decide) rfl (Nat.le_of_ble_eq_true rfl) dL_concert_4 ⟨Nat.le_of_ble_eq_true rfl, Nat.le_of_ble_eq_true rfl⟩) hS (fun H1 locs1 hP1 hS1 _ => ?_)
    refine lv_i2l hx hb dL_concert_7 rfl ?_
    exact st_store hx hb hr hlocks hG dL_concert_8 dL_concert_9 (tgt := 18) (by decide) dL_concert_18 dL_concert_19 hP1 hS1 (Nat.le_of_ble_eq_true rfl) (Nat.le_of_ble_eq_true rfl)
  · match i, hi with
    | 0, hi =>
      cases hi
      refine st_catch (k := 0) (hh := [(0, 9, 12, 13), (0, 9, 15, 17)]) (st_run (m := zm V J d) (t := [.int (zi a0)]) (o := 0) (rest := [.int 0, .ref (b + 474)]) (z := 142) hx hb hml hown hts hG zm_wf hP hS hl0.1 (st_met1 (y := 142) hl (by decide) rfl (Nat.le_of_ble_eq_true rfl) h) (by decide) ⟨Nat.le_of_ble_eq_true rfl, Nat.le_of_ble_eq_true rfl⟩ qL1311 rfl rfl (by decide) rfl (Nat.le_of_ble_eq_true rfl) dL_concert_4 ⟨Nat.le_of_ble_eq_true rfl, Nat.le_of_ble_eq_true rfl⟩) hS hown hts hG hN hT (by decide) rfl rfl (by decide) (fun H1 locs1 q hP1 hS1 => ?_)
      refine lv_astore_n hx hb dL_concert_12 rfl hl0 (by decide) rfl (fun ls1 _ => ?_)
      exact st_end hx hb hr hlocks dL_concert_13 dL_concert_14 rfl hP1 hS1 (Nat.le_of_ble_eq_true rfl) (Nat.le_of_ble_eq_true rfl)
    | 1, hi =>
      cases hi
      refine st_catch (k := 1) (hh := [(0, 9, 12, 13), (0, 9, 15, 17)]) (st_run (m := zm V J d) (t := [.int (zi a0)]) (o := 0) (rest := [.int 0, .ref (b + 474)]) (z := 142) hx hb hml hown hts hG zm_wf hP hS hl0.1 (st_met1 (y := 142) hl (by decide) rfl (Nat.le_of_ble_eq_true rfl) h) (by decide) ⟨Nat.le_of_ble_eq_true rfl, Nat.le_of_ble_eq_true rfl⟩ qL1311 rfl rfl (by decide) rfl (Nat.le_of_ble_eq_true rfl) dL_concert_4 ⟨Nat.le_of_ble_eq_true rfl, Nat.le_of_ble_eq_true rfl⟩) hS hown hts hG hN hT (by decide) rfl rfl (by decide) (fun H1 locs1 q hP1 hS1 => ?_)
      refine lv_astore_n hx hb dL_concert_15 rfl hl0 (by decide) rfl (fun ls1 _ => ?_)
      exact st_end hx hb hr hlocks dL_concert_16 dL_concert_17 rfl hP1 hS1 (Nat.le_of_ble_eq_true rfl) (Nat.le_of_ble_eq_true rfl)
    | i + 2, hi => simp at hi
