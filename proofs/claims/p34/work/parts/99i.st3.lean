/-! part 99i.st3: the law's stubs; printed by program (wip/p34/gen/gen_stub.py) -/
theorem dL_clashes_0 : decode cL_clashes 0 = .ok (.aload_n 0, 1) := by decide +kernel
theorem dL_clashes_1 : decode cL_clashes 1 = .ok (.iload_n 1, 1) := by decide +kernel
theorem dL_clashes_2 : decode cL_clashes 2 = .ok (.iload_n 2, 1) := by decide +kernel
theorem dL_clashes_3 : decode cL_clashes 3 = .ok (.invokevirtual 81, 3) := by decide +kernel
theorem dL_clashes_6 : decode cL_clashes 6 = .ok (.ireturn, 1) := by decide +kernel
theorem dL_clashes_7 : decode cL_clashes 7 = .ok (.astore_n 3, 1) := by decide +kernel
theorem dL_clashes_8 : decode cL_clashes 8 = .ok (.bipush (-101), 2) := by decide +kernel
theorem dL_clashes_10 : decode cL_clashes 10 = .ok (.ireturn, 1) := by decide +kernel
theorem qL1069 : Cond.methodLink RL 81 (zy 123) ∈ zGT := zGT_of (l := [Cond.methodLink RL 81 (zy 123)]) (r := [1069]) (by decide +kernel) _ List.mem_cons_self
theorem qL1068 : Cond.codeWith yL_clashes cL_clashes 4 (some .int) [(0, 6, 7, 15)] ∈ zGT := zGT_of (l := [Cond.codeWith yL_clashes cL_clashes 4 (some .int) [(0, 6, 7, 15)]]) (r := [1068]) (by decide +kernel) _ List.mem_cons_self
theorem st_clashes {l : Launch} (hl : l.stackTraces = false) {b : Nat} {ro : Nat → Nat} {cA : Nat → ClassId} {D : va_G} {m m1 : zM} (hm : zwf m) (h11 : (m.1 0).1 = 11) {x1 x2 x : Int32} (h : wstub 18 [x1, x2] m = some (x, m1)) : stM l b ro cA D yL_clashes (Cond.codeWith yL_clashes cL_clashes 4 (some .int) [(0, 6, 7, 15)]) m m1 (.ref 0 :: wvals [x1, x2]) x := by
  obtain ⟨hcnt, hq⟩ := wstub_cs h
  clear h
  refine st_of (by decide) rfl [.ref (b + 0), .int x1, .int x2] rfl (Nat.le_of_ble_eq_true rfl) ?_
  intro p e s mid below meth c ls hx hb hml hown hts hG hN hr hlocks hT hP hl0
  have hS : va_S (zA b) s.heap s.heap [] := va_S.rf
  refine lv_aload_n hx hb dL_clashes_0 rfl (lv_at hl0 0 rfl) ?_
  refine lv_iload_n hx hb dL_clashes_1 rfl (lv_at hl0 1 rfl) ?_
  refine lv_iload_n hx hb dL_clashes_2 rfl (lv_at hl0 2 rfl) ?_
  rcases hq with ⟨v, h, hv⟩ | ⟨ex, h, hi, rfl⟩
  · have h : zGo false 123 0 (zent 123 [.ref 0, .int x1, .int x2]) [] m = some (.inl (some v), m1) := h
    refine zcall_ret (st_run (m := m) (t := [.int x2, .int x1]) (o := 0) (rest := []) (z := 123) hx hb hml hown hts hG hm hP hS hl0.1 (st_met0 (y := 123) hl hm (by decide) rfl (Nat.le_of_ble_eq_true rfl) hcnt h) (by decide) ⟨Nat.le_of_ble_eq_true rfl, Nat.le_of_ble_eq_true rfl⟩ qL1069 rfl h11 (by decide) rfl (Nat.le_of_ble_eq_true rfl) dL_clashes_3 ⟨Nat.le_of_ble_eq_true rfl, Nat.le_of_ble_eq_true rfl⟩) hS (fun H1 locs1 hP1 hS1 _ => ?_)
    cases v with
    | int v =>
      have hv2 : some v = some x := hv
      cases hv2
      exact st_fin hx hb hr hlocks dL_clashes_6 hP1 hS1 (Nat.le_of_ble_eq_true rfl) (Nat.le_of_ble_eq_true rfl)
    | _ => cases hv
  · have hi : ex ∈ ([0] : List Nat) := hi
    have h : zGo false 123 0 (zent 123 [.ref 0, .int x1, .int x2]) [] m = some (.inr ex, m1) := h
    simp only [List.mem_cons, List.not_mem_nil, or_false] at hi
    subst hi
    · refine st_catch (k := 0) (hh := [(0, 6, 7, 15)]) (st_run (m := m) (t := [.int x2, .int x1]) (o := 0) (rest := []) (z := 123) hx hb hml hown hts hG hm hP hS hl0.1 (st_met1 (y := 123) hl hm (by decide) rfl (Nat.le_of_ble_eq_true rfl) hcnt h) (by decide) ⟨Nat.le_of_ble_eq_true rfl, Nat.le_of_ble_eq_true rfl⟩ qL1069 rfl h11 (by decide) rfl (Nat.le_of_ble_eq_true rfl) dL_clashes_3 ⟨Nat.le_of_ble_eq_true rfl, Nat.le_of_ble_eq_true rfl⟩) hS hown hts hG hN hT (by decide) rfl rfl (by decide) (fun H1 locs1 q hP1 hS1 => ?_)
      refine lv_astore_n hx hb dL_clashes_7 rfl hl0 (by decide) rfl (fun ls1 _ => ?_)
      refine lv_bipush (v := wcode 0) hx hb dL_clashes_8 (by decide) ?_
      exact st_fin hx hb hr hlocks dL_clashes_10 hP1 hS1 (Nat.le_of_ble_eq_true rfl) (Nat.le_of_ble_eq_true rfl)
theorem dL_clashesOf_0 : decode cL_clashesOf 0 = .ok (.aload_n 0, 1) := by decide +kernel
theorem dL_clashesOf_1 : decode cL_clashesOf 1 = .ok (.iload_n 1, 1) := by decide +kernel
theorem dL_clashesOf_2 : decode cL_clashesOf 2 = .ok (.iload_n 2, 1) := by decide +kernel
theorem dL_clashesOf_3 : decode cL_clashesOf 3 = .ok (.invokevirtual 84, 3) := by decide +kernel
theorem dL_clashesOf_6 : decode cL_clashesOf 6 = .ok (.ireturn, 1) := by decide +kernel
theorem dL_clashesOf_7 : decode cL_clashesOf 7 = .ok (.astore_n 3, 1) := by decide +kernel
theorem dL_clashesOf_8 : decode cL_clashesOf 8 = .ok (.bipush (-101), 2) := by decide +kernel
theorem dL_clashesOf_10 : decode cL_clashesOf 10 = .ok (.ireturn, 1) := by decide +kernel
theorem dL_clashesOf_11 : decode cL_clashesOf 11 = .ok (.astore_n 3, 1) := by decide +kernel
theorem dL_clashesOf_12 : decode cL_clashesOf 12 = .ok (.bipush (-102), 2) := by decide +kernel
theorem dL_clashesOf_14 : decode cL_clashesOf 14 = .ok (.ireturn, 1) := by decide +kernel
theorem qL1114 : Cond.methodLink RL 84 (zy 128) ∈ zGT := zGT_of (l := [Cond.methodLink RL 84 (zy 128)]) (r := [1114]) (by decide +kernel) _ List.mem_cons_self
theorem qL1113 : Cond.codeWith yL_clashesOf cL_clashesOf 4 (some .int) [(0, 6, 7, 15), (0, 6, 11, 17)] ∈ zGT := zGT_of (l := [Cond.codeWith yL_clashesOf cL_clashesOf 4 (some .int) [(0, 6, 7, 15), (0, 6, 11, 17)]]) (r := [1113]) (by decide +kernel) _ List.mem_cons_self
theorem st_clashesOf {l : Launch} (hl : l.stackTraces = false) {b : Nat} {ro : Nat → Nat} {cA : Nat → ClassId} {D : va_G} {m m1 : zM} (hm : zwf m) (h11 : (m.1 0).1 = 11) {x1 x2 x : Int32} (h : wstub 19 [x1, x2] m = some (x, m1)) : stM l b ro cA D yL_clashesOf (Cond.codeWith yL_clashesOf cL_clashesOf 4 (some .int) [(0, 6, 7, 15), (0, 6, 11, 17)]) m m1 (.ref 0 :: wvals [x1, x2]) x := by
  obtain ⟨hcnt, hq⟩ := wstub_cs h
  clear h
  refine st_of (by decide) rfl [.ref (b + 0), .int x1, .int x2] rfl (Nat.le_of_ble_eq_true rfl) ?_
  intro p e s mid below meth c ls hx hb hml hown hts hG hN hr hlocks hT hP hl0
  have hS : va_S (zA b) s.heap s.heap [] := va_S.rf
  refine lv_aload_n hx hb dL_clashesOf_0 rfl (lv_at hl0 0 rfl) ?_
  refine lv_iload_n hx hb dL_clashesOf_1 rfl (lv_at hl0 1 rfl) ?_
  refine lv_iload_n hx hb dL_clashesOf_2 rfl (lv_at hl0 2 rfl) ?_
  rcases hq with ⟨v, h, hv⟩ | ⟨ex, h, hi, rfl⟩
  · have h : zGo false 128 0 (zent 128 [.ref 0, .int x1, .int x2]) [] m = some (.inl (some v), m1) := h
    refine zcall_ret (st_run (m := m) (t := [.int x2, .int x1]) (o := 0) (rest := []) (z := 128) hx hb hml hown hts hG hm hP hS hl0.1 (st_met0 (y := 128) hl hm (by decide) rfl (Nat.le_of_ble_eq_true rfl) hcnt h) (by decide) ⟨Nat.le_of_ble_eq_true rfl, Nat.le_of_ble_eq_true rfl⟩ qL1114 rfl h11 (by decide) rfl (Nat.le_of_ble_eq_true rfl) dL_clashesOf_3 ⟨Nat.le_of_ble_eq_true rfl, Nat.le_of_ble_eq_true rfl⟩) hS (fun H1 locs1 hP1 hS1 _ => ?_)
    cases v with
    | int v =>
      have hv2 : some v = some x := hv
      cases hv2
      exact st_fin hx hb hr hlocks dL_clashesOf_6 hP1 hS1 (Nat.le_of_ble_eq_true rfl) (Nat.le_of_ble_eq_true rfl)
    | _ => cases hv
  · have hi : ex ∈ ([0, 1] : List Nat) := hi
    have h : zGo false 128 0 (zent 128 [.ref 0, .int x1, .int x2]) [] m = some (.inr ex, m1) := h
    simp only [List.mem_cons, List.not_mem_nil, or_false] at hi
    rcases hi with rfl | rfl
    · refine st_catch (k := 0) (hh := [(0, 6, 7, 15), (0, 6, 11, 17)]) (st_run (m := m) (t := [.int x2, .int x1]) (o := 0) (rest := []) (z := 128) hx hb hml hown hts hG hm hP hS hl0.1 (st_met1 (y := 128) hl hm (by decide) rfl (Nat.le_of_ble_eq_true rfl) hcnt h) (by decide) ⟨Nat.le_of_ble_eq_true rfl, Nat.le_of_ble_eq_true rfl⟩ qL1114 rfl h11 (by decide) rfl (Nat.le_of_ble_eq_true rfl) dL_clashesOf_3 ⟨Nat.le_of_ble_eq_true rfl, Nat.le_of_ble_eq_true rfl⟩) hS hown hts hG hN hT (by decide) rfl rfl (by decide) (fun H1 locs1 q hP1 hS1 => ?_)
      refine lv_astore_n hx hb dL_clashesOf_7 rfl hl0 (by decide) rfl (fun ls1 _ => ?_)
      refine lv_bipush (v := wcode 0) hx hb dL_clashesOf_8 (by decide) ?_
      exact st_fin hx hb hr hlocks dL_clashesOf_10 hP1 hS1 (Nat.le_of_ble_eq_true rfl) (Nat.le_of_ble_eq_true rfl)
    · refine st_catch (k := 1) (hh := [(0, 6, 7, 15), (0, 6, 11, 17)]) (st_run (m := m) (t := [.int x2, .int x1]) (o := 0) (rest := []) (z := 128) hx hb hml hown hts hG hm hP hS hl0.1 (st_met1 (y := 128) hl hm (by decide) rfl (Nat.le_of_ble_eq_true rfl) hcnt h) (by decide) ⟨Nat.le_of_ble_eq_true rfl, Nat.le_of_ble_eq_true rfl⟩ qL1114 rfl h11 (by decide) rfl (Nat.le_of_ble_eq_true rfl) dL_clashesOf_3 ⟨Nat.le_of_ble_eq_true rfl, Nat.le_of_ble_eq_true rfl⟩) hS hown hts hG hN hT (by decide) rfl rfl (by decide) (fun H1 locs1 q hP1 hS1 => ?_)
      refine lv_astore_n hx hb dL_clashesOf_11 rfl hl0 (by decide) rfl (fun ls1 _ => ?_)
      refine lv_bipush (v := wcode 1) hx hb dL_clashesOf_12 (by decide) ?_
      exact st_fin hx hb hr hlocks dL_clashesOf_14 hP1 hS1 (Nat.le_of_ble_eq_true rfl) (Nat.le_of_ble_eq_true rfl)
theorem dL_room_0 : decode cL_room 0 = .ok (.aload_n 0, 1) := by decide +kernel
theorem dL_room_1 : decode cL_room 1 = .ok (.iload_n 1, 1) := by decide +kernel
theorem dL_room_2 : decode cL_room 2 = .ok (.iload_n 2, 1) := by decide +kernel
theorem dL_room_3 : decode cL_room 3 = .ok (.invokevirtual 87, 3) := by decide +kernel
theorem dL_room_6 : decode cL_room 6 = .ok (.ireturn, 1) := by decide +kernel
theorem dL_room_7 : decode cL_room 7 = .ok (.astore_n 3, 1) := by decide +kernel
theorem dL_room_8 : decode cL_room 8 = .ok (.bipush (-101), 2) := by decide +kernel
theorem dL_room_10 : decode cL_room 10 = .ok (.ireturn, 1) := by decide +kernel
theorem dL_room_11 : decode cL_room 11 = .ok (.astore_n 3, 1) := by decide +kernel
theorem dL_room_12 : decode cL_room 12 = .ok (.bipush (-102), 2) := by decide +kernel
theorem dL_room_14 : decode cL_room 14 = .ok (.ireturn, 1) := by decide +kernel
theorem qL1122 : Cond.methodLink RL 87 (zy 129) ∈ zGT := zGT_of (l := [Cond.methodLink RL 87 (zy 129)]) (r := [1122]) (by decide +kernel) _ List.mem_cons_self
theorem qL1121 : Cond.codeWith yL_room cL_room 4 (some .int) [(0, 6, 7, 15), (0, 6, 11, 17)] ∈ zGT := zGT_of (l := [Cond.codeWith yL_room cL_room 4 (some .int) [(0, 6, 7, 15), (0, 6, 11, 17)]]) (r := [1121]) (by decide +kernel) _ List.mem_cons_self
theorem st_room {l : Launch} (hl : l.stackTraces = false) {b : Nat} {ro : Nat → Nat} {cA : Nat → ClassId} {D : va_G} {m m1 : zM} (hm : zwf m) (h11 : (m.1 0).1 = 11) {x1 x2 x : Int32} (h : wstub 20 [x1, x2] m = some (x, m1)) : stM l b ro cA D yL_room (Cond.codeWith yL_room cL_room 4 (some .int) [(0, 6, 7, 15), (0, 6, 11, 17)]) m m1 (.ref 0 :: wvals [x1, x2]) x := by
  obtain ⟨hcnt, hq⟩ := wstub_cs h
  clear h
  refine st_of (by decide) rfl [.ref (b + 0), .int x1, .int x2] rfl (Nat.le_of_ble_eq_true rfl) ?_
  intro p e s mid below meth c ls hx hb hml hown hts hG hN hr hlocks hT hP hl0
  have hS : va_S (zA b) s.heap s.heap [] := va_S.rf
  refine lv_aload_n hx hb dL_room_0 rfl (lv_at hl0 0 rfl) ?_
  refine lv_iload_n hx hb dL_room_1 rfl (lv_at hl0 1 rfl) ?_
  refine lv_iload_n hx hb dL_room_2 rfl (lv_at hl0 2 rfl) ?_
  rcases hq with ⟨v, h, hv⟩ | ⟨ex, h, hi, rfl⟩
  · have h : zGo false 129 0 (zent 129 [.ref 0, .int x1, .int x2]) [] m = some (.inl (some v), m1) := h
    refine zcall_ret (st_run (m := m) (t := [.int x2, .int x1]) (o := 0) (rest := []) (z := 129) hx hb hml hown hts hG hm hP hS hl0.1 (st_met0 (y := 129) hl hm (by decide) rfl (Nat.le_of_ble_eq_true rfl) hcnt h) (by decide) ⟨Nat.le_of_ble_eq_true rfl, Nat.le_of_ble_eq_true rfl⟩ qL1122 rfl h11 (by decide) rfl (Nat.le_of_ble_eq_true rfl) dL_room_3 ⟨Nat.le_of_ble_eq_true rfl, Nat.le_of_ble_eq_true rfl⟩) hS (fun H1 locs1 hP1 hS1 _ => ?_)
    cases v with
    | int v =>
      have hv2 : some v = some x := hv
      cases hv2
      exact st_fin hx hb hr hlocks dL_room_6 hP1 hS1 (Nat.le_of_ble_eq_true rfl) (Nat.le_of_ble_eq_true rfl)
    | _ => cases hv
  · have hi : ex ∈ ([0, 1] : List Nat) := hi
    have h : zGo false 129 0 (zent 129 [.ref 0, .int x1, .int x2]) [] m = some (.inr ex, m1) := h
    simp only [List.mem_cons, List.not_mem_nil, or_false] at hi
    rcases hi with rfl | rfl
    · refine st_catch (k := 0) (hh := [(0, 6, 7, 15), (0, 6, 11, 17)]) (st_run (m := m) (t := [.int x2, .int x1]) (o := 0) (rest := []) (z := 129) hx hb hml hown hts hG hm hP hS hl0.1 (st_met1 (y := 129) hl hm (by decide) rfl (Nat.le_of_ble_eq_true rfl) hcnt h) (by decide) ⟨Nat.le_of_ble_eq_true rfl, Nat.le_of_ble_eq_true rfl⟩ qL1122 rfl h11 (by decide) rfl (Nat.le_of_ble_eq_true rfl) dL_room_3 ⟨Nat.le_of_ble_eq_true rfl, Nat.le_of_ble_eq_true rfl⟩) hS hown hts hG hN hT (by decide) rfl rfl (by decide) (fun H1 locs1 q hP1 hS1 => ?_)
      refine lv_astore_n hx hb dL_room_7 rfl hl0 (by decide) rfl (fun ls1 _ => ?_)
      refine lv_bipush (v := wcode 0) hx hb dL_room_8 (by decide) ?_
      exact st_fin hx hb hr hlocks dL_room_10 hP1 hS1 (Nat.le_of_ble_eq_true rfl) (Nat.le_of_ble_eq_true rfl)
    · refine st_catch (k := 1) (hh := [(0, 6, 7, 15), (0, 6, 11, 17)]) (st_run (m := m) (t := [.int x2, .int x1]) (o := 0) (rest := []) (z := 129) hx hb hml hown hts hG hm hP hS hl0.1 (st_met1 (y := 129) hl hm (by decide) rfl (Nat.le_of_ble_eq_true rfl) hcnt h) (by decide) ⟨Nat.le_of_ble_eq_true rfl, Nat.le_of_ble_eq_true rfl⟩ qL1122 rfl h11 (by decide) rfl (Nat.le_of_ble_eq_true rfl) dL_room_3 ⟨Nat.le_of_ble_eq_true rfl, Nat.le_of_ble_eq_true rfl⟩) hS hown hts hG hN hT (by decide) rfl rfl (by decide) (fun H1 locs1 q hP1 hS1 => ?_)
      refine lv_astore_n hx hb dL_room_11 rfl hl0 (by decide) rfl (fun ls1 _ => ?_)
      refine lv_bipush (v := wcode 1) hx hb dL_room_12 (by decide) ?_
      exact st_fin hx hb hr hlocks dL_room_14 hP1 hS1 (Nat.le_of_ble_eq_true rfl) (Nat.le_of_ble_eq_true rfl)
theorem dL_ask_0 : decode cL_ask 0 = .ok (.aload_n 0, 1) := by decide +kernel
theorem dL_ask_1 : decode cL_ask 1 = .ok (.iload_n 1, 1) := by decide +kernel
theorem dL_ask_2 : decode cL_ask 2 = .ok (.iload_n 2, 1) := by decide +kernel
theorem dL_ask_3 : decode cL_ask 3 = .ok (.iload_n 3, 1) := by decide +kernel
theorem dL_ask_4 : decode cL_ask 4 = .ok (.iload 4, 2) := by decide +kernel
theorem dL_ask_6 : decode cL_ask 6 = .ok (.invokevirtual 90, 3) := by decide +kernel
theorem dL_ask_9 : decode cL_ask 9 = .ok (.ireturn, 1) := by decide +kernel
theorem dL_ask_10 : decode cL_ask 10 = .ok (.astore 5, 2) := by decide +kernel
theorem dL_ask_12 : decode cL_ask 12 = .ok (.bipush (-101), 2) := by decide +kernel
theorem dL_ask_14 : decode cL_ask 14 = .ok (.ireturn, 1) := by decide +kernel
theorem dL_ask_15 : decode cL_ask 15 = .ok (.astore 5, 2) := by decide +kernel
theorem dL_ask_17 : decode cL_ask 17 = .ok (.bipush (-102), 2) := by decide +kernel
theorem dL_ask_19 : decode cL_ask 19 = .ok (.ireturn, 1) := by decide +kernel
theorem dL_ask_20 : decode cL_ask 20 = .ok (.astore 5, 2) := by decide +kernel
theorem dL_ask_22 : decode cL_ask 22 = .ok (.bipush (-103), 2) := by decide +kernel
theorem dL_ask_24 : decode cL_ask 24 = .ok (.ireturn, 1) := by decide +kernel
theorem qL1131 : Cond.methodLink RL 90 (zy 130) ∈ zGT := zGT_of (l := [Cond.methodLink RL 90 (zy 130)]) (r := [1131]) (by decide +kernel) _ List.mem_cons_self
theorem qL1130 : Cond.codeWith yL_ask cL_ask 6 (some .int) [(0, 9, 10, 15), (0, 9, 15, 17), (0, 9, 20, 19)] ∈ zGT := zGT_of (l := [Cond.codeWith yL_ask cL_ask 6 (some .int) [(0, 9, 10, 15), (0, 9, 15, 17), (0, 9, 20, 19)]]) (r := [1130]) (by decide +kernel) _ List.mem_cons_self
theorem st_ask {l : Launch} (hl : l.stackTraces = false) {b : Nat} {ro : Nat → Nat} {cA : Nat → ClassId} {D : va_G} {m m1 : zM} (hm : zwf m) (h11 : (m.1 0).1 = 11) {x1 x2 x3 x4 x : Int32} (h : wstub 21 [x1, x2, x3, x4] m = some (x, m1)) : stM l b ro cA D yL_ask (Cond.codeWith yL_ask cL_ask 6 (some .int) [(0, 9, 10, 15), (0, 9, 15, 17), (0, 9, 20, 19)]) m m1 (.ref 0 :: wvals [x1, x2, x3, x4]) x := by
  obtain ⟨hcnt, hq⟩ := wstub_cs h
  clear h
  refine st_of (by decide) rfl [.ref (b + 0), .int x1, .int x2, .int x3, .int x4] rfl (Nat.le_of_ble_eq_true rfl) ?_
  intro p e s mid below meth c ls hx hb hml hown hts hG hN hr hlocks hT hP hl0
  have hS : va_S (zA b) s.heap s.heap [] := va_S.rf
  refine lv_aload_n hx hb dL_ask_0 rfl (lv_at hl0 0 rfl) ?_
  refine lv_iload_n hx hb dL_ask_1 rfl (lv_at hl0 1 rfl) ?_
  refine lv_iload_n hx hb dL_ask_2 rfl (lv_at hl0 2 rfl) ?_
  refine lv_iload_n hx hb dL_ask_3 rfl (lv_at hl0 3 rfl) ?_
  refine lv_iload hx hb dL_ask_4 (lv_at hl0 4 rfl) ?_
  rcases hq with ⟨v, h, hv⟩ | ⟨ex, h, hi, rfl⟩
  · have h : zGo false 130 0 (zent 130 [.ref 0, .int x1, .int x2, .int x3, .int x4]) [] m = some (.inl (some v), m1) := h
    refine zcall_ret (st_run (m := m) (t := [.int x4, .int x3, .int x2, .int x1]) (o := 0) (rest := []) (z := 130) hx hb hml hown hts hG hm hP hS hl0.1 (st_met0 (y := 130) hl hm (by decide) rfl (Nat.le_of_ble_eq_true rfl) hcnt h) (by decide) ⟨Nat.le_of_ble_eq_true rfl, Nat.le_of_ble_eq_true rfl⟩ qL1131 rfl h11 (by decide) rfl (Nat.le_of_ble_eq_true rfl) dL_ask_6 ⟨Nat.le_of_ble_eq_true rfl, Nat.le_of_ble_eq_true rfl⟩) hS (fun H1 locs1 hP1 hS1 _ => ?_)
    cases v with
    | int v =>
      have hv2 : some v = some x := hv
      cases hv2
      exact st_fin hx hb hr hlocks dL_ask_9 hP1 hS1 (Nat.le_of_ble_eq_true rfl) (Nat.le_of_ble_eq_true rfl)
    | _ => cases hv
  · have hi : ex ∈ ([0, 1, 2] : List Nat) := hi
    have h : zGo false 130 0 (zent 130 [.ref 0, .int x1, .int x2, .int x3, .int x4]) [] m = some (.inr ex, m1) := h
    simp only [List.mem_cons, List.not_mem_nil, or_false] at hi
    rcases hi with rfl | rfl | rfl
    · refine st_catch (k := 0) (hh := [(0, 9, 10, 15), (0, 9, 15, 17), (0, 9, 20, 19)]) (st_run (m := m) (t := [.int x4, .int x3, .int x2, .int x1]) (o := 0) (rest := []) (z := 130) hx hb hml hown hts hG hm hP hS hl0.1 (st_met1 (y := 130) hl hm (by decide) rfl (Nat.le_of_ble_eq_true rfl) hcnt h) (by decide) ⟨Nat.le_of_ble_eq_true rfl, Nat.le_of_ble_eq_true rfl⟩ qL1131 rfl h11 (by decide) rfl (Nat.le_of_ble_eq_true rfl) dL_ask_6 ⟨Nat.le_of_ble_eq_true rfl, Nat.le_of_ble_eq_true rfl⟩) hS hown hts hG hN hT (by decide) rfl rfl (by decide) (fun H1 locs1 q hP1 hS1 => ?_)
      refine lv_astore hx hb dL_ask_10 hl0 (by decide) rfl (fun ls1 _ => ?_)
      refine lv_bipush (v := wcode 0) hx hb dL_ask_12 (by decide) ?_
      exact st_fin hx hb hr hlocks dL_ask_14 hP1 hS1 (Nat.le_of_ble_eq_true rfl) (Nat.le_of_ble_eq_true rfl)
    · refine st_catch (k := 1) (hh := [(0, 9, 10, 15), (0, 9, 15, 17), (0, 9, 20, 19)]) (st_run (m := m) (t := [.int x4, .int x3, .int x2, .int x1]) (o := 0) (rest := []) (z := 130) hx hb hml hown hts hG hm hP hS hl0.1 (st_met1 (y := 130) hl hm (by decide) rfl (Nat.le_of_ble_eq_true rfl) hcnt h) (by decide) ⟨Nat.le_of_ble_eq_true rfl, Nat.le_of_ble_eq_true rfl⟩ qL1131 rfl h11 (by decide) rfl (Nat.le_of_ble_eq_true rfl) dL_ask_6 ⟨Nat.le_of_ble_eq_true rfl, Nat.le_of_ble_eq_true rfl⟩) hS hown hts hG hN hT (by decide) rfl rfl (by decide) (fun H1 locs1 q hP1 hS1 => ?_)
      refine lv_astore hx hb dL_ask_15 hl0 (by decide) rfl (fun ls1 _ => ?_)
      refine lv_bipush (v := wcode 1) hx hb dL_ask_17 (by decide) ?_
      exact st_fin hx hb hr hlocks dL_ask_19 hP1 hS1 (Nat.le_of_ble_eq_true rfl) (Nat.le_of_ble_eq_true rfl)
    · refine st_catch (k := 2) (hh := [(0, 9, 10, 15), (0, 9, 15, 17), (0, 9, 20, 19)]) (st_run (m := m) (t := [.int x4, .int x3, .int x2, .int x1]) (o := 0) (rest := []) (z := 130) hx hb hml hown hts hG hm hP hS hl0.1 (st_met1 (y := 130) hl hm (by decide) rfl (Nat.le_of_ble_eq_true rfl) hcnt h) (by decide) ⟨Nat.le_of_ble_eq_true rfl, Nat.le_of_ble_eq_true rfl⟩ qL1131 rfl h11 (by decide) rfl (Nat.le_of_ble_eq_true rfl) dL_ask_6 ⟨Nat.le_of_ble_eq_true rfl, Nat.le_of_ble_eq_true rfl⟩) hS hown hts hG hN hT (by decide) rfl rfl (by decide) (fun H1 locs1 q hP1 hS1 => ?_)
      refine lv_astore hx hb dL_ask_20 hl0 (by decide) rfl (fun ls1 _ => ?_)
      refine lv_bipush (v := wcode 2) hx hb dL_ask_22 (by decide) ?_
      exact st_fin hx hb hr hlocks dL_ask_24 hP1 hS1 (Nat.le_of_ble_eq_true rfl) (Nat.le_of_ble_eq_true rfl)
theorem dL_done_0 : decode cL_done 0 = .ok (.aload_n 0, 1) := by decide +kernel
theorem dL_done_1 : decode cL_done 1 = .ok (.iload_n 1, 1) := by decide +kernel
theorem dL_done_2 : decode cL_done 2 = .ok (.invokevirtual 93, 3) := by decide +kernel
theorem dL_done_5 : decode cL_done 5 = .ok (.ireturn, 1) := by decide +kernel
theorem dL_done_6 : decode cL_done 6 = .ok (.astore_n 2, 1) := by decide +kernel
theorem dL_done_7 : decode cL_done 7 = .ok (.bipush (-101), 2) := by decide +kernel
theorem dL_done_9 : decode cL_done 9 = .ok (.ireturn, 1) := by decide +kernel
theorem qL1144 : Cond.methodLink RL 93 (zy 131) ∈ zGT := zGT_of (l := [Cond.methodLink RL 93 (zy 131)]) (r := [1144]) (by decide +kernel) _ List.mem_cons_self
theorem qL1143 : Cond.codeWith yL_done cL_done 3 (some .int) [(0, 5, 6, 15)] ∈ zGT := zGT_of (l := [Cond.codeWith yL_done cL_done 3 (some .int) [(0, 5, 6, 15)]]) (r := [1143]) (by decide +kernel) _ List.mem_cons_self
theorem st_done {l : Launch} (hl : l.stackTraces = false) {b : Nat} {ro : Nat → Nat} {cA : Nat → ClassId} {D : va_G} {m m1 : zM} (hm : zwf m) (h11 : (m.1 0).1 = 11) {x1 x : Int32} (h : wstub 22 [x1] m = some (x, m1)) : stM l b ro cA D yL_done (Cond.codeWith yL_done cL_done 3 (some .int) [(0, 5, 6, 15)]) m m1 (.ref 0 :: wvals [x1]) x := by
  obtain ⟨hcnt, hq⟩ := wstub_cs h
  clear h
  refine st_of (by decide) rfl [.ref (b + 0), .int x1] rfl (Nat.le_of_ble_eq_true rfl) ?_
  intro p e s mid below meth c ls hx hb hml hown hts hG hN hr hlocks hT hP hl0
  have hS : va_S (zA b) s.heap s.heap [] := va_S.rf
  refine lv_aload_n hx hb dL_done_0 rfl (lv_at hl0 0 rfl) ?_
  refine lv_iload_n hx hb dL_done_1 rfl (lv_at hl0 1 rfl) ?_
  rcases hq with ⟨v, h, hv⟩ | ⟨ex, h, hi, rfl⟩
  · have h : zGo false 131 0 (zent 131 [.ref 0, .int x1]) [] m = some (.inl (some v), m1) := h
    refine zcall_ret (st_run (m := m) (t := [.int x1]) (o := 0) (rest := []) (z := 131) hx hb hml hown hts hG hm hP hS hl0.1 (st_met0 (y := 131) hl hm (by decide) rfl (Nat.le_of_ble_eq_true rfl) hcnt h) (by decide) ⟨Nat.le_of_ble_eq_true rfl, Nat.le_of_ble_eq_true rfl⟩ qL1144 rfl h11 (by decide) rfl (Nat.le_of_ble_eq_true rfl) dL_done_2 ⟨Nat.le_of_ble_eq_true rfl, Nat.le_of_ble_eq_true rfl⟩) hS (fun H1 locs1 hP1 hS1 _ => ?_)
    cases v with
    | int v =>
      have hv2 : some v = some x := hv
      cases hv2
      exact st_fin hx hb hr hlocks dL_done_5 hP1 hS1 (Nat.le_of_ble_eq_true rfl) (Nat.le_of_ble_eq_true rfl)
    | _ => cases hv
  · have hi : ex ∈ ([0] : List Nat) := hi
    have h : zGo false 131 0 (zent 131 [.ref 0, .int x1]) [] m = some (.inr ex, m1) := h
    simp only [List.mem_cons, List.not_mem_nil, or_false] at hi
    subst hi
    · refine st_catch (k := 0) (hh := [(0, 5, 6, 15)]) (st_run (m := m) (t := [.int x1]) (o := 0) (rest := []) (z := 131) hx hb hml hown hts hG hm hP hS hl0.1 (st_met1 (y := 131) hl hm (by decide) rfl (Nat.le_of_ble_eq_true rfl) hcnt h) (by decide) ⟨Nat.le_of_ble_eq_true rfl, Nat.le_of_ble_eq_true rfl⟩ qL1144 rfl h11 (by decide) rfl (Nat.le_of_ble_eq_true rfl) dL_done_2 ⟨Nat.le_of_ble_eq_true rfl, Nat.le_of_ble_eq_true rfl⟩) hS hown hts hG hN hT (by decide) rfl rfl (by decide) (fun H1 locs1 q hP1 hS1 => ?_)
      refine lv_astore_n hx hb dL_done_6 rfl hl0 (by decide) rfl (fun ls1 _ => ?_)
      refine lv_bipush (v := wcode 0) hx hb dL_done_7 (by decide) ?_
      exact st_fin hx hb hr hlocks dL_done_9 hP1 hS1 (Nat.le_of_ble_eq_true rfl) (Nat.le_of_ble_eq_true rfl)
theorem dL_learned_0 : decode cL_learned 0 = .ok (.aload_n 0, 1) := by decide +kernel
theorem dL_learned_1 : decode cL_learned 1 = .ok (.iload_n 1, 1) := by decide +kernel
theorem dL_learned_2 : decode cL_learned 2 = .ok (.iload_n 2, 1) := by decide +kernel
theorem dL_learned_3 : decode cL_learned 3 = .ok (.iload_n 3, 1) := by decide +kernel
theorem dL_learned_4 : decode cL_learned 4 = .ok (.iload 4, 2) := by decide +kernel
theorem dL_learned_6 : decode cL_learned 6 = .ok (.invokevirtual 96, 3) := by decide +kernel
theorem dL_learned_9 : decode cL_learned 9 = .ok (.ireturn, 1) := by decide +kernel
theorem dL_learned_10 : decode cL_learned 10 = .ok (.astore 5, 2) := by decide +kernel
theorem dL_learned_12 : decode cL_learned 12 = .ok (.bipush (-101), 2) := by decide +kernel
theorem dL_learned_14 : decode cL_learned 14 = .ok (.ireturn, 1) := by decide +kernel
theorem qL1152 : Cond.methodLink RL 96 (zy 132) ∈ zGT := zGT_of (l := [Cond.methodLink RL 96 (zy 132)]) (r := [1152]) (by decide +kernel) _ List.mem_cons_self
theorem qL1151 : Cond.codeWith yL_learned cL_learned 6 (some .int) [(0, 9, 10, 15)] ∈ zGT := zGT_of (l := [Cond.codeWith yL_learned cL_learned 6 (some .int) [(0, 9, 10, 15)]]) (r := [1151]) (by decide +kernel) _ List.mem_cons_self
theorem st_learned {l : Launch} (hl : l.stackTraces = false) {b : Nat} {ro : Nat → Nat} {cA : Nat → ClassId} {D : va_G} {m m1 : zM} (hm : zwf m) (h11 : (m.1 0).1 = 11) {x1 x2 x3 x4 x : Int32} (h : wstub 23 [x1, x2, x3, x4] m = some (x, m1)) : stM l b ro cA D yL_learned (Cond.codeWith yL_learned cL_learned 6 (some .int) [(0, 9, 10, 15)]) m m1 (.ref 0 :: wvals [x1, x2, x3, x4]) x := by
  obtain ⟨hcnt, hq⟩ := wstub_cs h
  clear h
  refine st_of (by decide) rfl [.ref (b + 0), .int x1, .int x2, .int x3, .int x4] rfl (Nat.le_of_ble_eq_true rfl) ?_
  intro p e s mid below meth c ls hx hb hml hown hts hG hN hr hlocks hT hP hl0
  have hS : va_S (zA b) s.heap s.heap [] := va_S.rf
  refine lv_aload_n hx hb dL_learned_0 rfl (lv_at hl0 0 rfl) ?_
  refine lv_iload_n hx hb dL_learned_1 rfl (lv_at hl0 1 rfl) ?_
  refine lv_iload_n hx hb dL_learned_2 rfl (lv_at hl0 2 rfl) ?_
  refine lv_iload_n hx hb dL_learned_3 rfl (lv_at hl0 3 rfl) ?_
  refine lv_iload hx hb dL_learned_4 (lv_at hl0 4 rfl) ?_
  rcases hq with ⟨v, h, hv⟩ | ⟨ex, h, hi, rfl⟩
  · have h : zGo false 132 0 (zent 132 [.ref 0, .int x1, .int x2, .int x3, .int x4]) [] m = some (.inl (some v), m1) := h
    refine zcall_ret (st_run (m := m) (t := [.int x4, .int x3, .int x2, .int x1]) (o := 0) (rest := []) (z := 132) hx hb hml hown hts hG hm hP hS hl0.1 (st_met0 (y := 132) hl hm (by decide) rfl (Nat.le_of_ble_eq_true rfl) hcnt h) (by decide) ⟨Nat.le_of_ble_eq_true rfl, Nat.le_of_ble_eq_true rfl⟩ qL1152 rfl h11 (by decide) rfl (Nat.le_of_ble_eq_true rfl) dL_learned_6 ⟨Nat.le_of_ble_eq_true rfl, Nat.le_of_ble_eq_true rfl⟩) hS (fun H1 locs1 hP1 hS1 _ => ?_)
    cases v with
    | int v =>
      have hv2 : some v = some x := hv
      cases hv2
      exact st_fin hx hb hr hlocks dL_learned_9 hP1 hS1 (Nat.le_of_ble_eq_true rfl) (Nat.le_of_ble_eq_true rfl)
    | _ => cases hv
  · have hi : ex ∈ ([0] : List Nat) := hi
    have h : zGo false 132 0 (zent 132 [.ref 0, .int x1, .int x2, .int x3, .int x4]) [] m = some (.inr ex, m1) := h
    simp only [List.mem_cons, List.not_mem_nil, or_false] at hi
    subst hi
    · refine st_catch (k := 0) (hh := [(0, 9, 10, 15)]) (st_run (m := m) (t := [.int x4, .int x3, .int x2, .int x1]) (o := 0) (rest := []) (z := 132) hx hb hml hown hts hG hm hP hS hl0.1 (st_met1 (y := 132) hl hm (by decide) rfl (Nat.le_of_ble_eq_true rfl) hcnt h) (by decide) ⟨Nat.le_of_ble_eq_true rfl, Nat.le_of_ble_eq_true rfl⟩ qL1152 rfl h11 (by decide) rfl (Nat.le_of_ble_eq_true rfl) dL_learned_6 ⟨Nat.le_of_ble_eq_true rfl, Nat.le_of_ble_eq_true rfl⟩) hS hown hts hG hN hT (by decide) rfl rfl (by decide) (fun H1 locs1 q hP1 hS1 => ?_)
      refine lv_astore hx hb dL_learned_10 hl0 (by decide) rfl (fun ls1 _ => ?_)
      refine lv_bipush (v := wcode 0) hx hb dL_learned_12 (by decide) ?_
      exact st_fin hx hb hr hlocks dL_learned_14 hP1 hS1 (Nat.le_of_ble_eq_true rfl) (Nat.le_of_ble_eq_true rfl)
theorem dL_misled_0 : decode cL_misled 0 = .ok (.aload_n 0, 1) := by decide +kernel
theorem dL_misled_1 : decode cL_misled 1 = .ok (.iload_n 1, 1) := by decide +kernel
theorem dL_misled_2 : decode cL_misled 2 = .ok (.iload_n 2, 1) := by decide +kernel
theorem dL_misled_3 : decode cL_misled 3 = .ok (.iload_n 3, 1) := by decide +kernel
theorem dL_misled_4 : decode cL_misled 4 = .ok (.invokevirtual 99, 3) := by decide +kernel
theorem dL_misled_7 : decode cL_misled 7 = .ok (.ireturn, 1) := by decide +kernel
theorem dL_misled_8 : decode cL_misled 8 = .ok (.astore 4, 2) := by decide +kernel
theorem dL_misled_10 : decode cL_misled 10 = .ok (.bipush (-101), 2) := by decide +kernel
theorem dL_misled_12 : decode cL_misled 12 = .ok (.ireturn, 1) := by decide +kernel
theorem qL1168 : Cond.methodLink RL 99 (zy 134) ∈ zGT := zGT_of (l := [Cond.methodLink RL 99 (zy 134)]) (r := [1168]) (by decide +kernel) _ List.mem_cons_self
theorem qL1167 : Cond.codeWith yL_misled cL_misled 5 (some .int) [(0, 7, 8, 15)] ∈ zGT := zGT_of (l := [Cond.codeWith yL_misled cL_misled 5 (some .int) [(0, 7, 8, 15)]]) (r := [1167]) (by decide +kernel) _ List.mem_cons_self
theorem st_misled {l : Launch} (hl : l.stackTraces = false) {b : Nat} {ro : Nat → Nat} {cA : Nat → ClassId} {D : va_G} {m m1 : zM} (hm : zwf m) (h11 : (m.1 0).1 = 11) {x1 x2 x3 x : Int32} (h : wstub 24 [x1, x2, x3] m = some (x, m1)) : stM l b ro cA D yL_misled (Cond.codeWith yL_misled cL_misled 5 (some .int) [(0, 7, 8, 15)]) m m1 (.ref 0 :: wvals [x1, x2, x3]) x := by
  obtain ⟨hcnt, hq⟩ := wstub_cs h
  clear h
  refine st_of (by decide) rfl [.ref (b + 0), .int x1, .int x2, .int x3] rfl (Nat.le_of_ble_eq_true rfl) ?_
  intro p e s mid below meth c ls hx hb hml hown hts hG hN hr hlocks hT hP hl0
  have hS : va_S (zA b) s.heap s.heap [] := va_S.rf
  refine lv_aload_n hx hb dL_misled_0 rfl (lv_at hl0 0 rfl) ?_
  refine lv_iload_n hx hb dL_misled_1 rfl (lv_at hl0 1 rfl) ?_
  refine lv_iload_n hx hb dL_misled_2 rfl (lv_at hl0 2 rfl) ?_
  refine lv_iload_n hx hb dL_misled_3 rfl (lv_at hl0 3 rfl) ?_
  rcases hq with ⟨v, h, hv⟩ | ⟨ex, h, hi, rfl⟩
  · have h : zGo false 134 0 (zent 134 [.ref 0, .int x1, .int x2, .int x3]) [] m = some (.inl (some v), m1) := h
    refine zcall_ret (st_run (m := m) (t := [.int x3, .int x2, .int x1]) (o := 0) (rest := []) (z := 134) hx hb hml hown hts hG hm hP hS hl0.1 (st_met0 (y := 134) hl hm (by decide) rfl (Nat.le_of_ble_eq_true rfl) hcnt h) (by decide) ⟨Nat.le_of_ble_eq_true rfl, Nat.le_of_ble_eq_true rfl⟩ qL1168 rfl h11 (by decide) rfl (Nat.le_of_ble_eq_true rfl) dL_misled_4 ⟨Nat.le_of_ble_eq_true rfl, Nat.le_of_ble_eq_true rfl⟩) hS (fun H1 locs1 hP1 hS1 _ => ?_)
    cases v with
    | int v =>
      have hv2 : some v = some x := hv
      cases hv2
      exact st_fin hx hb hr hlocks dL_misled_7 hP1 hS1 (Nat.le_of_ble_eq_true rfl) (Nat.le_of_ble_eq_true rfl)
    | _ => cases hv
  · have hi : ex ∈ ([0] : List Nat) := hi
    have h : zGo false 134 0 (zent 134 [.ref 0, .int x1, .int x2, .int x3]) [] m = some (.inr ex, m1) := h
    simp only [List.mem_cons, List.not_mem_nil, or_false] at hi
    subst hi
    · refine st_catch (k := 0) (hh := [(0, 7, 8, 15)]) (st_run (m := m) (t := [.int x3, .int x2, .int x1]) (o := 0) (rest := []) (z := 134) hx hb hml hown hts hG hm hP hS hl0.1 (st_met1 (y := 134) hl hm (by decide) rfl (Nat.le_of_ble_eq_true rfl) hcnt h) (by decide) ⟨Nat.le_of_ble_eq_true rfl, Nat.le_of_ble_eq_true rfl⟩ qL1168 rfl h11 (by decide) rfl (Nat.le_of_ble_eq_true rfl) dL_misled_4 ⟨Nat.le_of_ble_eq_true rfl, Nat.le_of_ble_eq_true rfl⟩) hS hown hts hG hN hT (by decide) rfl rfl (by decide) (fun H1 locs1 q hP1 hS1 => ?_)
      refine lv_astore hx hb dL_misled_8 hl0 (by decide) rfl (fun ls1 _ => ?_)
      refine lv_bipush (v := wcode 0) hx hb dL_misled_10 (by decide) ?_
      exact st_fin hx hb hr hlocks dL_misled_12 hP1 hS1 (Nat.le_of_ble_eq_true rfl) (Nat.le_of_ble_eq_true rfl)
theorem dL_judge_0 : decode cL_judge 0 = .ok (.aload_n 0, 1) := by decide +kernel
theorem dL_judge_1 : decode cL_judge 1 = .ok (.iload_n 1, 1) := by decide +kernel
theorem dL_judge_2 : decode cL_judge 2 = .ok (.invokevirtual 102, 3) := by decide +kernel
theorem dL_judge_5 : decode cL_judge 5 = .ok (.ireturn, 1) := by decide +kernel
theorem dL_judge_6 : decode cL_judge 6 = .ok (.astore_n 2, 1) := by decide +kernel
theorem dL_judge_7 : decode cL_judge 7 = .ok (.bipush (-101), 2) := by decide +kernel
theorem dL_judge_9 : decode cL_judge 9 = .ok (.ireturn, 1) := by decide +kernel
theorem qL1180 : Cond.methodLink RL 102 (zy 135) ∈ zGT := zGT_of (l := [Cond.methodLink RL 102 (zy 135)]) (r := [1180]) (by decide +kernel) _ List.mem_cons_self
theorem qL1179 : Cond.codeWith yL_judge cL_judge 3 (some .int) [(0, 5, 6, 15)] ∈ zGT := zGT_of (l := [Cond.codeWith yL_judge cL_judge 3 (some .int) [(0, 5, 6, 15)]]) (r := [1179]) (by decide +kernel) _ List.mem_cons_self
theorem st_judge {l : Launch} (hl : l.stackTraces = false) {b : Nat} {ro : Nat → Nat} {cA : Nat → ClassId} {D : va_G} {m m1 : zM} (hm : zwf m) (h11 : (m.1 0).1 = 11) {x1 x : Int32} (h : wstub 25 [x1] m = some (x, m1)) : stM l b ro cA D yL_judge (Cond.codeWith yL_judge cL_judge 3 (some .int) [(0, 5, 6, 15)]) m m1 (.ref 0 :: wvals [x1]) x := by
  obtain ⟨hcnt, hq⟩ := wstub_cs h
  clear h
  refine st_of (by decide) rfl [.ref (b + 0), .int x1] rfl (Nat.le_of_ble_eq_true rfl) ?_
  intro p e s mid below meth c ls hx hb hml hown hts hG hN hr hlocks hT hP hl0
  have hS : va_S (zA b) s.heap s.heap [] := va_S.rf
  refine lv_aload_n hx hb dL_judge_0 rfl (lv_at hl0 0 rfl) ?_
  refine lv_iload_n hx hb dL_judge_1 rfl (lv_at hl0 1 rfl) ?_
  rcases hq with ⟨v, h, hv⟩ | ⟨ex, h, hi, rfl⟩
  · have h : zGo false 135 0 (zent 135 [.ref 0, .int x1]) [] m = some (.inl (some v), m1) := h
    refine zcall_ret (st_run (m := m) (t := [.int x1]) (o := 0) (rest := []) (z := 135) hx hb hml hown hts hG hm hP hS hl0.1 (st_met0 (y := 135) hl hm (by decide) rfl (Nat.le_of_ble_eq_true rfl) hcnt h) (by decide) ⟨Nat.le_of_ble_eq_true rfl, Nat.le_of_ble_eq_true rfl⟩ qL1180 rfl h11 (by decide) rfl (Nat.le_of_ble_eq_true rfl) dL_judge_2 ⟨Nat.le_of_ble_eq_true rfl, Nat.le_of_ble_eq_true rfl⟩) hS (fun H1 locs1 hP1 hS1 _ => ?_)
    cases v with
    | int v =>
      have hv2 : some v = some x := hv
      cases hv2
      exact st_fin hx hb hr hlocks dL_judge_5 hP1 hS1 (Nat.le_of_ble_eq_true rfl) (Nat.le_of_ble_eq_true rfl)
    | _ => cases hv
  · have hi : ex ∈ ([0] : List Nat) := hi
    have h : zGo false 135 0 (zent 135 [.ref 0, .int x1]) [] m = some (.inr ex, m1) := h
    simp only [List.mem_cons, List.not_mem_nil, or_false] at hi
    subst hi
    · refine st_catch (k := 0) (hh := [(0, 5, 6, 15)]) (st_run (m := m) (t := [.int x1]) (o := 0) (rest := []) (z := 135) hx hb hml hown hts hG hm hP hS hl0.1 (st_met1 (y := 135) hl hm (by decide) rfl (Nat.le_of_ble_eq_true rfl) hcnt h) (by decide) ⟨Nat.le_of_ble_eq_true rfl, Nat.le_of_ble_eq_true rfl⟩ qL1180 rfl h11 (by decide) rfl (Nat.le_of_ble_eq_true rfl) dL_judge_2 ⟨Nat.le_of_ble_eq_true rfl, Nat.le_of_ble_eq_true rfl⟩) hS hown hts hG hN hT (by decide) rfl rfl (by decide) (fun H1 locs1 q hP1 hS1 => ?_)
      refine lv_astore_n hx hb dL_judge_6 rfl hl0 (by decide) rfl (fun ls1 _ => ?_)
      refine lv_bipush (v := wcode 0) hx hb dL_judge_7 (by decide) ?_
      exact st_fin hx hb hr hlocks dL_judge_9 hP1 hS1 (Nat.le_of_ble_eq_true rfl) (Nat.le_of_ble_eq_true rfl)
theorem dL_concert_0 : decode cL_concert 0 = .ok (.aload_n 0, 1) := by decide +kernel
theorem dL_concert_1 : decode cL_concert 1 = .ok (.iload_n 1, 1) := by decide +kernel
theorem dL_concert_2 : decode cL_concert 2 = .ok (.invokevirtual 105, 3) := by decide +kernel
theorem dL_concert_5 : decode cL_concert 5 = .ok (.ireturn, 1) := by decide +kernel
theorem dL_concert_6 : decode cL_concert 6 = .ok (.astore_n 2, 1) := by decide +kernel
theorem dL_concert_7 : decode cL_concert 7 = .ok (.bipush (-101), 2) := by decide +kernel
theorem dL_concert_9 : decode cL_concert 9 = .ok (.ireturn, 1) := by decide +kernel
theorem dL_concert_10 : decode cL_concert 10 = .ok (.astore_n 2, 1) := by decide +kernel
theorem dL_concert_11 : decode cL_concert 11 = .ok (.bipush (-103), 2) := by decide +kernel
theorem dL_concert_13 : decode cL_concert 13 = .ok (.ireturn, 1) := by decide +kernel
theorem qL1219 : Cond.methodLink RL 105 (zy 142) ∈ zGT := zGT_of (l := [Cond.methodLink RL 105 (zy 142)]) (r := [1219]) (by decide +kernel) _ List.mem_cons_self
theorem qL1218 : Cond.codeWith yL_concert cL_concert 3 (some .int) [(0, 5, 6, 15), (0, 5, 10, 19)] ∈ zGT := zGT_of (l := [Cond.codeWith yL_concert cL_concert 3 (some .int) [(0, 5, 6, 15), (0, 5, 10, 19)]]) (r := [1218]) (by decide +kernel) _ List.mem_cons_self
theorem st_concert {l : Launch} (hl : l.stackTraces = false) {b : Nat} {ro : Nat → Nat} {cA : Nat → ClassId} {D : va_G} {m m1 : zM} (hm : zwf m) (h11 : (m.1 0).1 = 11) {x1 x : Int32} (h : wstub 26 [x1] m = some (x, m1)) : stM l b ro cA D yL_concert (Cond.codeWith yL_concert cL_concert 3 (some .int) [(0, 5, 6, 15), (0, 5, 10, 19)]) m m1 (.ref 0 :: wvals [x1]) x := by
  obtain ⟨hcnt, hq⟩ := wstub_cs h
  clear h
  refine st_of (by decide) rfl [.ref (b + 0), .int x1] rfl (Nat.le_of_ble_eq_true rfl) ?_
  intro p e s mid below meth c ls hx hb hml hown hts hG hN hr hlocks hT hP hl0
  have hS : va_S (zA b) s.heap s.heap [] := va_S.rf
  refine lv_aload_n hx hb dL_concert_0 rfl (lv_at hl0 0 rfl) ?_
  refine lv_iload_n hx hb dL_concert_1 rfl (lv_at hl0 1 rfl) ?_
  rcases hq with ⟨v, h, hv⟩ | ⟨ex, h, hi, rfl⟩
  · have h : zGo false 142 0 (zent 142 [.ref 0, .int x1]) [] m = some (.inl (some v), m1) := h
    refine zcall_ret (st_run (m := m) (t := [.int x1]) (o := 0) (rest := []) (z := 142) hx hb hml hown hts hG hm hP hS hl0.1 (st_met0 (y := 142) hl hm (by decide) rfl (Nat.le_of_ble_eq_true rfl) hcnt h) (by decide) ⟨Nat.le_of_ble_eq_true rfl, Nat.le_of_ble_eq_true rfl⟩ qL1219 rfl h11 (by decide) rfl (Nat.le_of_ble_eq_true rfl) dL_concert_2 ⟨Nat.le_of_ble_eq_true rfl, Nat.le_of_ble_eq_true rfl⟩) hS (fun H1 locs1 hP1 hS1 _ => ?_)
    cases v with
    | int v =>
      have hv2 : some v = some x := hv
      cases hv2
      exact st_fin hx hb hr hlocks dL_concert_5 hP1 hS1 (Nat.le_of_ble_eq_true rfl) (Nat.le_of_ble_eq_true rfl)
    | _ => cases hv
  · have hi : ex ∈ ([0, 2] : List Nat) := hi
    have h : zGo false 142 0 (zent 142 [.ref 0, .int x1]) [] m = some (.inr ex, m1) := h
    simp only [List.mem_cons, List.not_mem_nil, or_false] at hi
    rcases hi with rfl | rfl
    · refine st_catch (k := 0) (hh := [(0, 5, 6, 15), (0, 5, 10, 19)]) (st_run (m := m) (t := [.int x1]) (o := 0) (rest := []) (z := 142) hx hb hml hown hts hG hm hP hS hl0.1 (st_met1 (y := 142) hl hm (by decide) rfl (Nat.le_of_ble_eq_true rfl) hcnt h) (by decide) ⟨Nat.le_of_ble_eq_true rfl, Nat.le_of_ble_eq_true rfl⟩ qL1219 rfl h11 (by decide) rfl (Nat.le_of_ble_eq_true rfl) dL_concert_2 ⟨Nat.le_of_ble_eq_true rfl, Nat.le_of_ble_eq_true rfl⟩) hS hown hts hG hN hT (by decide) rfl rfl (by decide) (fun H1 locs1 q hP1 hS1 => ?_)
      refine lv_astore_n hx hb dL_concert_6 rfl hl0 (by decide) rfl (fun ls1 _ => ?_)
      refine lv_bipush (v := wcode 0) hx hb dL_concert_7 (by decide) ?_
      exact st_fin hx hb hr hlocks dL_concert_9 hP1 hS1 (Nat.le_of_ble_eq_true rfl) (Nat.le_of_ble_eq_true rfl)
    · refine st_catch (k := 1) (hh := [(0, 5, 6, 15), (0, 5, 10, 19)]) (st_run (m := m) (t := [.int x1]) (o := 0) (rest := []) (z := 142) hx hb hml hown hts hG hm hP hS hl0.1 (st_met1 (y := 142) hl hm (by decide) rfl (Nat.le_of_ble_eq_true rfl) hcnt h) (by decide) ⟨Nat.le_of_ble_eq_true rfl, Nat.le_of_ble_eq_true rfl⟩ qL1219 rfl h11 (by decide) rfl (Nat.le_of_ble_eq_true rfl) dL_concert_2 ⟨Nat.le_of_ble_eq_true rfl, Nat.le_of_ble_eq_true rfl⟩) hS hown hts hG hN hT (by decide) rfl rfl (by decide) (fun H1 locs1 q hP1 hS1 => ?_)
      refine lv_astore_n hx hb dL_concert_10 rfl hl0 (by decide) rfl (fun ls1 _ => ?_)
      refine lv_bipush (v := wcode 2) hx hb dL_concert_11 (by decide) ?_
      exact st_fin hx hb hr hlocks dL_concert_13 hP1 hS1 (Nat.le_of_ble_eq_true rfl) (Nat.le_of_ble_eq_true rfl)
def wY (s : Nat) : MethodName := ([yL_write, yL_error, yL_errorAt, yL_tokens, yL_token, yL_bars, yL_pitch, yL_seconds, yL_print, yL_lend, yL_back, yL_pencil, yL_holder, yL_copyError, yL_copyPitch, yL_copyAnew, yL_begins, yL_differ, yL_clashes, yL_clashesOf, yL_room, yL_ask, yL_done, yL_learned, yL_misled, yL_judge, yL_concert] : List MethodName).getD s yL_law
def wW (s : Nat) : Cond := match s with
  | 0 => Cond.codeWith yL_write cL_write 5 (some .int) [(0, 8, 9, 15), (0, 8, 14, 17), (0, 8, 19, 19)]
  | 1 => Cond.codeWith yL_error cL_error 4 (some .int) [(0, 6, 7, 15)]
  | 2 => Cond.codeWith yL_errorAt cL_errorAt 4 (some .int) [(0, 6, 7, 15)]
  | 3 => Cond.codeWith yL_tokens cL_tokens 4 (some .int) [(0, 6, 7, 15)]
  | 4 => Cond.codeWith yL_token cL_token 5 (some .int) [(0, 7, 8, 15)]
  | 5 => Cond.codeWith yL_bars cL_bars 4 (some .int) [(0, 6, 7, 15)]
  | 6 => Cond.codeWith yL_pitch cL_pitch 6 (some .int) [(0, 9, 10, 15)]
  | 7 => Cond.codeWith yL_seconds cL_seconds 5 (some .int) [(0, 8, 9, 15), (0, 8, 14, 17)]
  | 8 => Cond.codeWith yL_print cL_print 4 (some .int) [(0, 6, 7, 15), (0, 6, 11, 19)]
  | 9 => Cond.codeWith yL_lend cL_lend 4 (some .int) [(0, 6, 7, 15), (0, 6, 11, 19)]
  | 10 => Cond.codeWith yL_back cL_back 3 (some .int) [(0, 5, 6, 15), (0, 5, 10, 19)]
  | 11 => Cond.codeWith yL_pencil cL_pencil 6 (some .int) [(0, 9, 10, 15), (0, 9, 15, 17), (0, 9, 20, 19)]
  | 12 => Cond.codeWith yL_holder cL_holder 3 (some .int) [(0, 5, 6, 15)]
  | 13 => Cond.codeWith yL_copyError cL_copyError 3 (some .int) [(0, 5, 6, 15)]
  | 14 => Cond.codeWith yL_copyPitch cL_copyPitch 5 (some .int) [(0, 7, 8, 15)]
  | 15 => Cond.codeWith yL_copyAnew cL_copyAnew 5 (some .int) [(0, 7, 8, 15)]
  | 16 => Cond.codeWith yL_begins cL_begins 5 (some .int) [(0, 15, 16, 15)]
  | 17 => Cond.codeWith yL_differ cL_differ 4 (some .int) [(0, 6, 7, 15), (0, 6, 11, 17), (0, 6, 15, 19)]
  | 18 => Cond.codeWith yL_clashes cL_clashes 4 (some .int) [(0, 6, 7, 15)]
  | 19 => Cond.codeWith yL_clashesOf cL_clashesOf 4 (some .int) [(0, 6, 7, 15), (0, 6, 11, 17)]
  | 20 => Cond.codeWith yL_room cL_room 4 (some .int) [(0, 6, 7, 15), (0, 6, 11, 17)]
  | 21 => Cond.codeWith yL_ask cL_ask 6 (some .int) [(0, 9, 10, 15), (0, 9, 15, 17), (0, 9, 20, 19)]
  | 22 => Cond.codeWith yL_done cL_done 3 (some .int) [(0, 5, 6, 15)]
  | 23 => Cond.codeWith yL_learned cL_learned 6 (some .int) [(0, 9, 10, 15)]
  | 24 => Cond.codeWith yL_misled cL_misled 5 (some .int) [(0, 7, 8, 15)]
  | 25 => Cond.codeWith yL_judge cL_judge 3 (some .int) [(0, 5, 6, 15)]
  | _ => Cond.codeWith yL_concert cL_concert 3 (some .int) [(0, 5, 6, 15), (0, 5, 10, 19)]
def wB (s : Nat) : ByteArray := ([cL_write, cL_error, cL_errorAt, cL_tokens, cL_token, cL_bars, cL_pitch, cL_seconds, cL_print, cL_lend, cL_back, cL_pencil, cL_holder, cL_copyError, cL_copyPitch, cL_copyAnew, cL_begins, cL_differ, cL_clashes, cL_clashesOf, cL_room, cL_ask, cL_done, cL_learned, cL_misled, cL_judge, cL_concert] : List ByteArray).getD s code
def wN (s : Nat) : Nat := ([5, 4, 4, 4, 5, 4, 6, 5, 4, 4, 3, 6, 3, 3, 5, 5, 5, 4, 4, 4, 4, 6, 3, 6, 5, 3, 3] : List Nat).getD s 0
def wH (s : Nat) : List (Nat × Nat × Nat × Nat) := ([[(0, 8, 9, 15), (0, 8, 14, 17), (0, 8, 19, 19)], [(0, 6, 7, 15)], [(0, 6, 7, 15)], [(0, 6, 7, 15)], [(0, 7, 8, 15)], [(0, 6, 7, 15)], [(0, 9, 10, 15)], [(0, 8, 9, 15), (0, 8, 14, 17)], [(0, 6, 7, 15), (0, 6, 11, 19)], [(0, 6, 7, 15), (0, 6, 11, 19)], [(0, 5, 6, 15), (0, 5, 10, 19)], [(0, 9, 10, 15), (0, 9, 15, 17), (0, 9, 20, 19)], [(0, 5, 6, 15)], [(0, 5, 6, 15)], [(0, 7, 8, 15)], [(0, 7, 8, 15)], [(0, 15, 16, 15)], [(0, 6, 7, 15), (0, 6, 11, 17), (0, 6, 15, 19)], [(0, 6, 7, 15)], [(0, 6, 7, 15), (0, 6, 11, 17)], [(0, 6, 7, 15), (0, 6, 11, 17)], [(0, 9, 10, 15), (0, 9, 15, 17), (0, 9, 20, 19)], [(0, 5, 6, 15)], [(0, 9, 10, 15)], [(0, 7, 8, 15)], [(0, 5, 6, 15)], [(0, 5, 6, 15), (0, 5, 10, 19)]] : List (List (Nat × Nat × Nat × Nat))).getD s []
theorem wW_eq {s : Nat} (h : s < 27) : wW s = Cond.codeWith (wY s) (wB s) (wN s) (some .int) (wH s) := by
  rcases (show s = 0 ∨ s = 1 ∨ s = 2 ∨ s = 3 ∨ s = 4 ∨ s = 5 ∨ s = 6 ∨ s = 7 ∨ s = 8 ∨ s = 9 ∨ s = 10 ∨ s = 11 ∨ s = 12 ∨ s = 13 ∨ s = 14 ∨ s = 15 ∨ s = 16 ∨ s = 17 ∨ s = 18 ∨ s = 19 ∨ s = 20 ∨ s = 21 ∨ s = 22 ∨ s = 23 ∨ s = 24 ∨ s = 25 ∨ s = 26 by omega) with rfl | rfl | rfl | rfl | rfl | rfl | rfl | rfl | rfl | rfl | rfl | rfl | rfl | rfl | rfl | rfl | rfl | rfl | rfl | rfl | rfl | rfl | rfl | rfl | rfl | rfl | rfl <;> rfl
theorem wW_in {s : Nat} (h : s < 27) : Cond.codeWith (wY s) (wB s) (wN s) (some .int) (wH s) ∈ zGT := by
  rw [← wW_eq h]
  rcases (show s = 0 ∨ s = 1 ∨ s = 2 ∨ s = 3 ∨ s = 4 ∨ s = 5 ∨ s = 6 ∨ s = 7 ∨ s = 8 ∨ s = 9 ∨ s = 10 ∨ s = 11 ∨ s = 12 ∨ s = 13 ∨ s = 14 ∨ s = 15 ∨ s = 16 ∨ s = 17 ∨ s = 18 ∨ s = 19 ∨ s = 20 ∨ s = 21 ∨ s = 22 ∨ s = 23 ∨ s = 24 ∨ s = 25 ∨ s = 26 by omega) with rfl | rfl | rfl | rfl | rfl | rfl | rfl | rfl | rfl | rfl | rfl | rfl | rfl | rfl | rfl | rfl | rfl | rfl | rfl | rfl | rfl | rfl | rfl | rfl | rfl | rfl | rfl
  · exact qL1229
  · exact qL565
  · exact qL874
  · exact qL881
  · exact qL888
  · exact qL897
  · exact qL904
  · exact qL926
  · exact qL952
  · exact qL980
  · exact qL1002
  · exact qL1022
  · exact qL1048
  · exact qL1241
  · exact qL1248
  · exact qL1263
  · exact qL1255
  · exact qL1055
  · exact qL1068
  · exact qL1113
  · exact qL1121
  · exact qL1130
  · exact qL1143
  · exact qL1151
  · exact qL1167
  · exact qL1179
  · exact qL1218
theorem wS_in {s : Nat} (h : s < 27) : Cond.static (wY s) ∈ zGT := zchunk (a := 0) (n := 27) (f := fun s => Cond.static (wY s)) (r := [1228, 564, 873, 880, 887, 896, 903, 925, 951, 979, 1001, 1021, 1047, 1240, 1247, 1262, 1254, 1054, 1067, 1112, 1120, 1129, 1142, 1150, 1166, 1178, 1217]) (by decide +kernel) (by omega) (by omega)
def wI (s : Nat) : Nat := ([108, 135, 137, 147, 149, 139, 188, 190, 141, 143, 145, 151, 154, 113, 116, 120, 118, 123, 175, 173, 167, 156, 158, 184, 186, 169, 171] : List Nat).getD s 0
theorem wL_in {s : Nat} (h : s < 27) : Cond.methodLink RL (wI s) (wY s) ∈ zGT := zchunk (a := 0) (n := 27) (f := fun s => Cond.methodLink RL (wI s) (wY s)) (r := [1227, 563, 872, 879, 886, 895, 902, 924, 950, 978, 1000, 1020, 1046, 1239, 1246, 1261, 1253, 1053, 1066, 1111, 1119, 1128, 1141, 1149, 1165, 1177, 1216]) (by decide +kernel) (by omega) (by omega)
theorem wI_of {i s w : Nat} (h : zpool 16 i = (13, s, w)) (hs : s < 27) : i = wI s := by
  obtain ⟨hm, -⟩ := zpool_mem h (by simp)
  have k := List.all_eq_true.mp (show (zP16.all fun q => !(Nat.beq q.2.1 13) || (!(Nat.blt q.2.2.1 27) || Nat.beq q.1 (wI q.2.2.1))) = true by decide +kernel) _ hm
  simp only [Bool.or_eq_true, Bool.not_eq_true', Nat.beq_eq_true_eq] at k
  rcases k with k | k | k
  · exact absurd k (by decide)
  · have : Nat.blt s 27 = true := Nat.le_of_lt_succ (Nat.succ_lt_succ hs) |> fun q => Nat.ble_eq_true_of_le q
    rw [this] at k
    cases k
  · exact Nat.eq_of_beq_eq_true k
theorem wY_ok {s : Nat} (h : s < 27) : (wY s).cls = RL ∧ plainName (wY s).cls = true ∧ (parseMethodDescriptor (wY s).desc).map (fun d => d.parameters.length) = some (wA s + 1) ∧ wN s ≤ 6 := by
  have k := List.all_eq_true.mp (show ((List.range 27).all fun s => decide ((wY s).cls = RL) && (plainName (wY s).cls && (decide ((parseMethodDescriptor (wY s).desc).map (fun d => d.parameters.length) = some (wA s + 1)) && Nat.ble (wN s) 6))) = true by decide +kernel) s (List.mem_range.mpr h)
  simp only [Bool.and_eq_true, decide_eq_true_eq, Nat.ble_eq] at k
  exact k
theorem st_all {l : Launch} (hl : l.stackTraces = false) {b : Nat} {ro : Nat → Nat} {cA : Nat → ClassId} {D : va_G} {m m1 : zM} (hm : zwf m) (h11 : (m.1 0).1 = 11) {s : Nat} {xs : List Int32} {x : Int32} (hs : s < 27) (hlen : xs.length = wA s) (h : wstub s xs m = some (x, m1)) : stM l b ro cA D (wY s) (Cond.codeWith (wY s) (wB s) (wN s) (some .int) (wH s)) m m1 (.ref 0 :: wvals xs) x := by
  rw [← wW_eq hs]
  rcases (show s = 0 ∨ s = 1 ∨ s = 2 ∨ s = 3 ∨ s = 4 ∨ s = 5 ∨ s = 6 ∨ s = 7 ∨ s = 8 ∨ s = 9 ∨ s = 10 ∨ s = 11 ∨ s = 12 ∨ s = 13 ∨ s = 14 ∨ s = 15 ∨ s = 16 ∨ s = 17 ∨ s = 18 ∨ s = 19 ∨ s = 20 ∨ s = 21 ∨ s = 22 ∨ s = 23 ∨ s = 24 ∨ s = 25 ∨ s = 26 by omega) with rfl | rfl | rfl | rfl | rfl | rfl | rfl | rfl | rfl | rfl | rfl | rfl | rfl | rfl | rfl | rfl | rfl | rfl | rfl | rfl | rfl | rfl | rfl | rfl | rfl | rfl | rfl
  · match xs, hlen with
    | [x1, x2, x3], _ => exact st_write hl hm h11 h
  · match xs, hlen with
    | [x1, x2], _ => exact st_error hl hm h11 h
  · match xs, hlen with
    | [x1, x2], _ => exact st_errorAt hl hm h11 h
  · match xs, hlen with
    | [x1, x2], _ => exact st_tokens hl hm h11 h
  · match xs, hlen with
    | [x1, x2, x3], _ => exact st_token hl hm h11 h
  · match xs, hlen with
    | [x1, x2], _ => exact st_bars hl hm h11 h
  · match xs, hlen with
    | [x1, x2, x3, x4], _ => exact st_pitch hl hm h11 h
  · match xs, hlen with
    | [x1, x2, x3], _ => exact st_seconds hl hm h11 h
  · match xs, hlen with
    | [x1, x2], _ => exact st_print hl hm h11 h
  · match xs, hlen with
    | [x1, x2], _ => exact st_lend hl hm h11 h
  · match xs, hlen with
    | [x1], _ => exact st_back hl hm h11 h
  · match xs, hlen with
    | [x1, x2, x3, x4], _ => exact st_pencil hl hm h11 h
  · match xs, hlen with
    | [x1], _ => exact st_holder hl hm h11 h
  · match xs, hlen with
    | [x1], _ => exact st_copyError hl hm h11 h
  · match xs, hlen with
    | [x1, x2, x3], _ => exact st_copyPitch hl hm h11 h
  · match xs, hlen with
    | [x1, x2, x3], _ => exact st_copyAnew hl hm h11 h
  · match xs, hlen with
    | [x1, x2, x3], _ => exact st_begins hl hm h11 h
  · match xs, hlen with
    | [x1, x2], _ => exact st_differ hl hm h11 h
  · match xs, hlen with
    | [x1, x2], _ => exact st_clashes hl hm h11 h
  · match xs, hlen with
    | [x1, x2], _ => exact st_clashesOf hl hm h11 h
  · match xs, hlen with
    | [x1, x2], _ => exact st_room hl hm h11 h
  · match xs, hlen with
    | [x1, x2, x3, x4], _ => exact st_ask hl hm h11 h
  · match xs, hlen with
    | [x1], _ => exact st_done hl hm h11 h
  · match xs, hlen with
    | [x1, x2, x3, x4], _ => exact st_learned hl hm h11 h
  · match xs, hlen with
    | [x1, x2, x3], _ => exact st_misled hl hm h11 h
  · match xs, hlen with
    | [x1], _ => exact st_judge hl hm h11 h
  · match xs, hlen with
    | [x1], _ => exact st_concert hl hm h11 h
