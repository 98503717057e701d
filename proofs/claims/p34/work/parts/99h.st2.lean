/-! part 99h.st2: the law's stubs; printed by program (wip/p34/gen/gen_stub.py) -/
theorem dL_lend_0 : decode cL_lend 0 = .ok (.aload_n 0, 1) := by decide +kernel
theorem dL_lend_1 : decode cL_lend 1 = .ok (.iload_n 1, 1) := by decide +kernel
theorem dL_lend_2 : decode cL_lend 2 = .ok (.iload_n 2, 1) := by decide +kernel
theorem dL_lend_3 : decode cL_lend 3 = .ok (.invokevirtual 52, 3) := by decide +kernel
theorem dL_lend_6 : decode cL_lend 6 = .ok (.ireturn, 1) := by decide +kernel
theorem dL_lend_7 : decode cL_lend 7 = .ok (.astore_n 3, 1) := by decide +kernel
theorem dL_lend_8 : decode cL_lend 8 = .ok (.bipush (-101), 2) := by decide +kernel
theorem dL_lend_10 : decode cL_lend 10 = .ok (.ireturn, 1) := by decide +kernel
theorem dL_lend_11 : decode cL_lend 11 = .ok (.astore_n 3, 1) := by decide +kernel
theorem dL_lend_12 : decode cL_lend 12 = .ok (.bipush (-103), 2) := by decide +kernel
theorem dL_lend_14 : decode cL_lend 14 = .ok (.ireturn, 1) := by decide +kernel
theorem qL981 : Cond.methodLink RL 52 (zy 111) ∈ zGT := zGT_of (l := [Cond.methodLink RL 52 (zy 111)]) (r := [981]) (by decide +kernel) _ List.mem_cons_self
theorem qL980 : Cond.codeWith yL_lend cL_lend 4 (some .int) [(0, 6, 7, 15), (0, 6, 11, 19)] ∈ zGT := zGT_of (l := [Cond.codeWith yL_lend cL_lend 4 (some .int) [(0, 6, 7, 15), (0, 6, 11, 19)]]) (r := [980]) (by decide +kernel) _ List.mem_cons_self
theorem st_lend {l : Launch} (hl : l.stackTraces = false) {b : Nat} {ro : Nat → Nat} {cA : Nat → ClassId} {D : va_G} {m m1 : zM} (hm : zwf m) (h11 : (m.1 0).1 = 11) {x1 x2 x : Int32} (h : wstub 9 [x1, x2] m = some (x, m1)) : stM l b ro cA D yL_lend (Cond.codeWith yL_lend cL_lend 4 (some .int) [(0, 6, 7, 15), (0, 6, 11, 19)]) m m1 (.ref 0 :: wvals [x1, x2]) x := by
  obtain ⟨hcnt, hq⟩ := wstub_cs h
  clear h
  refine st_of (by decide) rfl [.ref (b + 0), .int x1, .int x2] rfl (Nat.le_of_ble_eq_true rfl) ?_
  intro p e s mid below meth c ls hx hb hml hown hts hG hN hr hlocks hT hP hl0
  have hS : va_S (zA b) s.heap s.heap [] := va_S.rf
  refine lv_aload_n hx hb dL_lend_0 rfl (lv_at hl0 0 rfl) ?_
  refine lv_iload_n hx hb dL_lend_1 rfl (lv_at hl0 1 rfl) ?_
  refine lv_iload_n hx hb dL_lend_2 rfl (lv_at hl0 2 rfl) ?_
  rcases hq with ⟨v, h, hv⟩ | ⟨ex, h, hi, rfl⟩
  · have h : zGo false 111 0 (zent 111 [.ref 0, .int x1, .int x2]) [] m = some (.inl (some v), m1) := h
    refine zcall_ret (st_run (m := m) (t := [.int x2, .int x1]) (o := 0) (rest := []) (z := 111) hx hb hml hown hts hG hm hP hS hl0.1 (st_met0 (y := 111) hl hm (by decide) rfl (Nat.le_of_ble_eq_true rfl) hcnt h) (by decide) ⟨Nat.le_of_ble_eq_true rfl, Nat.le_of_ble_eq_true rfl⟩ qL981 rfl h11 (by decide) rfl (Nat.le_of_ble_eq_true rfl) dL_lend_3 ⟨Nat.le_of_ble_eq_true rfl, Nat.le_of_ble_eq_true rfl⟩) hS (fun H1 locs1 hP1 hS1 _ => ?_)
    cases v with
    | int v =>
      have hv2 : some v = some x := hv
      cases hv2
      exact st_fin hx hb hr hlocks dL_lend_6 hP1 hS1 (Nat.le_of_ble_eq_true rfl) (Nat.le_of_ble_eq_true rfl)
    | _ => cases hv
  · have hi : ex ∈ ([0, 2] : List Nat) := hi
    have h : zGo false 111 0 (zent 111 [.ref 0, .int x1, .int x2]) [] m = some (.inr ex, m1) := h
    simp only [List.mem_cons, List.not_mem_nil, or_false] at hi
    rcases hi with rfl | rfl
    · refine st_catch (k := 0) (hh := [(0, 6, 7, 15), (0, 6, 11, 19)]) (st_run (m := m) (t := [.int x2, .int x1]) (o := 0) (rest := []) (z := 111) hx hb hml hown hts hG hm hP hS hl0.1 (st_met1 (y := 111) hl hm (by decide) rfl (Nat.le_of_ble_eq_true rfl) hcnt h) (by decide) ⟨Nat.le_of_ble_eq_true rfl, Nat.le_of_ble_eq_true rfl⟩ qL981 rfl h11 (by decide) rfl (Nat.le_of_ble_eq_true rfl) dL_lend_3 ⟨Nat.le_of_ble_eq_true rfl, Nat.le_of_ble_eq_true rfl⟩) hS hown hts hG hN hT (by decide) rfl rfl (by decide) (fun H1 locs1 q hP1 hS1 => ?_)
      refine lv_astore_n hx hb dL_lend_7 rfl hl0 (by decide) rfl (fun ls1 _ => ?_)
      refine lv_bipush (v := wcode 0) hx hb dL_lend_8 (by decide) ?_
      exact st_fin hx hb hr hlocks dL_lend_10 hP1 hS1 (Nat.le_of_ble_eq_true rfl) (Nat.le_of_ble_eq_true rfl)
    · refine st_catch (k := 1) (hh := [(0, 6, 7, 15), (0, 6, 11, 19)]) (st_run (m := m) (t := [.int x2, .int x1]) (o := 0) (rest := []) (z := 111) hx hb hml hown hts hG hm hP hS hl0.1 (st_met1 (y := 111) hl hm (by decide) rfl (Nat.le_of_ble_eq_true rfl) hcnt h) (by decide) ⟨Nat.le_of_ble_eq_true rfl, Nat.le_of_ble_eq_true rfl⟩ qL981 rfl h11 (by decide) rfl (Nat.le_of_ble_eq_true rfl) dL_lend_3 ⟨Nat.le_of_ble_eq_true rfl, Nat.le_of_ble_eq_true rfl⟩) hS hown hts hG hN hT (by decide) rfl rfl (by decide) (fun H1 locs1 q hP1 hS1 => ?_)
      refine lv_astore_n hx hb dL_lend_11 rfl hl0 (by decide) rfl (fun ls1 _ => ?_)
      refine lv_bipush (v := wcode 2) hx hb dL_lend_12 (by decide) ?_
      exact st_fin hx hb hr hlocks dL_lend_14 hP1 hS1 (Nat.le_of_ble_eq_true rfl) (Nat.le_of_ble_eq_true rfl)
theorem dL_back_0 : decode cL_back 0 = .ok (.aload_n 0, 1) := by decide +kernel
theorem dL_back_1 : decode cL_back 1 = .ok (.iload_n 1, 1) := by decide +kernel
theorem dL_back_2 : decode cL_back 2 = .ok (.invokevirtual 55, 3) := by decide +kernel
theorem dL_back_5 : decode cL_back 5 = .ok (.ireturn, 1) := by decide +kernel
theorem dL_back_6 : decode cL_back 6 = .ok (.astore_n 2, 1) := by decide +kernel
theorem dL_back_7 : decode cL_back 7 = .ok (.bipush (-101), 2) := by decide +kernel
theorem dL_back_9 : decode cL_back 9 = .ok (.ireturn, 1) := by decide +kernel
theorem dL_back_10 : decode cL_back 10 = .ok (.astore_n 2, 1) := by decide +kernel
theorem dL_back_11 : decode cL_back 11 = .ok (.bipush (-103), 2) := by decide +kernel
theorem dL_back_13 : decode cL_back 13 = .ok (.ireturn, 1) := by decide +kernel
theorem qL1003 : Cond.methodLink RL 55 (zy 114) ∈ zGT := zGT_of (l := [Cond.methodLink RL 55 (zy 114)]) (r := [1003]) (by decide +kernel) _ List.mem_cons_self
theorem qL1002 : Cond.codeWith yL_back cL_back 3 (some .int) [(0, 5, 6, 15), (0, 5, 10, 19)] ∈ zGT := zGT_of (l := [Cond.codeWith yL_back cL_back 3 (some .int) [(0, 5, 6, 15), (0, 5, 10, 19)]]) (r := [1002]) (by decide +kernel) _ List.mem_cons_self
theorem st_back {l : Launch} (hl : l.stackTraces = false) {b : Nat} {ro : Nat → Nat} {cA : Nat → ClassId} {D : va_G} {m m1 : zM} (hm : zwf m) (h11 : (m.1 0).1 = 11) {x1 x : Int32} (h : wstub 10 [x1] m = some (x, m1)) : stM l b ro cA D yL_back (Cond.codeWith yL_back cL_back 3 (some .int) [(0, 5, 6, 15), (0, 5, 10, 19)]) m m1 (.ref 0 :: wvals [x1]) x := by
  obtain ⟨hcnt, hq⟩ := wstub_cs h
  clear h
  refine st_of (by decide) rfl [.ref (b + 0), .int x1] rfl (Nat.le_of_ble_eq_true rfl) ?_
  intro p e s mid below meth c ls hx hb hml hown hts hG hN hr hlocks hT hP hl0
  have hS : va_S (zA b) s.heap s.heap [] := va_S.rf
  refine lv_aload_n hx hb dL_back_0 rfl (lv_at hl0 0 rfl) ?_
  refine lv_iload_n hx hb dL_back_1 rfl (lv_at hl0 1 rfl) ?_
  rcases hq with ⟨v, h, hv⟩ | ⟨ex, h, hi, rfl⟩
  · have h : zGo false 114 0 (zent 114 [.ref 0, .int x1]) [] m = some (.inl (some v), m1) := h
    refine zcall_ret (st_run (m := m) (t := [.int x1]) (o := 0) (rest := []) (z := 114) hx hb hml hown hts hG hm hP hS hl0.1 (st_met0 (y := 114) hl hm (by decide) rfl (Nat.le_of_ble_eq_true rfl) hcnt h) (by decide) ⟨Nat.le_of_ble_eq_true rfl, Nat.le_of_ble_eq_true rfl⟩ qL1003 rfl h11 (by decide) rfl (Nat.le_of_ble_eq_true rfl) dL_back_2 ⟨Nat.le_of_ble_eq_true rfl, Nat.le_of_ble_eq_true rfl⟩) hS (fun H1 locs1 hP1 hS1 _ => ?_)
    cases v with
    | int v =>
      have hv2 : some v = some x := hv
      cases hv2
      exact st_fin hx hb hr hlocks dL_back_5 hP1 hS1 (Nat.le_of_ble_eq_true rfl) (Nat.le_of_ble_eq_true rfl)
    | _ => cases hv
  · have hi : ex ∈ ([0, 2] : List Nat) := hi
    have h : zGo false 114 0 (zent 114 [.ref 0, .int x1]) [] m = some (.inr ex, m1) := h
    simp only [List.mem_cons, List.not_mem_nil, or_false] at hi
    rcases hi with rfl | rfl
    · refine st_catch (k := 0) (hh := [(0, 5, 6, 15), (0, 5, 10, 19)]) (st_run (m := m) (t := [.int x1]) (o := 0) (rest := []) (z := 114) hx hb hml hown hts hG hm hP hS hl0.1 (st_met1 (y := 114) hl hm (by decide) rfl (Nat.le_of_ble_eq_true rfl) hcnt h) (by decide) ⟨Nat.le_of_ble_eq_true rfl, Nat.le_of_ble_eq_true rfl⟩ qL1003 rfl h11 (by decide) rfl (Nat.le_of_ble_eq_true rfl) dL_back_2 ⟨Nat.le_of_ble_eq_true rfl, Nat.le_of_ble_eq_true rfl⟩) hS hown hts hG hN hT (by decide) rfl rfl (by decide) (fun H1 locs1 q hP1 hS1 => ?_)
      refine lv_astore_n hx hb dL_back_6 rfl hl0 (by decide) rfl (fun ls1 _ => ?_)
      refine lv_bipush (v := wcode 0) hx hb dL_back_7 (by decide) ?_
      exact st_fin hx hb hr hlocks dL_back_9 hP1 hS1 (Nat.le_of_ble_eq_true rfl) (Nat.le_of_ble_eq_true rfl)
    · refine st_catch (k := 1) (hh := [(0, 5, 6, 15), (0, 5, 10, 19)]) (st_run (m := m) (t := [.int x1]) (o := 0) (rest := []) (z := 114) hx hb hml hown hts hG hm hP hS hl0.1 (st_met1 (y := 114) hl hm (by decide) rfl (Nat.le_of_ble_eq_true rfl) hcnt h) (by decide) ⟨Nat.le_of_ble_eq_true rfl, Nat.le_of_ble_eq_true rfl⟩ qL1003 rfl h11 (by decide) rfl (Nat.le_of_ble_eq_true rfl) dL_back_2 ⟨Nat.le_of_ble_eq_true rfl, Nat.le_of_ble_eq_true rfl⟩) hS hown hts hG hN hT (by decide) rfl rfl (by decide) (fun H1 locs1 q hP1 hS1 => ?_)
      refine lv_astore_n hx hb dL_back_10 rfl hl0 (by decide) rfl (fun ls1 _ => ?_)
      refine lv_bipush (v := wcode 2) hx hb dL_back_11 (by decide) ?_
      exact st_fin hx hb hr hlocks dL_back_13 hP1 hS1 (Nat.le_of_ble_eq_true rfl) (Nat.le_of_ble_eq_true rfl)
theorem dL_pencil_0 : decode cL_pencil 0 = .ok (.aload_n 0, 1) := by decide +kernel
theorem dL_pencil_1 : decode cL_pencil 1 = .ok (.iload_n 1, 1) := by decide +kernel
theorem dL_pencil_2 : decode cL_pencil 2 = .ok (.iload_n 2, 1) := by decide +kernel
theorem dL_pencil_3 : decode cL_pencil 3 = .ok (.iload_n 3, 1) := by decide +kernel
theorem dL_pencil_4 : decode cL_pencil 4 = .ok (.iload 4, 2) := by decide +kernel
theorem dL_pencil_6 : decode cL_pencil 6 = .ok (.invokevirtual 59, 3) := by decide +kernel
theorem dL_pencil_9 : decode cL_pencil 9 = .ok (.ireturn, 1) := by decide +kernel
theorem dL_pencil_10 : decode cL_pencil 10 = .ok (.astore 5, 2) := by decide +kernel
theorem dL_pencil_12 : decode cL_pencil 12 = .ok (.bipush (-101), 2) := by decide +kernel
theorem dL_pencil_14 : decode cL_pencil 14 = .ok (.ireturn, 1) := by decide +kernel
theorem dL_pencil_15 : decode cL_pencil 15 = .ok (.astore 5, 2) := by decide +kernel
theorem dL_pencil_17 : decode cL_pencil 17 = .ok (.bipush (-102), 2) := by decide +kernel
theorem dL_pencil_19 : decode cL_pencil 19 = .ok (.ireturn, 1) := by decide +kernel
theorem dL_pencil_20 : decode cL_pencil 20 = .ok (.astore 5, 2) := by decide +kernel
theorem dL_pencil_22 : decode cL_pencil 22 = .ok (.bipush (-103), 2) := by decide +kernel
theorem dL_pencil_24 : decode cL_pencil 24 = .ok (.ireturn, 1) := by decide +kernel
theorem qL1023 : Cond.methodLink RL 59 (zy 116) ∈ zGT := zGT_of (l := [Cond.methodLink RL 59 (zy 116)]) (r := [1023]) (by decide +kernel) _ List.mem_cons_self
theorem qL1022 : Cond.codeWith yL_pencil cL_pencil 6 (some .int) [(0, 9, 10, 15), (0, 9, 15, 17), (0, 9, 20, 19)] ∈ zGT := zGT_of (l := [Cond.codeWith yL_pencil cL_pencil 6 (some .int) [(0, 9, 10, 15), (0, 9, 15, 17), (0, 9, 20, 19)]]) (r := [1022]) (by decide +kernel) _ List.mem_cons_self
theorem st_pencil {l : Launch} (hl : l.stackTraces = false) {b : Nat} {ro : Nat → Nat} {cA : Nat → ClassId} {D : va_G} {m m1 : zM} (hm : zwf m) (h11 : (m.1 0).1 = 11) {x1 x2 x3 x4 x : Int32} (h : wstub 11 [x1, x2, x3, x4] m = some (x, m1)) : stM l b ro cA D yL_pencil (Cond.codeWith yL_pencil cL_pencil 6 (some .int) [(0, 9, 10, 15), (0, 9, 15, 17), (0, 9, 20, 19)]) m m1 (.ref 0 :: wvals [x1, x2, x3, x4]) x := by
  obtain ⟨hcnt, hq⟩ := wstub_cs h
  clear h
  refine st_of (by decide) rfl [.ref (b + 0), .int x1, .int x2, .int x3, .int x4] rfl (Nat.le_of_ble_eq_true rfl) ?_
  intro p e s mid below meth c ls hx hb hml hown hts hG hN hr hlocks hT hP hl0
  have hS : va_S (zA b) s.heap s.heap [] := va_S.rf
  refine lv_aload_n hx hb dL_pencil_0 rfl (lv_at hl0 0 rfl) ?_
  refine lv_iload_n hx hb dL_pencil_1 rfl (lv_at hl0 1 rfl) ?_
  refine lv_iload_n hx hb dL_pencil_2 rfl (lv_at hl0 2 rfl) ?_
  refine lv_iload_n hx hb dL_pencil_3 rfl (lv_at hl0 3 rfl) ?_
  refine lv_iload hx hb dL_pencil_4 (lv_at hl0 4 rfl) ?_
  rcases hq with ⟨v, h, hv⟩ | ⟨ex, h, hi, rfl⟩
  · have h : zGo false 116 0 (zent 116 [.ref 0, .int x1, .int x2, .int x3, .int x4]) [] m = some (.inl (some v), m1) := h
    refine zcall_ret (st_run (m := m) (t := [.int x4, .int x3, .int x2, .int x1]) (o := 0) (rest := []) (z := 116) hx hb hml hown hts hG hm hP hS hl0.1 (st_met0 (y := 116) hl hm (by decide) rfl (Nat.le_of_ble_eq_true rfl) hcnt h) (by decide) ⟨Nat.le_of_ble_eq_true rfl, Nat.le_of_ble_eq_true rfl⟩ qL1023 rfl h11 (by decide) rfl (Nat.le_of_ble_eq_true rfl) dL_pencil_6 ⟨Nat.le_of_ble_eq_true rfl, Nat.le_of_ble_eq_true rfl⟩) hS (fun H1 locs1 hP1 hS1 _ => ?_)
    cases v with
    | int v =>
      have hv2 : some v = some x := hv
      cases hv2
      exact st_fin hx hb hr hlocks dL_pencil_9 hP1 hS1 (Nat.le_of_ble_eq_true rfl) (Nat.le_of_ble_eq_true rfl)
    | _ => cases hv
  · have hi : ex ∈ ([0, 1, 2] : List Nat) := hi
    have h : zGo false 116 0 (zent 116 [.ref 0, .int x1, .int x2, .int x3, .int x4]) [] m = some (.inr ex, m1) := h
    simp only [List.mem_cons, List.not_mem_nil, or_false] at hi
    rcases hi with rfl | rfl | rfl
    · refine st_catch (k := 0) (hh := [(0, 9, 10, 15), (0, 9, 15, 17), (0, 9, 20, 19)]) (st_run (m := m) (t := [.int x4, .int x3, .int x2, .int x1]) (o := 0) (rest := []) (z := 116) hx hb hml hown hts hG hm hP hS hl0.1 (st_met1 (y := 116) hl hm (by decide) rfl (Nat.le_of_ble_eq_true rfl) hcnt h) (by decide) ⟨Nat.le_of_ble_eq_true rfl, Nat.le_of_ble_eq_true rfl⟩ qL1023 rfl h11 (by decide) rfl (Nat.le_of_ble_eq_true rfl) dL_pencil_6 ⟨Nat.le_of_ble_eq_true rfl, Nat.le_of_ble_eq_true rfl⟩) hS hown hts hG hN hT (by decide) rfl rfl (by decide) (fun H1 locs1 q hP1 hS1 => ?_)
      refine lv_astore hx hb dL_pencil_10 hl0 (by decide) rfl (fun ls1 _ => ?_)
      refine lv_bipush (v := wcode 0) hx hb dL_pencil_12 (by decide) ?_
      exact st_fin hx hb hr hlocks dL_pencil_14 hP1 hS1 (Nat.le_of_ble_eq_true rfl) (Nat.le_of_ble_eq_true rfl)
    · refine st_catch (k := 1) (hh := [(0, 9, 10, 15), (0, 9, 15, 17), (0, 9, 20, 19)]) (st_run (m := m) (t := [.int x4, .int x3, .int x2, .int x1]) (o := 0) (rest := []) (z := 116) hx hb hml hown hts hG hm hP hS hl0.1 (st_met1 (y := 116) hl hm (by decide) rfl (Nat.le_of_ble_eq_true rfl) hcnt h) (by decide) ⟨Nat.le_of_ble_eq_true rfl, Nat.le_of_ble_eq_true rfl⟩ qL1023 rfl h11 (by decide) rfl (Nat.le_of_ble_eq_true rfl) dL_pencil_6 ⟨Nat.le_of_ble_eq_true rfl, Nat.le_of_ble_eq_true rfl⟩) hS hown hts hG hN hT (by decide) rfl rfl (by decide) (fun H1 locs1 q hP1 hS1 => ?_)
      refine lv_astore hx hb dL_pencil_15 hl0 (by decide) rfl (fun ls1 _ => ?_)
      refine lv_bipush (v := wcode 1) hx hb dL_pencil_17 (by decide) ?_
      exact st_fin hx hb hr hlocks dL_pencil_19 hP1 hS1 (Nat.le_of_ble_eq_true rfl) (Nat.le_of_ble_eq_true rfl)
    · refine st_catch (k := 2) (hh := [(0, 9, 10, 15), (0, 9, 15, 17), (0, 9, 20, 19)]) (st_run (m := m) (t := [.int x4, .int x3, .int x2, .int x1]) (o := 0) (rest := []) (z := 116) hx hb hml hown hts hG hm hP hS hl0.1 (st_met1 (y := 116) hl hm (by decide) rfl (Nat.le_of_ble_eq_true rfl) hcnt h) (by decide) ⟨Nat.le_of_ble_eq_true rfl, Nat.le_of_ble_eq_true rfl⟩ qL1023 rfl h11 (by decide) rfl (Nat.le_of_ble_eq_true rfl) dL_pencil_6 ⟨Nat.le_of_ble_eq_true rfl, Nat.le_of_ble_eq_true rfl⟩) hS hown hts hG hN hT (by decide) rfl rfl (by decide) (fun H1 locs1 q hP1 hS1 => ?_)
      refine lv_astore hx hb dL_pencil_20 hl0 (by decide) rfl (fun ls1 _ => ?_)
      refine lv_bipush (v := wcode 2) hx hb dL_pencil_22 (by decide) ?_
      exact st_fin hx hb hr hlocks dL_pencil_24 hP1 hS1 (Nat.le_of_ble_eq_true rfl) (Nat.le_of_ble_eq_true rfl)
theorem dL_holder_0 : decode cL_holder 0 = .ok (.aload_n 0, 1) := by decide +kernel
theorem dL_holder_1 : decode cL_holder 1 = .ok (.iload_n 1, 1) := by decide +kernel
theorem dL_holder_2 : decode cL_holder 2 = .ok (.invokevirtual 62, 3) := by decide +kernel
theorem dL_holder_5 : decode cL_holder 5 = .ok (.ireturn, 1) := by decide +kernel
theorem dL_holder_6 : decode cL_holder 6 = .ok (.astore_n 2, 1) := by decide +kernel
theorem dL_holder_7 : decode cL_holder 7 = .ok (.bipush (-101), 2) := by decide +kernel
theorem dL_holder_9 : decode cL_holder 9 = .ok (.ireturn, 1) := by decide +kernel
theorem qL1049 : Cond.methodLink RL 62 (zy 117) ∈ zGT := zGT_of (l := [Cond.methodLink RL 62 (zy 117)]) (r := [1049]) (by decide +kernel) _ List.mem_cons_self
theorem qL1048 : Cond.codeWith yL_holder cL_holder 3 (some .int) [(0, 5, 6, 15)] ∈ zGT := zGT_of (l := [Cond.codeWith yL_holder cL_holder 3 (some .int) [(0, 5, 6, 15)]]) (r := [1048]) (by decide +kernel) _ List.mem_cons_self
theorem st_holder {l : Launch} (hl : l.stackTraces = false) {b : Nat} {ro : Nat → Nat} {cA : Nat → ClassId} {D : va_G} {m m1 : zM} (hm : zwf m) (h11 : (m.1 0).1 = 11) {x1 x : Int32} (h : wstub 12 [x1] m = some (x, m1)) : stM l b ro cA D yL_holder (Cond.codeWith yL_holder cL_holder 3 (some .int) [(0, 5, 6, 15)]) m m1 (.ref 0 :: wvals [x1]) x := by
  obtain ⟨hcnt, hq⟩ := wstub_cs h
  clear h
  refine st_of (by decide) rfl [.ref (b + 0), .int x1] rfl (Nat.le_of_ble_eq_true rfl) ?_
  intro p e s mid below meth c ls hx hb hml hown hts hG hN hr hlocks hT hP hl0
  have hS : va_S (zA b) s.heap s.heap [] := va_S.rf
  refine lv_aload_n hx hb dL_holder_0 rfl (lv_at hl0 0 rfl) ?_
  refine lv_iload_n hx hb dL_holder_1 rfl (lv_at hl0 1 rfl) ?_
  rcases hq with ⟨v, h, hv⟩ | ⟨ex, h, hi, rfl⟩
  · have h : zGo false 117 0 (zent 117 [.ref 0, .int x1]) [] m = some (.inl (some v), m1) := h
    refine zcall_ret (st_run (m := m) (t := [.int x1]) (o := 0) (rest := []) (z := 117) hx hb hml hown hts hG hm hP hS hl0.1 (st_met0 (y := 117) hl hm (by decide) rfl (Nat.le_of_ble_eq_true rfl) hcnt h) (by decide) ⟨Nat.le_of_ble_eq_true rfl, Nat.le_of_ble_eq_true rfl⟩ qL1049 rfl h11 (by decide) rfl (Nat.le_of_ble_eq_true rfl) dL_holder_2 ⟨Nat.le_of_ble_eq_true rfl, Nat.le_of_ble_eq_true rfl⟩) hS (fun H1 locs1 hP1 hS1 _ => ?_)
    cases v with
    | int v =>
      have hv2 : some v = some x := hv
      cases hv2
      exact st_fin hx hb hr hlocks dL_holder_5 hP1 hS1 (Nat.le_of_ble_eq_true rfl) (Nat.le_of_ble_eq_true rfl)
    | _ => cases hv
  · have hi : ex ∈ ([0] : List Nat) := hi
    have h : zGo false 117 0 (zent 117 [.ref 0, .int x1]) [] m = some (.inr ex, m1) := h
    simp only [List.mem_cons, List.not_mem_nil, or_false] at hi
    subst hi
    · refine st_catch (k := 0) (hh := [(0, 5, 6, 15)]) (st_run (m := m) (t := [.int x1]) (o := 0) (rest := []) (z := 117) hx hb hml hown hts hG hm hP hS hl0.1 (st_met1 (y := 117) hl hm (by decide) rfl (Nat.le_of_ble_eq_true rfl) hcnt h) (by decide) ⟨Nat.le_of_ble_eq_true rfl, Nat.le_of_ble_eq_true rfl⟩ qL1049 rfl h11 (by decide) rfl (Nat.le_of_ble_eq_true rfl) dL_holder_2 ⟨Nat.le_of_ble_eq_true rfl, Nat.le_of_ble_eq_true rfl⟩) hS hown hts hG hN hT (by decide) rfl rfl (by decide) (fun H1 locs1 q hP1 hS1 => ?_)
      refine lv_astore_n hx hb dL_holder_6 rfl hl0 (by decide) rfl (fun ls1 _ => ?_)
      refine lv_bipush (v := wcode 0) hx hb dL_holder_7 (by decide) ?_
      exact st_fin hx hb hr hlocks dL_holder_9 hP1 hS1 (Nat.le_of_ble_eq_true rfl) (Nat.le_of_ble_eq_true rfl)
theorem dL_copyError_0 : decode cL_copyError 0 = .ok (.aload_n 0, 1) := by decide +kernel
theorem dL_copyError_1 : decode cL_copyError 1 = .ok (.iload_n 1, 1) := by decide +kernel
theorem dL_copyError_2 : decode cL_copyError 2 = .ok (.invokevirtual 65, 3) := by decide +kernel
theorem dL_copyError_5 : decode cL_copyError 5 = .ok (.ireturn, 1) := by decide +kernel
theorem dL_copyError_6 : decode cL_copyError 6 = .ok (.astore_n 2, 1) := by decide +kernel
theorem dL_copyError_7 : decode cL_copyError 7 = .ok (.bipush (-101), 2) := by decide +kernel
theorem dL_copyError_9 : decode cL_copyError 9 = .ok (.ireturn, 1) := by decide +kernel
theorem qL1242 : Cond.methodLink RL 65 (zy 118) ∈ zGT := zGT_of (l := [Cond.methodLink RL 65 (zy 118)]) (r := [1242]) (by decide +kernel) _ List.mem_cons_self
theorem qL1241 : Cond.codeWith yL_copyError cL_copyError 3 (some .int) [(0, 5, 6, 15)] ∈ zGT := zGT_of (l := [Cond.codeWith yL_copyError cL_copyError 3 (some .int) [(0, 5, 6, 15)]]) (r := [1241]) (by decide +kernel) _ List.mem_cons_self
theorem st_copyError {l : Launch} (hl : l.stackTraces = false) {b : Nat} {ro : Nat → Nat} {cA : Nat → ClassId} {D : va_G} {m m1 : zM} (hm : zwf m) (h11 : (m.1 0).1 = 11) {x1 x : Int32} (h : wstub 13 [x1] m = some (x, m1)) : stM l b ro cA D yL_copyError (Cond.codeWith yL_copyError cL_copyError 3 (some .int) [(0, 5, 6, 15)]) m m1 (.ref 0 :: wvals [x1]) x := by
  obtain ⟨hcnt, hq⟩ := wstub_cs h
  clear h
  refine st_of (by decide) rfl [.ref (b + 0), .int x1] rfl (Nat.le_of_ble_eq_true rfl) ?_
  intro p e s mid below meth c ls hx hb hml hown hts hG hN hr hlocks hT hP hl0
  have hS : va_S (zA b) s.heap s.heap [] := va_S.rf
  refine lv_aload_n hx hb dL_copyError_0 rfl (lv_at hl0 0 rfl) ?_
  refine lv_iload_n hx hb dL_copyError_1 rfl (lv_at hl0 1 rfl) ?_
  rcases hq with ⟨v, h, hv⟩ | ⟨ex, h, hi, rfl⟩
  · have h : zGo false 118 0 (zent 118 [.ref 0, .int x1]) [] m = some (.inl (some v), m1) := h
    refine zcall_ret (st_run (m := m) (t := [.int x1]) (o := 0) (rest := []) (z := 118) hx hb hml hown hts hG hm hP hS hl0.1 (st_met0 (y := 118) hl hm (by decide) rfl (Nat.le_of_ble_eq_true rfl) hcnt h) (by decide) ⟨Nat.le_of_ble_eq_true rfl, Nat.le_of_ble_eq_true rfl⟩ qL1242 rfl h11 (by decide) rfl (Nat.le_of_ble_eq_true rfl) dL_copyError_2 ⟨Nat.le_of_ble_eq_true rfl, Nat.le_of_ble_eq_true rfl⟩) hS (fun H1 locs1 hP1 hS1 _ => ?_)
    cases v with
    | int v =>
      have hv2 : some v = some x := hv
      cases hv2
      exact st_fin hx hb hr hlocks dL_copyError_5 hP1 hS1 (Nat.le_of_ble_eq_true rfl) (Nat.le_of_ble_eq_true rfl)
    | _ => cases hv
  · have hi : ex ∈ ([0] : List Nat) := hi
    have h : zGo false 118 0 (zent 118 [.ref 0, .int x1]) [] m = some (.inr ex, m1) := h
    simp only [List.mem_cons, List.not_mem_nil, or_false] at hi
    subst hi
    · refine st_catch (k := 0) (hh := [(0, 5, 6, 15)]) (st_run (m := m) (t := [.int x1]) (o := 0) (rest := []) (z := 118) hx hb hml hown hts hG hm hP hS hl0.1 (st_met1 (y := 118) hl hm (by decide) rfl (Nat.le_of_ble_eq_true rfl) hcnt h) (by decide) ⟨Nat.le_of_ble_eq_true rfl, Nat.le_of_ble_eq_true rfl⟩ qL1242 rfl h11 (by decide) rfl (Nat.le_of_ble_eq_true rfl) dL_copyError_2 ⟨Nat.le_of_ble_eq_true rfl, Nat.le_of_ble_eq_true rfl⟩) hS hown hts hG hN hT (by decide) rfl rfl (by decide) (fun H1 locs1 q hP1 hS1 => ?_)
      refine lv_astore_n hx hb dL_copyError_6 rfl hl0 (by decide) rfl (fun ls1 _ => ?_)
      refine lv_bipush (v := wcode 0) hx hb dL_copyError_7 (by decide) ?_
      exact st_fin hx hb hr hlocks dL_copyError_9 hP1 hS1 (Nat.le_of_ble_eq_true rfl) (Nat.le_of_ble_eq_true rfl)
theorem dL_copyPitch_0 : decode cL_copyPitch 0 = .ok (.aload_n 0, 1) := by decide +kernel
theorem dL_copyPitch_1 : decode cL_copyPitch 1 = .ok (.iload_n 1, 1) := by decide +kernel
theorem dL_copyPitch_2 : decode cL_copyPitch 2 = .ok (.iload_n 2, 1) := by decide +kernel
theorem dL_copyPitch_3 : decode cL_copyPitch 3 = .ok (.iload_n 3, 1) := by decide +kernel
theorem dL_copyPitch_4 : decode cL_copyPitch 4 = .ok (.invokevirtual 68, 3) := by decide +kernel
theorem dL_copyPitch_7 : decode cL_copyPitch 7 = .ok (.ireturn, 1) := by decide +kernel
theorem dL_copyPitch_8 : decode cL_copyPitch 8 = .ok (.astore 4, 2) := by decide +kernel
theorem dL_copyPitch_10 : decode cL_copyPitch 10 = .ok (.bipush (-101), 2) := by decide +kernel
theorem dL_copyPitch_12 : decode cL_copyPitch 12 = .ok (.ireturn, 1) := by decide +kernel
theorem qL1249 : Cond.methodLink RL 68 (zy 119) ∈ zGT := zGT_of (l := [Cond.methodLink RL 68 (zy 119)]) (r := [1249]) (by decide +kernel) _ List.mem_cons_self
theorem qL1248 : Cond.codeWith yL_copyPitch cL_copyPitch 5 (some .int) [(0, 7, 8, 15)] ∈ zGT := zGT_of (l := [Cond.codeWith yL_copyPitch cL_copyPitch 5 (some .int) [(0, 7, 8, 15)]]) (r := [1248]) (by decide +kernel) _ List.mem_cons_self
theorem st_copyPitch {l : Launch} (hl : l.stackTraces = false) {b : Nat} {ro : Nat → Nat} {cA : Nat → ClassId} {D : va_G} {m m1 : zM} (hm : zwf m) (h11 : (m.1 0).1 = 11) {x1 x2 x3 x : Int32} (h : wstub 14 [x1, x2, x3] m = some (x, m1)) : stM l b ro cA D yL_copyPitch (Cond.codeWith yL_copyPitch cL_copyPitch 5 (some .int) [(0, 7, 8, 15)]) m m1 (.ref 0 :: wvals [x1, x2, x3]) x := by
  obtain ⟨hcnt, hq⟩ := wstub_cs h
  clear h
  refine st_of (by decide) rfl [.ref (b + 0), .int x1, .int x2, .int x3] rfl (Nat.le_of_ble_eq_true rfl) ?_
  intro p e s mid below meth c ls hx hb hml hown hts hG hN hr hlocks hT hP hl0
  have hS : va_S (zA b) s.heap s.heap [] := va_S.rf
  refine lv_aload_n hx hb dL_copyPitch_0 rfl (lv_at hl0 0 rfl) ?_
  refine lv_iload_n hx hb dL_copyPitch_1 rfl (lv_at hl0 1 rfl) ?_
  refine lv_iload_n hx hb dL_copyPitch_2 rfl (lv_at hl0 2 rfl) ?_
  refine lv_iload_n hx hb dL_copyPitch_3 rfl (lv_at hl0 3 rfl) ?_
  rcases hq with ⟨v, h, hv⟩ | ⟨ex, h, hi, rfl⟩
  · have h : zGo false 119 0 (zent 119 [.ref 0, .int x1, .int x2, .int x3]) [] m = some (.inl (some v), m1) := h
    refine zcall_ret (st_run (m := m) (t := [.int x3, .int x2, .int x1]) (o := 0) (rest := []) (z := 119) hx hb hml hown hts hG hm hP hS hl0.1 (st_met0 (y := 119) hl hm (by decide) rfl (Nat.le_of_ble_eq_true rfl) hcnt h) (by decide) ⟨Nat.le_of_ble_eq_true rfl, Nat.le_of_ble_eq_true rfl⟩ qL1249 rfl h11 (by decide) rfl (Nat.le_of_ble_eq_true rfl) dL_copyPitch_4 ⟨Nat.le_of_ble_eq_true rfl, Nat.le_of_ble_eq_true rfl⟩) hS (fun H1 locs1 hP1 hS1 _ => ?_)
    cases v with
    | int v =>
      have hv2 : some v = some x := hv
      cases hv2
      exact st_fin hx hb hr hlocks dL_copyPitch_7 hP1 hS1 (Nat.le_of_ble_eq_true rfl) (Nat.le_of_ble_eq_true rfl)
    | _ => cases hv
  · have hi : ex ∈ ([0] : List Nat) := hi
    have h : zGo false 119 0 (zent 119 [.ref 0, .int x1, .int x2, .int x3]) [] m = some (.inr ex, m1) := h
    simp only [List.mem_cons, List.not_mem_nil, or_false] at hi
    subst hi
    · refine st_catch (k := 0) (hh := [(0, 7, 8, 15)]) (st_run (m := m) (t := [.int x3, .int x2, .int x1]) (o := 0) (rest := []) (z := 119) hx hb hml hown hts hG hm hP hS hl0.1 (st_met1 (y := 119) hl hm (by decide) rfl (Nat.le_of_ble_eq_true rfl) hcnt h) (by decide) ⟨Nat.le_of_ble_eq_true rfl, Nat.le_of_ble_eq_true rfl⟩ qL1249 rfl h11 (by decide) rfl (Nat.le_of_ble_eq_true rfl) dL_copyPitch_4 ⟨Nat.le_of_ble_eq_true rfl, Nat.le_of_ble_eq_true rfl⟩) hS hown hts hG hN hT (by decide) rfl rfl (by decide) (fun H1 locs1 q hP1 hS1 => ?_)
      refine lv_astore hx hb dL_copyPitch_8 hl0 (by decide) rfl (fun ls1 _ => ?_)
      refine lv_bipush (v := wcode 0) hx hb dL_copyPitch_10 (by decide) ?_
      exact st_fin hx hb hr hlocks dL_copyPitch_12 hP1 hS1 (Nat.le_of_ble_eq_true rfl) (Nat.le_of_ble_eq_true rfl)
theorem dL_copyAnew_0 : decode cL_copyAnew 0 = .ok (.aload_n 0, 1) := by decide +kernel
theorem dL_copyAnew_1 : decode cL_copyAnew 1 = .ok (.iload_n 1, 1) := by decide +kernel
theorem dL_copyAnew_2 : decode cL_copyAnew 2 = .ok (.iload_n 2, 1) := by decide +kernel
theorem dL_copyAnew_3 : decode cL_copyAnew 3 = .ok (.iload_n 3, 1) := by decide +kernel
theorem dL_copyAnew_4 : decode cL_copyAnew 4 = .ok (.invokevirtual 71, 3) := by decide +kernel
theorem dL_copyAnew_7 : decode cL_copyAnew 7 = .ok (.ireturn, 1) := by decide +kernel
theorem dL_copyAnew_8 : decode cL_copyAnew 8 = .ok (.astore 4, 2) := by decide +kernel
theorem dL_copyAnew_10 : decode cL_copyAnew 10 = .ok (.bipush (-101), 2) := by decide +kernel
theorem dL_copyAnew_12 : decode cL_copyAnew 12 = .ok (.ireturn, 1) := by decide +kernel
theorem qL1264 : Cond.methodLink RL 71 (zy 120) ∈ zGT := zGT_of (l := [Cond.methodLink RL 71 (zy 120)]) (r := [1264]) (by decide +kernel) _ List.mem_cons_self
theorem qL1263 : Cond.codeWith yL_copyAnew cL_copyAnew 5 (some .int) [(0, 7, 8, 15)] ∈ zGT := zGT_of (l := [Cond.codeWith yL_copyAnew cL_copyAnew 5 (some .int) [(0, 7, 8, 15)]]) (r := [1263]) (by decide +kernel) _ List.mem_cons_self
theorem st_copyAnew {l : Launch} (hl : l.stackTraces = false) {b : Nat} {ro : Nat → Nat} {cA : Nat → ClassId} {D : va_G} {m m1 : zM} (hm : zwf m) (h11 : (m.1 0).1 = 11) {x1 x2 x3 x : Int32} (h : wstub 15 [x1, x2, x3] m = some (x, m1)) : stM l b ro cA D yL_copyAnew (Cond.codeWith yL_copyAnew cL_copyAnew 5 (some .int) [(0, 7, 8, 15)]) m m1 (.ref 0 :: wvals [x1, x2, x3]) x := by
  obtain ⟨hcnt, hq⟩ := wstub_cs h
  clear h
  refine st_of (by decide) rfl [.ref (b + 0), .int x1, .int x2, .int x3] rfl (Nat.le_of_ble_eq_true rfl) ?_
  intro p e s mid below meth c ls hx hb hml hown hts hG hN hr hlocks hT hP hl0
  have hS : va_S (zA b) s.heap s.heap [] := va_S.rf
  refine lv_aload_n hx hb dL_copyAnew_0 rfl (lv_at hl0 0 rfl) ?_
  refine lv_iload_n hx hb dL_copyAnew_1 rfl (lv_at hl0 1 rfl) ?_
  refine lv_iload_n hx hb dL_copyAnew_2 rfl (lv_at hl0 2 rfl) ?_
  refine lv_iload_n hx hb dL_copyAnew_3 rfl (lv_at hl0 3 rfl) ?_
  rcases hq with ⟨v, h, hv⟩ | ⟨ex, h, hi, rfl⟩
  · have h : zGo false 120 0 (zent 120 [.ref 0, .int x1, .int x2, .int x3]) [] m = some (.inl (some v), m1) := h
    refine zcall_ret (st_run (m := m) (t := [.int x3, .int x2, .int x1]) (o := 0) (rest := []) (z := 120) hx hb hml hown hts hG hm hP hS hl0.1 (st_met0 (y := 120) hl hm (by decide) rfl (Nat.le_of_ble_eq_true rfl) hcnt h) (by decide) ⟨Nat.le_of_ble_eq_true rfl, Nat.le_of_ble_eq_true rfl⟩ qL1264 rfl h11 (by decide) rfl (Nat.le_of_ble_eq_true rfl) dL_copyAnew_4 ⟨Nat.le_of_ble_eq_true rfl, Nat.le_of_ble_eq_true rfl⟩) hS (fun H1 locs1 hP1 hS1 _ => ?_)
    cases v with
    | int v =>
      have hv2 : some v = some x := hv
      cases hv2
      exact st_fin hx hb hr hlocks dL_copyAnew_7 hP1 hS1 (Nat.le_of_ble_eq_true rfl) (Nat.le_of_ble_eq_true rfl)
    | _ => cases hv
  · have hi : ex ∈ ([0] : List Nat) := hi
    have h : zGo false 120 0 (zent 120 [.ref 0, .int x1, .int x2, .int x3]) [] m = some (.inr ex, m1) := h
    simp only [List.mem_cons, List.not_mem_nil, or_false] at hi
    subst hi
    · refine st_catch (k := 0) (hh := [(0, 7, 8, 15)]) (st_run (m := m) (t := [.int x3, .int x2, .int x1]) (o := 0) (rest := []) (z := 120) hx hb hml hown hts hG hm hP hS hl0.1 (st_met1 (y := 120) hl hm (by decide) rfl (Nat.le_of_ble_eq_true rfl) hcnt h) (by decide) ⟨Nat.le_of_ble_eq_true rfl, Nat.le_of_ble_eq_true rfl⟩ qL1264 rfl h11 (by decide) rfl (Nat.le_of_ble_eq_true rfl) dL_copyAnew_4 ⟨Nat.le_of_ble_eq_true rfl, Nat.le_of_ble_eq_true rfl⟩) hS hown hts hG hN hT (by decide) rfl rfl (by decide) (fun H1 locs1 q hP1 hS1 => ?_)
      refine lv_astore hx hb dL_copyAnew_8 hl0 (by decide) rfl (fun ls1 _ => ?_)
      refine lv_bipush (v := wcode 0) hx hb dL_copyAnew_10 (by decide) ?_
      exact st_fin hx hb hr hlocks dL_copyAnew_12 hP1 hS1 (Nat.le_of_ble_eq_true rfl) (Nat.le_of_ble_eq_true rfl)
theorem dL_begins_0 : decode cL_begins 0 = .ok (.aload_n 0, 1) := by decide +kernel
theorem dL_begins_1 : decode cL_begins 1 = .ok (.iload_n 1, 1) := by decide +kernel
theorem dL_begins_2 : decode cL_begins 2 = .ok (.iload_n 2, 1) := by decide +kernel
theorem dL_begins_3 : decode cL_begins 3 = .ok (.iload_n 3, 1) := by decide +kernel
theorem dL_begins_4 : decode cL_begins 4 = .ok (.invokevirtual 74, 3) := by decide +kernel
theorem dL_begins_7 : decode cL_begins 7 = .ok (.ifCond .eq 7, 3) := by decide +kernel
theorem dL_begins_10 : decode cL_begins 10 = .ok (.iconst 1, 1) := by decide +kernel
theorem dL_begins_11 : decode cL_begins 11 = .ok (.goto 4, 3) := by decide +kernel
theorem dL_begins_14 : decode cL_begins 14 = .ok (.iconst 0, 1) := by decide +kernel
theorem dL_begins_15 : decode cL_begins 15 = .ok (.ireturn, 1) := by decide +kernel
theorem dL_begins_16 : decode cL_begins 16 = .ok (.astore 4, 2) := by decide +kernel
theorem dL_begins_18 : decode cL_begins 18 = .ok (.bipush (-101), 2) := by decide +kernel
theorem dL_begins_20 : decode cL_begins 20 = .ok (.ireturn, 1) := by decide +kernel
theorem qL1256 : Cond.methodLink RL 74 (zy 121) ∈ zGT := zGT_of (l := [Cond.methodLink RL 74 (zy 121)]) (r := [1256]) (by decide +kernel) _ List.mem_cons_self
theorem qL1255 : Cond.codeWith yL_begins cL_begins 5 (some .int) [(0, 15, 16, 15)] ∈ zGT := zGT_of (l := [Cond.codeWith yL_begins cL_begins 5 (some .int) [(0, 15, 16, 15)]]) (r := [1255]) (by decide +kernel) _ List.mem_cons_self
theorem st_begins {l : Launch} (hl : l.stackTraces = false) {b : Nat} {ro : Nat → Nat} {cA : Nat → ClassId} {D : va_G} {m m1 : zM} (hm : zwf m) (h11 : (m.1 0).1 = 11) {x1 x2 x3 x : Int32} (h : wstub 16 [x1, x2, x3] m = some (x, m1)) : stM l b ro cA D yL_begins (Cond.codeWith yL_begins cL_begins 5 (some .int) [(0, 15, 16, 15)]) m m1 (.ref 0 :: wvals [x1, x2, x3]) x := by
  obtain ⟨hcnt, hq⟩ := wstub_cs h
  clear h
  refine st_of (by decide) rfl [.ref (b + 0), .int x1, .int x2, .int x3] rfl (Nat.le_of_ble_eq_true rfl) ?_
  intro p e s mid below meth c ls hx hb hml hown hts hG hN hr hlocks hT hP hl0
  have hS : va_S (zA b) s.heap s.heap [] := va_S.rf
  refine lv_aload_n hx hb dL_begins_0 rfl (lv_at hl0 0 rfl) ?_
  refine lv_iload_n hx hb dL_begins_1 rfl (lv_at hl0 1 rfl) ?_
  refine lv_iload_n hx hb dL_begins_2 rfl (lv_at hl0 2 rfl) ?_
  refine lv_iload_n hx hb dL_begins_3 rfl (lv_at hl0 3 rfl) ?_
  rcases hq with ⟨v, h, hv⟩ | ⟨ex, h, hi, rfl⟩
  · have h : zGo false 121 0 (zent 121 [.ref 0, .int x1, .int x2, .int x3]) [] m = some (.inl (some v), m1) := h
    refine zcall_ret (st_run (m := m) (t := [.int x3, .int x2, .int x1]) (o := 0) (rest := []) (z := 121) hx hb hml hown hts hG hm hP hS hl0.1 (st_met0 (y := 121) hl hm (by decide) rfl (Nat.le_of_ble_eq_true rfl) hcnt h) (by decide) ⟨Nat.le_of_ble_eq_true rfl, Nat.le_of_ble_eq_true rfl⟩ qL1256 rfl h11 (by decide) rfl (Nat.le_of_ble_eq_true rfl) dL_begins_4 ⟨Nat.le_of_ble_eq_true rfl, Nat.le_of_ble_eq_true rfl⟩) hS (fun H1 locs1 hP1 hS1 _ => ?_)
    cases v with
    | int v =>
      refine lv_if_eq (tgt := 14) hx hb dL_begins_7 (by decide) (fun hq => ?_) (fun hq => ?_)
      · have hv2 : (if v = 0 then some (0 : Int32) else some 1) = some x := hv
        rw [if_pos hq] at hv2
        cases hv2
        refine lv_iconst (v := 0) hx hb dL_begins_14 (by decide) ?_
        exact st_fin hx hb hr hlocks dL_begins_15 hP1 hS1 (Nat.le_of_ble_eq_true rfl) (Nat.le_of_ble_eq_true rfl)
      · have hv2 : (if v = 0 then some (0 : Int32) else some 1) = some x := hv
        rw [if_neg hq] at hv2
        cases hv2
        refine lv_iconst (v := 1) hx hb dL_begins_10 (by decide) ?_
        refine lv_goto (tgt := 15) hx hb dL_begins_11 (by decide) ?_
        exact st_fin hx hb hr hlocks dL_begins_15 hP1 hS1 (Nat.le_of_ble_eq_true rfl) (Nat.le_of_ble_eq_true rfl)
    | _ => cases hv
  · have hi : ex ∈ ([0] : List Nat) := hi
    have h : zGo false 121 0 (zent 121 [.ref 0, .int x1, .int x2, .int x3]) [] m = some (.inr ex, m1) := h
    simp only [List.mem_cons, List.not_mem_nil, or_false] at hi
    subst hi
    · refine st_catch (k := 0) (hh := [(0, 15, 16, 15)]) (st_run (m := m) (t := [.int x3, .int x2, .int x1]) (o := 0) (rest := []) (z := 121) hx hb hml hown hts hG hm hP hS hl0.1 (st_met1 (y := 121) hl hm (by decide) rfl (Nat.le_of_ble_eq_true rfl) hcnt h) (by decide) ⟨Nat.le_of_ble_eq_true rfl, Nat.le_of_ble_eq_true rfl⟩ qL1256 rfl h11 (by decide) rfl (Nat.le_of_ble_eq_true rfl) dL_begins_4 ⟨Nat.le_of_ble_eq_true rfl, Nat.le_of_ble_eq_true rfl⟩) hS hown hts hG hN hT (by decide) rfl rfl (by decide) (fun H1 locs1 q hP1 hS1 => ?_)
      refine lv_astore hx hb dL_begins_16 hl0 (by decide) rfl (fun ls1 _ => ?_)
      refine lv_bipush (v := wcode 0) hx hb dL_begins_18 (by decide) ?_
      exact st_fin hx hb hr hlocks dL_begins_20 hP1 hS1 (Nat.le_of_ble_eq_true rfl) (Nat.le_of_ble_eq_true rfl)
theorem dL_differ_0 : decode cL_differ 0 = .ok (.aload_n 0, 1) := by decide +kernel
theorem dL_differ_1 : decode cL_differ 1 = .ok (.iload_n 1, 1) := by decide +kernel
theorem dL_differ_2 : decode cL_differ 2 = .ok (.iload_n 2, 1) := by decide +kernel
theorem dL_differ_3 : decode cL_differ 3 = .ok (.invokevirtual 78, 3) := by decide +kernel
theorem dL_differ_6 : decode cL_differ 6 = .ok (.ireturn, 1) := by decide +kernel
theorem dL_differ_7 : decode cL_differ 7 = .ok (.astore_n 3, 1) := by decide +kernel
theorem dL_differ_8 : decode cL_differ 8 = .ok (.bipush (-101), 2) := by decide +kernel
theorem dL_differ_10 : decode cL_differ 10 = .ok (.ireturn, 1) := by decide +kernel
theorem dL_differ_11 : decode cL_differ 11 = .ok (.astore_n 3, 1) := by decide +kernel
theorem dL_differ_12 : decode cL_differ 12 = .ok (.bipush (-102), 2) := by decide +kernel
theorem dL_differ_14 : decode cL_differ 14 = .ok (.ireturn, 1) := by decide +kernel
theorem dL_differ_15 : decode cL_differ 15 = .ok (.astore_n 3, 1) := by decide +kernel
theorem dL_differ_16 : decode cL_differ 16 = .ok (.bipush (-103), 2) := by decide +kernel
theorem dL_differ_18 : decode cL_differ 18 = .ok (.ireturn, 1) := by decide +kernel
theorem qL1056 : Cond.methodLink RL 78 (zy 122) ∈ zGT := zGT_of (l := [Cond.methodLink RL 78 (zy 122)]) (r := [1056]) (by decide +kernel) _ List.mem_cons_self
theorem qL1055 : Cond.codeWith yL_differ cL_differ 4 (some .int) [(0, 6, 7, 15), (0, 6, 11, 17), (0, 6, 15, 19)] ∈ zGT := zGT_of (l := [Cond.codeWith yL_differ cL_differ 4 (some .int) [(0, 6, 7, 15), (0, 6, 11, 17), (0, 6, 15, 19)]]) (r := [1055]) (by decide +kernel) _ List.mem_cons_self
theorem st_differ {l : Launch} (hl : l.stackTraces = false) {b : Nat} {ro : Nat → Nat} {cA : Nat → ClassId} {D : va_G} {m m1 : zM} (hm : zwf m) (h11 : (m.1 0).1 = 11) {x1 x2 x : Int32} (h : wstub 17 [x1, x2] m = some (x, m1)) : stM l b ro cA D yL_differ (Cond.codeWith yL_differ cL_differ 4 (some .int) [(0, 6, 7, 15), (0, 6, 11, 17), (0, 6, 15, 19)]) m m1 (.ref 0 :: wvals [x1, x2]) x := by
  obtain ⟨hcnt, hq⟩ := wstub_cs h
  clear h
  refine st_of (by decide) rfl [.ref (b + 0), .int x1, .int x2] rfl (Nat.le_of_ble_eq_true rfl) ?_
  intro p e s mid below meth c ls hx hb hml hown hts hG hN hr hlocks hT hP hl0
  have hS : va_S (zA b) s.heap s.heap [] := va_S.rf
  refine lv_aload_n hx hb dL_differ_0 rfl (lv_at hl0 0 rfl) ?_
  refine lv_iload_n hx hb dL_differ_1 rfl (lv_at hl0 1 rfl) ?_
  refine lv_iload_n hx hb dL_differ_2 rfl (lv_at hl0 2 rfl) ?_
  rcases hq with ⟨v, h, hv⟩ | ⟨ex, h, hi, rfl⟩
  · have h : zGo false 122 0 (zent 122 [.ref 0, .int x1, .int x2]) [] m = some (.inl (some v), m1) := h
    refine zcall_ret (st_run (m := m) (t := [.int x2, .int x1]) (o := 0) (rest := []) (z := 122) hx hb hml hown hts hG hm hP hS hl0.1 (st_met0 (y := 122) hl hm (by decide) rfl (Nat.le_of_ble_eq_true rfl) hcnt h) (by decide) ⟨Nat.le_of_ble_eq_true rfl, Nat.le_of_ble_eq_true rfl⟩ qL1056 rfl h11 (by decide) rfl (Nat.le_of_ble_eq_true rfl) dL_differ_3 ⟨Nat.le_of_ble_eq_true rfl, Nat.le_of_ble_eq_true rfl⟩) hS (fun H1 locs1 hP1 hS1 _ => ?_)
    cases v with
    | int v =>
      have hv2 : some v = some x := hv
      cases hv2
      exact st_fin hx hb hr hlocks dL_differ_6 hP1 hS1 (Nat.le_of_ble_eq_true rfl) (Nat.le_of_ble_eq_true rfl)
    | _ => cases hv
  · have hi : ex ∈ ([0, 1, 2] : List Nat) := hi
    have h : zGo false 122 0 (zent 122 [.ref 0, .int x1, .int x2]) [] m = some (.inr ex, m1) := h
    simp only [List.mem_cons, List.not_mem_nil, or_false] at hi
    rcases hi with rfl | rfl | rfl
    · refine st_catch (k := 0) (hh := [(0, 6, 7, 15), (0, 6, 11, 17), (0, 6, 15, 19)]) (st_run (m := m) (t := [.int x2, .int x1]) (o := 0) (rest := []) (z := 122) hx hb hml hown hts hG hm hP hS hl0.1 (st_met1 (y := 122) hl hm (by decide) rfl (Nat.le_of_ble_eq_true rfl) hcnt h) (by decide) ⟨Nat.le_of_ble_eq_true rfl, Nat.le_of_ble_eq_true rfl⟩ qL1056 rfl h11 (by decide) rfl (Nat.le_of_ble_eq_true rfl) dL_differ_3 ⟨Nat.le_of_ble_eq_true rfl, Nat.le_of_ble_eq_true rfl⟩) hS hown hts hG hN hT (by decide) rfl rfl (by decide) (fun H1 locs1 q hP1 hS1 => ?_)
      refine lv_astore_n hx hb dL_differ_7 rfl hl0 (by decide) rfl (fun ls1 _ => ?_)
      refine lv_bipush (v := wcode 0) hx hb dL_differ_8 (by decide) ?_
      exact st_fin hx hb hr hlocks dL_differ_10 hP1 hS1 (Nat.le_of_ble_eq_true rfl) (Nat.le_of_ble_eq_true rfl)
    · refine st_catch (k := 1) (hh := [(0, 6, 7, 15), (0, 6, 11, 17), (0, 6, 15, 19)]) (st_run (m := m) (t := [.int x2, .int x1]) (o := 0) (rest := []) (z := 122) hx hb hml hown hts hG hm hP hS hl0.1 (st_met1 (y := 122) hl hm (by decide) rfl (Nat.le_of_ble_eq_true rfl) hcnt h) (by decide) ⟨Nat.le_of_ble_eq_true rfl, Nat.le_of_ble_eq_true rfl⟩ qL1056 rfl h11 (by decide) rfl (Nat.le_of_ble_eq_true rfl) dL_differ_3 ⟨Nat.le_of_ble_eq_true rfl, Nat.le_of_ble_eq_true rfl⟩) hS hown hts hG hN hT (by decide) rfl rfl (by decide) (fun H1 locs1 q hP1 hS1 => ?_)
      refine lv_astore_n hx hb dL_differ_11 rfl hl0 (by decide) rfl (fun ls1 _ => ?_)
      refine lv_bipush (v := wcode 1) hx hb dL_differ_12 (by decide) ?_
      exact st_fin hx hb hr hlocks dL_differ_14 hP1 hS1 (Nat.le_of_ble_eq_true rfl) (Nat.le_of_ble_eq_true rfl)
    · refine st_catch (k := 2) (hh := [(0, 6, 7, 15), (0, 6, 11, 17), (0, 6, 15, 19)]) (st_run (m := m) (t := [.int x2, .int x1]) (o := 0) (rest := []) (z := 122) hx hb hml hown hts hG hm hP hS hl0.1 (st_met1 (y := 122) hl hm (by decide) rfl (Nat.le_of_ble_eq_true rfl) hcnt h) (by decide) ⟨Nat.le_of_ble_eq_true rfl, Nat.le_of_ble_eq_true rfl⟩ qL1056 rfl h11 (by decide) rfl (Nat.le_of_ble_eq_true rfl) dL_differ_3 ⟨Nat.le_of_ble_eq_true rfl, Nat.le_of_ble_eq_true rfl⟩) hS hown hts hG hN hT (by decide) rfl rfl (by decide) (fun H1 locs1 q hP1 hS1 => ?_)
      refine lv_astore_n hx hb dL_differ_15 rfl hl0 (by decide) rfl (fun ls1 _ => ?_)
      refine lv_bipush (v := wcode 2) hx hb dL_differ_16 (by decide) ?_
      exact st_fin hx hb hr hlocks dL_differ_18 hP1 hS1 (Nat.le_of_ble_eq_true rfl) (Nat.le_of_ble_eq_true rfl)
