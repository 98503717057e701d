/-! part 99g.st1: the law's stubs; printed by program (wip/p34/gen/gen_stub.py) -/
theorem dL_write_0 : decode cL_write 0 = .ok (.aload_n 0, 1) := by decide +kernel
theorem dL_write_1 : decode cL_write 1 = .ok (.iload_n 1, 1) := by decide +kernel
theorem dL_write_2 : decode cL_write 2 = .ok (.iload_n 2, 1) := by decide +kernel
theorem dL_write_3 : decode cL_write 3 = .ok (.iload_n 3, 1) := by decide +kernel
theorem dL_write_4 : decode cL_write 4 = .ok (.i2c, 1) := by decide +kernel
theorem dL_write_5 : decode cL_write 5 = .ok (.invokevirtual 9, 3) := by decide +kernel
theorem dL_write_8 : decode cL_write 8 = .ok (.ireturn, 1) := by decide +kernel
theorem dL_write_9 : decode cL_write 9 = .ok (.astore 4, 2) := by decide +kernel
theorem dL_write_11 : decode cL_write 11 = .ok (.bipush (-101), 2) := by decide +kernel
theorem dL_write_13 : decode cL_write 13 = .ok (.ireturn, 1) := by decide +kernel
theorem dL_write_14 : decode cL_write 14 = .ok (.astore 4, 2) := by decide +kernel
theorem dL_write_16 : decode cL_write 16 = .ok (.bipush (-102), 2) := by decide +kernel
theorem dL_write_18 : decode cL_write 18 = .ok (.ireturn, 1) := by decide +kernel
theorem dL_write_19 : decode cL_write 19 = .ok (.astore 4, 2) := by decide +kernel
theorem dL_write_21 : decode cL_write 21 = .ok (.bipush (-103), 2) := by decide +kernel
theorem dL_write_23 : decode cL_write 23 = .ok (.ireturn, 1) := by decide +kernel
theorem qL1230 : Cond.methodLink RL 9 (zy 96) ∈ zGT := zGT_of (l := [Cond.methodLink RL 9 (zy 96)]) (r := [1230]) (by decide +kernel) _ List.mem_cons_self
theorem qL1229 : Cond.codeWith yL_write cL_write 5 (some .int) [(0, 8, 9, 15), (0, 8, 14, 17), (0, 8, 19, 19)] ∈ zGT := zGT_of (l := [Cond.codeWith yL_write cL_write 5 (some .int) [(0, 8, 9, 15), (0, 8, 14, 17), (0, 8, 19, 19)]]) (r := [1229]) (by decide +kernel) _ List.mem_cons_self
theorem st_write {l : Launch} (hl : l.stackTraces = false) {b : Nat} {ro : Nat → Nat} {cA : Nat → ClassId} {D : va_G} {m m1 : zM} (hm : zwf m) (h11 : (m.1 0).1 = 11) {x1 x2 x3 x : Int32} (h : wstub 0 [x1, x2, x3] m = some (x, m1)) : stM l b ro cA D yL_write (Cond.codeWith yL_write cL_write 5 (some .int) [(0, 8, 9, 15), (0, 8, 14, 17), (0, 8, 19, 19)]) m m1 (.ref 0 :: wvals [x1, x2, x3]) x := by
  obtain ⟨hcnt, hq⟩ := wstub_cs h
  clear h
  refine st_of (by decide) rfl [.ref (b + 0), .int x1, .int x2, .int x3] rfl (Nat.le_of_ble_eq_true rfl) ?_
  intro p e s mid below meth c ls hx hb hml hown hts hG hN hr hlocks hT hP hl0
  have hS : va_S (zA b) s.heap s.heap [] := va_S.rf
  refine lv_aload_n hx hb dL_write_0 rfl (lv_at hl0 0 rfl) ?_
  refine lv_iload_n hx hb dL_write_1 rfl (lv_at hl0 1 rfl) ?_
  refine lv_iload_n hx hb dL_write_2 rfl (lv_at hl0 2 rfl) ?_
  refine lv_iload_n hx hb dL_write_3 rfl (lv_at hl0 3 rfl) ?_
  refine lv_i2c (v := wch x3) hx hb dL_write_4 rfl ?_
  rcases hq with ⟨v, h, hv⟩ | ⟨ex, h, hi, rfl⟩
  · have h : zGo false 96 0 (zent 96 [.ref 0, .int x1, .int x2, .int (wch x3)]) [] m = some (.inl (some v), m1) := h
    refine zcall_ret (st_run (m := m) (t := [.int (wch x3), .int x2, .int x1]) (o := 0) (rest := []) (z := 96) hx hb hml hown hts hG hm hP hS hl0.1 (st_met0 (y := 96) hl hm (by decide) rfl (Nat.le_of_ble_eq_true rfl) hcnt h) (by decide) ⟨Nat.le_of_ble_eq_true rfl, Nat.le_of_ble_eq_true rfl⟩ qL1230 rfl h11 (by decide) rfl (Nat.le_of_ble_eq_true rfl) dL_write_5 ⟨Nat.le_of_ble_eq_true rfl, Nat.le_of_ble_eq_true rfl⟩) hS (fun H1 locs1 hP1 hS1 _ => ?_)
    cases v with
    | int v =>
      have hv2 : some v = some x := hv
      cases hv2
      exact st_fin hx hb hr hlocks dL_write_8 hP1 hS1 (Nat.le_of_ble_eq_true rfl) (Nat.le_of_ble_eq_true rfl)
    | _ => cases hv
  · have hi : ex ∈ ([0, 1, 2] : List Nat) := hi
    have h : zGo false 96 0 (zent 96 [.ref 0, .int x1, .int x2, .int (wch x3)]) [] m = some (.inr ex, m1) := h
    simp only [List.mem_cons, List.not_mem_nil, or_false] at hi
    rcases hi with rfl | rfl | rfl
    · refine st_catch (k := 0) (hh := [(0, 8, 9, 15), (0, 8, 14, 17), (0, 8, 19, 19)]) (st_run (m := m) (t := [.int (wch x3), .int x2, .int x1]) (o := 0) (rest := []) (z := 96) hx hb hml hown hts hG hm hP hS hl0.1 (st_met1 (y := 96) hl hm (by decide) rfl (Nat.le_of_ble_eq_true rfl) hcnt h) (by decide) ⟨Nat.le_of_ble_eq_true rfl, Nat.le_of_ble_eq_true rfl⟩ qL1230 rfl h11 (by decide) rfl (Nat.le_of_ble_eq_true rfl) dL_write_5 ⟨Nat.le_of_ble_eq_true rfl, Nat.le_of_ble_eq_true rfl⟩) hS hown hts hG hN hT (by decide) rfl rfl (by decide) (fun H1 locs1 q hP1 hS1 => ?_)
      refine lv_astore hx hb dL_write_9 hl0 (by decide) rfl (fun ls1 _ => ?_)
      refine lv_bipush (v := wcode 0) hx hb dL_write_11 (by decide) ?_
      exact st_fin hx hb hr hlocks dL_write_13 hP1 hS1 (Nat.le_of_ble_eq_true rfl) (Nat.le_of_ble_eq_true rfl)
    · refine st_catch (k := 1) (hh := [(0, 8, 9, 15), (0, 8, 14, 17), (0, 8, 19, 19)]) (st_run (m := m) (t := [.int (wch x3), .int x2, .int x1]) (o := 0) (rest := []) (z := 96) hx hb hml hown hts hG hm hP hS hl0.1 (st_met1 (y := 96) hl hm (by decide) rfl (Nat.le_of_ble_eq_true rfl) hcnt h) (by decide) ⟨Nat.le_of_ble_eq_true rfl, Nat.le_of_ble_eq_true rfl⟩ qL1230 rfl h11 (by decide) rfl (Nat.le_of_ble_eq_true rfl) dL_write_5 ⟨Nat.le_of_ble_eq_true rfl, Nat.le_of_ble_eq_true rfl⟩) hS hown hts hG hN hT (by decide) rfl rfl (by decide) (fun H1 locs1 q hP1 hS1 => ?_)
      refine lv_astore hx hb dL_write_14 hl0 (by decide) rfl (fun ls1 _ => ?_)
      refine lv_bipush (v := wcode 1) hx hb dL_write_16 (by decide) ?_
      exact st_fin hx hb hr hlocks dL_write_18 hP1 hS1 (Nat.le_of_ble_eq_true rfl) (Nat.le_of_ble_eq_true rfl)
    · refine st_catch (k := 2) (hh := [(0, 8, 9, 15), (0, 8, 14, 17), (0, 8, 19, 19)]) (st_run (m := m) (t := [.int (wch x3), .int x2, .int x1]) (o := 0) (rest := []) (z := 96) hx hb hml hown hts hG hm hP hS hl0.1 (st_met1 (y := 96) hl hm (by decide) rfl (Nat.le_of_ble_eq_true rfl) hcnt h) (by decide) ⟨Nat.le_of_ble_eq_true rfl, Nat.le_of_ble_eq_true rfl⟩ qL1230 rfl h11 (by decide) rfl (Nat.le_of_ble_eq_true rfl) dL_write_5 ⟨Nat.le_of_ble_eq_true rfl, Nat.le_of_ble_eq_true rfl⟩) hS hown hts hG hN hT (by decide) rfl rfl (by decide) (fun H1 locs1 q hP1 hS1 => ?_)
      refine lv_astore hx hb dL_write_19 hl0 (by decide) rfl (fun ls1 _ => ?_)
      refine lv_bipush (v := wcode 2) hx hb dL_write_21 (by decide) ?_
      exact st_fin hx hb hr hlocks dL_write_23 hP1 hS1 (Nat.le_of_ble_eq_true rfl) (Nat.le_of_ble_eq_true rfl)
theorem dL_error_0 : decode cL_error 0 = .ok (.aload_n 0, 1) := by decide +kernel
theorem dL_error_1 : decode cL_error 1 = .ok (.iload_n 1, 1) := by decide +kernel
theorem dL_error_2 : decode cL_error 2 = .ok (.iload_n 2, 1) := by decide +kernel
theorem dL_error_3 : decode cL_error 3 = .ok (.invokevirtual 25, 3) := by decide +kernel
theorem dL_error_6 : decode cL_error 6 = .ok (.ireturn, 1) := by decide +kernel
theorem dL_error_7 : decode cL_error 7 = .ok (.astore_n 3, 1) := by decide +kernel
theorem dL_error_8 : decode cL_error 8 = .ok (.bipush (-101), 2) := by decide +kernel
theorem dL_error_10 : decode cL_error 10 = .ok (.ireturn, 1) := by decide +kernel
theorem qL567 : Cond.methodLink RL 25 (zy 99) ∈ zGT := zGT_of (l := [Cond.methodLink RL 25 (zy 99)]) (r := [567]) (by decide +kernel) _ List.mem_cons_self
theorem qL565 : Cond.codeWith yL_error cL_error 4 (some .int) [(0, 6, 7, 15)] ∈ zGT := zGT_of (l := [Cond.codeWith yL_error cL_error 4 (some .int) [(0, 6, 7, 15)]]) (r := [565]) (by decide +kernel) _ List.mem_cons_self
theorem st_error {l : Launch} (hl : l.stackTraces = false) {b : Nat} {ro : Nat → Nat} {cA : Nat → ClassId} {D : va_G} {m m1 : zM} (hm : zwf m) (h11 : (m.1 0).1 = 11) {x1 x2 x : Int32} (h : wstub 1 [x1, x2] m = some (x, m1)) : stM l b ro cA D yL_error (Cond.codeWith yL_error cL_error 4 (some .int) [(0, 6, 7, 15)]) m m1 (.ref 0 :: wvals [x1, x2]) x := by
  obtain ⟨hcnt, hq⟩ := wstub_cs h
  clear h
  refine st_of (by decide) rfl [.ref (b + 0), .int x1, .int x2] rfl (Nat.le_of_ble_eq_true rfl) ?_
  intro p e s mid below meth c ls hx hb hml hown hts hG hN hr hlocks hT hP hl0
  have hS : va_S (zA b) s.heap s.heap [] := va_S.rf
  refine lv_aload_n hx hb dL_error_0 rfl (lv_at hl0 0 rfl) ?_
  refine lv_iload_n hx hb dL_error_1 rfl (lv_at hl0 1 rfl) ?_
  refine lv_iload_n hx hb dL_error_2 rfl (lv_at hl0 2 rfl) ?_
  rcases hq with ⟨v, h, hv⟩ | ⟨ex, h, hi, rfl⟩
  · have h : zGo false 99 0 (zent 99 [.ref 0, .int x1, .int x2]) [] m = some (.inl (some v), m1) := h
    refine zcall_ret (st_run (m := m) (t := [.int x2, .int x1]) (o := 0) (rest := []) (z := 99) hx hb hml hown hts hG hm hP hS hl0.1 (st_met0 (y := 99) hl hm (by decide) rfl (Nat.le_of_ble_eq_true rfl) hcnt h) (by decide) ⟨Nat.le_of_ble_eq_true rfl, Nat.le_of_ble_eq_true rfl⟩ qL567 rfl h11 (by decide) rfl (Nat.le_of_ble_eq_true rfl) dL_error_3 ⟨Nat.le_of_ble_eq_true rfl, Nat.le_of_ble_eq_true rfl⟩) hS (fun H1 locs1 hP1 hS1 _ => ?_)
    cases v with
    | int v =>
      have hv2 : some v = some x := hv
      cases hv2
      exact st_fin hx hb hr hlocks dL_error_6 hP1 hS1 (Nat.le_of_ble_eq_true rfl) (Nat.le_of_ble_eq_true rfl)
    | _ => cases hv
  · have hi : ex ∈ ([0] : List Nat) := hi
    have h : zGo false 99 0 (zent 99 [.ref 0, .int x1, .int x2]) [] m = some (.inr ex, m1) := h
    simp only [List.mem_cons, List.not_mem_nil, or_false] at hi
    subst hi
    · refine st_catch (k := 0) (hh := [(0, 6, 7, 15)]) (st_run (m := m) (t := [.int x2, .int x1]) (o := 0) (rest := []) (z := 99) hx hb hml hown hts hG hm hP hS hl0.1 (st_met1 (y := 99) hl hm (by decide) rfl (Nat.le_of_ble_eq_true rfl) hcnt h) (by decide) ⟨Nat.le_of_ble_eq_true rfl, Nat.le_of_ble_eq_true rfl⟩ qL567 rfl h11 (by decide) rfl (Nat.le_of_ble_eq_true rfl) dL_error_3 ⟨Nat.le_of_ble_eq_true rfl, Nat.le_of_ble_eq_true rfl⟩) hS hown hts hG hN hT (by decide) rfl rfl (by decide) (fun H1 locs1 q hP1 hS1 => ?_)
      refine lv_astore_n hx hb dL_error_7 rfl hl0 (by decide) rfl (fun ls1 _ => ?_)
      refine lv_bipush (v := wcode 0) hx hb dL_error_8 (by decide) ?_
      exact st_fin hx hb hr hlocks dL_error_10 hP1 hS1 (Nat.le_of_ble_eq_true rfl) (Nat.le_of_ble_eq_true rfl)
theorem dL_errorAt_0 : decode cL_errorAt 0 = .ok (.aload_n 0, 1) := by decide +kernel
theorem dL_errorAt_1 : decode cL_errorAt 1 = .ok (.iload_n 1, 1) := by decide +kernel
theorem dL_errorAt_2 : decode cL_errorAt 2 = .ok (.iload_n 2, 1) := by decide +kernel
theorem dL_errorAt_3 : decode cL_errorAt 3 = .ok (.invokevirtual 29, 3) := by decide +kernel
theorem dL_errorAt_6 : decode cL_errorAt 6 = .ok (.ireturn, 1) := by decide +kernel
theorem dL_errorAt_7 : decode cL_errorAt 7 = .ok (.astore_n 3, 1) := by decide +kernel
theorem dL_errorAt_8 : decode cL_errorAt 8 = .ok (.bipush (-101), 2) := by decide +kernel
theorem dL_errorAt_10 : decode cL_errorAt 10 = .ok (.ireturn, 1) := by decide +kernel
theorem qL875 : Cond.methodLink RL 29 (zy 102) ∈ zGT := zGT_of (l := [Cond.methodLink RL 29 (zy 102)]) (r := [875]) (by decide +kernel) _ List.mem_cons_self
theorem qL874 : Cond.codeWith yL_errorAt cL_errorAt 4 (some .int) [(0, 6, 7, 15)] ∈ zGT := zGT_of (l := [Cond.codeWith yL_errorAt cL_errorAt 4 (some .int) [(0, 6, 7, 15)]]) (r := [874]) (by decide +kernel) _ List.mem_cons_self
theorem st_errorAt {l : Launch} (hl : l.stackTraces = false) {b : Nat} {ro : Nat → Nat} {cA : Nat → ClassId} {D : va_G} {m m1 : zM} (hm : zwf m) (h11 : (m.1 0).1 = 11) {x1 x2 x : Int32} (h : wstub 2 [x1, x2] m = some (x, m1)) : stM l b ro cA D yL_errorAt (Cond.codeWith yL_errorAt cL_errorAt 4 (some .int) [(0, 6, 7, 15)]) m m1 (.ref 0 :: wvals [x1, x2]) x := by
  obtain ⟨hcnt, hq⟩ := wstub_cs h
  clear h
  refine st_of (by decide) rfl [.ref (b + 0), .int x1, .int x2] rfl (Nat.le_of_ble_eq_true rfl) ?_
  intro p e s mid below meth c ls hx hb hml hown hts hG hN hr hlocks hT hP hl0
  have hS : va_S (zA b) s.heap s.heap [] := va_S.rf
  refine lv_aload_n hx hb dL_errorAt_0 rfl (lv_at hl0 0 rfl) ?_
  refine lv_iload_n hx hb dL_errorAt_1 rfl (lv_at hl0 1 rfl) ?_
  refine lv_iload_n hx hb dL_errorAt_2 rfl (lv_at hl0 2 rfl) ?_
  rcases hq with ⟨v, h, hv⟩ | ⟨ex, h, hi, rfl⟩
  · have h : zGo false 102 0 (zent 102 [.ref 0, .int x1, .int x2]) [] m = some (.inl (some v), m1) := h
    refine zcall_ret (st_run (m := m) (t := [.int x2, .int x1]) (o := 0) (rest := []) (z := 102) hx hb hml hown hts hG hm hP hS hl0.1 (st_met0 (y := 102) hl hm (by decide) rfl (Nat.le_of_ble_eq_true rfl) hcnt h) (by decide) ⟨Nat.le_of_ble_eq_true rfl, Nat.le_of_ble_eq_true rfl⟩ qL875 rfl h11 (by decide) rfl (Nat.le_of_ble_eq_true rfl) dL_errorAt_3 ⟨Nat.le_of_ble_eq_true rfl, Nat.le_of_ble_eq_true rfl⟩) hS (fun H1 locs1 hP1 hS1 _ => ?_)
    cases v with
    | int v =>
      have hv2 : some v = some x := hv
      cases hv2
      exact st_fin hx hb hr hlocks dL_errorAt_6 hP1 hS1 (Nat.le_of_ble_eq_true rfl) (Nat.le_of_ble_eq_true rfl)
    | _ => cases hv
  · have hi : ex ∈ ([0] : List Nat) := hi
    have h : zGo false 102 0 (zent 102 [.ref 0, .int x1, .int x2]) [] m = some (.inr ex, m1) := h
    simp only [List.mem_cons, List.not_mem_nil, or_false] at hi
    subst hi
    · refine st_catch (k := 0) (hh := [(0, 6, 7, 15)]) (st_run (m := m) (t := [.int x2, .int x1]) (o := 0) (rest := []) (z := 102) hx hb hml hown hts hG hm hP hS hl0.1 (st_met1 (y := 102) hl hm (by decide) rfl (Nat.le_of_ble_eq_true rfl) hcnt h) (by decide) ⟨Nat.le_of_ble_eq_true rfl, Nat.le_of_ble_eq_true rfl⟩ qL875 rfl h11 (by decide) rfl (Nat.le_of_ble_eq_true rfl) dL_errorAt_3 ⟨Nat.le_of_ble_eq_true rfl, Nat.le_of_ble_eq_true rfl⟩) hS hown hts hG hN hT (by decide) rfl rfl (by decide) (fun H1 locs1 q hP1 hS1 => ?_)
      refine lv_astore_n hx hb dL_errorAt_7 rfl hl0 (by decide) rfl (fun ls1 _ => ?_)
      refine lv_bipush (v := wcode 0) hx hb dL_errorAt_8 (by decide) ?_
      exact st_fin hx hb hr hlocks dL_errorAt_10 hP1 hS1 (Nat.le_of_ble_eq_true rfl) (Nat.le_of_ble_eq_true rfl)
theorem dL_tokens_0 : decode cL_tokens 0 = .ok (.aload_n 0, 1) := by decide +kernel
theorem dL_tokens_1 : decode cL_tokens 1 = .ok (.iload_n 1, 1) := by decide +kernel
theorem dL_tokens_2 : decode cL_tokens 2 = .ok (.iload_n 2, 1) := by decide +kernel
theorem dL_tokens_3 : decode cL_tokens 3 = .ok (.invokevirtual 32, 3) := by decide +kernel
theorem dL_tokens_6 : decode cL_tokens 6 = .ok (.ireturn, 1) := by decide +kernel
theorem dL_tokens_7 : decode cL_tokens 7 = .ok (.astore_n 3, 1) := by decide +kernel
theorem dL_tokens_8 : decode cL_tokens 8 = .ok (.bipush (-101), 2) := by decide +kernel
theorem dL_tokens_10 : decode cL_tokens 10 = .ok (.ireturn, 1) := by decide +kernel
theorem qL882 : Cond.methodLink RL 32 (zy 103) ∈ zGT := zGT_of (l := [Cond.methodLink RL 32 (zy 103)]) (r := [882]) (by decide +kernel) _ List.mem_cons_self
theorem qL881 : Cond.codeWith yL_tokens cL_tokens 4 (some .int) [(0, 6, 7, 15)] ∈ zGT := zGT_of (l := [Cond.codeWith yL_tokens cL_tokens 4 (some .int) [(0, 6, 7, 15)]]) (r := [881]) (by decide +kernel) _ List.mem_cons_self
theorem st_tokens {l : Launch} (hl : l.stackTraces = false) {b : Nat} {ro : Nat → Nat} {cA : Nat → ClassId} {D : va_G} {m m1 : zM} (hm : zwf m) (h11 : (m.1 0).1 = 11) {x1 x2 x : Int32} (h : wstub 3 [x1, x2] m = some (x, m1)) : stM l b ro cA D yL_tokens (Cond.codeWith yL_tokens cL_tokens 4 (some .int) [(0, 6, 7, 15)]) m m1 (.ref 0 :: wvals [x1, x2]) x := by
  obtain ⟨hcnt, hq⟩ := wstub_cs h
  clear h
  refine st_of (by decide) rfl [.ref (b + 0), .int x1, .int x2] rfl (Nat.le_of_ble_eq_true rfl) ?_
  intro p e s mid below meth c ls hx hb hml hown hts hG hN hr hlocks hT hP hl0
  have hS : va_S (zA b) s.heap s.heap [] := va_S.rf
  refine lv_aload_n hx hb dL_tokens_0 rfl (lv_at hl0 0 rfl) ?_
  refine lv_iload_n hx hb dL_tokens_1 rfl (lv_at hl0 1 rfl) ?_
  refine lv_iload_n hx hb dL_tokens_2 rfl (lv_at hl0 2 rfl) ?_
  rcases hq with ⟨v, h, hv⟩ | ⟨ex, h, hi, rfl⟩
  · have h : zGo false 103 0 (zent 103 [.ref 0, .int x1, .int x2]) [] m = some (.inl (some v), m1) := h
    refine zcall_ret (st_run (m := m) (t := [.int x2, .int x1]) (o := 0) (rest := []) (z := 103) hx hb hml hown hts hG hm hP hS hl0.1 (st_met0 (y := 103) hl hm (by decide) rfl (Nat.le_of_ble_eq_true rfl) hcnt h) (by decide) ⟨Nat.le_of_ble_eq_true rfl, Nat.le_of_ble_eq_true rfl⟩ qL882 rfl h11 (by decide) rfl (Nat.le_of_ble_eq_true rfl) dL_tokens_3 ⟨Nat.le_of_ble_eq_true rfl, Nat.le_of_ble_eq_true rfl⟩) hS (fun H1 locs1 hP1 hS1 _ => ?_)
    cases v with
    | int v =>
      have hv2 : some v = some x := hv
      cases hv2
      exact st_fin hx hb hr hlocks dL_tokens_6 hP1 hS1 (Nat.le_of_ble_eq_true rfl) (Nat.le_of_ble_eq_true rfl)
    | _ => cases hv
  · have hi : ex ∈ ([0] : List Nat) := hi
    have h : zGo false 103 0 (zent 103 [.ref 0, .int x1, .int x2]) [] m = some (.inr ex, m1) := h
    simp only [List.mem_cons, List.not_mem_nil, or_false] at hi
    subst hi
    · refine st_catch (k := 0) (hh := [(0, 6, 7, 15)]) (st_run (m := m) (t := [.int x2, .int x1]) (o := 0) (rest := []) (z := 103) hx hb hml hown hts hG hm hP hS hl0.1 (st_met1 (y := 103) hl hm (by decide) rfl (Nat.le_of_ble_eq_true rfl) hcnt h) (by decide) ⟨Nat.le_of_ble_eq_true rfl, Nat.le_of_ble_eq_true rfl⟩ qL882 rfl h11 (by decide) rfl (Nat.le_of_ble_eq_true rfl) dL_tokens_3 ⟨Nat.le_of_ble_eq_true rfl, Nat.le_of_ble_eq_true rfl⟩) hS hown hts hG hN hT (by decide) rfl rfl (by decide) (fun H1 locs1 q hP1 hS1 => ?_)
      refine lv_astore_n hx hb dL_tokens_7 rfl hl0 (by decide) rfl (fun ls1 _ => ?_)
      refine lv_bipush (v := wcode 0) hx hb dL_tokens_8 (by decide) ?_
      exact st_fin hx hb hr hlocks dL_tokens_10 hP1 hS1 (Nat.le_of_ble_eq_true rfl) (Nat.le_of_ble_eq_true rfl)
theorem dL_token_0 : decode cL_token 0 = .ok (.aload_n 0, 1) := by decide +kernel
theorem dL_token_1 : decode cL_token 1 = .ok (.iload_n 1, 1) := by decide +kernel
theorem dL_token_2 : decode cL_token 2 = .ok (.iload_n 2, 1) := by decide +kernel
theorem dL_token_3 : decode cL_token 3 = .ok (.iload_n 3, 1) := by decide +kernel
theorem dL_token_4 : decode cL_token 4 = .ok (.invokevirtual 35, 3) := by decide +kernel
theorem dL_token_7 : decode cL_token 7 = .ok (.ireturn, 1) := by decide +kernel
theorem dL_token_8 : decode cL_token 8 = .ok (.astore 4, 2) := by decide +kernel
theorem dL_token_10 : decode cL_token 10 = .ok (.bipush (-101), 2) := by decide +kernel
theorem dL_token_12 : decode cL_token 12 = .ok (.ireturn, 1) := by decide +kernel
theorem qL889 : Cond.methodLink RL 35 (zy 104) ∈ zGT := zGT_of (l := [Cond.methodLink RL 35 (zy 104)]) (r := [889]) (by decide +kernel) _ List.mem_cons_self
theorem qL888 : Cond.codeWith yL_token cL_token 5 (some .int) [(0, 7, 8, 15)] ∈ zGT := zGT_of (l := [Cond.codeWith yL_token cL_token 5 (some .int) [(0, 7, 8, 15)]]) (r := [888]) (by decide +kernel) _ List.mem_cons_self
theorem st_token {l : Launch} (hl : l.stackTraces = false) {b : Nat} {ro : Nat → Nat} {cA : Nat → ClassId} {D : va_G} {m m1 : zM} (hm : zwf m) (h11 : (m.1 0).1 = 11) {x1 x2 x3 x : Int32} (h : wstub 4 [x1, x2, x3] m = some (x, m1)) : stM l b ro cA D yL_token (Cond.codeWith yL_token cL_token 5 (some .int) [(0, 7, 8, 15)]) m m1 (.ref 0 :: wvals [x1, x2, x3]) x := by
  obtain ⟨hcnt, hq⟩ := wstub_cs h
  clear h
  refine st_of (by decide) rfl [.ref (b + 0), .int x1, .int x2, .int x3] rfl (Nat.le_of_ble_eq_true rfl) ?_
  intro p e s mid below meth c ls hx hb hml hown hts hG hN hr hlocks hT hP hl0
  have hS : va_S (zA b) s.heap s.heap [] := va_S.rf
  refine lv_aload_n hx hb dL_token_0 rfl (lv_at hl0 0 rfl) ?_
  refine lv_iload_n hx hb dL_token_1 rfl (lv_at hl0 1 rfl) ?_
  refine lv_iload_n hx hb dL_token_2 rfl (lv_at hl0 2 rfl) ?_
  refine lv_iload_n hx hb dL_token_3 rfl (lv_at hl0 3 rfl) ?_
  rcases hq with ⟨v, h, hv⟩ | ⟨ex, h, hi, rfl⟩
  · have h : zGo false 104 0 (zent 104 [.ref 0, .int x1, .int x2, .int x3]) [] m = some (.inl (some v), m1) := h
    refine zcall_ret (st_run (m := m) (t := [.int x3, .int x2, .int x1]) (o := 0) (rest := []) (z := 104) hx hb hml hown hts hG hm hP hS hl0.1 (st_met0 (y := 104) hl hm (by decide) rfl (Nat.le_of_ble_eq_true rfl) hcnt h) (by decide) ⟨Nat.le_of_ble_eq_true rfl, Nat.le_of_ble_eq_true rfl⟩ qL889 rfl h11 (by decide) rfl (Nat.le_of_ble_eq_true rfl) dL_token_4 ⟨Nat.le_of_ble_eq_true rfl, Nat.le_of_ble_eq_true rfl⟩) hS (fun H1 locs1 hP1 hS1 _ => ?_)
    cases v with
    | int v =>
      have hv2 : some v = some x := hv
      cases hv2
      exact st_fin hx hb hr hlocks dL_token_7 hP1 hS1 (Nat.le_of_ble_eq_true rfl) (Nat.le_of_ble_eq_true rfl)
    | _ => cases hv
  · have hi : ex ∈ ([0] : List Nat) := hi
    have h : zGo false 104 0 (zent 104 [.ref 0, .int x1, .int x2, .int x3]) [] m = some (.inr ex, m1) := h
    simp only [List.mem_cons, List.not_mem_nil, or_false] at hi
    subst hi
    · refine st_catch (k := 0) (hh := [(0, 7, 8, 15)]) (st_run (m := m) (t := [.int x3, .int x2, .int x1]) (o := 0) (rest := []) (z := 104) hx hb hml hown hts hG hm hP hS hl0.1 (st_met1 (y := 104) hl hm (by decide) rfl (Nat.le_of_ble_eq_true rfl) hcnt h) (by decide) ⟨Nat.le_of_ble_eq_true rfl, Nat.le_of_ble_eq_true rfl⟩ qL889 rfl h11 (by decide) rfl (Nat.le_of_ble_eq_true rfl) dL_token_4 ⟨Nat.le_of_ble_eq_true rfl, Nat.le_of_ble_eq_true rfl⟩) hS hown hts hG hN hT (by decide) rfl rfl (by decide) (fun H1 locs1 q hP1 hS1 => ?_)
      refine lv_astore hx hb dL_token_8 hl0 (by decide) rfl (fun ls1 _ => ?_)
      refine lv_bipush (v := wcode 0) hx hb dL_token_10 (by decide) ?_
      exact st_fin hx hb hr hlocks dL_token_12 hP1 hS1 (Nat.le_of_ble_eq_true rfl) (Nat.le_of_ble_eq_true rfl)
theorem dL_bars_0 : decode cL_bars 0 = .ok (.aload_n 0, 1) := by decide +kernel
theorem dL_bars_1 : decode cL_bars 1 = .ok (.iload_n 1, 1) := by decide +kernel
theorem dL_bars_2 : decode cL_bars 2 = .ok (.iload_n 2, 1) := by decide +kernel
theorem dL_bars_3 : decode cL_bars 3 = .ok (.invokevirtual 38, 3) := by decide +kernel
theorem dL_bars_6 : decode cL_bars 6 = .ok (.ireturn, 1) := by decide +kernel
theorem dL_bars_7 : decode cL_bars 7 = .ok (.astore_n 3, 1) := by decide +kernel
theorem dL_bars_8 : decode cL_bars 8 = .ok (.bipush (-101), 2) := by decide +kernel
theorem dL_bars_10 : decode cL_bars 10 = .ok (.ireturn, 1) := by decide +kernel
theorem qL898 : Cond.methodLink RL 38 (zy 105) ∈ zGT := zGT_of (l := [Cond.methodLink RL 38 (zy 105)]) (r := [898]) (by decide +kernel) _ List.mem_cons_self
theorem qL897 : Cond.codeWith yL_bars cL_bars 4 (some .int) [(0, 6, 7, 15)] ∈ zGT := zGT_of (l := [Cond.codeWith yL_bars cL_bars 4 (some .int) [(0, 6, 7, 15)]]) (r := [897]) (by decide +kernel) _ List.mem_cons_self
theorem st_bars {l : Launch} (hl : l.stackTraces = false) {b : Nat} {ro : Nat → Nat} {cA : Nat → ClassId} {D : va_G} {m m1 : zM} (hm : zwf m) (h11 : (m.1 0).1 = 11) {x1 x2 x : Int32} (h : wstub 5 [x1, x2] m = some (x, m1)) : stM l b ro cA D yL_bars (Cond.codeWith yL_bars cL_bars 4 (some .int) [(0, 6, 7, 15)]) m m1 (.ref 0 :: wvals [x1, x2]) x := by
  obtain ⟨hcnt, hq⟩ := wstub_cs h
  clear h
  refine st_of (by decide) rfl [.ref (b + 0), .int x1, .int x2] rfl (Nat.le_of_ble_eq_true rfl) ?_
  intro p e s mid below meth c ls hx hb hml hown hts hG hN hr hlocks hT hP hl0
  have hS : va_S (zA b) s.heap s.heap [] := va_S.rf
  refine lv_aload_n hx hb dL_bars_0 rfl (lv_at hl0 0 rfl) ?_
  refine lv_iload_n hx hb dL_bars_1 rfl (lv_at hl0 1 rfl) ?_
  refine lv_iload_n hx hb dL_bars_2 rfl (lv_at hl0 2 rfl) ?_
  rcases hq with ⟨v, h, hv⟩ | ⟨ex, h, hi, rfl⟩
  · have h : zGo false 105 0 (zent 105 [.ref 0, .int x1, .int x2]) [] m = some (.inl (some v), m1) := h
    refine zcall_ret (st_run (m := m) (t := [.int x2, .int x1]) (o := 0) (rest := []) (z := 105) hx hb hml hown hts hG hm hP hS hl0.1 (st_met0 (y := 105) hl hm (by decide) rfl (Nat.le_of_ble_eq_true rfl) hcnt h) (by decide) ⟨Nat.le_of_ble_eq_true rfl, Nat.le_of_ble_eq_true rfl⟩ qL898 rfl h11 (by decide) rfl (Nat.le_of_ble_eq_true rfl) dL_bars_3 ⟨Nat.le_of_ble_eq_true rfl, Nat.le_of_ble_eq_true rfl⟩) hS (fun H1 locs1 hP1 hS1 _ => ?_)
    cases v with
    | int v =>
      have hv2 : some v = some x := hv
      cases hv2
      exact st_fin hx hb hr hlocks dL_bars_6 hP1 hS1 (Nat.le_of_ble_eq_true rfl) (Nat.le_of_ble_eq_true rfl)
    | _ => cases hv
  · have hi : ex ∈ ([0] : List Nat) := hi
    have h : zGo false 105 0 (zent 105 [.ref 0, .int x1, .int x2]) [] m = some (.inr ex, m1) := h
    simp only [List.mem_cons, List.not_mem_nil, or_false] at hi
    subst hi
    · refine st_catch (k := 0) (hh := [(0, 6, 7, 15)]) (st_run (m := m) (t := [.int x2, .int x1]) (o := 0) (rest := []) (z := 105) hx hb hml hown hts hG hm hP hS hl0.1 (st_met1 (y := 105) hl hm (by decide) rfl (Nat.le_of_ble_eq_true rfl) hcnt h) (by decide) ⟨Nat.le_of_ble_eq_true rfl, Nat.le_of_ble_eq_true rfl⟩ qL898 rfl h11 (by decide) rfl (Nat.le_of_ble_eq_true rfl) dL_bars_3 ⟨Nat.le_of_ble_eq_true rfl, Nat.le_of_ble_eq_true rfl⟩) hS hown hts hG hN hT (by decide) rfl rfl (by decide) (fun H1 locs1 q hP1 hS1 => ?_)
      refine lv_astore_n hx hb dL_bars_7 rfl hl0 (by decide) rfl (fun ls1 _ => ?_)
      refine lv_bipush (v := wcode 0) hx hb dL_bars_8 (by decide) ?_
      exact st_fin hx hb hr hlocks dL_bars_10 hP1 hS1 (Nat.le_of_ble_eq_true rfl) (Nat.le_of_ble_eq_true rfl)
theorem dL_pitch_0 : decode cL_pitch 0 = .ok (.aload_n 0, 1) := by decide +kernel
theorem dL_pitch_1 : decode cL_pitch 1 = .ok (.iload_n 1, 1) := by decide +kernel
theorem dL_pitch_2 : decode cL_pitch 2 = .ok (.iload_n 2, 1) := by decide +kernel
theorem dL_pitch_3 : decode cL_pitch 3 = .ok (.iload_n 3, 1) := by decide +kernel
theorem dL_pitch_4 : decode cL_pitch 4 = .ok (.iload 4, 2) := by decide +kernel
theorem dL_pitch_6 : decode cL_pitch 6 = .ok (.invokevirtual 41, 3) := by decide +kernel
theorem dL_pitch_9 : decode cL_pitch 9 = .ok (.ireturn, 1) := by decide +kernel
theorem dL_pitch_10 : decode cL_pitch 10 = .ok (.astore 5, 2) := by decide +kernel
theorem dL_pitch_12 : decode cL_pitch 12 = .ok (.bipush (-101), 2) := by decide +kernel
theorem dL_pitch_14 : decode cL_pitch 14 = .ok (.ireturn, 1) := by decide +kernel
theorem qL905 : Cond.methodLink RL 41 (zy 106) ∈ zGT := zGT_of (l := [Cond.methodLink RL 41 (zy 106)]) (r := [905]) (by decide +kernel) _ List.mem_cons_self
theorem qL904 : Cond.codeWith yL_pitch cL_pitch 6 (some .int) [(0, 9, 10, 15)] ∈ zGT := zGT_of (l := [Cond.codeWith yL_pitch cL_pitch 6 (some .int) [(0, 9, 10, 15)]]) (r := [904]) (by decide +kernel) _ List.mem_cons_self
theorem st_pitch {l : Launch} (hl : l.stackTraces = false) {b : Nat} {ro : Nat → Nat} {cA : Nat → ClassId} {D : va_G} {m m1 : zM} (hm : zwf m) (h11 : (m.1 0).1 = 11) {x1 x2 x3 x4 x : Int32} (h : wstub 6 [x1, x2, x3, x4] m = some (x, m1)) : stM l b ro cA D yL_pitch (Cond.codeWith yL_pitch cL_pitch 6 (some .int) [(0, 9, 10, 15)]) m m1 (.ref 0 :: wvals [x1, x2, x3, x4]) x := by
  obtain ⟨hcnt, hq⟩ := wstub_cs h
  clear h
  refine st_of (by decide) rfl [.ref (b + 0), .int x1, .int x2, .int x3, .int x4] rfl (Nat.le_of_ble_eq_true rfl) ?_
  intro p e s mid below meth c ls hx hb hml hown hts hG hN hr hlocks hT hP hl0
  have hS : va_S (zA b) s.heap s.heap [] := va_S.rf
  refine lv_aload_n hx hb dL_pitch_0 rfl (lv_at hl0 0 rfl) ?_
  refine lv_iload_n hx hb dL_pitch_1 rfl (lv_at hl0 1 rfl) ?_
  refine lv_iload_n hx hb dL_pitch_2 rfl (lv_at hl0 2 rfl) ?_
  refine lv_iload_n hx hb dL_pitch_3 rfl (lv_at hl0 3 rfl) ?_
  refine lv_iload hx hb dL_pitch_4 (lv_at hl0 4 rfl) ?_
  rcases hq with ⟨v, h, hv⟩ | ⟨ex, h, hi, rfl⟩
  · have h : zGo false 106 0 (zent 106 [.ref 0, .int x1, .int x2, .int x3, .int x4]) [] m = some (.inl (some v), m1) := h
    refine zcall_ret (st_run (m := m) (t := [.int x4, .int x3, .int x2, .int x1]) (o := 0) (rest := []) (z := 106) hx hb hml hown hts hG hm hP hS hl0.1 (st_met0 (y := 106) hl hm (by decide) rfl (Nat.le_of_ble_eq_true rfl) hcnt h) (by decide) ⟨Nat.le_of_ble_eq_true rfl, Nat.le_of_ble_eq_true rfl⟩ qL905 rfl h11 (by decide) rfl (Nat.le_of_ble_eq_true rfl) dL_pitch_6 ⟨Nat.le_of_ble_eq_true rfl, Nat.le_of_ble_eq_true rfl⟩) hS (fun H1 locs1 hP1 hS1 _ => ?_)
    cases v with
    | int v =>
      have hv2 : some v = some x := hv
      cases hv2
      exact st_fin hx hb hr hlocks dL_pitch_9 hP1 hS1 (Nat.le_of_ble_eq_true rfl) (Nat.le_of_ble_eq_true rfl)
    | _ => cases hv
  · have hi : ex ∈ ([0] : List Nat) := hi
    have h : zGo false 106 0 (zent 106 [.ref 0, .int x1, .int x2, .int x3, .int x4]) [] m = some (.inr ex, m1) := h
    simp only [List.mem_cons, List.not_mem_nil, or_false] at hi
    subst hi
    · refine st_catch (k := 0) (hh := [(0, 9, 10, 15)]) (st_run (m := m) (t := [.int x4, .int x3, .int x2, .int x1]) (o := 0) (rest := []) (z := 106) hx hb hml hown hts hG hm hP hS hl0.1 (st_met1 (y := 106) hl hm (by decide) rfl (Nat.le_of_ble_eq_true rfl) hcnt h) (by decide) ⟨Nat.le_of_ble_eq_true rfl, Nat.le_of_ble_eq_true rfl⟩ qL905 rfl h11 (by decide) rfl (Nat.le_of_ble_eq_true rfl) dL_pitch_6 ⟨Nat.le_of_ble_eq_true rfl, Nat.le_of_ble_eq_true rfl⟩) hS hown hts hG hN hT (by decide) rfl rfl (by decide) (fun H1 locs1 q hP1 hS1 => ?_)
      refine lv_astore hx hb dL_pitch_10 hl0 (by decide) rfl (fun ls1 _ => ?_)
      refine lv_bipush (v := wcode 0) hx hb dL_pitch_12 (by decide) ?_
      exact st_fin hx hb hr hlocks dL_pitch_14 hP1 hS1 (Nat.le_of_ble_eq_true rfl) (Nat.le_of_ble_eq_true rfl)
theorem dL_seconds_0 : decode cL_seconds 0 = .ok (.aload_n 0, 1) := by decide +kernel
theorem dL_seconds_1 : decode cL_seconds 1 = .ok (.iload_n 1, 1) := by decide +kernel
theorem dL_seconds_2 : decode cL_seconds 2 = .ok (.iload_n 2, 1) := by decide +kernel
theorem dL_seconds_3 : decode cL_seconds 3 = .ok (.iload_n 3, 1) := by decide +kernel
theorem dL_seconds_4 : decode cL_seconds 4 = .ok (.invokevirtual 45, 3) := by decide +kernel
theorem dL_seconds_7 : decode cL_seconds 7 = .ok (.f2i, 1) := by decide +kernel
theorem dL_seconds_8 : decode cL_seconds 8 = .ok (.ireturn, 1) := by decide +kernel
theorem dL_seconds_9 : decode cL_seconds 9 = .ok (.astore 4, 2) := by decide +kernel
theorem dL_seconds_11 : decode cL_seconds 11 = .ok (.bipush (-101), 2) := by decide +kernel
theorem dL_seconds_13 : decode cL_seconds 13 = .ok (.ireturn, 1) := by decide +kernel
theorem dL_seconds_14 : decode cL_seconds 14 = .ok (.astore 4, 2) := by decide +kernel
theorem dL_seconds_16 : decode cL_seconds 16 = .ok (.bipush (-102), 2) := by decide +kernel
theorem dL_seconds_18 : decode cL_seconds 18 = .ok (.ireturn, 1) := by decide +kernel
theorem qL928 : Cond.methodLink RL 45 (zy 108) ∈ zGT := zGT_of (l := [Cond.methodLink RL 45 (zy 108)]) (r := [928]) (by decide +kernel) _ List.mem_cons_self
theorem qL926 : Cond.codeWith yL_seconds cL_seconds 5 (some .int) [(0, 8, 9, 15), (0, 8, 14, 17)] ∈ zGT := zGT_of (l := [Cond.codeWith yL_seconds cL_seconds 5 (some .int) [(0, 8, 9, 15), (0, 8, 14, 17)]]) (r := [926]) (by decide +kernel) _ List.mem_cons_self
theorem st_seconds {l : Launch} (hl : l.stackTraces = false) {b : Nat} {ro : Nat → Nat} {cA : Nat → ClassId} {D : va_G} {m m1 : zM} (hm : zwf m) (h11 : (m.1 0).1 = 11) {x1 x2 x3 x : Int32} (h : wstub 7 [x1, x2, x3] m = some (x, m1)) : stM l b ro cA D yL_seconds (Cond.codeWith yL_seconds cL_seconds 5 (some .int) [(0, 8, 9, 15), (0, 8, 14, 17)]) m m1 (.ref 0 :: wvals [x1, x2, x3]) x := by
  obtain ⟨hcnt, hq⟩ := wstub_cs h
  clear h
  refine st_of (by decide) rfl [.ref (b + 0), .int x1, .int x2, .int x3] rfl (Nat.le_of_ble_eq_true rfl) ?_
  intro p e s mid below meth c ls hx hb hml hown hts hG hN hr hlocks hT hP hl0
  have hS : va_S (zA b) s.heap s.heap [] := va_S.rf
  refine lv_aload_n hx hb dL_seconds_0 rfl (lv_at hl0 0 rfl) ?_
  refine lv_iload_n hx hb dL_seconds_1 rfl (lv_at hl0 1 rfl) ?_
  refine lv_iload_n hx hb dL_seconds_2 rfl (lv_at hl0 2 rfl) ?_
  refine lv_iload_n hx hb dL_seconds_3 rfl (lv_at hl0 3 rfl) ?_
  rcases hq with ⟨v, h, hv⟩ | ⟨ex, h, hi, rfl⟩
  · have h : zGo false 108 0 (zent 108 [.ref 0, .int x1, .int x2, .int x3]) [] m = some (.inl (some v), m1) := h
    refine zcall_ret (st_run (m := m) (t := [.int x3, .int x2, .int x1]) (o := 0) (rest := []) (z := 108) hx hb hml hown hts hG hm hP hS hl0.1 (st_met0 (y := 108) hl hm (by decide) rfl (Nat.le_of_ble_eq_true rfl) hcnt h) (by decide) ⟨Nat.le_of_ble_eq_true rfl, Nat.le_of_ble_eq_true rfl⟩ qL928 rfl h11 (by decide) rfl (Nat.le_of_ble_eq_true rfl) dL_seconds_4 ⟨Nat.le_of_ble_eq_true rfl, Nat.le_of_ble_eq_true rfl⟩) hS (fun H1 locs1 hP1 hS1 _ => ?_)
    cases v with
    | float v =>
      have hv2 : some (FP.f2i v) = some x := hv
      cases hv2
      refine lv_f2i hx hb dL_seconds_7 ?_
      exact st_fin hx hb hr hlocks dL_seconds_8 hP1 hS1 (Nat.le_of_ble_eq_true rfl) (Nat.le_of_ble_eq_true rfl)
    | _ => cases hv
  · have hi : ex ∈ ([0, 1] : List Nat) := hi
    have h : zGo false 108 0 (zent 108 [.ref 0, .int x1, .int x2, .int x3]) [] m = some (.inr ex, m1) := h
    simp only [List.mem_cons, List.not_mem_nil, or_false] at hi
    rcases hi with rfl | rfl
    · refine st_catch (k := 0) (hh := [(0, 8, 9, 15), (0, 8, 14, 17)]) (st_run (m := m) (t := [.int x3, .int x2, .int x1]) (o := 0) (rest := []) (z := 108) hx hb hml hown hts hG hm hP hS hl0.1 (st_met1 (y := 108) hl hm (by decide) rfl (Nat.le_of_ble_eq_true rfl) hcnt h) (by decide) ⟨Nat.le_of_ble_eq_true rfl, Nat.le_of_ble_eq_true rfl⟩ qL928 rfl h11 (by decide) rfl (Nat.le_of_ble_eq_true rfl) dL_seconds_4 ⟨Nat.le_of_ble_eq_true rfl, Nat.le_of_ble_eq_true rfl⟩) hS hown hts hG hN hT (by decide) rfl rfl (by decide) (fun H1 locs1 q hP1 hS1 => ?_)
      refine lv_astore hx hb dL_seconds_9 hl0 (by decide) rfl (fun ls1 _ => ?_)
      refine lv_bipush (v := wcode 0) hx hb dL_seconds_11 (by decide) ?_
      exact st_fin hx hb hr hlocks dL_seconds_13 hP1 hS1 (Nat.le_of_ble_eq_true rfl) (Nat.le_of_ble_eq_true rfl)
    · refine st_catch (k := 1) (hh := [(0, 8, 9, 15), (0, 8, 14, 17)]) (st_run (m := m) (t := [.int x3, .int x2, .int x1]) (o := 0) (rest := []) (z := 108) hx hb hml hown hts hG hm hP hS hl0.1 (st_met1 (y := 108) hl hm (by decide) rfl (Nat.le_of_ble_eq_true rfl) hcnt h) (by decide) ⟨Nat.le_of_ble_eq_true rfl, Nat.le_of_ble_eq_true rfl⟩ qL928 rfl h11 (by decide) rfl (Nat.le_of_ble_eq_true rfl) dL_seconds_4 ⟨Nat.le_of_ble_eq_true rfl, Nat.le_of_ble_eq_true rfl⟩) hS hown hts hG hN hT (by decide) rfl rfl (by decide) (fun H1 locs1 q hP1 hS1 => ?_)
      refine lv_astore hx hb dL_seconds_14 hl0 (by decide) rfl (fun ls1 _ => ?_)
      refine lv_bipush (v := wcode 1) hx hb dL_seconds_16 (by decide) ?_
      exact st_fin hx hb hr hlocks dL_seconds_18 hP1 hS1 (Nat.le_of_ble_eq_true rfl) (Nat.le_of_ble_eq_true rfl)
theorem dL_print_0 : decode cL_print 0 = .ok (.aload_n 0, 1) := by decide +kernel
theorem dL_print_1 : decode cL_print 1 = .ok (.iload_n 1, 1) := by decide +kernel
theorem dL_print_2 : decode cL_print 2 = .ok (.iload_n 2, 1) := by decide +kernel
theorem dL_print_3 : decode cL_print 3 = .ok (.invokevirtual 49, 3) := by decide +kernel
theorem dL_print_6 : decode cL_print 6 = .ok (.ireturn, 1) := by decide +kernel
theorem dL_print_7 : decode cL_print 7 = .ok (.astore_n 3, 1) := by decide +kernel
theorem dL_print_8 : decode cL_print 8 = .ok (.bipush (-101), 2) := by decide +kernel
theorem dL_print_10 : decode cL_print 10 = .ok (.ireturn, 1) := by decide +kernel
theorem dL_print_11 : decode cL_print 11 = .ok (.astore_n 3, 1) := by decide +kernel
theorem dL_print_12 : decode cL_print 12 = .ok (.bipush (-103), 2) := by decide +kernel
theorem dL_print_14 : decode cL_print 14 = .ok (.ireturn, 1) := by decide +kernel
theorem qL954 : Cond.methodLink RL 49 (zy 109) ∈ zGT := zGT_of (l := [Cond.methodLink RL 49 (zy 109)]) (r := [954]) (by decide +kernel) _ List.mem_cons_self
theorem qL952 : Cond.codeWith yL_print cL_print 4 (some .int) [(0, 6, 7, 15), (0, 6, 11, 19)] ∈ zGT := zGT_of (l := [Cond.codeWith yL_print cL_print 4 (some .int) [(0, 6, 7, 15), (0, 6, 11, 19)]]) (r := [952]) (by decide +kernel) _ List.mem_cons_self
theorem st_print {l : Launch} (hl : l.stackTraces = false) {b : Nat} {ro : Nat → Nat} {cA : Nat → ClassId} {D : va_G} {m m1 : zM} (hm : zwf m) (h11 : (m.1 0).1 = 11) {x1 x2 x : Int32} (h : wstub 8 [x1, x2] m = some (x, m1)) : stM l b ro cA D yL_print (Cond.codeWith yL_print cL_print 4 (some .int) [(0, 6, 7, 15), (0, 6, 11, 19)]) m m1 (.ref 0 :: wvals [x1, x2]) x := by
  obtain ⟨hcnt, hq⟩ := wstub_cs h
  clear h
  refine st_of (by decide) rfl [.ref (b + 0), .int x1, .int x2] rfl (Nat.le_of_ble_eq_true rfl) ?_
  intro p e s mid below meth c ls hx hb hml hown hts hG hN hr hlocks hT hP hl0
  have hS : va_S (zA b) s.heap s.heap [] := va_S.rf
  refine lv_aload_n hx hb dL_print_0 rfl (lv_at hl0 0 rfl) ?_
  refine lv_iload_n hx hb dL_print_1 rfl (lv_at hl0 1 rfl) ?_
  refine lv_iload_n hx hb dL_print_2 rfl (lv_at hl0 2 rfl) ?_
  rcases hq with ⟨v, h, hv⟩ | ⟨ex, h, hi, rfl⟩
  · have h : zGo false 109 0 (zent 109 [.ref 0, .int x1, .int x2]) [] m = some (.inl (some v), m1) := h
    refine zcall_ret (st_run (m := m) (t := [.int x2, .int x1]) (o := 0) (rest := []) (z := 109) hx hb hml hown hts hG hm hP hS hl0.1 (st_met0 (y := 109) hl hm (by decide) rfl (Nat.le_of_ble_eq_true rfl) hcnt h) (by decide) ⟨Nat.le_of_ble_eq_true rfl, Nat.le_of_ble_eq_true rfl⟩ qL954 rfl h11 (by decide) rfl (Nat.le_of_ble_eq_true rfl) dL_print_3 ⟨Nat.le_of_ble_eq_true rfl, Nat.le_of_ble_eq_true rfl⟩) hS (fun H1 locs1 hP1 hS1 _ => ?_)
    cases v with
    | int v =>
      have hv2 : some v = some x := hv
      cases hv2
      exact st_fin hx hb hr hlocks dL_print_6 hP1 hS1 (Nat.le_of_ble_eq_true rfl) (Nat.le_of_ble_eq_true rfl)
    | _ => cases hv
  · have hi : ex ∈ ([0, 2] : List Nat) := hi
    have h : zGo false 109 0 (zent 109 [.ref 0, .int x1, .int x2]) [] m = some (.inr ex, m1) := h
    simp only [List.mem_cons, List.not_mem_nil, or_false] at hi
    rcases hi with rfl | rfl
    · refine st_catch (k := 0) (hh := [(0, 6, 7, 15), (0, 6, 11, 19)]) (st_run (m := m) (t := [.int x2, .int x1]) (o := 0) (rest := []) (z := 109) hx hb hml hown hts hG hm hP hS hl0.1 (st_met1 (y := 109) hl hm (by decide) rfl (Nat.le_of_ble_eq_true rfl) hcnt h) (by decide) ⟨Nat.le_of_ble_eq_true rfl, Nat.le_of_ble_eq_true rfl⟩ qL954 rfl h11 (by decide) rfl (Nat.le_of_ble_eq_true rfl) dL_print_3 ⟨Nat.le_of_ble_eq_true rfl, Nat.le_of_ble_eq_true rfl⟩) hS hown hts hG hN hT (by decide) rfl rfl (by decide) (fun H1 locs1 q hP1 hS1 => ?_)
      refine lv_astore_n hx hb dL_print_7 rfl hl0 (by decide) rfl (fun ls1 _ => ?_)
      refine lv_bipush (v := wcode 0) hx hb dL_print_8 (by decide) ?_
      exact st_fin hx hb hr hlocks dL_print_10 hP1 hS1 (Nat.le_of_ble_eq_true rfl) (Nat.le_of_ble_eq_true rfl)
    · refine st_catch (k := 1) (hh := [(0, 6, 7, 15), (0, 6, 11, 19)]) (st_run (m := m) (t := [.int x2, .int x1]) (o := 0) (rest := []) (z := 109) hx hb hml hown hts hG hm hP hS hl0.1 (st_met1 (y := 109) hl hm (by decide) rfl (Nat.le_of_ble_eq_true rfl) hcnt h) (by decide) ⟨Nat.le_of_ble_eq_true rfl, Nat.le_of_ble_eq_true rfl⟩ qL954 rfl h11 (by decide) rfl (Nat.le_of_ble_eq_true rfl) dL_print_3 ⟨Nat.le_of_ble_eq_true rfl, Nat.le_of_ble_eq_true rfl⟩) hS hown hts hG hN hT (by decide) rfl rfl (by decide) (fun H1 locs1 q hP1 hS1 => ?_)
      refine lv_astore_n hx hb dL_print_11 rfl hl0 (by decide) rfl (fun ls1 _ => ?_)
      refine lv_bipush (v := wcode 2) hx hb dL_print_12 (by decide) ?_
      exact st_fin hx hb hr hlocks dL_print_14 hP1 hS1 (Nat.le_of_ble_eq_true rfl) (Nat.le_of_ble_eq_true rfl)
