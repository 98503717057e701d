/-! part 99h.st2: the law's own methods: errorAt, tokens, token, bars, pitch, print, lend; printed by program (wip/whole/gen/gen_stub.py) -/
theorem dL_errorAt_0 : decode cL_errorAt 0 = .ok (.aload_n 3, 1) := by decide +kernel
theorem dL_errorAt_1 : decode cL_errorAt 1 = .ok (.iconst 0, 1) := by decide +kernel
theorem dL_errorAt_2 : decode cL_errorAt 2 = .ok (.aload_n 0, 1) := by decide +kernel
theorem dL_errorAt_3 : decode cL_errorAt 3 = .ok (.iload_n 1, 1) := by decide +kernel
theorem dL_errorAt_4 : decode cL_errorAt 4 = .ok (.iload_n 2, 1) := by decide +kernel
theorem dL_errorAt_5 : decode cL_errorAt 5 = .ok (.invokevirtual 27, 3) := by decide +kernel
theorem dL_errorAt_8 : decode cL_errorAt 8 = .ok (.i2l, 1) := by decide +kernel
theorem dL_errorAt_9 : decode cL_errorAt 9 = .ok (.lastore, 1) := by decide +kernel
theorem dL_errorAt_10 : decode cL_errorAt 10 = .ok (.goto 7, 3) := by decide +kernel
theorem dL_errorAt_13 : decode cL_errorAt 13 = .ok (.astore 4, 2) := by decide +kernel
theorem dL_errorAt_15 : decode cL_errorAt 15 = .ok (.iconst 1, 1) := by decide +kernel
theorem dL_errorAt_16 : decode cL_errorAt 16 = .ok (.ireturn, 1) := by decide +kernel
theorem dL_errorAt_17 : decode cL_errorAt 17 = .ok (.iconst 0, 1) := by decide +kernel
theorem dL_errorAt_18 : decode cL_errorAt 18 = .ok (.ireturn, 1) := by decide +kernel
theorem qL970 : Cond.methodLink RL 27 (zy 102) ∈ zGT := zGT_of (l := [Cond.methodLink RL 27 (zy 102)]) (r := [970]) (by decide +kernel) _ List.mem_cons_self
theorem qL969 : Cond.codeWith yL_errorAt cL_errorAt 5 (some .int) [(0, 10, 13, 13)] ∈ zGT := zGT_of (l := [Cond.codeWith yL_errorAt cL_errorAt 5 (some .int) [(0, 10, 13, 13)]]) (r := [969]) (by decide +kernel) _ List.mem_cons_self
theorem st_errorAt {l : Launch} (hl : l.stackTraces = false) {b : Nat} {ro : Nat → Nat} {cA : Nat → ClassId} {D : va_G} {V V1 : zVt} {J J1 : zJt} {d : Nat → Nat → UInt64} {k a0 a1 : Int} (h : stO 102 (zent 102 [.ref 0, .int (zi a0), .int (zi a1)]) [0] V J d k V1 J1) : stM l b ro cA D yL_errorAt (Cond.codeWith yL_errorAt cL_errorAt 5 (some .int) [(0, 10, 13, 13)]) (zm V J d) (zm V1 J1 d) [.ref 0, .int (zi a0), .int (zi a1), .ref 474] (zi k) := by
  refine st_of (by decide) rfl [.ref (b + 0), .int (zi a0), .int (zi a1), .ref (b + 474)] rfl (Nat.le_of_ble_eq_true rfl) ?_
  intro p e s mid below meth c ls hx hb hml hown hts hG hN hr hlocks hT hP hl0
  have hS : va_S (zA b) s.heap s.heap [] := va_S.rf
  refine lv_aload_n hx hb dL_errorAt_0 rfl (lv_at hl0 3 rfl) ?_
  refine lv_iconst (v := 0) hx hb dL_errorAt_1 (by decide) ?_
  refine lv_aload_n hx hb dL_errorAt_2 rfl (lv_at hl0 0 rfl) ?_
  refine lv_iload_n hx hb dL_errorAt_3 rfl (lv_at hl0 1 rfl) ?_
  refine lv_iload_n hx hb dL_errorAt_4 rfl (lv_at hl0 2 rfl) ?_
  rcases h with ⟨x, J0, h, rfl, rfl⟩ | ⟨i, ex, hi, h, rfl⟩
  · refine zcall_ret (st_run (m := zm V J d) (t := [.int (zi a1), .int (zi a0)]) (o := 0) (rest := [.int 0, .ref (b + 474)]) (z := 102) hx hb hml hown hts hG zm_wf hP hS hl0.1 (st_met0 (y := 102) hl (by decide) rfl (Nat.le_of_ble_eq_true rfl) h) (by decide) ⟨Nat.le_of_ble_eq_true rfl, Nat.le_of_ble_eq_true rfl⟩ qL970 rfl rfl (by decide) rfl (Nat.le_of_ble_eq_true rfl) dL_errorAt_5 ⟨Nat.le_of_ble_eq_true rfl, Nat.le_of_ble_eq_true rfl⟩) hS (fun H1 locs1 hP1 hS1 _ => ?_)
    refine lv_i2l hx hb dL_errorAt_8 rfl ?_
    exact st_store hx hb hr hlocks hG dL_errorAt_9 dL_errorAt_10 (tgt := 17) (by decide) dL_errorAt_17 dL_errorAt_18 hP1 hS1 (Nat.le_of_ble_eq_true rfl) (Nat.le_of_ble_eq_true rfl)
  · match i, hi with
    | 0, hi =>
      cases hi
      refine st_catch (k := 0) (hh := [(0, 10, 13, 13)]) (st_run (m := zm V J d) (t := [.int (zi a1), .int (zi a0)]) (o := 0) (rest := [.int 0, .ref (b + 474)]) (z := 102) hx hb hml hown hts hG zm_wf hP hS hl0.1 (st_met1 (y := 102) hl (by decide) rfl (Nat.le_of_ble_eq_true rfl) h) (by decide) ⟨Nat.le_of_ble_eq_true rfl, Nat.le_of_ble_eq_true rfl⟩ qL970 rfl rfl (by decide) rfl (Nat.le_of_ble_eq_true rfl) dL_errorAt_5 ⟨Nat.le_of_ble_eq_true rfl, Nat.le_of_ble_eq_true rfl⟩) hS hown hts hG hN hT (by decide) rfl rfl (by decide) (fun H1 locs1 q hP1 hS1 => ?_)
      refine lv_astore hx hb dL_errorAt_13 hl0 (by decide) rfl (fun ls1 _ => ?_)
      exact st_end hx hb hr hlocks dL_errorAt_15 dL_errorAt_16 rfl hP1 hS1 (Nat.le_of_ble_eq_true rfl) (Nat.le_of_ble_eq_true rfl)
    | i + 1, hi => simp at hi
theorem dL_tokens_0 : decode cL_tokens 0 = .ok (.aload_n 3, 1) := by decide +kernel
theorem dL_tokens_1 : decode cL_tokens 1 = .ok (.iconst 0, 1) := by decide +kernel
theorem dL_tokens_2 : decode cL_tokens 2 = .ok (.aload_n 0, 1) := by decide +kernel
theorem dL_tokens_3 : decode cL_tokens 3 = .ok (.iload_n 1, 1) := by decide +kernel
theorem dL_tokens_4 : decode cL_tokens 4 = .ok (.iload_n 2, 1) := by decide +kernel
theorem dL_tokens_5 : decode cL_tokens 5 = .ok (.invokevirtual 30, 3) := by decide +kernel
theorem dL_tokens_8 : decode cL_tokens 8 = .ok (.i2l, 1) := by decide +kernel
theorem dL_tokens_9 : decode cL_tokens 9 = .ok (.lastore, 1) := by decide +kernel
theorem dL_tokens_10 : decode cL_tokens 10 = .ok (.goto 7, 3) := by decide +kernel
theorem dL_tokens_13 : decode cL_tokens 13 = .ok (.astore 4, 2) := by decide +kernel
theorem dL_tokens_15 : decode cL_tokens 15 = .ok (.iconst 1, 1) := by decide +kernel
theorem dL_tokens_16 : decode cL_tokens 16 = .ok (.ireturn, 1) := by decide +kernel
theorem dL_tokens_17 : decode cL_tokens 17 = .ok (.iconst 0, 1) := by decide +kernel
theorem dL_tokens_18 : decode cL_tokens 18 = .ok (.ireturn, 1) := by decide +kernel
theorem qL977 : Cond.methodLink RL 30 (zy 103) ∈ zGT := zGT_of (l := [Cond.methodLink RL 30 (zy 103)]) (r := [977]) (by decide +kernel) _ List.mem_cons_self
theorem qL976 : Cond.codeWith yL_tokens cL_tokens 5 (some .int) [(0, 10, 13, 13)] ∈ zGT := zGT_of (l := [Cond.codeWith yL_tokens cL_tokens 5 (some .int) [(0, 10, 13, 13)]]) (r := [976]) (by decide +kernel) _ List.mem_cons_self
theorem st_tokens {l : Launch} (hl : l.stackTraces = false) {b : Nat} {ro : Nat → Nat} {cA : Nat → ClassId} {D : va_G} {V V1 : zVt} {J J1 : zJt} {d : Nat → Nat → UInt64} {k a0 a1 : Int} (h : stO 103 (zent 103 [.ref 0, .int (zi a0), .int (zi a1)]) [0] V J d k V1 J1) : stM l b ro cA D yL_tokens (Cond.codeWith yL_tokens cL_tokens 5 (some .int) [(0, 10, 13, 13)]) (zm V J d) (zm V1 J1 d) [.ref 0, .int (zi a0), .int (zi a1), .ref 474] (zi k) := by
  refine st_of (by decide) rfl [.ref (b + 0), .int (zi a0), .int (zi a1), .ref (b + 474)] rfl (Nat.le_of_ble_eq_true rfl) ?_
  intro p e s mid below meth c ls hx hb hml hown hts hG hN hr hlocks hT hP hl0
  have hS : va_S (zA b) s.heap s.heap [] := va_S.rf
  refine lv_aload_n hx hb dL_tokens_0 rfl (lv_at hl0 3 rfl) ?_
  refine lv_iconst (v := 0) hx hb dL_tokens_1 (by decide) ?_
  refine lv_aload_n hx hb dL_tokens_2 rfl (lv_at hl0 0 rfl) ?_
  refine lv_iload_n hx hb dL_tokens_3 rfl (lv_at hl0 1 rfl) ?_
  refine lv_iload_n hx hb dL_tokens_4 rfl (lv_at hl0 2 rfl) ?_
  rcases h with ⟨x, J0, h, rfl, rfl⟩ | ⟨i, ex, hi, h, rfl⟩
  · refine zcall_ret (st_run (m := zm V J d) (t := [.int (zi a1), .int (zi a0)]) (o := 0) (rest := [.int 0, .ref (b + 474)]) (z := 103) hx hb hml hown hts hG zm_wf hP hS hl0.1 (st_met0 (y := 103) hl (by decide) rfl (Nat.le_of_ble_eq_true rfl) h) (by decide) ⟨Nat.le_of_ble_eq_true rfl, Nat.le_of_ble_eq_true rfl⟩ qL977 rfl rfl (by decide) rfl (Nat.le_of_ble_eq_true rfl) dL_tokens_5 ⟨Nat.le_of_ble_eq_true rfl, Nat.le_of_ble_eq_true rfl⟩) hS (fun H1 locs1 hP1 hS1 _ => ?_)
    refine lv_i2l hx hb dL_tokens_8 rfl ?_
    exact st_store hx hb hr hlocks hG dL_tokens_9 dL_tokens_10 (tgt := 17) (by decide) dL_tokens_17 dL_tokens_18 hP1 hS1 (Nat.le_of_ble_eq_true rfl) (Nat.le_of_ble_eq_true rfl)
  · match i, hi with
    | 0, hi =>
      cases hi
      refine st_catch (k := 0) (hh := [(0, 10, 13, 13)]) (st_run (m := zm V J d) (t := [.int (zi a1), .int (zi a0)]) (o := 0) (rest := [.int 0, .ref (b + 474)]) (z := 103) hx hb hml hown hts hG zm_wf hP hS hl0.1 (st_met1 (y := 103) hl (by decide) rfl (Nat.le_of_ble_eq_true rfl) h) (by decide) ⟨Nat.le_of_ble_eq_true rfl, Nat.le_of_ble_eq_true rfl⟩ qL977 rfl rfl (by decide) rfl (Nat.le_of_ble_eq_true rfl) dL_tokens_5 ⟨Nat.le_of_ble_eq_true rfl, Nat.le_of_ble_eq_true rfl⟩) hS hown hts hG hN hT (by decide) rfl rfl (by decide) (fun H1 locs1 q hP1 hS1 => ?_)
      refine lv_astore hx hb dL_tokens_13 hl0 (by decide) rfl (fun ls1 _ => ?_)
      exact st_end hx hb hr hlocks dL_tokens_15 dL_tokens_16 rfl hP1 hS1 (Nat.le_of_ble_eq_true rfl) (Nat.le_of_ble_eq_true rfl)
    | i + 1, hi => simp at hi
theorem dL_token_0 : decode cL_token 0 = .ok (.aload 4, 2) := by decide +kernel
theorem dL_token_2 : decode cL_token 2 = .ok (.iconst 0, 1) := by decide +kernel
theorem dL_token_3 : decode cL_token 3 = .ok (.aload_n 0, 1) := by decide +kernel
theorem dL_token_4 : decode cL_token 4 = .ok (.iload_n 1, 1) := by decide +kernel
theorem dL_token_5 : decode cL_token 5 = .ok (.iload_n 2, 1) := by decide +kernel
theorem dL_token_6 : decode cL_token 6 = .ok (.iload_n 3, 1) := by decide +kernel
theorem dL_token_7 : decode cL_token 7 = .ok (.invokevirtual 33, 3) := by decide +kernel
theorem dL_token_10 : decode cL_token 10 = .ok (.i2l, 1) := by decide +kernel
theorem dL_token_11 : decode cL_token 11 = .ok (.lastore, 1) := by decide +kernel
theorem dL_token_12 : decode cL_token 12 = .ok (.goto 7, 3) := by decide +kernel
theorem dL_token_15 : decode cL_token 15 = .ok (.astore 5, 2) := by decide +kernel
theorem dL_token_17 : decode cL_token 17 = .ok (.iconst 1, 1) := by decide +kernel
theorem dL_token_18 : decode cL_token 18 = .ok (.ireturn, 1) := by decide +kernel
theorem dL_token_19 : decode cL_token 19 = .ok (.iconst 0, 1) := by decide +kernel
theorem dL_token_20 : decode cL_token 20 = .ok (.ireturn, 1) := by decide +kernel
theorem qL984 : Cond.methodLink RL 33 (zy 104) ∈ zGT := zGT_of (l := [Cond.methodLink RL 33 (zy 104)]) (r := [984]) (by decide +kernel) _ List.mem_cons_self
theorem qL983 : Cond.codeWith yL_token cL_token 6 (some .int) [(0, 12, 15, 13)] ∈ zGT := zGT_of (l := [Cond.codeWith yL_token cL_token 6 (some .int) [(0, 12, 15, 13)]]) (r := [983]) (by decide +kernel) _ List.mem_cons_self
theorem st_token {l : Launch} (hl : l.stackTraces = false) {b : Nat} {ro : Nat → Nat} {cA : Nat → ClassId} {D : va_G} {V V1 : zVt} {J J1 : zJt} {d : Nat → Nat → UInt64} {k a0 a1 a2 : Int} (h : stO 104 (zent 104 [.ref 0, .int (zi a0), .int (zi a1), .int (zi a2)]) [0] V J d k V1 J1) : stM l b ro cA D yL_token (Cond.codeWith yL_token cL_token 6 (some .int) [(0, 12, 15, 13)]) (zm V J d) (zm V1 J1 d) [.ref 0, .int (zi a0), .int (zi a1), .int (zi a2), .ref 474] (zi k) := by
  refine st_of (by decide) rfl [.ref (b + 0), .int (zi a0), .int (zi a1), .int (zi a2), .ref (b + 474)] rfl (Nat.le_of_ble_eq_true rfl) ?_
  intro p e s mid below meth c ls hx hb hml hown hts hG hN hr hlocks hT hP hl0
  have hS : va_S (zA b) s.heap s.heap [] := va_S.rf
  refine lv_aload hx hb dL_token_0 (lv_at hl0 4 rfl) ?_
  refine lv_iconst (v := 0) hx hb dL_token_2 (by decide) ?_
  refine lv_aload_n hx hb dL_token_3 rfl (lv_at hl0 0 rfl) ?_
  refine lv_iload_n hx hb dL_token_4 rfl (lv_at hl0 1 rfl) ?_
  refine lv_iload_n hx hb dL_token_5 rfl (lv_at hl0 2 rfl) ?_
  refine lv_iload_n hx hb dL_token_6 rfl (lv_at hl0 3 rfl) ?_
  rcases h with ⟨x, J0, h, rfl, rfl⟩ | ⟨i, ex, hi, h, rfl⟩
  · refine zcall_ret (st_run (m := zm V J d) (t := [.int (zi a2), .int (zi a1), .int (zi a0)]) (o := 0) (rest := [.int 0, .ref (b + 474)]) (z := 104) hx hb hml hown hts hG zm_wf hP hS hl0.1 (st_met0 (y := 104) hl (by decide) rfl (Nat.le_of_ble_eq_true rfl) h) (by decide) ⟨Nat.le_of_ble_eq_true rfl, Nat.le_of_ble_eq_true rfl⟩ qL984 rfl rfl (by decide) rfl (Nat.le_of_ble_eq_true rfl) dL_token_7 ⟨Nat.le_of_ble_eq_true rfl, Nat.le_of_ble_eq_true rfl⟩) hS (fun H1 locs1 hP1 hS1 _ => ?_)
    refine lv_i2l hx hb dL_token_10 rfl ?_
    exact st_store hx hb hr hlocks hG dL_token_11 dL_token_12 (tgt := 19) (by decide) dL_token_19 dL_token_20 hP1 hS1 (Nat.le_of_ble_eq_true rfl) (Nat.le_of_ble_eq_true rfl)
  · match i, hi with
    | 0, hi =>
      cases hi
      refine st_catch (k := 0) (hh := [(0, 12, 15, 13)]) (st_run (m := zm V J d) (t := [.int (zi a2), .int (zi a1), .int (zi a0)]) (o := 0) (rest := [.int 0, .ref (b + 474)]) (z := 104) hx hb hml hown hts hG zm_wf hP hS hl0.1 (st_met1 (y := 104) hl (by decide) rfl (Nat.le_of_ble_eq_true rfl) h) (by decide) ⟨Nat.le_of_ble_eq_true rfl, Nat.le_of_ble_eq_true rfl⟩ qL984 rfl rfl (by decide) rfl (Nat.le_of_ble_eq_true rfl) dL_token_7 ⟨Nat.le_of_ble_eq_true rfl, Nat.le_of_ble_eq_true rfl⟩) hS hown hts hG hN hT (by decide) rfl rfl (by decide) (fun H1 locs1 q hP1 hS1 => ?_)
      refine lv_astore hx hb dL_token_15 hl0 (by decide) rfl (fun ls1 _ => ?_)
      exact st_end hx hb hr hlocks dL_token_17 dL_token_18 rfl hP1 hS1 (Nat.le_of_ble_eq_true rfl) (Nat.le_of_ble_eq_true rfl)
    | i + 1, hi => simp at hi
theorem dL_bars_0 : decode cL_bars 0 = .ok (.aload_n 3, 1) := by decide +kernel
theorem dL_bars_1 : decode cL_bars 1 = .ok (.iconst 0, 1) := by decide +kernel
theorem dL_bars_2 : decode cL_bars 2 = .ok (.aload_n 0, 1) := by decide +kernel
theorem dL_bars_3 : decode cL_bars 3 = .ok (.iload_n 1, 1) := by decide +kernel
theorem dL_bars_4 : decode cL_bars 4 = .ok (.iload_n 2, 1) := by decide +kernel
theorem dL_bars_5 : decode cL_bars 5 = .ok (.invokevirtual 36, 3) := by decide +kernel
theorem dL_bars_8 : decode cL_bars 8 = .ok (.i2l, 1) := by decide +kernel
theorem dL_bars_9 : decode cL_bars 9 = .ok (.lastore, 1) := by decide +kernel
theorem dL_bars_10 : decode cL_bars 10 = .ok (.goto 7, 3) := by decide +kernel
theorem dL_bars_13 : decode cL_bars 13 = .ok (.astore 4, 2) := by decide +kernel
theorem dL_bars_15 : decode cL_bars 15 = .ok (.iconst 1, 1) := by decide +kernel
theorem dL_bars_16 : decode cL_bars 16 = .ok (.ireturn, 1) := by decide +kernel
theorem dL_bars_17 : decode cL_bars 17 = .ok (.iconst 0, 1) := by decide +kernel
theorem dL_bars_18 : decode cL_bars 18 = .ok (.ireturn, 1) := by decide +kernel
theorem qL993 : Cond.methodLink RL 36 (zy 105) ∈ zGT := zGT_of (l := [Cond.methodLink RL 36 (zy 105)]) (r := [993]) (by decide +kernel) _ List.mem_cons_self
theorem qL992 : Cond.codeWith yL_bars cL_bars 5 (some .int) [(0, 10, 13, 13)] ∈ zGT := zGT_of (l := [Cond.codeWith yL_bars cL_bars 5 (some .int) [(0, 10, 13, 13)]]) (r := [992]) (by decide +kernel) _ List.mem_cons_self
theorem st_bars {l : Launch} (hl : l.stackTraces = false) {b : Nat} {ro : Nat → Nat} {cA : Nat → ClassId} {D : va_G} {V V1 : zVt} {J J1 : zJt} {d : Nat → Nat → UInt64} {k a0 a1 : Int} (h : stO 105 (zent 105 [.ref 0, .int (zi a0), .int (zi a1)]) [0] V J d k V1 J1) : stM l b ro cA D yL_bars (Cond.codeWith yL_bars cL_bars 5 (some .int) [(0, 10, 13, 13)]) (zm V J d) (zm V1 J1 d) [.ref 0, .int (zi a0), .int (zi a1), .ref 474] (zi k) := by
  refine st_of (by decide) rfl [.ref (b + 0), .int (zi a0), .int (zi a1), .ref (b + 474)] rfl (Nat.le_of_ble_eq_true rfl) ?_
  intro p e s mid below meth c ls hx hb hml hown hts hG hN hr hlocks hT hP hl0
  have hS : va_S (zA b) s.heap s.heap [] := va_S.rf
  refine lv_aload_n hx hb dL_bars_0 rfl (lv_at hl0 3 rfl) ?_
  refine lv_iconst (v := 0) hx hb dL_bars_1 (by decide) ?_
  refine lv_aload_n hx hb dL_bars_2 rfl (lv_at hl0 0 rfl) ?_
  refine lv_iload_n hx hb dL_bars_3 rfl (lv_at hl0 1 rfl) ?_
  refine lv_iload_n hx hb dL_bars_4 rfl (lv_at hl0 2 rfl) ?_
  rcases h with ⟨x, J0, h, rfl, rfl⟩ | ⟨i, ex, hi, h, rfl⟩
  · refine zcall_ret (st_run (m := zm V J d) (t := [.int (zi a1), .int (zi a0)]) (o := 0) (rest := [.int 0, .ref (b + 474)]) (z := 105) hx hb hml hown hts hG zm_wf hP hS hl0.1 (st_met0 (y := 105) hl (by decide) rfl (Nat.le_of_ble_eq_true rfl) h) (by decide) ⟨Nat.le_of_ble_eq_true rfl, Nat.le_of_ble_eq_true rfl⟩ qL993 rfl rfl (by decide) rfl (Nat.le_of_ble_eq_true rfl) dL_bars_5 ⟨Nat.le_of_ble_eq_true rfl, Nat.le_of_ble_eq_true rfl⟩) hS (fun H1 locs1 hP1 hS1 _ => ?_)
    refine lv_i2l hx hb dL_bars_8 rfl ?_
    exact st_store hx hb hr hlocks hG dL_bars_9 dL_bars_10 (tgt := 17) (by decide) dL_bars_17 dL_bars_18 hP1 hS1 (Nat.le_of_ble_eq_true rfl) (Nat.le_of_ble_eq_true rfl)
  · match i, hi with
    | 0, hi =>
      cases hi
      refine st_catch (k := 0) (hh := [(0, 10, 13, 13)]) (st_run (m := zm V J d) (t := [.int (zi a1), .int (zi a0)]) (o := 0) (rest := [.int 0, .ref (b + 474)]) (z := 105) hx hb hml hown hts hG zm_wf hP hS hl0.1 (st_met1 (y := 105) hl (by decide) rfl (Nat.le_of_ble_eq_true rfl) h) (by decide) ⟨Nat.le_of_ble_eq_true rfl, Nat.le_of_ble_eq_true rfl⟩ qL993 rfl rfl (by decide) rfl (Nat.le_of_ble_eq_true rfl) dL_bars_5 ⟨Nat.le_of_ble_eq_true rfl, Nat.le_of_ble_eq_true rfl⟩) hS hown hts hG hN hT (by decide) rfl rfl (by decide) (fun H1 locs1 q hP1 hS1 => ?_)
      refine lv_astore hx hb dL_bars_13 hl0 (by decide) rfl (fun ls1 _ => ?_)
      exact st_end hx hb hr hlocks dL_bars_15 dL_bars_16 rfl hP1 hS1 (Nat.le_of_ble_eq_true rfl) (Nat.le_of_ble_eq_true rfl)
    | i + 1, hi => simp at hi
theorem dL_pitch_0 : decode cL_pitch 0 = .ok (.aload 5, 2) := by decide +kernel
theorem dL_pitch_2 : decode cL_pitch 2 = .ok (.iconst 0, 1) := by decide +kernel
theorem dL_pitch_3 : decode cL_pitch 3 = .ok (.aload_n 0, 1) := by decide +kernel
theorem dL_pitch_4 : decode cL_pitch 4 = .ok (.iload_n 1, 1) := by decide +kernel
theorem dL_pitch_5 : decode cL_pitch 5 = .ok (.iload_n 2, 1) := by decide +kernel
theorem dL_pitch_6 : decode cL_pitch 6 = .ok (.iload_n 3, 1) := by decide +kernel
theorem dL_pitch_7 : decode cL_pitch 7 = .ok (.iload 4, 2) := by decide +kernel
theorem dL_pitch_9 : decode cL_pitch 9 = .ok (.invokevirtual 39, 3) := by decide +kernel
theorem dL_pitch_12 : decode cL_pitch 12 = .ok (.i2l, 1) := by decide +kernel
theorem dL_pitch_13 : decode cL_pitch 13 = .ok (.lastore, 1) := by decide +kernel
theorem dL_pitch_14 : decode cL_pitch 14 = .ok (.goto 7, 3) := by decide +kernel
theorem dL_pitch_17 : decode cL_pitch 17 = .ok (.astore 6, 2) := by decide +kernel
theorem dL_pitch_19 : decode cL_pitch 19 = .ok (.iconst 1, 1) := by decide +kernel
theorem dL_pitch_20 : decode cL_pitch 20 = .ok (.ireturn, 1) := by decide +kernel
theorem dL_pitch_21 : decode cL_pitch 21 = .ok (.iconst 0, 1) := by decide +kernel
theorem dL_pitch_22 : decode cL_pitch 22 = .ok (.ireturn, 1) := by decide +kernel
theorem qL1000 : Cond.methodLink RL 39 (zy 106) ∈ zGT := zGT_of (l := [Cond.methodLink RL 39 (zy 106)]) (r := [1000]) (by decide +kernel) _ List.mem_cons_self
theorem qL999 : Cond.codeWith yL_pitch cL_pitch 7 (some .int) [(0, 14, 17, 13)] ∈ zGT := zGT_of (l := [Cond.codeWith yL_pitch cL_pitch 7 (some .int) [(0, 14, 17, 13)]]) (r := [999]) (by decide +kernel) _ List.mem_cons_self
theorem st_pitch {l : Launch} (hl : l.stackTraces = false) {b : Nat} {ro : Nat → Nat} {cA : Nat → ClassId} {D : va_G} {V V1 : zVt} {J J1 : zJt} {d : Nat → Nat → UInt64} {k a0 a1 a2 a3 : Int} (h : stO 106 (zent 106 [.ref 0, .int (zi a0), .int (zi a1), .int (zi a2), .int (zi a3)]) [0] V J d k V1 J1) : stM l b ro cA D yL_pitch (Cond.codeWith yL_pitch cL_pitch 7 (some .int) [(0, 14, 17, 13)]) (zm V J d) (zm V1 J1 d) [.ref 0, .int (zi a0), .int (zi a1), .int (zi a2), .int (zi a3), .ref 474] (zi k) := by
  refine st_of (by decide) rfl [.ref (b + 0), .int (zi a0), .int (zi a1), .int (zi a2), .int (zi a3), .ref (b + 474)] rfl (Nat.le_of_ble_eq_true rfl) ?_
  intro p e s mid below meth c ls hx hb hml hown hts hG hN hr hlocks hT hP hl0
  have hS : va_S (zA b) s.heap s.heap [] := va_S.rf
  refine lv_aload hx hb dL_pitch_0 (lv_at hl0 5 rfl) ?_
  refine lv_iconst (v := 0) hx hb dL_pitch_2 (by decide) ?_
  refine lv_aload_n hx hb dL_pitch_3 rfl (lv_at hl0 0 rfl) ?_
  refine lv_iload_n hx hb dL_pitch_4 rfl (lv_at hl0 1 rfl) ?_
  refine lv_iload_n hx hb dL_pitch_5 rfl (lv_at hl0 2 rfl) ?_
  refine lv_iload_n hx hb dL_pitch_6 rfl (lv_at hl0 3 rfl) ?_
  refine lv_iload hx hb dL_pitch_7 (lv_at hl0 4 rfl) ?_
  rcases h with ⟨x, J0, h, rfl, rfl⟩ | ⟨i, ex, hi, h, rfl⟩
  · refine zcall_ret (st_run (m := zm V J d) (t := [.int (zi a3), .int (zi a2), .int (zi a1), .int (zi a0)]) (o := 0) (rest := [.int 0, .ref (b + 474)]) (z := 106) hx hb hml hown hts hG zm_wf hP hS hl0.1 (st_met0 (y := 106) hl (by decide) rfl (Nat.le_of_ble_eq_true rfl) h) (by decide) ⟨Nat.le_of_ble_eq_true rfl, Nat.le_of_ble_eq_true rfl⟩ qL1000 rfl rfl (by decide) rfl (Nat.le_of_ble_eq_true rfl) dL_pitch_9 ⟨Nat.le_of_ble_eq_true rfl, Nat.le_of_ble_eq_true rfl⟩) hS (fun H1 locs1 hP1 hS1 _ => ?_)
    refine lv_i2l hx hb dL_pitch_12 rfl ?_
    exact st_store hx hb hr hlocks hG dL_pitch_13 dL_pitch_14 (tgt := 21) (by decide) dL_pitch_21 dL_pitch_22 hP1 hS1 (Nat.le_of_ble_eq_true rfl) (Nat.le_of_ble_eq_true rfl)
  · match i, hi with
    | 0, hi =>
      cases hi
      refine st_catch (k := 0) (hh := [(0, 14, 17, 13)]) (st_run (m := zm V J d) (t := [.int (zi a3), .int (zi a2), .int (zi a1), .int (zi a0)]) (o := 0) (rest := [.int 0, .ref (b + 474)]) (z := 106) hx hb hml hown hts hG zm_wf hP hS hl0.1 (st_met1 (y := 106) hl (by decide) rfl (Nat.le_of_ble_eq_true rfl) h) (by decide) ⟨Nat.le_of_ble_eq_true rfl, Nat.le_of_ble_eq_true rfl⟩ qL1000 rfl rfl (by decide) rfl (Nat.le_of_ble_eq_true rfl) dL_pitch_9 ⟨Nat.le_of_ble_eq_true rfl, Nat.le_of_ble_eq_true rfl⟩) hS hown hts hG hN hT (by decide) rfl rfl (by decide) (fun H1 locs1 q hP1 hS1 => ?_)
      refine lv_astore hx hb dL_pitch_17 hl0 (by decide) rfl (fun ls1 _ => ?_)
      exact st_end hx hb hr hlocks dL_pitch_19 dL_pitch_20 rfl hP1 hS1 (Nat.le_of_ble_eq_true rfl) (Nat.le_of_ble_eq_true rfl)
    | i + 1, hi => simp at hi
theorem dL_print_0 : decode cL_print 0 = .ok (.aload_n 3, 1) := by decide +kernel
theorem dL_print_1 : decode cL_print 1 = .ok (.iconst 0, 1) := by decide +kernel
theorem dL_print_2 : decode cL_print 2 = .ok (.aload_n 0, 1) := by decide +kernel
theorem dL_print_3 : decode cL_print 3 = .ok (.iload_n 1, 1) := by decide +kernel
theorem dL_print_4 : decode cL_print 4 = .ok (.iload_n 2, 1) := by decide +kernel
theorem dL_print_5 : decode cL_print 5 = .ok (.invokevirtual 47, 3) := by decide +kernel
theorem dL_print_8 : decode cL_print 8 = .ok (.i2l, 1) := by decide +kernel
theorem dL_print_9 : decode cL_print 9 = .ok (.lastore, 1) := by decide +kernel
theorem dL_print_10 : decode cL_print 10 = .ok (.goto 11, 3) := by decide +kernel
theorem dL_print_13 : decode cL_print 13 = .ok (.astore 4, 2) := by decide +kernel
theorem dL_print_15 : decode cL_print 15 = .ok (.iconst 1, 1) := by decide +kernel
theorem dL_print_16 : decode cL_print 16 = .ok (.ireturn, 1) := by decide +kernel
theorem dL_print_17 : decode cL_print 17 = .ok (.astore 4, 2) := by decide +kernel
theorem dL_print_19 : decode cL_print 19 = .ok (.iconst 2, 1) := by decide +kernel
theorem dL_print_20 : decode cL_print 20 = .ok (.ireturn, 1) := by decide +kernel
theorem dL_print_21 : decode cL_print 21 = .ok (.iconst 0, 1) := by decide +kernel
theorem dL_print_22 : decode cL_print 22 = .ok (.ireturn, 1) := by decide +kernel
theorem qL1032 : Cond.methodLink RL 47 (zy 109) ∈ zGT := zGT_of (l := [Cond.methodLink RL 47 (zy 109)]) (r := [1032]) (by decide +kernel) _ List.mem_cons_self
theorem qL1031 : Cond.codeWith yL_print cL_print 5 (some .int) [(0, 10, 13, 13), (0, 10, 17, 17)] ∈ zGT := zGT_of (l := [Cond.codeWith yL_print cL_print 5 (some .int) [(0, 10, 13, 13), (0, 10, 17, 17)]]) (r := [1031]) (by decide +kernel) _ List.mem_cons_self
theorem st_print {l : Launch} (hl : l.stackTraces = false) {b : Nat} {ro : Nat → Nat} {cA : Nat → ClassId} {D : va_G} {V V1 : zVt} {J J1 : zJt} {d : Nat → Nat → UInt64} {k a0 a1 : Int} (h : stO 109 (zent 109 [.ref 0, .int (zi a0), .int (zi a1)]) [0, 2] V J d k V1 J1) : stM l b ro cA D yL_print (Cond.codeWith yL_print cL_print 5 (some .int) [(0, 10, 13, 13), (0, 10, 17, 17)]) (zm V J d) (zm V1 J1 d) [.ref 0, .int (zi a0), .int (zi a1), .ref 474] (zi k) := by
  refine st_of (by decide) rfl [.ref (b + 0), .int (zi a0), .int (zi a1), .ref (b + 474)] rfl (Nat.le_of_ble_eq_true rfl) ?_
  intro p e s mid below meth c ls hx hb hml hown hts hG hN hr hlocks hT hP hl0
  have hS : va_S (zA b) s.heap s.heap [] := va_S.rf
  refine lv_aload_n hx hb dL_print_0 rfl (lv_at hl0 3 rfl) ?_
  refine lv_iconst (v := 0) hx hb dL_print_1 (by decide) ?_
  refine lv_aload_n hx hb dL_print_2 rfl (lv_at hl0 0 rfl) ?_
  refine lv_iload_n hx hb dL_print_3 rfl (lv_at hl0 1 rfl) ?_
  refine lv_iload_n hx hb dL_print_4 rfl (lv_at hl0 2 rfl) ?_
  rcases h with ⟨x, J0, h, rfl, rfl⟩ | ⟨i, ex, hi, h, rfl⟩
  · refine zcall_ret (st_run (m := zm V J d) (t := [.int (zi a1), .int (zi a0)]) (o := 0) (rest := [.int 0, .ref (b + 474)]) (z := 109) hx hb hml hown hts hG zm_wf hP hS hl0.1 (st_met0 (y := 109) hl (by decide) rfl (Nat.le_of_ble_eq_true rfl) h) (by decide) ⟨Nat.le_of_ble_eq_true rfl, Nat.le_of_ble_eq_true rfl⟩ qL1032 rfl rfl (by decide) rfl (Nat.le_of_ble_eq_true rfl) dL_print_5 ⟨Nat.le_of_ble_eq_true rfl, Nat.le_of_ble_eq_true rfl⟩) hS (fun H1 locs1 hP1 hS1 _ => ?_)
    refine lv_i2l hx hb dL_print_8 rfl ?_
    exact st_store hx hb hr hlocks hG dL_print_9 dL_print_10 (tgt := 21) (by decide) dL_print_21 dL_print_22 hP1 hS1 (Nat.le_of_ble_eq_true rfl) (Nat.le_of_ble_eq_true rfl)
  · match i, hi with
    | 0, hi =>
      cases hi
      refine st_catch (k := 0) (hh := [(0, 10, 13, 13), (0, 10, 17, 17)]) (st_run (m := zm V J d) (t := [.int (zi a1), .int (zi a0)]) (o := 0) (rest := [.int 0, .ref (b + 474)]) (z := 109) hx hb hml hown hts hG zm_wf hP hS hl0.1 (st_met1 (y := 109) hl (by decide) rfl (Nat.le_of_ble_eq_true rfl) h) (by decide) ⟨Nat.le_of_ble_eq_true rfl, Nat.le_of_ble_eq_true rfl⟩ qL1032 rfl rfl (by decide) rfl (Nat.le_of_ble_eq_true rfl) dL_print_5 ⟨Nat.le_of_ble_eq_true rfl, Nat.le_of_ble_eq_true rfl⟩) hS hown hts hG hN hT (by decide) rfl rfl (by decide) (fun H1 locs1 q hP1 hS1 => ?_)
      refine lv_astore hx hb dL_print_13 hl0 (by decide) rfl (fun ls1 _ => ?_)
      exact st_end hx hb hr hlocks dL_print_15 dL_print_16 rfl hP1 hS1 (Nat.le_of_ble_eq_true rfl) (Nat.le_of_ble_eq_true rfl)
    | 1, hi =>
      cases hi
      refine st_catch (k := 1) (hh := [(0, 10, 13, 13), (0, 10, 17, 17)]) (st_run (m := zm V J d) (t := [.int (zi a1), .int (zi a0)]) (o := 0) (rest := [.int 0, .ref (b + 474)]) (z := 109) hx hb hml hown hts hG zm_wf hP hS hl0.1 (st_met1 (y := 109) hl (by decide) rfl (Nat.le_of_ble_eq_true rfl) h) (by decide) ⟨Nat.le_of_ble_eq_true rfl, Nat.le_of_ble_eq_true rfl⟩ qL1032 rfl rfl (by decide) rfl (Nat.le_of_ble_eq_true rfl) dL_print_5 ⟨Nat.le_of_ble_eq_true rfl, Nat.le_of_ble_eq_true rfl⟩) hS hown hts hG hN hT (by decide) rfl rfl (by decide) (fun H1 locs1 q hP1 hS1 => ?_)
      refine lv_astore hx hb dL_print_17 hl0 (by decide) rfl (fun ls1 _ => ?_)
      exact st_end hx hb hr hlocks dL_print_19 dL_print_20 rfl hP1 hS1 (Nat.le_of_ble_eq_true rfl) (Nat.le_of_ble_eq_true rfl)
    | i + 2, hi => simp at hi
theorem dL_lend_0 : decode cL_lend 0 = .ok (.aload_n 3, 1) := by decide +kernel
theorem dL_lend_1 : decode cL_lend 1 = .ok (.iconst 0, 1) := by decide +kernel
theorem dL_lend_2 : decode cL_lend 2 = .ok (.aload_n 0, 1) := by decide +kernel
theorem dL_lend_3 : decode cL_lend 3 = .ok (.iload_n 1, 1) := by decide +kernel
theorem dL_lend_4 : decode cL_lend 4 = .ok (.iload_n 2, 1) := by decide +kernel
theorem dL_lend_5 : decode cL_lend 5 = .ok (.invokevirtual 50, 3) := by decide +kernel
theorem dL_lend_8 : decode cL_lend 8 = .ok (.i2l, 1) := by decide +kernel
theorem dL_lend_9 : decode cL_lend 9 = .ok (.lastore, 1) := by decide +kernel
theorem dL_lend_10 : decode cL_lend 10 = .ok (.goto 11, 3) := by decide +kernel
theorem dL_lend_13 : decode cL_lend 13 = .ok (.astore 4, 2) := by decide +kernel
theorem dL_lend_15 : decode cL_lend 15 = .ok (.iconst 1, 1) := by decide +kernel
theorem dL_lend_16 : decode cL_lend 16 = .ok (.ireturn, 1) := by decide +kernel
theorem dL_lend_17 : decode cL_lend 17 = .ok (.astore 4, 2) := by decide +kernel
theorem dL_lend_19 : decode cL_lend 19 = .ok (.iconst 2, 1) := by decide +kernel
theorem dL_lend_20 : decode cL_lend 20 = .ok (.ireturn, 1) := by decide +kernel
theorem dL_lend_21 : decode cL_lend 21 = .ok (.iconst 0, 1) := by decide +kernel
theorem dL_lend_22 : decode cL_lend 22 = .ok (.ireturn, 1) := by decide +kernel
theorem qL1044 : Cond.methodLink RL 50 (zy 111) ∈ zGT := zGT_of (l := [Cond.methodLink RL 50 (zy 111)]) (r := [1044]) (by decide +kernel) _ List.mem_cons_self
theorem qL1043 : Cond.codeWith yL_lend cL_lend 5 (some .int) [(0, 10, 13, 13), (0, 10, 17, 17)] ∈ zGT := zGT_of (l := [Cond.codeWith yL_lend cL_lend 5 (some .int) [(0, 10, 13, 13), (0, 10, 17, 17)]]) (r := [1043]) (by decide +kernel) _ List.mem_cons_self
theorem st_lend {l : Launch} (hl : l.stackTraces = false) {b : Nat} {ro : Nat → Nat} {cA : Nat → ClassId} {D : va_G} {V V1 : zVt} {J J1 : zJt} {d : Nat → Nat → UInt64} {k a0 a1 : Int} (h : stO 111 (zent 111 [.ref 0, .int (zi a0), .int (zi a1)]) [0, 2] V J d k V1 J1) : stM l b ro cA D yL_lend (Cond.codeWith yL_lend cL_lend 5 (some .int) [(0, 10, 13, 13), (0, 10, 17, 17)]) (zm V J d) (zm V1 J1 d) [.ref 0, .int (zi a0), .int (zi a1), .ref 474] (zi k) := by
  refine st_of (by decide) rfl [.ref (b + 0), .int (zi a0), .int (zi a1), .ref (b + 474)] rfl (Nat.le_of_ble_eq_true rfl) ?_
  intro p e s mid below meth c ls hx hb hml hown hts hG hN hr hlocks hT hP hl0
  have hS : va_S (zA b) s.heap s.heap [] := va_S.rf
  refine lv_aload_n hx hb dL_lend_0 rfl (lv_at hl0 3 rfl) ?_
  refine lv_iconst (v := 0) hx hb dL_lend_1 (by decide) ?_
  refine lv_aload_n hx hb dL_lend_2 rfl (lv_at hl0 0 rfl) ?_
  refine lv_iload_n hx hb dL_lend_3 rfl (lv_at hl0 1 rfl) ?_
  refine lv_iload_n hx hb dL_lend_4 rfl (lv_at hl0 2 rfl) ?_
  rcases h with ⟨x, J0, h, rfl, rfl⟩ | ⟨i, ex, hi, h, rfl⟩
  · refine zcall_ret (st_run (m := zm V J d) (t := [.int (zi a1), .int (zi a0)]) (o := 0) (rest := [.int 0, .ref (b + 474)]) (z := 111) hx hb hml hown hts hG zm_wf hP hS hl0.1 (st_met0 (y := 111) hl (by decide) rfl (Nat.le_of_ble_eq_true rfl) h) (by decide) ⟨Nat.le_of_ble_eq_true rfl, Nat.le_of_ble_eq_true rfl⟩ qL1044 rfl rfl (by decide) rfl (Nat.le_of_ble_eq_true rfl) dL_lend_5 ⟨Nat.le_of_ble_eq_true rfl, Nat.le_of_ble_eq_true rfl⟩) hS (fun H1 locs1 hP1 hS1 _ => ?_)
    refine lv_i2l hx hb dL_lend_8 rfl ?_
    exact st_store hx hb hr hlocks hG dL_lend_9 dL_lend_10 (tgt := 21) (by decide) dL_lend_21 dL_lend_22 hP1 hS1 (Nat.le_of_ble_eq_true rfl) (Nat.le_of_ble_eq_true rfl)
  · match i, hi with
    | 0, hi =>
      cases hi
      refine st_catch (k := 0) (hh := [(0, 10, 13, 13), (0, 10, 17, 17)]) (st_run (m := zm V J d) (t := [.int (zi a1), .int (zi a0)]) (o := 0) (rest := [.int 0, .ref (b + 474)]) (z := 111) hx hb hml hown hts hG zm_wf hP hS hl0.1 (st_met1 (y := 111) hl (by decide) rfl (Nat.le_of_ble_eq_true rfl) h) (by decide) ⟨Nat.le_of_ble_eq_true rfl, Nat.le_of_ble_eq_true rfl⟩ qL1044 rfl rfl (by decide) rfl (Nat.le_of_ble_eq_true rfl) dL_lend_5 ⟨Nat.le_of_ble_eq_true rfl, Nat.le_of_ble_eq_true rfl⟩) hS hown hts hG hN hT (by decide) rfl rfl (by decide) (fun H1 locs1 q hP1 hS1 => ?_)
      refine lv_astore hx hb dL_lend_13 hl0 (by decide) rfl (fun ls1 _ => ?_)
      exact st_end hx hb hr hlocks dL_lend_15 dL_lend_16 rfl hP1 hS1 (Nat.le_of_ble_eq_true rfl) (Nat.le_of_ble_eq_true rfl)
    | 1, hi =>
      cases hi
      refine st_catch (k := 1) (hh := [(0, 10, 13, 13), (0, 10, 17, 17)]) (st_run (m := zm V J d) (t := [.int (zi a1), .int (zi a0)]) (o := 0) (rest := [.int 0, .ref (b + 474)]) (z := 111) hx hb hml hown hts hG zm_wf hP hS hl0.1 (st_met1 (y := 111) hl (by decide) rfl (Nat.le_of_ble_eq_true rfl) h) (by decide) ⟨Nat.le_of_ble_eq_true rfl, Nat.le_of_ble_eq_true rfl⟩ qL1044 rfl rfl (by decide) rfl (Nat.le_of_ble_eq_true rfl) dL_lend_5 ⟨Nat.le_of_ble_eq_true rfl, Nat.le_of_ble_eq_true rfl⟩) hS hown hts hG hN hT (by decide) rfl rfl (by decide) (fun H1 locs1 q hP1 hS1 => ?_)
      refine lv_astore hx hb dL_lend_17 hl0 (by decide) rfl (fun ls1 _ => ?_)
      exact st_end hx hb hr hlocks dL_lend_19 dL_lend_20 rfl hP1 hS1 (Nat.le_of_ble_eq_true rfl) (Nat.le_of_ble_eq_true rfl)
    | i + 2, hi => simp at hi
