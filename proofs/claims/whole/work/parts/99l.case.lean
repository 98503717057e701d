/-! part 99l: one call of the script, on both sides -/
def lwThr (T n : Nat) : Bool := lwD T (.aload_n 2) 1 && (lwD (T + 1) (.invokevirtual 116) 3 && (lwD (T + 4) (.iload 6) 2 && (lwD (T + 6) (.if_icmp .eq 5) 3 && (lwD (T + 11) (.iload 6) 2 && lwD (T + 13) (.ifCond .ne (n : Int)) 3))))
def lwCmp (T : Nat) (off : Int) : Bool := lwD T (.aload_n 3) 1 && (lwD (T + 1) (.iconst 0) 1 && (lwD (T + 2) .laload 1 && (lwD (T + 3) (.iload 7) 2 && (lwD (T + 5) .i2l 1 && (lwD (T + 6) .lcmp 1 && (lwD (T + 7) (.ifCond .eq 5) 3 && lwD (T + 12) (.goto off) 3))))))
def lwHead (P A iS iM : Nat) : Bool := lwD P (.aload_n 1) 1 && (lwD (P + 1 + A) (.aload_n 3) 1 && (lwD (P + 2 + A) (.invokestatic iS) 3 && (lwD (P + 5 + A) (.istore 6) 2 && (lwD (P + 7 + A) (.aload_n 2) 1 && (lwD (P + 8 + 2 * A) (.invokevirtual iM) 3 && lwD (P + 11 + 2 * A) (.istore 7) 2)))))
theorem qLthr : Cond.methodLink RL 116 (zy 144) ∈ zGT := zGT_of (l := [Cond.methodLink RL 116 (zy 144)]) (r := [1506]) (by decide +kernel) _ List.mem_cons_self
theorem qLini : Cond.initialized RL ∈ zGT := zGT_of (l := [Cond.initialized RL]) (r := [114]) (by decide +kernel) _ List.mem_cons_self
theorem zS0_430 : zS0 430 = (12, 0) := by decide +kernel
theorem zS0_0 : zS0 0 = (11, 0) := by decide +kernel
theorem zS0_474 : zS0 474 = (16, 1) := by decide +kernel
section
variable {p : Program} {l : Launch} {e : Env} {s : State} {mid : MethodId} {below : List Frame} {meth : Method} {c : Code} {H : Heap} {locs : List Loc} {cells slots pc : Nat} {Q : State → Prop}
variable {b L b0 k : Nat} {xs : Nat → Int32} {ro : Nat → Nat} {cA : Nat → ClassId} {D : va_G} {ls : Array Slot} {V V2 : zVt} {J J2 : zJt} {d : Nat → Nat → UInt64}
/-- the law calls a method of the class or of the reference -/
theorem lw_model {z i o : Nat} {v : Value} {vals rest : List Value} (C : lwC p l s mid meth c b L xs b0 ro cA D) (hP : va_P D vwCl (zW b0 ro cA (zm V J d)) H) (hS : va_S (zA b0) s.heap H locs) (hLs : ls.size = 8)
    (h : zGo false z 0 (zent z (.ref o :: vals)) [] (zm V J d) = some (.inl (some v), zm V2 J2 d)) (hz : z < 237) (hzf : zf z + 1 ≤ 12 ∧ 8 + (zl z + 11) + zw z ≤ 480) (hw : Cond.methodLink RL i (zy z) ∈ zGT) (hk : zk z = 0) (ho : (zS0 o).1 = zc z) (h13 : zc z < 13) (hlen : vals.length = za z) (hv : vals.map (zcv b0 ro) = vals) (harg : zarg (.ref o :: vals) = true) (hle : (Value.ref o :: vals).length ≤ zl z) (h4 : (rest.map fun v => v.category).sum ≤ 8) (hd : decode code pc = .ok (.invokevirtual i, 3)) (hf : cells ≤ 601024 ∧ slots ≤ 7293034)
    (K : ∀ (H1 : Heap) (locs1 : List Loc), va_P D vwCl (zW b0 ro cA (zm V2 J2 d)) H1 → va_S (zA b0) s.heap H1 locs1 → W p l e room_1 s mid #[Value.ref b] below meth c H1 locs1 cells slots Q (F0 mid (pc + 3) ls (zcv b0 ro v :: rest))) :
    W p l e room_1 s mid #[Value.ref b] below meth c H locs cells slots Q (F0 mid pc ls (vals.reverse ++ .ref (b0 + o) :: rest)) := by
  obtain ⟨hx, hb, hml, hown, hts, hG, hN, hX, hbl, hbA, hst, hL2⟩ := C
  have hM := st_met0 (b := b0) (ro := ro) (cA := cA) (D := D) hst hz harg hle h
  have hr := st_run (R := room_1) (e := e) (below := below) (meth := meth) (cells := cells) (slots := slots) (pc := pc) (m := zm V J d) (t := vals.reverse) (o := o) (rest := rest) (z := z) (i := i) (lc := ls) hx hb hml hown hts hG zm_wf hP hS hLs (by rw [List.reverse_reverse]; exact hM) hz hzf hw hk ho h13 (by rw [List.length_reverse]; exact hlen) h4 hd hf
  rw [List.map_reverse, hv] at hr
  exact zcall_ret (al := false) hr hS (fun H1 locs1 hP1 hS1 _ => K H1 locs1 hP1 hS1)
/-- the reference's number is the stub's: go on behind 'ifne', or past the answers -/
theorem lw_thrown {T n : Nat} {kk : Int} (C : lwC p l s mid meth c b L xs b0 ro cA D) (hB : lwThr T n = true) (hP : va_P D vwCl (zW b0 ro cA (zm V J d)) H) (hS : va_S (zA b0) s.heap H locs) (hLs : ls.size = 8) (h2 : ls[2]? = some (.val (.ref (b0 + 430)))) (h6 : ls[6]? = some (.val (.int (zi kk)))) (hkk : V 430 60 = kk) (hf : cells ≤ 601024 ∧ slots ≤ 7293034)
    (K0 : ∀ (H1 : Heap) (locs1 : List Loc), va_P D vwCl (zW b0 ro cA (zm V J d)) H1 → va_S (zA b0) s.heap H1 locs1 → zi kk = 0 → W p l e room_1 s mid #[Value.ref b] below meth c H1 locs1 cells slots Q (F0 mid (T + 16) ls []))
    (K1 : ∀ (H1 : Heap) (locs1 : List Loc), va_P D vwCl (zW b0 ro cA (zm V J d)) H1 → va_S (zA b0) s.heap H1 locs1 → ¬ zi kk = 0 → W p l e room_1 s mid #[Value.ref b] below meth c H1 locs1 cells slots Q (F0 mid (T + 13 + n) ls [])) :
    W p l e room_1 s mid #[Value.ref b] below meth c H locs cells slots Q (F0 mid T ls []) := by
  unfold lwThr at hB
  simp only [Bool.and_eq_true] at hB
  obtain ⟨d1, d2, d3, d4, d5, d6⟩ := hB
  have C2 := C
  obtain ⟨hx, hb, -⟩ := C2
  refine lv_aload_n hx hb (lwD_of d1) rfl h2 ?_
  refine lw_model (z := 144) (o := 430) (vals := []) (rest := []) C hP hS hLs ze_144_0 (by decide) ⟨Nat.le_of_ble_eq_true rfl, Nat.le_of_ble_eq_true rfl⟩ qLthr rfl (by rw [zS0_430]; rfl) (by decide) rfl rfl rfl (Nat.le_of_ble_eq_true rfl) (Nat.le_of_ble_eq_true rfl) (lwD_of d2) hf (fun H1 locs1 hP1 hS1 => ?_)
  rw [hkk]
  refine lv_iload hx hb (lwD_of d3) h6 ?_
  refine lv_icmp_eq (tgt := T + 11) hx hb (lwD_of d4) (by omega) (fun _ => ?_) (fun hq => absurd rfl hq)
  refine lv_iload hx hb (lwD_of d5) h6 ?_
  exact lv_if_ne (tgt := T + 13 + n) hx hb (lwD_of d6) (by omega) (fun hq => K1 H1 locs1 hP1 hS1 hq) (fun hq => K0 H1 locs1 hP1 hS1 hq)
/-- the two answers are the same -/
theorem lw_same {T : Nat} {off : Int} {x y : Int} (C : lwC p l s mid meth c b L xs b0 ro cA D) (hB : lwCmp T off = true) (hoff : ((T + 12 : Nat) : Int) + off = (2278 : Nat)) (hP : va_P D vwCl (zW b0 ro cA (zm V J d)) H) (h3 : ls[3]? = some (.val (.ref (b0 + 474)))) (h7 : ls[7]? = some (.val (.int (zi y)))) (hJ : J 474 0 = (zi y).toInt64)
    (K : W p l e room_1 s mid #[Value.ref b] below meth c H locs cells slots Q (F0 mid 2278 ls [])) :
    W p l e room_1 s mid #[Value.ref b] below meth c H locs cells slots Q (F0 mid T ls []) := by
  unfold lwCmp at hB
  simp only [Bool.and_eq_true] at hB
  obtain ⟨d1, d2, d3, d4, d5, d6, d7, d8⟩ := hB
  obtain ⟨hx, hb, hml, hown, hts, hG, hN, hX, hbl, hbA, hst, hL2⟩ := C
  have ht1 : ((zm V J d).1 474).1 = 16 := by
    show (zS0 474).1 = 16
    rw [zS0_474]
  have hlt : 474 < (zm V J d).2.2.1.1 := (by decide : 474 < 476)
  refine lv_aload_n hx hb (lwD_of d1) rfl h3 ?_
  refine lv_iconst (v := 0) hx hb (lwD_of d2) (by decide) ?_
  refine va_lald hx hb hG.1 hP 474 3 (by rw [zW_at hlt, zE_arrJ ht1]) rfl (z_in ?_) (lwD_of d3) ?_
  · show zix 0 (zS0 474).2
    rw [zS0_474]
    exact ⟨by decide, by decide⟩
  have hJ2 : (zm V J d).2.2.2.2.1 474 (0 : Int32).toNatClampNeg = (zi y).toInt64 := hJ
  rw [hJ2]
  refine lv_iload hx hb (lwD_of d4) h7 ?_
  refine lv_i2l hx hb (lwD_of d5) rfl ?_
  refine W.lcmp hx hb (lwD_of d6) ?_
  have e0 : lg_cmp (zi y).toInt64 (zi y).toInt64 = 0 := by simp [lg_cmp]
  rw [e0]
  refine lv_if_eq (tgt := T + 12) hx hb (lwD_of d7) (by omega) (fun _ => ?_) (fun hq => absurd rfl hq)
  exact lv_goto (tgt := 2278) hx hb (lwD_of d8) hoff K
end
