/-! part 99z: the law's entry: the two objects and the two rows are made -/
theorem qL137 : Cond.classLink RL 8 RX11 ∈ zGT := zGT_of (l := [Cond.classLink RL 8 RX11]) (r := [137]) (by decide +kernel) _ List.mem_cons_self
theorem qL1316 : Cond.classLink RL 107 RX12 ∈ zGT := zGT_of (l := [Cond.classLink RL 107 RX12]) (r := [1316]) (by decide +kernel) _ List.mem_cons_self
theorem qL139 : Cond.methodLink RL 106 (zy 89) ∈ zGT := zGT_of (l := [Cond.methodLink RL 106 (zy 89)]) (r := [139]) (by decide +kernel) _ List.mem_cons_self
theorem qL1318 : Cond.methodLink RL 109 (zy 143) ∈ zGT := zGT_of (l := [Cond.methodLink RL 109 (zy 143)]) (r := [1318]) (by decide +kernel) _ List.mem_cons_self
theorem lw_e0 : decode code 0 = .ok (.new 8, 3) := by decide +kernel
theorem lw_e3 : decode code 3 = .ok (.dup, 1) := by decide +kernel
theorem lw_e4 : decode code 4 = .ok (.invokespecial 106, 3) := by decide +kernel
theorem lw_e7 : decode code 7 = .ok (.astore_n 1, 1) := by decide +kernel
theorem lw_e8 : decode code 8 = .ok (.new 107, 3) := by decide +kernel
theorem lw_e11 : decode code 11 = .ok (.dup, 1) := by decide +kernel
theorem lw_e12 : decode code 12 = .ok (.invokespecial 109, 3) := by decide +kernel
theorem lw_e15 : decode code 15 = .ok (.astore_n 2, 1) := by decide +kernel
theorem lw_e16 : decode code 16 = .ok (.iconst 1, 1) := by decide +kernel
theorem lw_e17 : decode code 17 = .ok (.newarray .long, 2) := by decide +kernel
theorem lw_e19 : decode code 19 = .ok (.astore_n 3, 1) := by decide +kernel
theorem lw_e20 : decode code 20 = .ok (.iconst 1, 1) := by decide +kernel
theorem lw_e21 : decode code 21 = .ok (.newarray .double, 2) := by decide +kernel
theorem lw_e23 : decode code 23 = .ok (.astore 4, 2) := by decide +kernel
theorem lw_e25 : decode code 25 = .ok (.iconst 0, 1) := by decide +kernel
theorem lw_e26 : decode code 26 = .ok (.istore 5, 2) := by decide +kernel
section
variable {p : Program} {l : Launch} {e : Env} {s : State} {mid : MethodId} {below : List Frame} {meth : Method} {c : Code} {H : Heap} {locs : List Loc} {cells slots pc : Nat} {Q : State → Prop}
variable {b L b0 : Nat} {xs : Nat → Int32} {ro : Nat → Nat} {cA : Nat → ClassId} {D : va_G} {ls : Array Slot} {m m1 : zM} {rest : List Value}
theorem lw_new {cc i : Nat} (C : lwC p l s mid meth c b L xs b0 ro cA D) (hz : s.heap.size + cells = b0 + m.2.2.1.1) (hf : zfr m) (hP : va_P D vwCl (zW b0 ro cA m) H) (hS : va_S (zA b0) s.heap H locs) (hc : cc < 13) (hw : Cond.classLink RL i (zCl cc).1 ∈ zGT) (hini : Cond.initialized (zCl cc).1 ∈ zGT) (hcq : cells + 1 ≤ 601024) (hsq : slots + (zCl cc).2.2 ≤ 7293034) (hd : decode code pc = .ok (.new i, 3))
    (K : ∀ H1 : Heap, va_P D vwCl (zW b0 ro cA (zmk m cc 0 (zCl cc).2.2)) H1 → va_S (zA b0) s.heap H1 locs → W p l e room_1 s mid #[Value.ref b] below meth c H1 locs (cells + 1) (slots + (zCl cc).2.2) Q (F0 mid (pc + 3) ls (.ref (b0 + m.2.2.1.1) :: rest))) :
    W p l e room_1 s mid #[Value.ref b] below meth c H locs cells slots Q (F0 mid pc ls rest) := by
  obtain ⟨hx, hb, hml, hown, hts, hG, hN, hX, hbl, hbA, hst, hL2⟩ := C
  refine z_sz hP hS hG.2.1 hz (fun hsz => ?_)
  have hKn := hG.1.1 cc _ (zcl_at hc)
  refine W.newcK hx hb hown (hts _ hw) (hts _ (zt_in hc)) (hts _ hini) rfl hd hcq hsq hKn.2.1 hsz fun H1 kC hkC e1 z1 o1 => ?_
  have hPS := z_push (t := cc) (n := 0) (w := (zCl cc).2.2) hP hS (by omega) (fun q hq => o1 q (by omega)) (by
    rw [zE_obj (m := zmk m cc 0 (zCl cc).2.2) (c := cc) (by simp [zmk]) hc]
    exact ⟨_, zcl_at hc, (u_born (zty cc) hts (zu_in hc) hKn hkC e1 (zcl_ty hc)).to (fun j hj => by
      have hj' : j < (zCl cc).2.2 := hj
      rw [z_born (b := b0) (ro := ro) hf hc hj']
      unfold vp_V
      rw [List.getD_eq_getElem?_getD]
      simp [hj'])⟩)
  exact K H1 hPS.1 hPS.2
theorem lw_newJ (C : lwC p l s mid meth c b L xs b0 ro cA D) (hz : s.heap.size + cells = b0 + m.2.2.1.1) (hf : zfr m) (hP : va_P D vwCl (zW b0 ro cA m) H) (hS : va_S (zA b0) s.heap H locs) (hcq : cells + 1 ≤ 601024) (hsq : slots + 1 ≤ 7293034) (hd : decode code pc = .ok (.newarray .long, 2))
    (K : ∀ H1 : Heap, va_P D vwCl (zW b0 ro cA (zmk m 16 1 1)) H1 → va_S (zA b0) s.heap H1 locs → W p l e room_1 s mid #[Value.ref b] below meth c H1 locs (cells + 1) (slots + 1) Q (F0 mid (pc + 2) ls (.ref (b0 + m.2.2.1.1) :: rest))) :
    W p l e room_1 s mid #[Value.ref b] below meth c H locs cells slots Q (F0 mid pc ls (.int 1 :: rest)) := by
  obtain ⟨hx, hb, hml, hown, hts, hG, hN, hX, hbl, hbA, hst, hL2⟩ := C
  refine z_sz hP hS hG.2.1 hz (fun hsz => ?_)
  refine va_newaK (atype := .long) (N := 1) hx hb (hts _ (zw_a _ (by simp [newarray.typeOf]))) rfl hd rfl (by decide) (by decide) (by decide) hcq hsq hsz (fun H1 cA' e1 z1 o1 hAr hfc => ?_)
  have hcA : cA' = cA 16 := Option.some.inj (hfc.symm.trans (hG.1.2 3 (cA 16, .long) rfl).2)
  subst hcA
  have hPS := z_push (t := 16) (n := 1) (w := 1) hP hS (by omega) (fun q hq => o1 q (by omega)) (by
    rw [zE_arrJ (m := zmk m 16 1 1) (by simp [zmk])]
    show H1[b0 + m.2.2.1.1]? = some (vp_cell (cA 16) (_, _))
    rw [vp_cell_l, e1]
    have hz0 : ∀ j, m.2.2.2.2.1 m.2.2.1.1 j = 0 := fun j => (hf m.2.2.1.1 j (Nat.le_refl _)).2.1
    have hl : ((zmk m 16 1 1).1 m.2.2.1.1).2 = 1 := by simp [zmk]
    rw [hl]
    show some (arrV (cA 16) 1 (fun _ => defaultValue .long)) = some (arrV (cA 16) 1 (fun j => .long (m.2.2.2.2.1 m.2.2.1.1 j)))
    simp only [hz0]
    rfl)
  exact K H1 hPS.1 hPS.2
theorem lw_newD (C : lwC p l s mid meth c b L xs b0 ro cA D) (hz : s.heap.size + cells = b0 + m.2.2.1.1) (hf : zfr m) (hP : va_P D vwCl (zW b0 ro cA m) H) (hS : va_S (zA b0) s.heap H locs) (hcq : cells + 1 ≤ 601024) (hsq : slots + 1 ≤ 7293034) (hd : decode code pc = .ok (.newarray .double, 2))
    (K : ∀ H1 : Heap, va_P D vwCl (zW b0 ro cA (zmk m 17 1 1)) H1 → va_S (zA b0) s.heap H1 locs → W p l e room_1 s mid #[Value.ref b] below meth c H1 locs (cells + 1) (slots + 1) Q (F0 mid (pc + 2) ls (.ref (b0 + m.2.2.1.1) :: rest))) :
    W p l e room_1 s mid #[Value.ref b] below meth c H locs cells slots Q (F0 mid pc ls (.int 1 :: rest)) := by
  obtain ⟨hx, hb, hml, hown, hts, hG, hN, hX, hbl, hbA, hst, hL2⟩ := C
  refine z_sz hP hS hG.2.1 hz (fun hsz => ?_)
  refine va_newaK (atype := .double) (N := 1) hx hb (hts _ (zw_a _ (by simp [newarray.typeOf]))) rfl hd rfl (by decide) (by decide) (by decide) hcq hsq hsz (fun H1 cA' e1 z1 o1 hAr hfc => ?_)
  have hcA : cA' = cA 17 := Option.some.inj (hfc.symm.trans (hG.1.2 4 (cA 17, .double) rfl).2)
  subst hcA
  have hPS := z_push (t := 17) (n := 1) (w := 1) hP hS (by omega) (fun q hq => o1 q (by omega)) (by
    rw [zE_arrD (m := zmk m 17 1 1) (by simp [zmk])]
    show H1[b0 + m.2.2.1.1]? = some (vp_cell (cA 17) (_, _))
    rw [vp_cell_d, e1]
    have hz0 : ∀ j, m.2.2.2.2.2 m.2.2.1.1 j = 0 := fun j => (hf m.2.2.1.1 j (Nat.le_refl _)).2.2.1
    have hl : ((zmk m 17 1 1).1 m.2.2.1.1).2 = 1 := by simp [zmk]
    rw [hl]
    show some (arrV (cA 17) 1 (fun _ => defaultValue .double)) = some (arrV (cA 17) 1 (fun j => .double (m.2.2.2.2.2 m.2.2.1.1 j)))
    simp only [hz0]
    rfl)
  exact K H1 hPS.1 hPS.2
theorem lw_ctor {z o i : Nat} (C : lwC p l s mid meth c b L xs b0 ro cA D) (hz1 : s.heap.size + cells = b0 + m.2.2.1.1) (hm : zwf m) (hfr : zfr m) (hP : va_P D vwCl (zW b0 ro cA m) H) (hS : va_S (zA b0) s.heap H locs) (hLs : ls.size = 8) (h : zGo true z 0 (zent z [.ref o]) [] m = some (.inl none, m1)) (hz : z < 237) (hzf : zf z + 1 ≤ 12 ∧ 8 + (zl z + 11) + zw z ≤ 480) (hw : Cond.methodLink RL i (zy z) ∈ zGT) (hk : zk z = 2) (hza : za z = 0) (hzl : 1 ≤ zl z) (ho : o < 1048576) (h4 : (rest.map fun v => v.category).sum ≤ 8) (hd : decode code pc = .ok (.invokespecial i, 3)) (hf : cells + (m1.2.2.1.1 - m.2.2.1.1) ≤ 601024 ∧ slots + (m1.2.2.1.2 - m.2.2.1.2) ≤ 7293034)
    (K : ∀ (H1 : Heap) (locs1 : List Loc), va_P D vwCl (zW b0 ro cA m1) H1 → va_S (zA b0) s.heap H1 locs1 → W p l e room_1 s mid #[Value.ref b] below meth c H1 locs1 (cells + (m1.2.2.1.1 - m.2.2.1.1)) (slots + (m1.2.2.1.2 - m.2.2.1.2)) Q (F0 mid (pc + 3) ls rest)) :
    W p l e room_1 s mid #[Value.ref b] below meth c H locs cells slots Q (F0 mid pc ls (.ref (b0 + o) :: rest)) := by
  obtain ⟨hx, hb, hml, hown, hts, hG, hN, hX, hbl, hbA, hst, hL2⟩ := C
  refine z_sz hP hS hG.2.1 hz1 (fun hsz => ?_)
  obtain ⟨-, g1, g2, g3, g4, -, g6⟩ := zm_all hz
  obtain ⟨g7, g8⟩ := g6 hk
  have hs1 := hts _ (zs_in hz)
  unfold zWs at hs1
  rw [hk] at hs1
  have hM := zGo_met (b := b0) (ro := ro) (cA := cA) (D := D) (as := [.ref o]) hst hz rfl hzl hm (fun _ => hfr) h
  have cb : CallB room_1 s #[Value.ref b] RL i (zy z) (zb z) (zl z) (zr z) (zws z) (zrm z (m1.2.2.1.1 - m.2.2.1.1) (m1.2.2.1.2 - m.2.2.1.2)) (m1.2.2.1.1 - m.2.2.1.1) (m1.2.2.1.2 - m.2.2.1.2) (za z) := callB_of (za z) hts (zGood hz) rfl rfl rfl (by rw [g3]; exact hts _ (zi_in g4)) (hts _ hw) ⟨g1.1, g1.2, g2⟩ ⟨hzf.1, hzf.2⟩
  rw [g8, hza] at cb
  have hpre := z_pre (al := true) (m := m) (as := [.ref o]) hG hP hS (fun _ => hsz)
  have e1 : zad b0 ro o = b0 + o := if_pos ho
  simp only [List.map_cons, List.map_nil, zcv, e1] at hpre
  exact zcall_ret (al := true) (vx_runI (As := []) (rest := rest) ⟨hx, hb, hml, hown, hts⟩ hM ⟨cb, g7, hs1⟩ ⟨zPc_blind, hpre⟩ rfl rfl hLs rfl (lv_room h4) hd hf) hS (fun H1 locs1 hP1 hS1 _ => K H1 locs1 hP1 hS1)
end
