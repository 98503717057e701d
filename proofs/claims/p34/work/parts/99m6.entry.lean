/-! part 99m6: cell; from the law's entry to its body, and its end -/
def wcf (xs : Nat → Int32) (L : Nat) (k : Int32) : Int32 := (if Int32.ofNat L ≤ k then 53003 * (k - k / 6983 * 6983) + 3301 else xs k.toNatClampNeg) &&& 2147483647
theorem wcf_rng (xs : Nat → Int32) (L : Nat) (k : Int32) : 0 ≤ (wcf xs L k).toInt := by
  unfold wcf
  generalize (if Int32.ofNat L ≤ k then 53003 * (k - k / 6983 * 6983) + 3301 else xs k.toNatClampNeg) = x
  have h : (x &&& 2147483647).toBitVec.toNat ≤ 2147483647 := by
    show (x.toBitVec &&& (2147483647 : Int32).toBitVec).toNat ≤ 2147483647
    rw [BitVec.toNat_and]
    exact Nat.and_le_right
  have e : (x &&& 2147483647).toInt = ((x &&& 2147483647).toBitVec.toNat : Int) := by
    show BitVec.toInt (x &&& 2147483647).toBitVec = _
    rw [BitVec.toInt_eq_toNat_of_lt]
    omega
  omega
abbrev rmC : Room := { frames := 0, cells := 0, slots := 0, locals := 0 }
def cPc (b L : Nat) (xs : Nat → Int32) (k : Int32) : Array Value → State → Prop := fun v U => v = #[.ref b, .int k] ∧ va_X b L xs U U.heap ∧ b < U.heap.size
def cQc (x : Int32) : Array Value → State → Outcome → State → Prop := fun _ st o t => o = .returned (some (.int x)) ∧ va_F (fun _ => False) st t
theorem dC0 : decode cL_cell 0 = .ok (.iload_n 1, 1) := by decide +kernel
theorem dC1 : decode cL_cell 1 = .ok (.aload_n 0, 1) := by decide +kernel
theorem dC2 : decode cL_cell 2 = .ok (.arraylength, 1) := by decide +kernel
theorem dC3 : decode cL_cell 3 = .ok (.if_icmp .ge 9, 3) := by decide +kernel
theorem dC6 : decode cL_cell 6 = .ok (.aload_n 0, 1) := by decide +kernel
theorem dC7 : decode cL_cell 7 = .ok (.iload_n 1, 1) := by decide +kernel
theorem dC8 : decode cL_cell 8 = .ok (.iaload, 1) := by decide +kernel
theorem dC9 : decode cL_cell 9 = .ok (.goto 15, 3) := by decide +kernel
theorem dC12 : decode cL_cell 12 = .ok (.ldc 7, 2) := by decide +kernel
theorem dC14 : decode cL_cell 14 = .ok (.iload_n 1, 1) := by decide +kernel
theorem dC15 : decode cL_cell 15 = .ok (.sipush 6983, 3) := by decide +kernel
theorem dC18 : decode cL_cell 18 = .ok (.irem, 1) := by decide +kernel
theorem dC19 : decode cL_cell 19 = .ok (.imul, 1) := by decide +kernel
theorem dC20 : decode cL_cell 20 = .ok (.sipush 3301, 3) := by decide +kernel
theorem dC23 : decode cL_cell 23 = .ok (.iadd, 1) := by decide +kernel
theorem dC24 : decode cL_cell 24 = .ok (.ldc 8, 2) := by decide +kernel
theorem dC26 : decode cL_cell 26 = .ok (.iand, 1) := by decide +kernel
theorem dC27 : decode cL_cell 27 = .ok (.ireturn, 1) := by decide +kernel
theorem qC7 : Cond.constant RL 7 53003 ∈ zGT := zGT_of (l := [Cond.constant RL 7 53003]) (r := [561]) (by decide +kernel) _ List.mem_cons_self
theorem qC8 : Cond.constant RL 8 2147483647 ∈ zGT := zGT_of (l := [Cond.constant RL 8 2147483647]) (r := [562]) (by decide +kernel) _ List.mem_cons_self
theorem qCc : Cond.code yL_cell cL_cell 2 (some .int) ∈ zGT := zGT_of (l := [Cond.code yL_cell cL_cell 2 (some .int)]) (r := [560]) (by decide +kernel) _ List.mem_cons_self
theorem qCs : Cond.static yL_cell ∈ zGT := zGT_of (l := [Cond.static yL_cell]) (r := [559]) (by decide +kernel) _ List.mem_cons_self
theorem qCl : Cond.methodLink RL 127 yL_cell ∈ zGT := zGT_of (l := [Cond.methodLink RL 127 yL_cell]) (r := [558]) (by decide +kernel) _ List.mem_cons_self
theorem st_cell {l : Launch} {b L : Nat} {xs : Nat → Int32} {k : Int32} (hk : 0 ≤ k) (hL : L ≤ 260) : vx_Met l yL_cell (Cond.code yL_cell cL_cell 2 (some .int) :: zGT) rmC (cPc b L xs k) (cQc (wcf xs L k)) (fun _ _ _ => False) 0 0 (fun _ => False) := by
  refine z_ofW (cc := cL_cell) (maxL := 2) (ret := some .int) (by decide) rfl ?_
  intro p e s mt args below meth c s₁ B hml ht hP
  obtain ⟨rfl, hX, hbl⟩ := hP
  have hts0 : ∀ w ∈ (Cond.code yL_cell cL_cell 2 (some .int) :: zGT), w.before _ s = true := atoms_spec (ws := Cond.code yL_cell cL_cell 2 (some .int) :: zGT) B.pre
  have hts : ∀ w ∈ zGT, w.before _ s = true := fun w hw => hts0 w (List.mem_cons_of_mem _ hw)
  have hown : s.vm.findClass RL = some mt.cls := findClass_of_methodNamed B.named
  have hx := B.exec
  have hb := B.bytes
  have hr := B.returns
  have hlocks := B.notSynchronized
  have hS : va_S (fun _ => False) s.heap s.heap [] := va_S.rf
  have hl := lv_entry ([.ref b, .int k]) (n := 2) (Nat.le_of_ble_eq_true rfl)
  rw [show (#[Value.ref b, Value.int k] : Array Value) = ([Value.ref b, Value.int k] : List Value).toArray from rfl, lg_entry_eq]
  generalize (lg_sl ([.ref b, .int k]) ++ List.replicate (2 - (lg_sl ([.ref b, .int k])).length) Slot.unset).toArray = ls at hl ⊢
  have hl : lv_has ls 2 [(0, .ref b), (1, .int k)] := hl
  refine lv_iload_n hx hb dC0 rfl (lv_at hl 1 rfl) ?_
  refine lv_aload_n hx hb dC1 rfl (lv_at hl 0 rfl) ?_
  refine va_slen hx hb hX hbl (fun q => q) hS dC2 ?_
  refine lv_icmp_ge (tgt := 12) hx hb dC3 (by decide) (fun hq => ?_) (fun hq => ?_)
  · refine lv_ldc hx hb hown (hts _ qC7) dC12 ?_
    refine lv_iload_n hx hb dC14 rfl (lv_at hl 1 rfl) ?_
    refine lv_sipush (v := 6983) hx hb dC15 (by decide) ?_
    refine lv_irem hx hb dC18 (by decide) ?_
    refine lv_imul hx hb dC19 ?_
    refine lv_sipush (v := 3301) hx hb dC20 (by decide) ?_
    refine lv_iadd hx hb dC23 ?_
    refine lv_ldc hx hb hown (hts _ qC8) dC24 ?_
    refine lv_iand hx hb dC26 ?_
    have e1 : wcf xs L k = (53003 * (k - k / 6983 * 6983) + 3301) &&& 2147483647 := by
      unfold wcf
      rw [if_pos hq]
    rw [e1]
    exact vx_ret (W.iret hx hb hr (fun t ht _ => ⟨rfl, hS.F ht⟩) hS.2.2 dC27)
  · have hkL : zix k L := by
      have h1 : ¬ k < 0 := fun q => by
        rw [Int32.lt_iff_toInt_lt] at q
        rw [Int32.le_iff_toInt_le] at hk
        omega
      refine ⟨h1, ?_⟩
      rw [Int32.le_iff_toInt_le] at hq hk
      have e1 : (Int32.ofNat L).toInt = (L : Int) := by
        rw [Int32.toInt_ofNat_of_lt (by omega)]
      rw [e1] at hq
      have e2 : (k.toNatClampNeg : Int) = k.toInt := Int.toNat_of_nonneg hk
      omega
    refine lv_aload_n hx hb dC6 rfl (lv_at hl 0 rfl) ?_
    refine lv_iload_n hx hb dC7 rfl (lv_at hl 1 rfl) ?_
    refine va_sld hx hb hX hbl (fun q => q) hS (z_in hkL) dC8 ?_
    refine lv_goto (tgt := 24) hx hb dC9 (by decide) ?_
    refine lv_ldc hx hb hown (hts _ qC8) dC24 ?_
    refine lv_iand hx hb dC26 ?_
    have e1 : wcf xs L k = xs k.toNatClampNeg &&& 2147483647 := by
      unfold wcf
      rw [if_neg hq]
    rw [e1]
    exact vx_ret (W.iret hx hb hr (fun t ht _ => ⟨rfl, hS.F ht⟩) hS.2.2 dC27)
/-- what holds all along the law's body -/
def lwC (p : Program) (l : Launch) (s : State) (mid : MethodId) (meth : Method) (c : Code) (b L : Nat) (xs : Nat → Int32) (b0 : Nat) (ro : Nat → Nat) (cA : Nat → ClassId) (D : va_G) : Prop :=
  p.tables.exec = Jvm.exec ∧ c.code = code ∧ c.maxLocals = 24 ∧ s.vm.findClass RL = some mid.cls ∧ (∀ w ∈ zGT, w.before #[Value.ref b] s = true) ∧ zG b0 ro cA D s ∧ zNs s ∧ va_X b L xs s s.heap ∧ b < s.heap.size ∧ ¬ zA b0 b ∧ l.stackTraces = false ∧ L ≤ 260
section
variable {p : Program} {l : Launch} {e : Env} {s : State} {mid : MethodId} {below : List Frame} {meth : Method} {c : Code} {H : Heap} {locs : List Loc} {cells slots pc : Nat} {Q : State → Prop}
variable {b L b0 : Nat} {xs : Nat → Int32} {ro : Nat → Nat} {cA : Nat → ClassId} {D : va_G} {ls : Array Slot} {m m1 : zM} {rest : List Value}
theorem wI_27 {i w : Nat} (h : zpool 16 i = (13, 27, w)) : i = 127 := by
  obtain ⟨hm, -⟩ := zpool_mem h (by simp)
  have k := List.all_eq_true.mp (show (zP16.all fun q => !(Nat.beq q.2.1 13) || (!(Nat.beq q.2.2.1 27) || Nat.beq q.1 127)) = true by decide +kernel) _ hm
  simp only [Bool.or_eq_true, Bool.not_eq_true'] at k
  rcases k with k | k | k
  · exact absurd k (by decide)
  · exact absurd k (by decide)
  · exact Nat.eq_of_beq_eq_true k
theorem w_cell (C : lwC p l s mid meth c b L xs b0 ro cA D) (hro : ro 1048578 = b) : wCell p l e room_1 s mid #[Value.ref b] below meth c Q (wcf xs L) b0 ro := by
  obtain ⟨hx, hb, hml, hown, hts, hG, hN, hX, hbl, hbA, hst, hL2⟩ := C
  intro H locs cells slots pc i w lc k rest hS hLs hd hp h4 hk hf K
  have hi := wI_27 hp
  subst hi
  have hgood : GoodIn zGT (Cond.code yL_cell cL_cell 2 (some .int) :: zGT) := fun w hw => (List.mem_cons.mp hw).elim (fun e => by rw [e]; exact zGT_good qCc) zGT_good
  have cb : CallB room_1 s #[Value.ref b] RL 127 yL_cell cL_cell 2 (some .int) (Cond.code yL_cell cL_cell 2 (some .int) :: zGT) rmC 0 0 2 := callB_of 2 hts hgood rfl rfl rfl (hts _ qLini) (hts _ qCl) ⟨by decide, by decide, by decide +kernel⟩ ⟨Nat.le_of_ble_eq_true rfl, Nat.le_of_ble_eq_true rfl⟩
  have hbl2 : FrameBlind (cPc b L xs k) := fun a U g mk h => ⟨h.1, va_X.moved (u := U) (U := U.calling g mk a) (Vm.Alike.refl U.vm) h.2.1, h.2.2⟩
  have hpre : ∀ U : State, U.heap = H → s.WarmedH U.vm → cPc b L xs k ([Value.ref b, Value.int k] : List Value).toArray U := fun U hU hW => ⟨rfl, va_X.moved hW.alike (by rw [hU]; exact hX.kept (hS.2.1 b hbl hbA)), by rw [hU]; exact Nat.lt_of_lt_of_le hbl hS.1⟩
  have hr := vx_runS (R := room_1) (e := e) (below := below) (meth := meth) (cells := cells) (slots := slots) (H := H) (locs := locs) (g := F0 mid pc lc (.int k :: .ref (ro 1048578) :: rest.map (zcv b0 ro))) (As := [Value.ref b, Value.int k]) (rest := rest.map (zcv b0 ro)) (own := RL) (Ts := zGT) (nL := 24) ⟨hx, hb, hml, hown, hts⟩ (st_cell (l := l) (b := b) (xs := xs) hk hL2) ⟨cb, hts _ qCs⟩ ⟨hbl2, hpre⟩ rfl rfl hLs (by rw [hro]; rfl) (lv_room (z_cats b0 ro rest h4)) hd ⟨hf.1, hf.2⟩
  intro T hT X
  rcases hr T hT X with ⟨v', st₀, t, T', L', h0, X', hL', e1, e2, ⟨hv, hF⟩, st⟩ | ⟨q, st₀, t, T', L', E, ce, h0, X', hL', e1, e2, hx9, hce, hcv, hcl, st⟩
  · cases hv
    obtain ⟨k1, k2, k3⟩ := vx_keep (A1 := fun _ => False) h0 e1 hS (fun _ _ h => False.elim h) (fun _ h => False.elim h) hL' hF
    obtain ⟨t2, a1, b1⟩ := K T'.heap (locs ++ L') (fun m cA D h => h.kept (fun k x hx => k2 x.1 ((h k x hx).lt) (fun q => q))) k3 T' rfl X'
    exact ⟨t2, st t2 a1, b1⟩
  · exact hx9.elim
theorem lw_new {cc i : Nat} (C : lwC p l s mid meth c b L xs b0 ro cA D) (hz : s.heap.size + cells = b0 + m.2.2.1.1) (hf : zfr m) (hP : va_P D vwCl (zW b0 ro cA m) H) (hS : va_S (zA b0) s.heap H locs) (hc : cc < 13) (hw : Cond.classLink RL i (zCl cc).1 ∈ zGT) (hini : Cond.initialized (zCl cc).1 ∈ zGT) (hcq : cells + 1 ≤ 600104) (hsq : slots + (zCl cc).2.2 ≤ 7301314) (hd : decode code pc = .ok (.new i, 3))
    (K : ∀ H1 : Heap, va_P D vwCl (zW b0 ro cA (zmk m cc 0 (zCl cc).2.2)) H1 → va_S (zA b0) s.heap H1 locs → W p l e room_1 s mid #[Value.ref b] below meth c H1 locs (cells + 1) (slots + (zCl cc).2.2) Q (F0 mid (pc + 3) ls (.ref (b0 + m.2.2.1.1) :: rest))) :
    W p l e room_1 s mid #[Value.ref b] below meth c H locs cells slots Q (F0 mid pc ls rest) := by
  obtain ⟨hx, hb, hml, hown, hts, hG, hN, hX, hbl, hbA, hst, hL2⟩ := C
  refine z_sz hP hS hG.2.1 hz (fun hsz => ?_)
  have hKn := hG.1.1 cc _ (zcl_at hc)
  refine W.newcK hx hb hown (hts _ hw) (hts _ (zt_in hc)) (hts _ hini) rfl hd hcq hsq hKn.2.1 hsz fun H1 kC hkC e1 z1 o1 => ?_
  have hPS := z_push (t := cc) (n := 0) (w := (zCl cc).2.2) hP hS (by omega) (fun q hq => o1 q (by omega)) (by
    rw [zE_obj (m := zmk m cc 0 (zCl cc).2.2) (c := cc) (by simp [zmk]) hc]
    exact ⟨_, zcl_at hc, (u_born (zty cc) hts (zu_in hc) hKn hkC e1 (zcl_ty hc)).to (fun j hj => by
      have hj' : j < (zCl cc).2.2 := hj
      rw [z_born (b := b0) (ro := ro) hf hc hj']
      unfold vp_V
      rw [List.getD_eq_getElem?_getD]
      simp [hj'])⟩)
  exact K H1 hPS.1 hPS.2
theorem lw_newI (C : lwC p l s mid meth c b L xs b0 ro cA D) (hz : s.heap.size + cells = b0 + m.2.2.1.1) (hf : zfr m) (hP : va_P D vwCl (zW b0 ro cA m) H) (hS : va_S (zA b0) s.heap H locs) (hcq : cells + 1 ≤ 600104) (hsq : slots + 40 ≤ 7301314) (hd : decode code pc = .ok (.newarray .int, 2))
    (K : ∀ H1 : Heap, va_P D vwCl (zW b0 ro cA (zmk m 13 40 40)) H1 → va_S (zA b0) s.heap H1 locs → W p l e room_1 s mid #[Value.ref b] below meth c H1 locs (cells + 1) (slots + 40) Q (F0 mid (pc + 2) ls (.ref (b0 + m.2.2.1.1) :: rest))) :
    W p l e room_1 s mid #[Value.ref b] below meth c H locs cells slots Q (F0 mid pc ls (.int 40 :: rest)) := by
  obtain ⟨hx, hb, hml, hown, hts, hG, hN, hX, hbl, hbA, hst, hL2⟩ := C
  refine z_sz hP hS hG.2.1 hz (fun hsz => ?_)
  refine va_newaK (atype := .int) (N := 40) hx hb (hts _ (zw_a _ (by simp [newarray.typeOf]))) rfl hd rfl (by decide) (by decide) (by decide) hcq hsq hsz (fun H1 cA' e1 z1 o1 hAr hfc => ?_)
  have hcA : cA' = cA 13 := Option.some.inj (hfc.symm.trans (hG.1.2 0 (cA 13, .int) rfl).2)
  subst hcA
  have hPS := z_push (t := 13) (n := 40) (w := 40) hP hS (by omega) (fun q hq => o1 q (by omega)) (by
    rw [zE_arr (m := zmk m 13 40 40) (t := 13) (by simp [zmk]) (by decide) (by decide)]
    show H1[b0 + m.2.2.1.1]? = some (vp_cell (cA 13) (_, _))
    rw [vp_cell_i, e1]
    have hz0 : ∀ j, m.2.2.2.1 m.2.2.1.1 j = 0 := fun j => (hf m.2.2.1.1 j (Nat.le_refl _)).1
    have hl : ((zmk m 13 40 40).1 m.2.2.1.1).2 = 40 := by simp [zmk]
    rw [hl]
    show some (arrV (cA 13) 40 (fun _ => defaultValue .int)) = some (arrV (cA 13) 40 (fun j => .int (m.2.2.2.1 m.2.2.1.1 j)))
    simp only [hz0]
    rfl)
  exact K H1 hPS.1 hPS.2
theorem lw_ctor {z o i : Nat} (C : lwC p l s mid meth c b L xs b0 ro cA D) (hz1 : s.heap.size + cells = b0 + m.2.2.1.1) (hm : zwf m) (hfr : zfr m) (hP : va_P D vwCl (zW b0 ro cA m) H) (hS : va_S (zA b0) s.heap H locs) (hLs : ls.size = 24) (h : zGo true z 0 (zent z [.ref o]) [] m = some (.inl none, m1)) (hz : z < 237) (hzf : zf z + 1 ≤ 12 ∧ 8 + (zl z + 11) + zw z ≤ 450) (hw : Cond.methodLink RL i (zy z) ∈ zGT) (hk : zk z = 2) (hza : za z = 0) (hzl : 1 ≤ zl z) (ho : o < 1048576) (h4 : (rest.map fun v => v.category).sum ≤ 8) (hd : decode code pc = .ok (.invokespecial i, 3)) (hf : cells + (m1.2.2.1.1 - m.2.2.1.1) ≤ 600104 ∧ slots + (m1.2.2.1.2 - m.2.2.1.2) ≤ 7301314)
    (K : ∀ (H1 : Heap) (locs1 : List Loc), va_P D vwCl (zW b0 ro cA m1) H1 → va_S (zA b0) s.heap H1 locs1 → W p l e room_1 s mid #[Value.ref b] below meth c H1 locs1 (cells + (m1.2.2.1.1 - m.2.2.1.1)) (slots + (m1.2.2.1.2 - m.2.2.1.2)) Q (F0 mid (pc + 3) ls rest)) :
    W p l e room_1 s mid #[Value.ref b] below meth c H locs cells slots Q (F0 mid pc ls (.ref (b0 + o) :: rest)) := by
  obtain ⟨hx, hb, hml, hown, hts, hG, hN, hX, hbl, hbA, hst, hL2⟩ := C
  refine z_sz hP hS hG.2.1 hz1 (fun hsz => ?_)
  obtain ⟨-, g1, g2, g3, g4, -, g6⟩ := zm_all hz
  obtain ⟨g7, g8⟩ := g6 hk
  have hs1 := hts _ (zs_in hz)
  unfold zWs at hs1
  rw [hk] at hs1
  have hM := zGo_met (b := b0) (ro := ro) (cA := cA) (D := D) (as := [.ref o]) hst hz rfl hzl hm (fun _ => hfr) h
  have cb : CallB room_1 s #[Value.ref b] RL i (zy z) (zb z) (zl z) (zr z) (zws z) (zrm z (m1.2.2.1.1 - m.2.2.1.1) (m1.2.2.1.2 - m.2.2.1.2)) (m1.2.2.1.1 - m.2.2.1.1) (m1.2.2.1.2 - m.2.2.1.2) (za z) := callB_of (za z) hts (zGood hz) rfl rfl rfl (by rw [g3]; exact hts _ (zi_in g4)) (hts _ hw) ⟨g1.1, g1.2, g2⟩ ⟨hzf.1, hzf.2⟩
  rw [g8, hza] at cb
  have hpre := z_pre (al := true) (m := m) (as := [.ref o]) hG hP hS (fun _ => hsz)
  have e1 : zad b0 ro o = b0 + o := if_pos ho
  simp only [List.map_cons, List.map_nil, zcv, e1] at hpre
  exact zcall_ret (al := true) (vx_runI (As := []) (rest := rest) ⟨hx, hb, hml, hown, hts⟩ hM ⟨cb, g7, hs1⟩ ⟨zPc_blind, hpre⟩ rfl rfl hLs rfl (lv_room h4) hd hf) hS (fun H1 locs1 hP1 hS1 _ => K H1 locs1 hP1 hS1)
end
theorem lw_e0 : decode code 0 = .ok (.new 10, 3) := by decide +kernel
theorem lw_e3 : decode code 3 = .ok (.dup, 1) := by decide +kernel
theorem lw_e4 : decode code 4 = .ok (.invokespecial 126, 3) := by decide +kernel
theorem lw_e7 : decode code 7 = .ok (.astore_n 1, 1) := by decide +kernel
theorem lw_e8 : decode code 8 = .ok (.bipush 40, 2) := by decide +kernel
theorem lw_e10 : decode code 10 = .ok (.newarray .int, 2) := by decide +kernel
theorem lw_e12 : decode code 12 = .ok (.astore_n 2, 1) := by decide +kernel
theorem lw_e13 : decode code 13 = .ok (.bipush 40, 2) := by decide +kernel
theorem lw_e15 : decode code 15 = .ok (.newarray .int, 2) := by decide +kernel
theorem lw_e17 : decode code 17 = .ok (.astore_n 3, 1) := by decide +kernel
theorem qE137 : Cond.classLink RL 10 RX11 ∈ zGT := zGT_of (l := [Cond.classLink RL 10 RX11]) (r := [88]) (by decide +kernel) _ List.mem_cons_self
theorem qE139 : Cond.methodLink RL 126 (zy 89) ∈ zGT := zGT_of (l := [Cond.methodLink RL 126 (zy 89)]) (r := [90]) (by decide +kernel) _ List.mem_cons_self
theorem lw_q9 : Cond.initialized (zCl 11).1 ∈ zGT := by
  have h := zi_in (k := 11) (by decide)
  exact h
/-- the law's locals behind its first rows -/
abbrev wL0 : List Value := [.ref 1048578, .ref 0, .ref 430, .ref 431, .null, .null, .null, .null, .null, .null, .null, .null, .null, .null, .null, .null, .null, .null, .null, .null, .null, .null, .null, .null]
section
variable {p : Program} {l : Launch} {e : Env} {s : State} {mid : MethodId} {below : List Frame} {meth : Method} {c : Code}
variable {b L : Nat} {xs : Nat → Int32} {ro : Nat → Nat} {cA : Nat → ClassId} {D : va_G}
theorem lw_enter (C : lwC p l s mid meth c b L xs s.heap.size ro cA D) (hro : ro 1048578 = b) (hr : meth.sig.returnType = ret) (hlocks : meth.locks = false) (hbody : ∃ m1 k1, k1 ≤ 500000 ∧ wGo (wcf xs L) 237 18 wL0 [] (zm V0 J0 (fun _ _ => 0)) 0 = some (1, m1, k1)) :
    W p l e room_1 s mid #[Value.ref b] below meth c s.heap [] 0 0 (lw_Z below #[Value.ref b] s) (entryFrame mid ([Value.ref b] : List Value).toArray 24) := by
  have C2 := C
  obtain ⟨hx, hb, hml, hown, hts, hG, hN, hX, hbl, hbA, hst, hL2⟩ := C2
  obtain ⟨d1, r1, n1, u1, hchk⟩ := zini_ex
  have hl := lv_entry ([.ref b]) (n := 24) (Nat.le_of_ble_eq_true rfl)
  rw [lg_entry_eq]
  generalize (lg_sl ([.ref b]) ++ List.replicate (24 - (lg_sl ([.ref b])).length) Slot.unset).toArray = ls at hl ⊢
  have hl : lv_has ls 24 [(0, .ref b)] := hl
  have w0 : zwf (zdM (0, 0, [], [], [])) := ⟨by decide, fun o ho => absurd ho (Nat.not_lt_zero o), fun o _ => by
    show dS 0 [] o = _
    unfold dS
    rw [if_neg (Nat.not_lt_zero o)]⟩
  have f0 : zfr (zdM (0, 0, [], [], [])) := fun o k _ => ⟨rfl, rfl, rfl, rfl⟩
  have mk1 := zMo_mk (m := zdM (0, 0, [], [], [])) (t := 11) (n := 0) (w := (zCl 11).2.2) (by decide) (by decide)
  have eq1 : zmk (zdM (0, 0, [], [], [])) 11 0 (zCl 11).2.2 = zdM zd0 := by rw [zdM_N]; rfl
  have w1 : zwf (zdM zd0) := eq1 ▸ mk1.2.2.1 w0
  have f1 : zfr (zdM zd0) := eq1 ▸ mk1.2.2.2 w0 f0
  have q1 := zrund_ok _ _ _ _ _ _ _ _ r1
  have mo1 := zrun_mo _ _ _ _ _ _ _ _ q1
  have w2 := mo1.2.2.1 w1
  have f2 := mo1.2.2.2 w1 f1
  have hd1 : (zdM d1).2.2.1.1 = 430 := n1
  have mk3 := zMo_mk (m := zdM d1) (t := 13) (n := 40) (w := 40) (by decide) (by rw [hd1]; decide)
  have eq3 : zmk (zdM d1) 13 40 40 = zdM (ddN d1 13 40 40) := zdM_N
  have f5 : zfr (zdM (ddN d1 13 40 40)) := eq3 ▸ mk3.2.2.2 w2 f2
  have eq4 : zmk (zdM (ddN d1 13 40 40)) 13 40 40 = zdM (ddN (ddN d1 13 40 40) 13 40 40) := zdM_N
  have g1 : zGo true 89 0 (zent 89 [.ref 0]) [] (zdM zd0) = some (.inl none, zdM d1) := zGo_iff.mpr ⟨_, q1⟩
  have hP0 : va_P D vwCl (zW s.heap.size ro cA (zdM (0, 0, [], [], []))) s.heap := fun k q h => by simp [zW, zdM] at h
  have hS0 : va_S (zA s.heap.size) s.heap s.heap [] := va_S.rf
  refine lw_new (m := zdM (0, 0, [], [], [])) (cc := 11) C rfl f0 hP0 hS0 (by decide) qE137 lw_q9 (by decide) (by decide) lw_e0 (fun H1 hP1 hS1 => ?_)
  rw [eq1] at hP1
  refine W.widen (k := 1) (n := 12) (by omega) (by decide) ?_
  refine lv_dup hx hb lw_e3 rfl ?_
  refine lw_ctor (o := 0) (rest := [.ref (s.heap.size + 0)]) C rfl w1 f1 hP1 hS1 hl.1 g1 (by decide) ⟨Nat.le_of_ble_eq_true rfl, Nat.le_of_ble_eq_true rfl⟩ qE139 rfl rfl (Nat.le_of_ble_eq_true rfl) (by decide) (Nat.le_of_ble_eq_true rfl) lw_e4 ⟨?_, ?_⟩ (fun H2 locs2 hP2 hS2 => ?_)
  · show 1 + (d1.1 - 1) ≤ 600104
    omega
  · show 12 + (d1.2.1 - 12) ≤ 7301314
    omega
  refine W.widen (k := 430) (n := 42585) (by show 1 + (d1.1 - 1) ≤ 430; omega) (by show 12 + (d1.2.1 - 12) ≤ 42585; omega) ?_
  refine lv_astore_n (lv' := [(1, .ref (s.heap.size + 0)), (0, .ref b)]) hx hb lw_e7 rfl hl (by decide) rfl (fun ls1 hl1 => ?_)
  refine lv_bipush (v := 40) hx hb lw_e8 (by decide) ?_
  refine lw_newI (m := zdM d1) C (by rw [hd1]) f2 hP2 hS2 (by omega) (by omega) lw_e10 (fun H5 hP5 hS5 => ?_)
  rw [eq3] at hP5
  rw [hd1]
  refine lv_astore_n (lv' := [(2, .ref (s.heap.size + 430)), (1, .ref (s.heap.size + 0)), (0, .ref b)]) hx hb lw_e12 rfl hl1 (by decide) rfl (fun ls3 hl3 => ?_)
  refine lv_bipush (v := 40) hx hb lw_e13 (by decide) ?_
  refine lw_newI (m := zdM (ddN d1 13 40 40)) C (by show s.heap.size + 431 = s.heap.size + (d1.1 + 1); omega) f5 hP5 hS5 (by omega) (by omega) lw_e15 (fun H6 hP6 hS6 => ?_)
  rw [eq4] at hP6
  rw [show (zdM (ddN d1 13 40 40)).2.2.1.1 = 431 from by show d1.1 + 1 = 431; omega]
  refine lv_astore_n (lv' := [(3, .ref (s.heap.size + 431)), (2, .ref (s.heap.size + 430)), (1, .ref (s.heap.size + 0)), (0, .ref b)]) hx hb lw_e17 rfl hl3 (by decide) rfl (fun ls4 hl4 => ?_)
  have hP7 : va_P D vwCl (zW s.heap.size ro cA (zm V0 J0 (fun _ _ => 0))) H6 := by
    have hc := hchk
    unfold zdchk at hc
    simp only [Bool.and_eq_true] at hc
    rw [← zW_start n1 (of_decide_eq_true hc.1) hc.2.1 hc.2.2]
    exact hP6
  obtain ⟨m1, k1, hk1, hgo⟩ := hbody
  obtain ⟨n, hrun⟩ := wGo_iff.mp hgo
  have hC : wCtx p l s mid #[Value.ref b] c 237 s.heap.size ro cA D := ⟨hx, hb, hml, hown, hts, hG, hN, hst, Or.inr (Or.inr rfl)⟩
  have hL4 : zL s.heap.size ro ls4 (zl 237) wL0 := by
    refine ⟨rfl, hl4.1, hl4.2.1, fun i v hi hv => ?_⟩
    rcases (show i = 0 ∨ i = 1 ∨ i = 2 ∨ i = 3 ∨ 4 ≤ i by omega) with rfl | rfl | rfl | rfl | h4
    · cases hi
      show ls4[0]? = some (Slot.val (Value.ref (ro 1048578)))
      rw [hro]
      exact lv_at hl4 3 rfl
    · cases hi
      exact lv_at hl4 2 rfl
    · cases hi
      exact lv_at hl4 1 rfl
    · cases hi
      exact lv_at hl4 0 rfl
    · exfalso
      have h24 : i < 24 := (List.getElem?_eq_some_iff.mp hi).1
      have hall : ∀ i : Nat, i < 24 → 4 ≤ i → wL0[i]? = some .null := by decide
      rw [hall i h24 h4] at hi
      exact hv (Option.some.inj hi).symm
  have r := wWk_all (cf := wcf xs L) (b := s.heap.size) (ro := ro) (cA := cA) (D := D) hst n p e room_1 s mid #[Value.ref b] below meth c H6 locs2 432 42665 18 ls4 wL0 [] (zm V0 J0 (fun _ _ => 0)) 237 1 m1 0 k1 (lw_Z below #[Value.ref b] s) hC (Nat.le_of_ble_eq_true rfl) (Nat.le_of_ble_eq_true rfl) zm_wf hP7 hS6 hL4 (by show 432 + (k1 - 0) ≤ 600104; omega) (by show 42665 + 6 * (k1 - 0) ≤ 7301314; omega) (fun _ => w_cell C hro) hrun (fun H8 locs8 lc8 pcR hdR hP8 hS8 _ => by
    refine va_forget (fun q hq => hS8.2.2 q hq) ?_
    refine W.widen (k := 600104) (n := 7301314) (by omega) (by omega) ?_
    refine W.base ?_
    exact lw_ret (Drawn.sameBut.refl s.drawn lw_cs) hx hb hr hlocks hdR)
  exact r
end
theorem lw_hst (l : Launch) (hflags : l.flags = flags0) : l.stackTraces = false := by
  unfold Launch.stackTraces
  rw [hflags]
  decide +kernel
/-- THE LAW FROM ITS ENTRY, out of the run of its body in its own machine -/
theorem lw_open {p : Program} {e : Env} {s : State} {m : MethodId} {below : List Frame} {meth : Method} {c : Code} (l : Launch) (hflags : l.flags = flags0) {b L : Nat} {xs : Nat → Int32} (hL : L ≤ 260) (C0 : lw_At p s m meth c b L xs)
    (hbody : ∀ cf : Int32 → Int32, (∀ k, 0 ≤ (cf k).toInt) → ∃ m1 k1, k1 ≤ 500000 ∧ wGo cf 237 18 wL0 [] (zm V0 J0 (fun _ _ => 0)) 0 = some (1, m1, k1)) : W p l e room_1 s m #[Value.ref b] below meth c s.heap [] 0 0 (lw_Z below #[Value.ref b] s) (entryFrame m ([Value.ref b] : List Value).toArray 24) := by
  obtain ⟨ro, cA, D, hG, hN, hro⟩ := lw_world C0
  obtain ⟨hx, hb, hr, hml, hown, hts, hX, hbl, hlocks, hgv⟩ := C0
  have C : lwC p l s m meth c b L xs s.heap.size ro cA D := ⟨hx, hb, hml, hown, fun w hw => hts w (List.mem_filter.mp hw).1, hG, hN, hX, hbl, Nat.not_le.mpr hbl, lw_hst l hflags, hL⟩
  exact lw_enter C hro hr hlocks (hbody (wcf xs L) (wcf_rng xs L))
