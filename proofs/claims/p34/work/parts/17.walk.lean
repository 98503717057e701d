/-! part 17: calls, ends, throws, entries -/
def zNeB : Bool := (List.range 17).all fun c => (zP.getD c []).all fun q => !(Nat.beq q.2.1 12) || zNe.any fun n => decide (n.1 = zXn c) && (Nat.beq n.2.1 q.1 && decide (n.2.2.1 = zy q.2.2.1))
theorem zF_ne : zNeB = true := by decide +kernel
theorem zNe_in {c i z w : Nat} (h : zpool c i = (12, z, w)) : ∃ host, Cond.methodLinkNest (zXn c) i (zy z) host ∈ zNw := by
  obtain ⟨hm, hc⟩ := zpool_mem h (by simp)
  have h1 := List.all_eq_true.mp (List.all_eq_true.mp zF_ne c (List.mem_range.mpr hc)) _ hm
  simp only [Nat.beq_eq_true_eq, Bool.or_eq_true, Bool.not_eq_true', List.any_eq_true, Bool.and_eq_true, decide_eq_true_eq] at h1
  rcases h1 with h1 | ⟨n, hn, h2, h3, h4⟩
  · exact absurd h1 (by decide)
  · refine ⟨n.2.2.2, List.mem_append_left _ (List.mem_map.mpr ⟨n, hn, ?_⟩)⟩
    rw [h2, Nat.eq_of_beq_eq_true h3, h4]
section
variable {p : Program} {l : Launch} {e : Env} {R : Room} {s : State} {mid : MethodId} {args : Array Value} {below : List Frame} {meth : Method} {c : Code} {H : Heap} {locs : List Loc} {cells slots pc mc ms mcQ msQ : Nat} {Q : State → Prop}
variable {b : Nat} {ro : Nat → Nat} {cA : Nat → ClassId} {D : va_G} {al : Bool} {m m1 : zM} {lc : Array Slot} {y z i w o : Nat} {as st rest t : List Value} {r : zRes}
theorem z_pre (hG : zG b ro cA D s) (hP : va_P D vwCl (zW b ro cA m) H) (hS : va_S (zA b) s.heap H locs) (hsz : al = true → H.size = b + m.2.2.1.1) : ∀ U : State, U.heap = H → s.WarmedH U.vm → zPc b ro cA D al m as (as.map (zcv b ro)).toArray U := fun U hU hW => ⟨rfl, hG.to hW (by rw [hU]; exact hS.1) (fun a h1 h2 => by rw [hU]; exact hS.2.1 a h1 h2), by rw [hU]; exact hP, fun h => by rw [hU]; exact hsz h⟩
theorem z_cb (hx : p.tables.exec = Jvm.exec) (hts : ∀ w ∈ zGT, w.before args s = true) (hRf : zf y ≤ R.frames) (hRl : zw y ≤ R.locals) (hfit : zfit y z = true) (hp : zpool (zc y) i = (2, z, w)) : CallB R s args (zXn (zc y)) i (zy z) (zb z) (zl z) (zr z) (zws z) (zrm z mc ms) mc ms (za z) := by
  obtain ⟨hz, f1, f2⟩ := zfit_of hfit
  obtain ⟨-, g1, g2, g3, g4, -, -⟩ := zm_all hz
  refine callB_of (za z) hts (zGood hz) rfl rfl rfl (by rw [g3]; exact hts _ (zi_in g4)) (hts _ (zp_in hp (by simp) (by simp))) ⟨g1.1, g1.2, g2⟩ ⟨Nat.le_trans f1 hRf, Nat.le_trans f2 hRl⟩
theorem zcallV (hx : p.tables.exec = Jvm.exec) (hb : c.code = zb y) (hml : c.maxLocals = zl y) (hown : s.vm.findClass (zXn (zc y)) = some mid.cls) (hts : ∀ w ∈ zGT, w.before args s = true) (hG : zG b ro cA D s) (hRf : zf y ≤ R.frames) (hRl : zw y ≤ R.locals) (hm : zwf m) (hP : va_P D vwCl (zW b ro cA m) H) (hS : va_S (zA b) s.heap H locs) (hsz : al = true → H.size = b + m.2.2.1.1) (hLs : lc.size = zl y)
    (hM : vx_Met l (zy z) (zws z) (zrm z mc ms) (zPc b ro cA D al m (.ref o :: t.reverse)) (zQ b ro cA D al r m1) (zXC b ro cA D r m1) mc ms (zA b)) (hfit : zfit y z = true) (hp : zpool (zc y) i = (2, z, w)) (hk : zk z = 0) (ht : (m.1 o).1 = zc z) (h13 : zc z < 13) (hlen : t.length = za z) (h4 : zcs rest ≤ 8) (hd : decode (zb y) pc = .ok (.invokevirtual i, 3)) (hf : cells + mc ≤ R.cells ∧ slots + ms ≤ R.slots) :
    vx_Run p l e R s mid args below meth c H locs cells slots mc ms (F0 mid pc lc ((t ++ .ref o :: rest).map (zcv b ro))) (rest.map (zcv b ro)) (zQ b ro cA D al r m1 ((Value.ref o :: t.reverse).map (zcv b ro)).toArray) (zXC b ro cA D r m1) (zA b) := by
  obtain ⟨hz, f1, f2⟩ := zfit_of hfit
  obtain ⟨-, g1, g2, g3, g4, g5, -⟩ := zm_all hz
  have e1 := hm.ad b ro ht (by omega)
  have hlt := hm.in_ ht (by omega)
  have hs1 := hts _ (zs_in hz)
  have hn1 := hts _ (zn_in hz)
  unfold zWs at hs1
  unfold zWn at hn1
  rw [hk] at hs1 hn1
  have hpre := z_pre (al := al) (as := .ref o :: t.reverse) hG hP hS hsz
  have hrc := va_recv hG.1 hP (zcl_at h13) (by rw [zW_at hlt, zE_obj ht h13])
  rw [← g5 hk h13] at hrc
  simp only [List.map_cons, zcv, e1] at hpre
  simp only [List.map_cons, List.map_append, zcv, e1]
  exact vx_runV (C := (zy z).cls) (As := t.reverse.map (zcv b ro)) ⟨hx, hb, hml, hown, hts⟩ hM ⟨z_cb hx hts hRf hRl hfit hp, hn1, hs1⟩ ⟨zPc_blind, hrc, hpre⟩ rfl (by simp [hlen]) hLs (by simp [F0]) (lv_room (z_cats b ro rest h4)) hd hf
theorem zcallS (hx : p.tables.exec = Jvm.exec) (hb : c.code = zb y) (hml : c.maxLocals = zl y) (hown : s.vm.findClass (zXn (zc y)) = some mid.cls) (hts : ∀ w ∈ zGT, w.before args s = true) (hG : zG b ro cA D s) (hRf : zf y ≤ R.frames) (hRl : zw y ≤ R.locals) (hP : va_P D vwCl (zW b ro cA m) H) (hS : va_S (zA b) s.heap H locs) (hsz : al = true → H.size = b + m.2.2.1.1) (hLs : lc.size = zl y)
    (hM : vx_Met l (zy z) (zws z) (zrm z mc ms) (zPc b ro cA D al m t.reverse) (zQ b ro cA D al r m1) (zXC b ro cA D r m1) mc ms (zA b)) (hfit : zfit y z = true) (hp : zpool (zc y) i = (2, z, w)) (hk : zk z = 1) (hlen : t.length = za z) (h4 : zcs rest ≤ 8) (hd : decode (zb y) pc = .ok (.invokestatic i, 3)) (hf : cells + mc ≤ R.cells ∧ slots + ms ≤ R.slots) :
    vx_Run p l e R s mid args below meth c H locs cells slots mc ms (F0 mid pc lc ((t ++ rest).map (zcv b ro))) (rest.map (zcv b ro)) (zQ b ro cA D al r m1 (t.reverse.map (zcv b ro)).toArray) (zXC b ro cA D r m1) (zA b) := by
  obtain ⟨hz, f1, f2⟩ := zfit_of hfit
  have hs1 := hts _ (zs_in hz)
  unfold zWs at hs1
  rw [hk] at hs1
  exact vx_runS (As := t.reverse.map (zcv b ro)) ⟨hx, hb, hml, hown, hts⟩ hM ⟨z_cb hx hts hRf hRl hfit hp, hs1⟩ ⟨zPc_blind, z_pre hG hP hS hsz⟩ rfl (by simp [hlen]) hLs (by simp [F0]) (lv_room (z_cats b ro rest h4)) hd hf
theorem zcallI {k : Nat} (hx : p.tables.exec = Jvm.exec) (hb : c.code = zb y) (hml : c.maxLocals = zl y) (hown : s.vm.findClass (zXn (zc y)) = some mid.cls) (hts : ∀ w ∈ zGT, w.before args s = true) (hG : zG b ro cA D s) (hRf : zf y ≤ R.frames) (hRl : zw y ≤ R.locals) (hP : va_P D vwCl (zW b ro cA m) H) (hS : va_S (zA b) s.heap H locs) (hsz : al = true → H.size = b + m.2.2.1.1) (hLs : lc.size = zl y)
    (hM : vx_Met l (zy z) (zws z) (zrm z mc ms) (zPc b ro cA D al m [.ref o]) (zQ b ro cA D al r m1) (zXC b ro cA D r m1) mc ms (zA b)) (hfit : zfit y z = true) (hp : zpool (zc y) i = (k, z, w)) (hk2 : k = 2 ∨ k = 12) (hk : zk z = 2) (hza : za z = 0) (h4 : zcs rest ≤ 8) (hd : decode (zb y) pc = .ok (.invokespecial i, 3)) (hf : cells + mc ≤ R.cells ∧ slots + ms ≤ R.slots) :
    vx_Run p l e R s mid args below meth c H locs cells slots mc ms (F0 mid pc lc ((Value.ref o :: rest).map (zcv b ro))) (rest.map (zcv b ro)) (zQ b ro cA D al r m1 (([Value.ref o] : List Value).map (zcv b ro)).toArray) (zXC b ro cA D r m1) (zA b) := by
  obtain ⟨hz, f1, f2⟩ := zfit_of hfit
  obtain ⟨-, g1, g2, g3, g4, -, g6⟩ := zm_all hz
  obtain ⟨g7, g8⟩ := g6 hk
  have hs1 := hts _ (zs_in hz)
  unfold zWs at hs1
  rw [hk] at hs1
  rcases hk2 with rfl | rfl
  · have cb := z_cb (mc := mc) (ms := ms) hx hts hRf hRl hfit hp
    rw [g8, hza] at cb
    exact vx_runI (As := []) ⟨hx, hb, hml, hown, hts⟩ hM ⟨cb, g7, hs1⟩ ⟨zPc_blind, z_pre hG hP hS hsz⟩ rfl rfl hLs rfl (lv_room (z_cats b ro rest h4)) hd hf
  · obtain ⟨host, hn⟩ := zNe_in hp
    have cn : va_CN R s args (zXn (zc y)) i (zy z) host (zb z) (zl z) (zr z) (zws z) (zrm z mc ms) mc ms (za z) := va_cnB (za z) hts (zGood hz) rfl rfl rfl (hG.2.2.2.2.2.2.1 _ hn) (by rw [g3]; exact hts _ (zi_in g4)) ⟨g1.1, g1.2, g2⟩ ⟨Nat.le_trans f1 hRf, Nat.le_trans f2 hRl⟩
    rw [g8, hza] at cn
    exact vx_runIN (As := []) ⟨hx, hb, hml, hown, hts⟩ hM ⟨cn, g7, hs1⟩ ⟨zPc_blind, z_pre hG hP hS hsz⟩ rfl rfl hLs rfl (lv_room (z_cats b ro rest h4)) hd hf
end
