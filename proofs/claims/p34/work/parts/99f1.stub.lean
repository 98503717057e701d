/-! part 99f1: around the law's stubs: calls, catching, ends -/
abbrev qE0 : String := "java/lang/IndexOutOfBoundsException"
abbrev qE1 : String := "java/lang/IllegalArgumentException"
abbrev qE2 : String := "java/lang/IllegalStateException"
def zNs (U : State) : Prop := va_Nc qE1 qE0 U ∧ va_Nc qE2 qE0 U ∧ va_Nc qE2 qE1 U
theorem zNs.to {s U : State} (h : zNs s) (hW : s.vm.Alike U.vm) : zNs U := ⟨va_Nc.moved hW h.1, va_Nc.moved hW h.2.1, va_Nc.moved hW h.2.2⟩
def zPs (b : Nat) (ro : Nat → Nat) (cA : Nat → ClassId) (D : va_G) (m : zM) (as : List Value) : Array Value → State → Prop := fun v U => zPc b ro cA D false m as v U ∧ zNs U
theorem zPs_blind {b : Nat} {ro : Nat → Nat} {cA : Nat → ClassId} {D : va_G} {m : zM} {as : List Value} : FrameBlind (zPs b ro cA D m as) := fun a U g mk h => ⟨zPc_blind a U g mk h.1, zNs.to (U := U.calling g mk a) h.2 (Vm.Alike.refl U.vm)⟩
abbrev rmS : Room := { frames := 9, cells := 1, slots := 6, locals := 200 }
theorem qLe0 : Cond.classLink RL 15 qE0 ∈ zGT := zGT_of (l := [Cond.classLink RL 15 qE0]) (r := [566]) (by decide +kernel) _ List.mem_cons_self
theorem qLe1 : Cond.classLink RL 17 qE1 ∈ zGT := zGT_of (l := [Cond.classLink RL 17 qE1]) (r := [927]) (by decide +kernel) _ List.mem_cons_self
theorem qLe2 : Cond.classLink RL 19 qE2 ∈ zGT := zGT_of (l := [Cond.classLink RL 19 qE2]) (r := [953]) (by decide +kernel) _ List.mem_cons_self
section
variable {p : Program} {l : Launch} {e : Env} {R : Room} {s : State} {mid : MethodId} {args : Array Value} {below : List Frame} {meth : Method} {c : Code} {H : Heap} {locs : List Loc} {cells slots pc mc ms : Nat} {Q : State → Prop}
variable {b : Nat} {ro : Nat → Nat} {cA : Nat → ClassId} {D : va_G} {m m1 : zM} {lc : Array Slot} {z i o nL : Nat} {t rest st0 : List Value} {r : zRes} {cc : ByteArray} {a : Array Value}
theorem st_run (hx : p.tables.exec = Jvm.exec) (hb : c.code = cc) (hml : c.maxLocals = nL) (hown : s.vm.findClass RL = some mid.cls) (hts : ∀ w ∈ zGT, w.before args s = true) (hG : zG b ro cA D s) (hm : zwf m) (hP : va_P D vwCl (zW b ro cA m) H) (hS : va_S (zA b) s.heap H locs) (hLs : lc.size = nL)
    (hM : vx_Met l (zy z) (zws z) (zrm z mc ms) (zPc b ro cA D false m (.ref o :: t.reverse)) (zQ b ro cA D false r m1) (zXC b ro cA D r m1) mc ms (zA b))
    (hz : z < 237) (hzf : zf z + 1 ≤ R.frames ∧ 8 + (zl z + 11) + zw z ≤ R.locals) (hw : Cond.methodLink RL i (zy z) ∈ zGT) (hk : zk z = 0) (ht : (m.1 o).1 = zc z) (h13 : zc z < 13) (hlen : t.length = za z) (h4 : (rest.map fun v => v.category).sum ≤ 8) (hd : decode cc pc = .ok (.invokevirtual i, 3)) (hf : cells + mc ≤ R.cells ∧ slots + ms ≤ R.slots) :
    vx_Run p l e R s mid args below meth c H locs cells slots mc ms (F0 mid pc lc (t.map (zcv b ro) ++ .ref (b + o) :: rest)) rest (zQ b ro cA D false r m1 ((Value.ref o :: t.reverse).map (zcv b ro)).toArray) (zXC b ro cA D r m1) (zA b) := by
  obtain ⟨-, g1, g2, g3, g4, g5, -⟩ := zm_all hz
  have e1 := hm.ad b ro ht (by omega)
  have hlt := hm.in_ ht (by omega)
  have hs1 := hts _ (zs_in hz)
  have hn1 := hts _ (zn_in hz)
  unfold zWs at hs1
  unfold zWn at hn1
  rw [hk] at hs1 hn1
  have hpre := z_pre (al := false) (as := .ref o :: t.reverse) hG hP hS (fun q => by cases q)
  have hrc := va_recv hG.1 hP (zcl_at h13) (by rw [zW_at hlt, zE_obj ht h13])
  rw [← g5 hk h13] at hrc
  simp only [List.map_cons, zcv, e1] at hpre
  simp only [List.map_cons, zcv, e1]
  have cb : CallB R s args RL i (zy z) (zb z) (zl z) (zr z) (zws z) (zrm z mc ms) mc ms (za z) := callB_of (za z) hts (zGood hz) rfl rfl rfl (by rw [g3]; exact hts _ (zi_in g4)) (hts _ hw) ⟨g1.1, g1.2, g2⟩ ⟨hzf.1, hzf.2⟩
  exact vx_runV (C := (zy z).cls) (As := t.reverse.map (zcv b ro)) ⟨hx, hb, hml, hown, hts⟩ hM ⟨cb, hn1, hs1⟩ ⟨zPc_blind, hrc, hpre⟩ rfl (by simp [hlen]) hLs (by simp [F0]) (lv_room h4) hd hf
/-- what is thrown is caught by row k of the stub's own table -/
theorem st_catch {ex k hp e9 : Nat} {hh : List (Nat × Nat × Nat × Nat)} (hr : vx_Run p l e R s mid args below meth c H locs cells slots mc ms (F0 mid pc lc st0) rest (zQ b ro cA D false (.inr ex) m1 a) (zXC b ro cA D (.inr ex) m1) (zA b)) (hS : va_S (zA b) s.heap H locs)
    (hown : s.vm.findClass RL = some mid.cls) (hts : ∀ w ∈ zGT, w.before args s = true) (hG : zG b ro cA D s) (hN : zNs s) (hT : c.exceptionTable.toList = tableOf hh) (hex : ex < 3) (hk : (tableOf hh)[k]? = some ⟨0, e9, hp, 15 + 2 * ex⟩) (hcov : covers ⟨0, e9, hp, 15 + 2 * ex⟩ pc = true) (hpre : ∀ x ∈ (tableOf hh).take k, (x.catchType = 15 ∧ 0 < ex) ∨ (x.catchType = 17 ∧ 1 < ex))
    (K : ∀ (H1 : Heap) (locs1 : List Loc) (q : Nat), va_P D vwCl (zW b ro cA m1) H1 → va_S (zA b) s.heap H1 locs1 → W p l e R s mid args below meth c H1 locs1 (cells + mc) (slots + ms) Q (F0 mid hp lc [.ref q])) :
    W p l e R s mid args below meth c H locs cells slots Q (F0 mid pc lc st0) := by
  intro T hT9 X
  rcases hr T hT9 X with ⟨v', st₀, t, T', L, h0, X', hL, e1, e2, hx, st⟩ | ⟨q, st₀, t, T', L, E, ce, h0, X', hL, e1, e2, ⟨hE, hP, hF⟩, hce, hcv, hcl, st⟩
  · exact hx.elim
  · obtain ⟨k1, k2, k3⟩ := vx_keep (A1 := zA b) h0 e1 hS (fun _ _ h => h) (fun _ h => h) hL hF
    subst hE
    have hlink : (Cond.classLink RL (15 + 2 * ex) (zEx.getD ex "")).before args s = true := by
      rcases (show ex = 0 ∨ ex = 1 ∨ ex = 2 by omega) with rfl | rfl | rfl
      · exact hts _ qLe0
      · exact hts _ qLe1
      · exact hts _ qLe2
    have hcast : (Cond.castable (zEx.getD ex "") (zEx.getD ex "")).before args s = true := by
      refine va_Nw.use rfl (hG.2.2.2.2.2.2.1 _ (List.mem_append_right _ (List.mem_append_left _ (List.mem_map.mpr ⟨zEx.getD ex "", ?_, rfl⟩))))
      rcases (show ex = 0 ∨ ex = 1 ∨ ex = 2 by omega) with rfl | rfl | rfl
      · exact List.mem_of_getElem? (i := 0) rfl
      · exact List.mem_of_getElem? (i := 1) rfl
      · exact List.mem_of_getElem? (i := 2) rfl
    have hsplit : c.exceptionTable.toList = (tableOf hh).take k ++ (⟨0, e9, hp, 15 + 2 * ex⟩ : ExceptionTableEntry) :: (tableOf hh).drop (k + 1) := by
      obtain ⟨hlt, he⟩ := List.getElem?_eq_some_iff.mp hk
      have hq := (List.take_append_drop k (tableOf hh)).symm
      rw [List.drop_eq_getElem_cons hlt, he] at hq
      rw [hT]
      exact hq
    obtain ⟨t2, a1, b1⟩ := vx_catch (p := p) (l := l) (e := e) (R := R) (s := s) (m := mid) (args := args) (below := below) (meth := meth) (c := c) (H := T'.heap) (locs := locs ++ L) (cells := cells + mc) (slots := slots + ms) (Q := Q) (pc := pc) (ls := lc) (rest := rest) (own := RL) (name := zEx.getD ex "") (E := zEx.getD ex "") (q := q) hown _ _ _ hsplit
      (fun x hx => Or.inr (by
        rcases hpre x hx with ⟨h1, h2⟩ | ⟨h1, h2⟩
        · refine ⟨by omega, qE0, by rw [h1]; exact hts _ qLe0, ?_⟩
          rcases (show ex = 1 ∨ ex = 2 by omega) with rfl | rfl
          · exact hN.1
          · exact hN.2.1
        · refine ⟨by omega, qE1, by rw [h1]; exact hts _ qLe1, ?_⟩
          rcases (show ex = 2 by omega) with rfl
          exact hN.2.2)) hcov (by show 15 + 2 * ex ≠ 0; omega) hlink hcast (by rw [e1]; exact hce) hcv hcl (K _ _ q (by rw [e1]; exact hP) k3) T' rfl X'
    exact ⟨t2, st.trans a1, b1⟩
/-- the stub's end -/
theorem st_fin {x : Int32} (hx : p.tables.exec = Jvm.exec) (hb : c.code = cc) (hr : meth.sig.returnType = some .int) (hlocks : meth.locks = false) (d2 : decode cc pc = .ok (.ireturn, 1)) (hP : va_P D vwCl (zW b ro cA m) H) (hS : va_S (zA b) s.heap H locs) (hc : cells ≤ 1) (hs : slots ≤ 6) :
    W p l e R s mid args below meth c H locs cells slots (vx_MQ below (zQ b ro cA D false (.inl (some (.int x))) m) (zXC b ro cA D (.inl (some (.int x))) m) args s 1 6 (zA b)) (F0 mid pc lc [.int x]) := by
  refine W.widen (k := 1) (n := 6) hc hs ?_
  exact vx_ret (W.iret hx hb hr (fun t ht _ => ⟨rfl, by rw [ht]; exact hP, hS.F ht, fun q => by cases q⟩) hS.2.2 d2)
end
abbrev stM (l : Launch) (b : Nat) (ro : Nat → Nat) (cA : Nat → ClassId) (D : va_G) (y : MethodName) (w : Cond) (m m2 : zM) (as : List Value) (k : Int32) : Prop := vx_Met l y (w :: zGT) rmS (zPs b ro cA D m as) (zQ b ro cA D false (.inl (some (.int k))) m2) (zXC b ro cA D (.inl (some (.int k))) m2) 1 6 (zA b)
/-- a stub's contract out of a walk of its body -/
theorem st_of {l : Launch} {b : Nat} {ro : Nat → Nat} {cA : Nat → ClassId} {D : va_G} {y : MethodName} {cc : ByteArray} {nL : Nat} {hh : List (Nat × Nat × Nat × Nat)} {m m2 : zM} {as : List Value} {k : Int32} (hy : plainName y.cls = true) (hyc : y.cls = RL) (vs : List Value) (hvs : as.map (zcv b ro) = vs) (hlen : (lg_sl vs).length ≤ nL)
    (body : ∀ (p : Program) (e : Env) (s : State) (mid : MethodId) (below : List Frame) (meth : Method) (c : Code) (ls : Array Slot), p.tables.exec = Jvm.exec → c.code = cc → c.maxLocals = nL → s.vm.findClass RL = some mid.cls → (∀ w ∈ zGT, w.before vs.toArray s = true) → zG b ro cA D s → zNs s → meth.sig.returnType = some .int → meth.locks = false → c.exceptionTable.toList = tableOf hh → va_P D vwCl (zW b ro cA m) s.heap → lv_has ls nL (lv_args 0 vs) →
      W p l e rmS s mid vs.toArray below meth c s.heap [] 0 0 (vx_MQ below (zQ b ro cA D false (.inl (some (.int k))) m2) (zXC b ro cA D (.inl (some (.int k))) m2) vs.toArray s 1 6 (zA b)) (F0 mid 0 ls [])) :
    stM l b ro cA D y (Cond.codeWith y cc nL (some .int) hh) m m2 as k := by
  subst hvs
  refine vx_ofWH (cc := cc) (maxL := nL) (ret := some .int) (hh := hh) hy rfl ?_
  intro p e s mt args below meth c s₁ B hml hv
  obtain ⟨⟨rfl, hG, hP, -⟩, hN⟩ := hv
  have hts0 : ∀ w ∈ (Cond.codeWith y cc nL (some .int) hh :: zGT), w.before _ s = true := atoms_spec (ws := Cond.codeWith y cc nL (some .int) hh :: zGT) B.pre
  have hown : s.vm.findClass RL = some mt.cls := by
    have := findClass_of_methodNamed B.named
    rwa [hyc] at this
  rw [lg_entry_eq]
  exact body p e s mt below meth c _ B.exec B.bytes hml hown (fun w hw => hts0 w (List.mem_cons_of_mem _ hw)) hG hN B.returns B.notSynchronized (vx_table (x := y) B (hts0 _ List.mem_cons_self)) hP (lv_entry _ hlen)
section
variable {l : Launch} {b : Nat} {ro : Nat → Nat} {cA : Nat → ClassId} {D : va_G} {y : Nat} {as : List Value} {m m1 : zM}
theorem st_met0 {v : Option Value} (hl : l.stackTraces = false) (hm : zwf m) (hy : y < 237) (ha : zarg as = true) (hlen : as.length ≤ zl y) (hcnt : m1.2.2.1 = m.2.2.1) (h : zGo false y 0 (zent y as) [] m = some (.inl v, m1)) :
    vx_Met l (zy y) (zws y) (zrm y 0 0) (zPc b ro cA D false m as) (zQ b ro cA D false (.inl v) m1) (zXC b ro cA D (.inl v) m1) 0 0 (zA b) := by
  have k := zGo_met (b := b) (ro := ro) (cA := cA) (D := D) hl hy ha hlen hm (fun q => by cases q) h
  have e1 : m1.2.2.1.1 - m.2.2.1.1 + zth (.inl v) = 0 := by rw [hcnt, Nat.sub_self]; rfl
  have e2 : m1.2.2.1.2 - m.2.2.1.2 + 6 * zth (.inl v) = 0 := by rw [hcnt, Nat.sub_self]; rfl
  rw [e1, e2] at k
  exact k
theorem st_met1 {x : Nat} (hl : l.stackTraces = false) (hm : zwf m) (hy : y < 237) (ha : zarg as = true) (hlen : as.length ≤ zl y) (hcnt : m1.2.2.1 = m.2.2.1) (h : zGo false y 0 (zent y as) [] m = some (.inr x, m1)) :
    vx_Met l (zy y) (zws y) (zrm y 1 6) (zPc b ro cA D false m as) (zQ b ro cA D false (.inr x) m1) (zXC b ro cA D (.inr x) m1) 1 6 (zA b) := by
  have k := zGo_met (b := b) (ro := ro) (cA := cA) (D := D) hl hy ha hlen hm (fun q => by cases q) h
  have e1 : m1.2.2.1.1 - m.2.2.1.1 + zth (.inr x) = 1 := by rw [hcnt, Nat.sub_self]; rfl
  have e2 : m1.2.2.1.2 - m.2.2.1.2 + 6 * zth (.inr x) = 6 := by rw [hcnt, Nat.sub_self]; rfl
  rw [e1, e2] at k
  exact k
end
