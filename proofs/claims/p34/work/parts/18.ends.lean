/-! part 18: ends and throws, entries -/
theorem z_narch {x : Int32} (h : 0 ≤ x ∧ x ≤ 65535) : narrow .char (.int x) = .int x := by
  obtain ⟨j, hj, e, -, -, -⟩ := pk_mu (x := x) (L := 65536) (fun q => absurd (Int32.le_iff_toInt_le.mp h.1) (by have := Int32.lt_iff_toInt_lt.mp q; omega)) (fun q => by
    have h1 := Int32.le_iff_toInt_le.mp h.2
    have h2 := Int32.le_iff_toInt_le.mp q
    have e1 : (65535 : Int32).toInt = 65535 := by decide
    have e2 : (nI 65536).toInt = 65536 := by decide
    omega) (by decide)
  subst e
  exact (pk_charN hj).1
/-- what a method's answer looks like -/
theorem zans_of {rt : Option FieldType} {st : List Value} {v : Value} (h : zans rt st = some v) :
    (rt = some .int ∧ ∃ x, st = [.int x] ∧ v = .int x) ∨ (rt = some .boolean ∧ ∃ x, st = [.int x] ∧ v = .int x ∧ (x = 0 ∨ x = 1)) ∨ (rt = some .char ∧ ∃ x, st = [.int x] ∧ v = .int x ∧ 0 ≤ x ∧ x ≤ 65535) ∨ (rt = some .long ∧ ∃ x, st = [.long x] ∧ v = .long x) ∨ (rt = some .float ∧ ∃ x, st = [.float x] ∧ v = .float x) ∨ (∃ n, rt = some (.object n) ∧ ∃ x, st = [.ref x] ∧ v = .ref x) := by
  unfold zans at h
  split at h
  · cases h
    exact Or.inl ⟨rfl, _, rfl, rfl⟩
  · split at h
    · cases h
      exact Or.inr (Or.inl ⟨rfl, _, rfl, rfl, by assumption⟩)
    · cases h
  · split at h
    · cases h
      exact Or.inr (Or.inr (Or.inl ⟨rfl, _, rfl, rfl, by assumption⟩))
    · cases h
  · cases h
    exact Or.inr (Or.inr (Or.inr (Or.inl ⟨rfl, _, rfl, rfl⟩)))
  · cases h
    exact Or.inr (Or.inr (Or.inr (Or.inr (Or.inl ⟨rfl, _, rfl, rfl⟩))))
  · cases h
    exact Or.inr (Or.inr (Or.inr (Or.inr (Or.inr ⟨_, rfl, _, rfl, rfl⟩))))
  · cases h
theorem zNw_tab : ∀ w ∈ zNw, w.onTables = true := by
  intro w hw
  rcases List.mem_append.mp hw with hw | hw
  · obtain ⟨q, -, rfl⟩ := List.mem_map.mp hw
    rfl
  · rcases List.mem_append.mp hw with hw | hw
    · obtain ⟨q, -, rfl⟩ := List.mem_map.mp hw
      rfl
    · obtain ⟨q, -, rfl⟩ := List.mem_map.mp hw
      rfl
section
variable {p : Program} {l : Launch} {e : Env} {R : Room} {s : State} {mid : MethodId} {args : Array Value} {below : List Frame} {meth : Method} {c : Code} {H : Heap} {locs : List Loc} {cells slots pc : Nat}
variable {b : Nat} {ro : Nat → Nat} {cA : Nat → ClassId} {D : va_G} {al : Bool} {m : zM} {lc : Array Slot} {y : Nat} {st ls : List Value}
theorem z_ends {ins : Instr} {v : Option Value} (hx : p.tables.exec = Jvm.exec) (hb : c.code = zb y) (hr : meth.sig.returnType = zr y) (hlocks : meth.locks = false) (hP : va_P D vwCl (zW b ro cA m) H) (hS : va_S (zA b) s.heap H locs) (hsz : al = true → H.size = b + m.2.2.1.1) (hd : decode (zb y) pc = .ok (ins, 1)) (h : zCls y ins pc ls st m (.inr (.inr (.inl v)))) :
    W p l e R s mid args below meth c H locs cells slots (vx_MQ below (zQ b ro cA D al (.inl v) m) (zXC b ro cA D (.inl v) m) args s cells slots (zA b)) (F0 mid pc lc (st.map (zcv b ro))) := by
  have post : ∀ (u : Option Value), u = v.map (zcv b ro) → ∀ t : State, t.heap = H → s.WarmedH t.vm → zQ b ro cA D al (.inl v) m args s (.returned u) t := fun u hu t ht _ => ⟨by rw [hu], by rw [ht]; exact hP, hS.F ht, fun q => by rw [ht]; exact hsz q⟩
  rcases h with ⟨rfl, h1, h2, h3⟩ | ⟨rfl, h1, h2, h3⟩ | ⟨rfl, h1, h2, h3⟩ | ⟨rfl, h1, h2, h3⟩ | ⟨rfl, h1, rfl, rfl⟩
  · obtain ⟨v', rfl⟩ := Option.ne_none_iff_exists'.mp h3
    rcases zans_of h2.symm with ⟨e1, x, rfl, rfl⟩ | ⟨e1, x, rfl, rfl, hx0⟩ | ⟨e1, x, rfl, rfl, hx0⟩ | ⟨e1, x, rfl, rfl⟩ | ⟨e1, x, rfl, rfl⟩ | ⟨n, e1, x, rfl, rfl⟩
    · exact vx_ret (W.iret hx hb (by rw [hr, e1]) (post _ rfl) hS.2.2 hd)
    · refine vx_ret (W.zret hx hb (by rw [hr, e1]) ?_ (post _ rfl) hS.2.2 hd)
      rcases hx0 with rfl | rfl <;> rfl
    · exact vx_ret (W.zret hx hb (by rw [hr, e1]) (z_narch hx0) (post _ rfl) hS.2.2 hd)
    · rw [e1] at h1; simp [zri] at h1
    · rw [e1] at h1; simp [zri] at h1
    · rw [e1] at h1; simp [zri] at h1
  · obtain ⟨v', rfl⟩ := Option.ne_none_iff_exists'.mp h3
    rcases zans_of h2.symm with ⟨e1, x, rfl, rfl⟩ | ⟨e1, x, rfl, rfl, hx0⟩ | ⟨e1, x, rfl, rfl, hx0⟩ | ⟨e1, x, rfl, rfl⟩ | ⟨e1, x, rfl, rfl⟩ | ⟨n, e1, x, rfl, rfl⟩
    · rw [e1] at h1; simp [zri] at h1
    · rw [e1] at h1; simp [zri] at h1
    · rw [e1] at h1; simp [zri] at h1
    · exact vx_ret (W.lret hx hb (by rw [hr, e1]) (post _ rfl) hS.2.2 hd)
    · rw [e1] at h1; simp [zri] at h1
    · rw [e1] at h1; simp [zri] at h1
  · obtain ⟨v', rfl⟩ := Option.ne_none_iff_exists'.mp h3
    rcases zans_of h2.symm with ⟨e1, x, rfl, rfl⟩ | ⟨e1, x, rfl, rfl, hx0⟩ | ⟨e1, x, rfl, rfl, hx0⟩ | ⟨e1, x, rfl, rfl⟩ | ⟨e1, x, rfl, rfl⟩ | ⟨n, e1, x, rfl, rfl⟩
    · rw [e1] at h1; simp [zri] at h1
    · rw [e1] at h1; simp [zri] at h1
    · rw [e1] at h1; simp [zri] at h1
    · rw [e1] at h1; simp [zri] at h1
    · exact vx_ret (W.fret hx hb (by rw [hr, e1]) (post _ rfl) hS.2.2 hd)
    · rw [e1] at h1; simp [zri] at h1
  · obtain ⟨v', rfl⟩ := Option.ne_none_iff_exists'.mp h3
    rcases zans_of h2.symm with ⟨e1, x, rfl, rfl⟩ | ⟨e1, x, rfl, rfl, hx0⟩ | ⟨e1, x, rfl, rfl, hx0⟩ | ⟨e1, x, rfl, rfl⟩ | ⟨e1, x, rfl, rfl⟩ | ⟨n, e1, x, rfl, rfl⟩
    · rw [e1] at h1; simp [zri] at h1
    · rw [e1] at h1; simp [zri] at h1
    · rw [e1] at h1; simp [zri] at h1
    · rw [e1] at h1; simp [zri] at h1
    · rw [e1] at h1; simp [zri] at h1
    · exact vx_ret (W.aret hx hb (by rw [hr, e1]) (Or.inl ⟨_, rfl⟩) (Or.inr ⟨_, rfl⟩) (post _ rfl) hS.2.2 hd)
  · exact vx_ret (W.vret hx hb (by rw [hr, h1]) (post _ rfl) hS.2.2 hd)
theorem zTh_all {q : zTT} (h : q ∈ zTh) : ztd q = true ∧ ztp q = true ∧ zto q = true ∧ ztn q = true ∧ ∃ r, ztg q r = true := by
  refine ⟨List.all_eq_true.mp zF_ztd q h, List.all_eq_true.mp zF_ztp q h, List.all_eq_true.mp zF_zto q h, List.all_eq_true.mp zF_ztn q h, ?_⟩
  obtain ⟨k, hk⟩ := List.getElem?_of_mem h
  have hl := (List.getElem?_eq_some_iff.mp hk).1
  rw [zF_ztl] at hl
  obtain ⟨r, hr⟩ : ∃ r, zTp[k]? = some r := ⟨_, List.getElem?_eq_getElem hl⟩
  exact ⟨r, List.all_eq_true.mp zF_ztg (q, r) (List.mem_of_getElem? (List.getElem?_zip_eq_some.mpr ⟨hk, hr⟩))⟩
theorem z_throw {ex : Nat} {ins : Instr} (hl : l.stackTraces = false) (hx : p.tables.exec = Jvm.exec) (hb : c.code = zb y) (hml : c.maxLocals = zl y) (hown : s.vm.findClass (zXn (zc y)) = some mid.cls) (hts : ∀ w ∈ zGT, w.before args s = true) (hG : zG b ro cA D s) (hout : ∀ x ∈ c.exceptionTable.toList, False) (hRf : zf y ≤ R.frames) (hRl : zw y ≤ R.locals) (hlocks : meth.locks = false) (hP : va_P D vwCl (zW b ro cA m) H) (hS : va_S (zA b) s.heap H locs) (hLs : lc.size = zl y) (hcq : cells + 1 ≤ R.cells) (hsq : slots + 6 ≤ R.slots) (hd : decode (zb y) pc = .ok (ins, zlen ins 3)) (h : zCls y ins pc ls st m (.inr (.inr (.inr ex)))) :
    W p l e R s mid args below meth c H locs cells slots (vx_MQ below (zQ b ro cA D al (.inr ex) m) (zXC b ro cA D (.inr ex) m) args s (cells + 1) (slots + 6) (zA b)) (F0 mid pc lc (st.map (zcv b ro))) := by
  obtain ⟨i, w, rfl, hp, hth, h4⟩ := h
  unfold zthrows at hth
  obtain ⟨q, hq, hq1⟩ := List.any_eq_true.mp hth
  obtain ⟨q0, q1, ik, is, wd, ic, e0, text⟩ := q
  simp only [Bool.and_eq_true] at hq1
  have ey : q0 = y := Nat.eq_of_beq_eq_true hq1.1
  have ep : q1 = pc := Nat.eq_of_beq_eq_true hq1.2
  subst ey ep
  obtain ⟨k1, k2, k3, k4, r, k5⟩ := zTh_all hq
  obtain ⟨sa, hstr⟩ := hG.2.2.2.2.2.1 _ hq
  unfold ztd at k1
  simp only [Bool.and_eq_true, decide_eq_true_eq] at k1
  obtain ⟨-, d0, d3, dw⟩ := k1
  unfold ztp at k2
  simp only [Bool.and_eq_true] at k2
  obtain ⟨p1, p2, p3, p4, p5⟩ := k2
  have hi : i = ik := by
    have := hd.symm.trans d0
    simp at this
    exact this.1
  subst hi
  have he : e0 = ex := by
    have := Nat.eq_of_beq_eq_true p2
    rw [hp] at this
    exact this.symm
  subst he
  have p4' : 6 ≤ zf q0 := Nat.le_of_ble_eq_true p4
  have p5' : 90 ≤ zw q0 := Nat.le_of_ble_eq_true p5
  have p3' : e0 < 3 := Nat.le_of_ble_eq_true p3
  have hkw : (Cond.classLink (zXn (zc q0)) i (zEx.getD e0 "")).before args s = true := hts _ (zp_in hp (by simp) (by simp))
  have hcls : Bundle.fit (zEx.getD e0 "") = true := by
    rcases (show e0 = 0 ∨ e0 = 1 ∨ e0 = 2 by omega) with rfl | rfl | rfl <;> decide
  have hini : (Cond.initialized (zEx.getD e0 "")).before args s = true := by
    refine hts _ (zw_e _ (List.mem_map.mpr ⟨_, ?_, rfl⟩))
    rcases (show e0 = 0 ∨ e0 = 1 ∨ e0 = 2 by omega) with rfl | rfl | rfl <;> decide
  have hnames : ∀ n ∈ zXs, Bundle.fit n = true := by decide
  have hat : ∀ w ∈ vx_atS (zXn (zc q0)) ic (zEx.getD e0 "") zXs, w.before args s = true := by
    refine vx_hat (B := zNw) (fun w hw => hts _ (zGT_of k5 w hw)) (fun w hw => of_decide_eq_true (List.all_eq_true.mp k4 w hw)) (fun w hw => ?_)
    have hw2 := hG.2.2.2.2.2.2.1 w hw
    exact va_Nw.use (zNw_tab w hw) hw2
  have hgood : ∀ w ∈ Cond.classLink (zXn (zc q0)) i (zEx.getD e0 "") :: Cond.initialized (zEx.getD e0 "") :: vx_atS (zXn (zc q0)) ic (zEx.getD e0 "") zXs, vx_ot w = true := fun w hw => List.all_eq_true.mp k3 w hw
  have hcat := z_catm b ro st h4
  have post : ∀ t : State, s.vm.Alike t.vm → H.size ≤ t.heap.size → (∀ q : Nat, q < H.size → t.heap[q]? = H[q]?) → zXC b ro cA D (.inr e0) m (zEx.getD e0 "") s t := fun t _ hz hk => ⟨rfl, hP.kept (fun k x hx => hk x.1 ((hP k x hx).lt)), ⟨Nat.le_trans hS.1 hz, fun q h1 h2 => (hk q (Nat.lt_of_lt_of_le h1 hS.1)).trans (hS.2.1 q h1 h2)⟩⟩
  cases wd with
  | zero =>
    simp only [Bool.and_eq_true, decide_eq_true_eq] at dw
    exact vx_throwS hx hb hl hown hcls hnames hkw hini hstr hat hgood hG.2.2.2.2.1.1 hG.2.2.2.2.1.2 hS (by rw [hLs, hml]) d0 d3 dw.1 dw.2.1 dw.2.2 (fun x hx => (hout x hx).elim) (by show 2 + 3 < _; omega) (by show _ + (13 * 3 + 43) ≤ _; omega) hcq hsq hlocks post hS.2.2 (Nat.le_refl _) (Nat.le_refl _)
  | succ wd =>
    simp only [Bool.and_eq_true, decide_eq_true_eq] at dw
    exact vx_throwSW hx hb hl hown hcls hnames hkw hini hstr hat hgood hG.2.2.2.2.1.1 hG.2.2.2.2.1.2 hS (by rw [hLs, hml]) d0 d3 dw.1 dw.2.1 dw.2.2 (fun x hx => (hout x hx).elim) (by show 2 + 3 < _; omega) (by show _ + (13 * 3 + 43) ≤ _; omega) hcq hsq hlocks post hS.2.2 (Nat.le_refl _) (Nat.le_refl _)
theorem z_args_len : ∀ as : List Value, zarg as = true → (lg_sl (as.map (zcv b ro))).length = as.length
  | [], _ => rfl
  | .int x :: as, h => by
    have := z_args_len as h
    have e : lg_sl (Value.int x :: as.map (zcv b ro)) = Slot.val (.int x) :: lg_sl (as.map (zcv b ro)) := by simp [lg_sl, Value.category]
    show (lg_sl (Value.int x :: as.map (zcv b ro))).length = _
    rw [e, List.length_cons, this, List.length_cons]
  | .ref x :: as, h => by
    have := z_args_len as h
    have e : lg_sl (Value.ref (zad b ro x) :: as.map (zcv b ro)) = Slot.val (.ref (zad b ro x)) :: lg_sl (as.map (zcv b ro)) := by simp [lg_sl, Value.category]
    show (lg_sl (Value.ref (zad b ro x) :: as.map (zcv b ro))).length = _
    rw [e, List.length_cons, this, List.length_cons]
  | .null :: as, h => by simp [zarg] at h
  | .long _ :: as, h => by simp [zarg] at h
  | .float _ :: as, h => by simp [zarg] at h
  | .double _ :: as, h => by simp [zarg] at h
theorem z_args_at : ∀ (as : List Value) (k : Nat), zarg as = true → ∀ (i : Nat) (v : Value), as[i]? = some v → (k + i, zcv b ro v) ∈ lv_args k (as.map (zcv b ro))
  | [], _, _, i, v, h => by simp at h
  | .int x :: as, k, ha, i, v, h => by
    show _ ∈ (k, Value.int x) :: lv_args (k + 1) (as.map (zcv b ro))
    cases i with
    | zero => cases h; exact List.mem_cons_self
    | succ i =>
      have := z_args_at as (k + 1) ha i v h
      rw [show k + (i + 1) = k + 1 + i by omega]
      exact List.mem_cons_of_mem _ this
  | .ref x :: as, k, ha, i, v, h => by
    show _ ∈ (k, Value.ref (zad b ro x)) :: lv_args (k + 1) (as.map (zcv b ro))
    cases i with
    | zero => cases h; exact List.mem_cons_self
    | succ i =>
      have := z_args_at as (k + 1) ha i v h
      rw [show k + (i + 1) = k + 1 + i by omega]
      exact List.mem_cons_of_mem _ this
  | .null :: as, k, h, i, v, _ => by simp [zarg] at h
  | .long _ :: as, k, h, i, v, _ => by simp [zarg] at h
  | .float _ :: as, k, h, i, v, _ => by simp [zarg] at h
  | .double _ :: as, k, h, i, v, _ => by simp [zarg] at h
theorem z_entL {as : List Value} (ha : zarg as = true) (hl : as.length ≤ zl y) : zL b ro ((lg_sl (as.map (zcv b ro)) ++ List.replicate (zl y - (lg_sl (as.map (zcv b ro))).length) Slot.unset).toArray) (zl y) (zent y as) := by
  have h := lv_entry (as.map (zcv b ro)) (n := zl y) (by rw [z_args_len as ha]; exact hl)
  refine ⟨by unfold zent; rw [List.length_append, List.length_replicate]; omega, h.1, h.2.1, fun i v hi hv => ?_⟩
  have hi2 : i < as.length := by
    rcases Nat.lt_or_ge i as.length with q | q
    · exact q
    · unfold zent at hi
      rw [List.getElem?_append_right q, List.getElem?_replicate] at hi
      split at hi
      · cases hi
        exact absurd rfl hv
      · cases hi
  unfold zent at hi
  rw [List.getElem?_append_left hi2] at hi
  have := z_args_at (b := b) (ro := ro) as 0 ha i v hi
  rw [Nat.zero_add] at this
  exact h.2.2 _ this
end
