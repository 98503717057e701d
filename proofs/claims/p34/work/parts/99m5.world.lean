/-! part 99m5: the world at the law's entry -/
/-! THE CLAIM OUT OF ONE WALK OF THE LAW'S BODY. Your part is whole_start (and what it stands on); all else here is the same for every law, but numbers. -/
def R_law : String := "PartSongDeskLaw"
def lw_P (b : Addr) (xs : List Int32) (args : Array Value) (s : State) : Prop := args = #[.ref b] ∧ s.IntsAt b xs ∧ xs.length ≤ 260 ∧ (Jvm.Cond.and given_1 narrow_1).before args s = true
/-- what a walk over the start with the record d0 says of its end, said of the start itself -/
theorem lw_closed {s t : State} {o : Outcome} {d0 : Drawn} {L : List Loc} {k n : Nat} (hd0 : s.drawn.sameBut d0 lw_cs) (hv : ∃ v, o = .returned v) (hW : (s.setDrawn d0).WarmedH t.vm) (hs : (s.setDrawn d0).sameButNew ({ t with vm := s.vm } : State) L k n) : State.butDraws s t lw_cs (fun t1 => Framed s o t1 L k n) := by
  have h2 : t.drawn = d0 := congrArg State.drawn hs.1
  refine ⟨⟨hv, hW, State.sameButNew.setDrawn hs s.drawn⟩, ?_, by decide⟩
  rw [h2]
  exact hd0
def lw_Q (_ : Array Value) (s : State) (o : Outcome) (t : State) : Prop := o = .returned (some (.int 1)) ∧ State.butDraws s t lw_cs (fun t1 => Framed s o t1 [] 600104 7301314)
def lw_Z (below : List Frame) (a : Array Value) (s : State) : State → Prop := fun t => ∃ o, t.status = .running ∧ Ended t below o ∧ lw_Q a s o t
/-- the law's own end, with 1 on the stack, nothing written that was there before, its room as the claim has it; d0: the record of draws at this point (at the entry s.drawn: begin with 'refine W.base ?_' and 'have hd0 := Drawn.sameBut.refl s.drawn lw_cs') -/
theorem lw_ret {p : Program} {l : Launch} {e : Env} {s : State} {m : MethodId} {below : List Frame} {meth : Method} {c : Code} {b : Nat} {d0 : Drawn} (hd0 : s.drawn.sameBut d0 lw_cs) (hx : p.tables.exec = Jvm.exec) (hb : c.code = code) (hr : meth.sig.returnType = ret) (hlocks : meth.locks = false) {pc : Nat} {H : Heap} {ls : Array Slot} (hdg : decode code pc = .ok (.ireturn, 1)) : W p l e room_1 (s.setDrawn d0) m #[Value.ref b] below meth c H [] 600104 7301314 (lw_Z below #[Value.ref b] s) (F0 m pc ls [.int 1]) := by
  intro T hT X
  obtain ⟨fs, hret, hrun, hended, hW, hframe⟩ := X.leave (v := some (.int 1)) (hlocks := hlocks) (fun h => by rw [hr] at h; cases h)
  have hmeth' : T.vm.method? m = some meth := X.method'
  refine ⟨T.setFrames fs, ?_, .returned (some (.int 1)), hrun, hended, rfl, lw_closed hd0 ⟨_, rfl⟩ hW hframe⟩
  jvm_step X.here [X.here.top, hx, hb, hdg, hmeth', hr, ret, narrow_b1]
  (try refine ⟨rfl, ?_⟩); (try refine ⟨rfl, ?_⟩)
  first | (intro acts; rw [hret _ acts rfl rfl rfl]) | rw [hret _ _ rfl rfl rfl]
  exact Steps.refl _
/-- what holds at the law's entry: the machine, the code, the tables' words (any of lw_tbl by 'hts w (by decide +kernel)'), the script of L ints xs at the cell b, what the Statement gives of the start (any of its parts by flat_of_before) -/
def lw_At (p : Program) (s : State) (m : MethodId) (meth : Method) (c : Code) (b L : Nat) (xs : Nat → Int32) : Prop :=
  p.tables.exec = Jvm.exec ∧ c.code = code ∧ meth.sig.returnType = ret ∧ c.maxLocals = 24 ∧ s.vm.findClass R_law = some m.cls ∧ (∀ w ∈ lw_tbl, w.before #[Value.ref b] s = true) ∧ va_X b L xs s s.heap ∧ b < s.heap.size ∧ meth.locks = false ∧ (Jvm.Cond.and given_1 narrow_1).before #[Value.ref b] s = true
def lwPl : List Cond → List Nat → Bool
  | [], [] => true
  | w :: l, i :: r => decide (lw_tbl[i]? = some w) && lwPl l r
  | _, _ => false
theorem lwPl_mem : ∀ (l : List Cond) (r : List Nat), lwPl l r = true → ∀ w ∈ l, w ∈ lw_tbl
  | [], _, _, w, hw => by cases hw
  | w :: l, [], h, _, _ => by simp [lwPl] at h
  | w :: l, i :: r, h, v, hv => by
    simp only [lwPl, Bool.and_eq_true, decide_eq_true_eq] at h
    rcases List.mem_cons.mp hv with rfl | hv
    · exact List.mem_of_getElem? h.1
    · exact lwPl_mem l r h.2 v hv
theorem lw_nw : lwPl zNw [102, 123, 140, 159, 165, 277, 280, 356, 371, 376, 379, 393, 428, 433, 435, 581, 934, 960, 583, 585, 587] = true := by decide +kernel
theorem lw_th : lwPl (zTh.map fun q => Cond.stringRef (zXn (zc q.1)) q.2.2.2.1 q.2.2.2.2.2.2.2) [1234, 1235, 620, 894, 913, 941, 967, 990, 995, 989, 1007, 894, 1035, 1040, 1060, 1061, 1078, 1077, 1118, 1126, 1127, 1135, 1136, 1148, 1078, 1160, 1223] = true := by decide +kernel
theorem lw_th11 : zTh.all (fun q => decide (zXn (zc q.1) = (zCl 11).1)) = true := by decide +kernel
theorem lw_w2 : lwPl [.arrayOver (.object RX6), .arrayOver (.object RX0), .laysStatic "java/lang/Throwable" "UNASSIGNED_STACK" Bundle.steD, .laysStatic "java/lang/Throwable" "SUPPRESSED_SENTINEL" Bundle.listD, .laysStatic "PartSongDesk$Singing" "SHARP_AHEAD" "[I", .laysStatic "PartSongDesk$Singing" "LETTER_PITCH" "[I", .initialized "java/lang/Throwable", .initialized "PartSongDesk$Singing"] [97, 99, 606, 608, 834, 836, 79, 71] = true := by decide +kernel
/-- a static table of seven ints -/
theorem lw_table {s : State} {args : Array Value} {n : String} {k : Nat} (h1 : (Cond.laysStatic "PartSongDesk$Singing" n "[I").before args s = true) (h2 : (Cond.initialized "PartSongDesk$Singing").before args s = true) (h3 : (Cond.arrayOf (.static "PartSongDesk$Singing" n "[I") .int).before args s = true) (h4 : (Cond.eq (.length (.static "PartSongDesk$Singing" n "[I")) (.int 7)).before args s = true) (h5 : ∀ j : Nat, j < 7 → (Cond.eq (.elem (.static "PartSongDesk$Singing" n "[I") (.int (Int32.ofNat j))) (.int (ztab k j))).before args s = true) :
    ∃ t, va_Z "PartSongDesk$Singing" n "[I" (.ref t) (zA s.heap.size) s s.heap ∧ va_T .int t 7 (fun j => .int (ztab k j)) (zA s.heap.size) s s.heap := by
  have hA : ∀ a : Nat, a < s.heap.size → ¬ zA s.heap.size a := fun a h q => by
    have q : s.heap.size ≤ a := q
    omega
  obtain ⟨t, ht, hT⟩ := va_Tof (tm := .static "PartSongDesk$Singing" n "[I") (ty := .int) (N := 7) (f := fun j => .int (ztab k j)) (A := zA s.heap.size) (by decide) h3 (va_eqt h4) (fun j hj => va_eqt (h5 j hj)) hA
  exact ⟨t, va_Zref h1 h2 ht hA, hT⟩
theorem lw_world {p : Program} {s : State} {m : MethodId} {meth : Method} {c : Code} {b L : Nat} {xs : Nat → Int32} (C0 : lw_At p s m meth c b L xs) : ∃ (ro : Nat → Nat) (cA : Nat → ClassId) (D : va_G), zG s.heap.size ro cA D s ∧ zNs s ∧ ro 1048578 = b := by
  obtain ⟨hx, hb, hr, hml, hown, hts, hX, hbl, hlocks, hgv⟩ := C0
  have htz : ∀ w ∈ zGT, w.before #[Value.ref b] s = true := fun w hw => hts w (List.mem_filter.mp hw).1
  have hq := flat_of_before _ hgv
  have hA : ∀ a : Nat, a < s.heap.size → ¬ zA s.heap.size a := fun a h q => by
    have q : s.heap.size ≤ a := q
    omega
  obtain ⟨g, hg⟩ := Classical.skolem.mp (fun k : Nat => show ∃ x : ClassId × (Nat → Nat), k < 13 → u_Kn s (zCl k).1 (zCl k).2.1 (zCl k).2.2 x.1 x.2 from by
    by_cases h : k < 13
    · obtain ⟨cc, i, hh⟩ := u_known htz (zu_in h) (htz _ (zt_in h))
      exact ⟨(cc, i), fun _ => hh⟩
    · exact ⟨(0, fun _ => 0), fun q => absurd q h⟩)
  obtain ⟨c13, k13, p13, a1, a2, a3⟩ := Cond.arrayClass_spec (htz _ (zw_a (.arrayClass .int) (by simp)))
  obtain ⟨c14, k14, p14, b1, b2, b3⟩ := Cond.arrayClass_spec (htz _ (zw_a (.arrayClass .boolean) (by simp)))
  obtain ⟨c15, k15, p15, e1, e2, e3⟩ := Cond.arrayClass_spec (htz _ (zw_a (.arrayClass .char) (by simp)))
  obtain ⟨c16, k16, p16, f1, f2, f3⟩ := Cond.arrayClass_spec (htz _ (zw_a (.arrayClass .long) (by simp)))
  obtain ⟨c17, k17, p17, g1, g2, g3⟩ := Cond.arrayClass_spec (htz _ (zw_a (.arrayClass .byte) (by simp)))
  have w2 := lwPl_mem _ _ lw_w2
  have o6 := hts _ (w2 (.arrayOver (.object RX6)) (by simp))
  have o0 := hts _ (w2 (.arrayOver (.object RX0)) (by simp))
  obtain ⟨p18, c18, k18, h1, h2, h3, h4, h5⟩ := Cond.arrayOver_spec o6
  obtain ⟨p19, c19, k19, i1, i2, i3, i4, i5⟩ := Cond.arrayOver_spec o0
  have ini := hts _ (w2 (.initialized "PartSongDesk$Singing") (by simp))
  have initT := hts _ (w2 (.initialized "java/lang/Throwable") (by simp))
  obtain ⟨t21, z21, y21⟩ := lw_table (n := "LETTER_PITCH") (k := 21) (hts _ (w2 _ (by simp))) ini (hq _ (by decide +kernel)) (hq _ (by decide +kernel)) (fun j hj => by
    rcases (show j = 0 ∨ j = 1 ∨ j = 2 ∨ j = 3 ∨ j = 4 ∨ j = 5 ∨ j = 6 by omega) with rfl | rfl | rfl | rfl | rfl | rfl | rfl <;> exact hq _ (by decide +kernel))
  obtain ⟨t22, z22, y22⟩ := lw_table (n := "SHARP_AHEAD") (k := 22) (hts _ (w2 _ (by simp))) ini (hq _ (by decide +kernel)) (hq _ (by decide +kernel)) (fun j hj => by
    rcases (show j = 0 ∨ j = 1 ∨ j = 2 ∨ j = 3 ∨ j = 4 ∨ j = 5 ∨ j = 6 by omega) with rfl | rfl | rfl | rfl | rfl | rfl | rfl <;> exact hq _ (by decide +kernel))
  have hK : va_K (fun k => (g k).1, fun k => (g k).2) vwCl (zTys (fun t => if t = 13 then c13 else if t = 14 then c14 else if t = 15 then c15 else if t = 16 then c16 else if t = 17 then c17 else if t = 18 then c18 else c19)) s := by
    refine ⟨fun k q hk => ?_, fun k q hk => ?_⟩
    · have h13 : k < 13 := (List.getElem?_eq_some_iff.mp hk).1
      rw [zcl_at h13] at hk
      cases hk
      exact hg k h13
    · have h7 : k < 7 := (List.getElem?_eq_some_iff.mp hk).1
      rcases (show k = 0 ∨ k = 1 ∨ k = 2 ∨ k = 3 ∨ k = 4 ∨ k = 5 ∨ k = 6 by omega) with rfl | rfl | rfl | rfl | rfl | rfl | rfl
      · cases hk; exact ⟨fun n z => ⟨fun k h => (by cases h), k13, a2, p13, a3⟩, a1⟩
      · cases hk; exact ⟨fun n z => ⟨fun k h => (by cases h), k14, b2, p14, b3⟩, b1⟩
      · cases hk; exact ⟨fun n z => ⟨fun k h => (by cases h), k15, e2, p15, e3⟩, e1⟩
      · cases hk; exact ⟨fun n z => ⟨fun k h => (by cases h), k16, f2, p16, f3⟩, f1⟩
      · cases hk; exact ⟨fun n z => ⟨fun k h => (by cases h), k17, g2, p17, g3⟩, g1⟩
      · cases hk; exact ⟨fun n z => ⟨fun k h => (by cases h), k18, h3, p18, h4⟩, k18, p18, h3, h4, h1, h5⟩
      · cases hk; exact ⟨fun n z => ⟨fun k h => (by cases h), k19, i3, p19, i4⟩, k19, p19, i3, i4, i1, i5⟩
  refine ⟨fun o => if o = 1048576 then t21 else if o = 1048577 then t22 else b, _, (fun k => (g k).1, fun k => (g k).2), ⟨hK, Nat.le_refl _, ⟨z21, y21⟩, ⟨z22, y22⟩, ⟨?_, ?_⟩, fun q hq9 => ?_, fun w hw => ?_, va_AO.of o6, va_AO.of o0⟩, ?_⟩
  · exact vx_Zqof (hts _ (w2 _ (by simp [Bundle.tN]))) initT (hq _ (by decide +kernel)) hA
  · exact vx_Zqof (hts _ (w2 _ (by simp [Bundle.tN]))) initT (hq _ (by decide +kernel)) hA
  · have hm := lwPl_mem _ _ lw_th _ (List.mem_map.mpr ⟨q, hq9, rfl⟩)
    have h0 : (Cond.stringRef (zXn (zc q.1)) q.2.2.2.1 q.2.2.2.2.2.2.2).before #[] s = true := hts _ hm
    have hc := of_decide_eq_true (List.all_eq_true.mp lw_th11 q hq9)
    obtain ⟨k, cf, i, a, -, -, -, -, -, he⟩ := Cond.stringRef_spec (by rw [hc]; exact (hK.1 11 _ (zcl_at (by decide))).2.1) h0
    exact ⟨a, h0, he⟩
  · exact va_Nw.of (zNw_tab w hw) (hts w (lwPl_mem _ _ lw_nw w hw))
  · exact ⟨⟨va_Nc.of (hq _ (by decide +kernel)), va_Nc.of (hq _ (by decide +kernel)), va_Nc.of (hq _ (by decide +kernel))⟩, rfl⟩
