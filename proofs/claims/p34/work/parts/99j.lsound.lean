/-! part 99j: THE LAW'S MACHINE IS SOUND -/
theorem wstep_cs {cf : Int32 → Int32} {y pc : Nat} {ins : Instr} {ls st : List Value} {m : zM} {q : wR} (h : wstep cf y ins pc ls st m = some q) :
    (∃ x, ins = .ireturn ∧ st = [.int x] ∧ (x = 0 ∨ x = 1) ∧ q = .inr (.inr x)) ∨
    (∃ i s w xs rest x m1, ins = .invokestatic i ∧ zpool 16 i = (13, s, w) ∧ s < 27 ∧ (m.1 0).1 = 11 ∧ zcs rest ≤ 8 ∧ xs.length = wA s ∧ st = (wvals xs).reverse ++ .ref 0 :: rest ∧ wstub s xs m = some (x, m1) ∧ q = .inl (pc + 3, ls, .int x :: rest, m1, 1)) ∨
    (∃ i w k rest, ins = .invokestatic i ∧ zpool 16 i = (13, 27, w) ∧ y = 237 ∧ zcs rest ≤ 8 ∧ 0 ≤ k ∧ st = .int k :: .ref 1048578 :: rest ∧ q = .inl (pc + 3, ls, .int (cf k) :: rest, m, 0)) ∨
    (∃ i z w t rest, ins = .invokestatic i ∧ zpool 16 i = (2, z, w) ∧ y = 237 ∧ (z = 143 ∨ z = 144) ∧ zcs rest ≤ 8 ∧ zarg t.reverse = true ∧ t.length = za z ∧ st = t ++ rest ∧ q = .inr (.inl (z, t.reverse, pc + 3, ls, rest))) ∨
    (∃ i z w o rest v m1, ins = .invokevirtual i ∧ zpool 16 i = (2, z, w) ∧ y = 237 ∧ (z < 143 ∧ za z = 0 ∧ zk z = 0 ∧ (m.1 o).1 = zc z ∧ zc z < 13 ∧ zcs rest ≤ 8 ∧ 1 ≤ zl z ∧ zf z + 1 ≤ 11 ∧ 8 + (zl z + 11) + zw z ≤ 270) ∧ st = .ref o :: rest ∧ zGo false z 0 (zent z [.ref o]) [] m = some (.inl (some (.int v)), m1) ∧ m1.2.2.1 = m.2.2.1 ∧ q = .inl (pc + 3, ls, .int v :: rest, m1, 0)) ∨
    (∃ q' : Nat × List Value × List Value × zM, zstep false y ins pc ls st m = some (.inl q') ∧ q'.2.2.2.2.2.1 = m.2.2.1 ∧ q = .inl (q'.1, q'.2.1, q'.2.2.1, q'.2.2.2, 0)) := by
  unfold wstep at h
  split at h
  · left
    split at h
    · rename_i x
      split at h
      · rename_i hx
        exact ⟨x, rfl, rfl, hx, (Option.some.inj h).symm⟩
      · cases h
    · cases h
  · rename_i i
    unfold wstepS at h
    split at h
    · rename_i s w hp
      split at h
      · rename_i h27
        subst h27
        split at h
        · rename_i k o rest
          split at h
          · rename_i hc
            obtain ⟨hy, rfl, h4, hk0⟩ := hc
            exact Or.inr (Or.inr (Or.inl ⟨i, w, k, rest, rfl, hp, hy, h4, hk0, rfl, (Option.some.inj h).symm⟩))
          · cases h
        · cases h
      · right
        left
        split at h
        · rename_i o rest hdrop
          split at h
          · rename_i hc
            obtain ⟨hs, rfl, h11, h4⟩ := hc
            rw [Option.bind_eq_some_iff] at h
            obtain ⟨xs, hxs, h⟩ := h
            split at h
            · rename_i hlen
              cases hst : wstub s xs m with
              | none => rw [hst] at h; cases h
              | some r =>
                rw [hst] at h
                obtain ⟨x, m1⟩ := r
                refine ⟨i, s, w, xs, rest, x, m1, rfl, hp, hs, h11, h4, hlen, ?_, hst, (Option.some.inj h).symm⟩
                have e1 := wlist_eq hxs
                have e2 : st.take (wA s) = (wvals xs).reverse := by rw [← e1, List.reverse_reverse]
                rw [← e2, ← hdrop, List.take_append_drop]
            · cases h
          · cases h
        · cases h
    · rename_i z w hp
      split at h
      · rename_i hc
        obtain ⟨hy, hz, h4, ha, hl⟩ := hc
        exact Or.inr (Or.inr (Or.inr (Or.inl ⟨i, z, w, st.take (za z), st.drop (za z), rfl, hp, hy, hz, h4, ha, hl, (List.take_append_drop _ _).symm, (Option.some.inj h).symm⟩)))
      · cases h
    · cases h
  · rename_i i
    unfold wstepV at h
    split at h
    · rename_i z w o rest hp
      split at h
      · rename_i hc
        obtain ⟨hy, hc⟩ := hc
        split at h
        · rename_i v m1 e
          split at h
          · rename_i hcnt
            exact Or.inr (Or.inr (Or.inr (Or.inr (Or.inl ⟨i, z, w, o, rest, v, m1, rfl, hp, hy, hc, rfl, e, hcnt, (Option.some.inj h).symm⟩))))
          · cases h
        · cases h
      · cases h
    · cases h
  · unfold wplain at h
    split at h
    · rename_i q' e
      split at h
      · rename_i hcnt
        exact Or.inr (Or.inr (Or.inr (Or.inr (Or.inr ⟨q', e, hcnt, (Option.some.inj h).symm⟩))))
      · cases h
    · cases h
/-- the walk's surroundings -/
def wCtx (p : Program) (l : Launch) (s : State) (mid : MethodId) (args : Array Value) (c : Code) (y : Nat) (b : Nat) (ro : Nat → Nat) (cA : Nat → ClassId) (D : va_G) : Prop :=
  p.tables.exec = Jvm.exec ∧ c.code = zb y ∧ c.maxLocals = zl y ∧ s.vm.findClass RL = some mid.cls ∧ (∀ w ∈ zGT, w.before args s = true) ∧ zG b ro cA D s ∧ zNs s ∧ l.stackTraces = false ∧ (y = 143 ∨ y = 144 ∨ y = 237)
/-- the law may call cell -/
def wCell (p : Program) (l : Launch) (e : Env) (R : Room) (s : State) (mid : MethodId) (args : Array Value) (below : List Frame) (meth : Method) (c : Code) (Q : State → Prop) (cf : Int32 → Int32) (b : Nat) (ro : Nat → Nat) : Prop :=
  ∀ (H : Heap) (locs : List Loc) (cells slots pc i w : Nat) (lc : Array Slot) (k : Int32) (rest : List Value), va_S (zA b) s.heap H locs → lc.size = zl 237 → decode (zb 237) pc = .ok (.invokestatic i, 3) → zpool 16 i = (13, 27, w) → zcs rest ≤ 8 → 0 ≤ k → cells ≤ R.cells ∧ slots ≤ R.slots →
    (∀ (H1 : Heap) (locs1 : List Loc), (∀ (m : zM) (cA : Nat → ClassId) (D : va_G), va_P D vwCl (zW b ro cA m) H → va_P D vwCl (zW b ro cA m) H1) → va_S (zA b) s.heap H1 locs1 → W p l e R s mid args below meth c H1 locs1 cells slots Q (F0 mid (pc + 3) lc (.int (cf k) :: rest.map (zcv b ro)))) →
    W p l e R s mid args below meth c H locs cells slots Q (F0 mid pc lc (.int k :: .ref (ro 1048578) :: rest.map (zcv b ro)))
def wWk (cf : Int32 → Int32) (l : Launch) (b : Nat) (ro : Nat → Nat) (cA : Nat → ClassId) (D : va_G) (n : Nat) : Prop :=
  ∀ (p : Program) (e : Env) (R : Room) (s : State) (mid : MethodId) (args : Array Value) (below : List Frame) (meth : Method) (c : Code) (H : Heap) (locs : List Loc) (cells slots pc : Nat) (lc : Array Slot) (ls st : List Value) (m : zM) (y : Nat) (x : Int32) (m1 : zM) (k k1 : Nat) (Q : State → Prop),
    wCtx p l s mid args c y b ro cA D → zf y ≤ R.frames → zw y ≤ R.locals → zwf m → va_P D vwCl (zW b ro cA m) H → va_S (zA b) s.heap H locs → zL b ro lc (zl y) ls → cells + (k1 - k) ≤ R.cells → slots + 6 * (k1 - k) ≤ R.slots →
    (y = 237 → wCell p l e R s mid args below meth c Q cf b ro) → wrun cf n y pc ls st m k = some (x, m1, k1) →
    (∀ (H1 : Heap) (locs1 : List Loc) (lc1 : Array Slot) (pcR : Nat), decode (zb y) pcR = .ok (.ireturn, 1) → va_P D vwCl (zW b ro cA m1) H1 → va_S (zA b) s.heap H1 locs1 → (x = 0 ∨ x = 1) → W p l e R s mid args below meth c H1 locs1 (cells + (k1 - k)) (slots + 6 * (k1 - k)) Q (F0 mid pcR lc1 [.int x])) →
    W p l e R s mid args below meth c H locs cells slots Q (F0 mid pc lc (st.map (zcv b ro)))
def wSd (cf : Int32 → Int32) (l : Launch) (b : Nat) (ro : Nat → Nat) (cA : Nat → ClassId) (D : va_G) (n : Nat) : Prop :=
  ∀ (z : Nat) (as : List Value) (m : zM) (x : Int32) (m1 : zM) (k k1 : Nat), (z = 143 ∨ z = 144) → zarg as = true → as.length ≤ zl z → zwf m → wrun cf n z 0 (zent z as) [] m k = some (x, m1, k1) →
    vx_Met l (zy z) (zws z) (zrm z (k1 - k) (6 * (k1 - k))) (zPs b ro cA D m as) (zQ b ro cA D false (.inl (some (.int x))) m1) (zXC b ro cA D (.inl (some (.int x))) m1) (k1 - k) (6 * (k1 - k)) (zA b)
theorem w_nums : (zf 143 = 10 ∧ zf 144 = 10 ∧ zf 237 = 11) ∧ (zw 143 = 240 ∧ zw 144 = 240 ∧ zw 237 = 270) ∧ (zl 143 = 11 ∧ zl 144 = 9 ∧ zl 237 = 24) ∧ (zk 143 = 1 ∧ zk 144 = 1) ∧ (zc 143 = 16 ∧ zc 144 = 16 ∧ zc 237 = 16) ∧ (zr 143 = some .boolean ∧ zr 144 = some .boolean) ∧ zXn 16 = RL ∧ zk 237 ≠ 2 ∧ zb 237 = code := by
  refine ⟨⟨rfl, rfl, rfl⟩, ⟨rfl, rfl, rfl⟩, ⟨rfl, rfl, rfl⟩, ⟨rfl, rfl⟩, ⟨rfl, rfl, rfl⟩, ⟨rfl, rfl⟩, rfl, by decide, rfl⟩
theorem qLini : Cond.initialized RL ∈ zGT := zi_in (k := 16) (by decide)
theorem wrun_wf {cf : Int32 → Int32} : ∀ (n y pc : Nat) (ls st : List Value) (m : zM) (k : Nat) (x : Int32) (m1 : zM) (k1 : Nat), wrun cf n y pc ls st m k = some (x, m1, k1) → zwf m → zwf m1
  | 0, y, pc, ls, st, m, k, x, m1, k1, h, hm => by simp [wrun] at h
  | n + 1, y, pc, ls, st, m, k, x, m1, k1, h, hm => by
    unfold wrun at h
    cases hat : wat cf y pc ls st m with
    | none => rw [hat] at h; cases h
    | some q =>
      rw [hat] at h
      obtain ⟨ins, len, hd, hstep⟩ := wat_of hat
      rcases wstep_cs hstep with ⟨x0, rfl, rfl, hx01, rfl⟩ | ⟨i, sN, w, xs, rest, x0, m2, rfl, hp, hsN, h11, h4, hlen, rfl, hst1, rfl⟩ | ⟨i, w, kk, rest, rfl, hp, rfl, h4, hk0, rfl, rfl⟩ | ⟨i, z, w, t, rest, rfl, hp, rfl, hz, h4, ha, hlt, rfl, rfl⟩ | ⟨i, z, w, o, rest, v, m2, rfl, hp, rfl, -, rfl, hgo, hcnt, rfl⟩ | ⟨q', hz', hcnt, rfl⟩
      · have h2 : some (x0, m, k) = some (x, m1, k1) := h
        cases h2
        exact hm
      · refine wrun_wf n _ _ _ _ _ _ _ _ _ h ?_
        rcases (wstub_cs hst1).2 with ⟨v, hg, -⟩ | ⟨ex, hg, -⟩
        · obtain ⟨j, hj⟩ := zGo_iff.mp hg
          exact (zrun_mo _ _ _ _ _ _ _ _ hj).2.2.1 hm
        · obtain ⟨j, hj⟩ := zGo_iff.mp hg
          exact (zrun_mo _ _ _ _ _ _ _ _ hj).2.2.1 hm
      · exact wrun_wf n _ _ _ _ _ _ _ _ _ h hm
      · have h2 : (match wrun cf n z 0 (zent z t.reverse) [] m k with
          | none => none
          | some (x, m1, k1) => wrun cf n 237 (pc + 3) ls (.int x :: rest) m1 k1) = some (x, m1, k1) := h
        cases hcal : wrun cf n z 0 (zent z t.reverse) [] m k with
        | none => rw [hcal] at h2; cases h2
        | some r =>
          obtain ⟨x2, m2, k2⟩ := r
          rw [hcal] at h2
          exact wrun_wf n _ _ _ _ _ _ _ _ _ h2 (wrun_wf n _ _ _ _ _ _ _ _ _ hcal hm)
      · refine wrun_wf n _ _ _ _ _ _ _ _ _ h ?_
        obtain ⟨j, hj⟩ := zGo_iff.mp hgo
        exact (zrun_mo _ _ _ _ _ _ _ _ hj).2.2.1 hm
      · exact wrun_wf n _ _ _ _ _ _ _ _ _ h ((zstep_mo _ hz').2.2.1 hm)
section
variable {p : Program} {l : Launch} {e : Env} {R : Room} {s : State} {mid : MethodId} {args : Array Value} {below : List Frame} {meth : Method} {c : Code} {H : Heap} {locs : List Loc} {cells slots pc : Nat} {Q : State → Prop}
variable {b : Nat} {ro : Nat → Nat} {cA : Nat → ClassId} {D : va_G} {m m1 : zM} {lc : Array Slot} {y z i w : Nat} {rest : List Value} {cf : Int32 → Int32} {n : Nat}
theorem w_stub {sN : Nat} {xs : List Int32} {x : Int32} (hC : wCtx p l s mid args c y b ro cA D) (hRf : 10 ≤ R.frames) (hRl : 240 ≤ R.locals) (hm : zwf m) (h11 : (m.1 0).1 = 11) (hP : va_P D vwCl (zW b ro cA m) H) (hS : va_S (zA b) s.heap H locs) (hLs : lc.size = zl y) (hsN : sN < 27) (hp : zpool 16 i = (13, sN, w)) (hlen : xs.length = wA sN) (h : wstub sN xs m = some (x, m1)) (h4 : zcs rest ≤ 8) (hd : decode (zb y) pc = .ok (.invokestatic i, 3)) (hf : cells + 1 ≤ R.cells ∧ slots + 6 ≤ R.slots)
    (K : ∀ (H1 : Heap) (locs1 : List Loc), va_P D vwCl (zW b ro cA m1) H1 → va_S (zA b) s.heap H1 locs1 → W p l e R s mid args below meth c H1 locs1 (cells + 1) (slots + 6) Q (F0 mid (pc + 3) lc (.int x :: rest.map (zcv b ro)))) :
    W p l e R s mid args below meth c H locs cells slots Q (F0 mid pc lc (((wvals xs).reverse ++ .ref 0 :: rest).map (zcv b ro))) := by
  obtain ⟨hx, hb, hml, hown, hts, hG, hN, hst, hy⟩ := hC
  have hM := st_all (b := b) (ro := ro) (cA := cA) (D := D) hst hm h11 hsN hlen h
  obtain ⟨y1, y2, y3, y4⟩ := wY_ok hsN
  have hI := wI_of hp hsN
  subst hI
  have hin : ∀ w ∈ (Cond.codeWith (wY sN) (wB sN) (wN sN) (some .int) (wH sN) :: zGT), w ∈ zGT ∧ ((w.onTables && w.keeps) = true ∨ ∃ ty, w = .arrayClass ty) := fun w hw => (List.mem_cons.mp hw).elim (fun e => by rw [e]; exact zGT_good (wW_in hsN)) zGT_good
  have cw : vx_CSW R s args RL (wI sN) (wY sN) (wB sN) (wN sN) (some .int) (wH sN) (Cond.codeWith (wY sN) (wB sN) (wN sN) (some .int) (wH sN) :: zGT) rmS 1 6 (wA sN + 1) := by
    refine ⟨⟨rfl, rfl, hRf, ?_, pay_in hts hin, List.mem_cons_self⟩, hts _ (wW_in hsN), by rw [y1]; exact hts _ qLini, by rw [y1]; exact ⟨by decide, by decide⟩, fun sig h => ?_, hts _ (wL_in hsN), hts _ (wS_in hsN)⟩
    · show 8 + (wN sN + 11) + 200 ≤ R.locals
      omega
    · rw [h] at y3
      exact (Option.some.inj y3).symm
  have hpre : ∀ U : State, U.heap = H → s.WarmedH U.vm → zPs b ro cA D m (.ref 0 :: wvals xs) ((.ref 0 :: wvals xs).map (zcv b ro)).toArray U := fun U hU hW => ⟨z_pre (al := false) hG hP hS (fun q => by cases q) U hU hW, hN.to hW.alike⟩
  have hstk : ((wvals xs).reverse ++ .ref 0 :: rest).map (zcv b ro) = (((.ref 0 :: wvals xs : List Value)).map (zcv b ro)).reverse ++ rest.map (zcv b ro) := by
    generalize wvals xs = W
    rw [List.map_append, List.map_cons, List.map_reverse, List.map_cons, List.reverse_cons, List.append_assoc]
    rfl
  rw [hstk]
  refine zcall_ret (al := false) (vx_runSX (As := (.ref 0 :: wvals xs : List Value).map (zcv b ro)) (rest := rest.map (zcv b ro)) (Ts := zGT) (own := RL) ⟨hx, hb, hml, hown, hts⟩ hM cw ⟨zPs_blind, hpre⟩ rfl (by rw [List.length_map, List.length_cons, List.length_map, hlen]) hLs (by simp [F0]) (lv_room (z_cats b ro rest h4)) hd hf) hS (fun H1 locs1 hP1 hS1 _ => ?_)
  exact K H1 locs1 hP1 hS1
theorem wSd_of (hl : l.stackTraces = false) (hW : wWk cf l b ro cA D n) : wSd cf l b ro cA D n := by
  intro z as m x m1 k k1 hz ha hlen hm hr
  have hz237 : z < 237 := by omega
  obtain ⟨g0, g1, g2, g3, g4, g5, g6⟩ := zm_all hz237
  obtain ⟨-, -, -, hk, hc, hrr, hXn, -⟩ := w_nums
  refine z_ofW (cc := zb z) (maxL := zl z) (ret := zr z) g0 rfl ?_
  intro p e s mt args below meth c s₁ B hml ht hP
  obtain ⟨⟨rfl, hG, hP, hsz⟩, hN⟩ := hP
  have hown : s.vm.findClass RL = some mt.cls := by
    have h := findClass_of_methodNamed B.named
    rw [g3] at h
    rcases hz with rfl | rfl
    · rw [hc.1, hXn] at h
      exact h
    · rw [hc.2.1, hXn] at h
      exact h
  have hlocks : meth.locks = false := B.notSynchronized
  have hret : meth.sig.returnType = some .boolean := by
    have := B.returns
    rcases hz with rfl | rfl
    · rw [hrr.1] at this; exact this
    · rw [hrr.2] at this; exact this
  rw [lg_entry_eq]
  have hts0 : ∀ w ∈ zws z, w.before _ s = true := atoms_spec (ws := zws z) B.pre
  have hC : wCtx p l s mt (as.map (zcv b ro)).toArray c z b ro cA D := ⟨B.exec, B.bytes, hml, hown, fun w hw => hts0 w (List.mem_cons_of_mem _ hw), hG, hN, hl, by omega⟩
  refine hW p e (headSpec (zws z) (zrm z (k1 - k) (6 * (k1 - k)))).room s mt (as.map (zcv b ro)).toArray below meth c s.heap [] 0 0 0 _ (zent z as) [] m z x m1 k k1 _ hC (Nat.le_refl _) (Nat.le_refl _) hm hP va_S.rf (z_entL ha hlen) (by rw [Nat.zero_add]; exact Nat.le_refl _) (by rw [Nat.zero_add]; exact Nat.le_refl _) (fun q => by omega) hr ?_
  intro H1 locs1 lc1 pcR hd hP1 hS1 hx01
  rw [Nat.zero_add, Nat.zero_add]
  refine vx_ret (W.zret B.exec B.bytes hret ?_ (fun t ht _ => ⟨rfl, by rw [ht]; exact hP1, hS1.F ht, fun q => by cases q⟩) hS1.2.2 hd)
  rcases hx01 with rfl | rfl <;> rfl
set_option maxHeartbeats 4000000 in
theorem wWk_succ (hW : wWk cf l b ro cA D n) (hS0 : wSd cf l b ro cA D n) : wWk cf l b ro cA D (n + 1) := by
  intro p e R s mid args below meth c H locs cells slots pc lc ls st m y x m1 k k1 Q hC hRf hRl hm hP hS hL hcq hsq hcell hr K
  have C2 := hC
  obtain ⟨hx, hb, hml, hown, hts, hG, hN, hst, hy⟩ := C2
  obtain ⟨nf, nw, nl, nk, nc, nr, nX, nk2, ncode⟩ := w_nums
  have hcy : zc y = 16 := by
    rcases hy with rfl | rfl | rfl
    · exact nc.1
    · exact nc.2.1
    · exact nc.2.2
  have hown2 : s.vm.findClass (zXn (zc y)) = some mid.cls := by rw [hcy, nX]; exact hown
  have hRf10 : 10 ≤ R.frames := by
    rcases hy with rfl | rfl | rfl
    · rw [nf.1] at hRf; exact hRf
    · rw [nf.2.1] at hRf; exact hRf
    · rw [nf.2.2] at hRf; omega
  have hRl240 : 240 ≤ R.locals := by
    rcases hy with rfl | rfl | rfl
    · rw [nw.1] at hRl; exact hRl
    · rw [nw.2.1] at hRl; exact hRl
    · rw [nw.2.2] at hRl; omega
  unfold wrun at hr
  cases hat : wat cf y pc ls st m with
  | none => rw [hat] at hr; cases hr
  | some q =>
    rw [hat] at hr
    obtain ⟨ins, len, hd, hstep⟩ := wat_of hat
    rcases wstep_cs hstep with ⟨x0, rfl, rfl, hx01, rfl⟩ | ⟨i, sN, w, xs, rest, x0, m2, rfl, hp, hsN, h11, h4, hlen, rfl, hst1, rfl⟩ | ⟨i, w, kk, rest, rfl, hp, rfl, h4, hk0, rfl, rfl⟩ | ⟨i, z, w, t, rest, rfl, hp, rfl, hz, h4, ha, hlt, rfl, rfl⟩ | ⟨i, z, w, o, rest, v, m2, rfl, hp, rfl, ⟨hz, hza, hzk, hto, h13, h4, hzl1, hzf, hzw⟩, rfl, hgo, hcnt, rfl⟩ | ⟨q', hz', hcnt, rfl⟩
    · have hr2 : some (x0, m, k) = some (x, m1, k1) := hr
      have h3 := Option.some.inj hr2
      have e1 : x0 = x := congrArg Prod.fst h3
      have e2 : m = m1 := congrArg (fun q => q.2.1) h3
      have e3 : k = k1 := congrArg (fun q => q.2.2) h3
      subst e1; subst e2; subst e3
      have r := K H locs lc pc hd hP hS hx01
      rw [Nat.sub_self, Nat.mul_zero, Nat.add_zero, Nat.add_zero] at r
      exact r
    · have hr2 : wrun cf n y (pc + 3) ls (.int x0 :: rest) m2 (k + 1) = some (x, m1, k1) := hr
      have hle := wrun_le _ _ _ _ _ _ _ _ _ _ hr2
      have hm2 : zwf m2 := by
        have hcs := wstub_cs hst1
        rcases hcs.2 with ⟨v, hg, -⟩ | ⟨ex, hg, -⟩
        · obtain ⟨j, hj⟩ := zGo_iff.mp hg
          exact (zrun_mo _ _ _ _ _ _ _ _ hj).2.2.1 hm
        · obtain ⟨j, hj⟩ := zGo_iff.mp hg
          exact (zrun_mo _ _ _ _ _ _ _ _ hj).2.2.1 hm
      have hd3 : decode (zb y) pc = .ok (.invokestatic i, 3) := hd
      refine w_stub hC hRf10 hRl240 hm h11 hP hS hL.2.1 hsN hp hlen hst1 h4 hd3 ⟨by omega, by omega⟩ (fun H1 locs1 hP1 hS1 => ?_)
      have r := hW p e R s mid args below meth c H1 locs1 (cells + 1) (slots + 6) (pc + 3) lc ls (.int x0 :: rest) m2 y x m1 (k + 1) k1 Q hC hRf hRl hm2 hP1 hS1 hL (by omega) (by omega) hcell hr2 (fun H2 locs2 lc2 pcR hdR hP2 hS2 hx2 => by
        have r2 := K H2 locs2 lc2 pcR hdR hP2 hS2 hx2
        rw [show cells + 1 + (k1 - (k + 1)) = cells + (k1 - k) by omega, show slots + 6 + 6 * (k1 - (k + 1)) = slots + 6 * (k1 - k) by omega]
        exact r2)
      exact r
    · have hr2 : wrun cf n 237 (pc + 3) ls (.int (cf kk) :: rest) m (k + 0) = some (x, m1, k1) := hr
      have hd3 : decode (zb 237) pc = .ok (.invokestatic i, 3) := hd
      have e0 : (Value.int kk :: .ref 1048578 :: rest).map (zcv b ro) = .int kk :: .ref (ro 1048578) :: rest.map (zcv b ro) := rfl
      rw [e0]
      refine hcell rfl H locs cells slots pc i w lc kk rest hS hL.2.1 hd3 hp h4 hk0 ⟨by omega, by omega⟩ (fun H1 locs1 hPP hS1 => ?_)
      exact hW p e R s mid args below meth c H1 locs1 cells slots (pc + 3) lc ls (.int (cf kk) :: rest) m 237 x m1 k k1 Q hC hRf hRl hm (hPP _ _ _ hP) hS1 hL hcq hsq hcell hr2 K
    · have hr2 : (match wrun cf n z 0 (zent z t.reverse) [] m k with
        | none => none
        | some (x, m1, k1) => wrun cf n 237 (pc + 3) ls (.int x :: rest) m1 k1) = some (x, m1, k1) := hr
      cases hcal : wrun cf n z 0 (zent z t.reverse) [] m k with
      | none => rw [hcal] at hr2; cases hr2
      | some r =>
        obtain ⟨x2, m2, k2⟩ := r
        rw [hcal] at hr2
        have hr3 : wrun cf n 237 (pc + 3) ls (.int x2 :: rest) m2 k2 = some (x, m1, k1) := hr2
        have hle1 := wrun_le _ _ _ _ _ _ _ _ _ _ hcal
        have hle2 := wrun_le _ _ _ _ _ _ _ _ _ _ hr3
        have hza : t.reverse.length ≤ zl z := by
          rw [List.length_reverse, hlt]
          rcases hz with rfl | rfl
          · exact Nat.le_of_ble_eq_true rfl
          · exact Nat.le_of_ble_eq_true rfl
        have hM := hS0 z t.reverse m x2 m2 k k2 hz ha hza hm hcal
        have hm2 : zwf m2 := wrun_wf _ _ _ _ _ _ _ _ _ _ hcal hm
        have hd3 : decode (zb 237) pc = .ok (.invokestatic i, 3) := hd
        have hfit : zfit 237 z = true := by
          rcases hz with rfl | rfl
          · rfl
          · rfl
        have hkz : zk z = 1 := by
          rcases hz with rfl | rfl
          · exact nk.1
          · exact nk.2
        have hs1 := hts _ (zs_in (k := z) (by omega))
        unfold zWs at hs1
        rw [hkz] at hs1
        have hpre : ∀ U : State, U.heap = H → s.WarmedH U.vm → zPs b ro cA D m t.reverse (t.reverse.map (zcv b ro)).toArray U := fun U hU hW => ⟨z_pre (al := false) hG hP hS (fun q => by cases q) U hU hW, hN.to hW.alike⟩
        have cb := z_cb (y := 237) (mc := k2 - k) (ms := 6 * (k2 - k)) hx hts hRf hRl hfit (by rw [nc.2.2]; exact hp)
        rw [nc.2.2, nX] at cb
        have hstk : (t ++ rest).map (zcv b ro) = (t.reverse.map (zcv b ro)).reverse ++ rest.map (zcv b ro) := by
          rw [List.map_append, List.map_reverse, List.reverse_reverse]
        rw [hstk]
        refine zcall_ret (al := false) (vx_runS (As := t.reverse.map (zcv b ro)) (rest := rest.map (zcv b ro)) (own := RL) (Ts := zGT) ⟨hx, hb, hml, hown, hts⟩ hM ⟨cb, hs1⟩ ⟨zPs_blind, hpre⟩ rfl (by simp [hlt]) hL.2.1 (by simp [F0]) (lv_room (z_cats b ro rest h4)) hd3 ⟨by omega, by omega⟩) hS (fun H1 locs1 hP1 hS1 _ => ?_)
        have r := hW p e R s mid args below meth c H1 locs1 (cells + (k2 - k)) (slots + 6 * (k2 - k)) (pc + 3) lc ls (.int x2 :: rest) m2 237 x m1 k2 k1 Q hC hRf hRl hm2 hP1 hS1 hL (by omega) (by omega) hcell hr3 (fun H2 locs2 lc2 pcR hdR hP2 hS2 hx2 => by
          have r2 := K H2 locs2 lc2 pcR hdR hP2 hS2 hx2
          rw [show cells + (k2 - k) + (k1 - k2) = cells + (k1 - k) by omega, show slots + 6 * (k2 - k) + 6 * (k1 - k2) = slots + 6 * (k1 - k) by omega]
          exact r2)
        exact r
    · have hr2 : wrun cf n 237 (pc + 3) ls (.int v :: rest) m2 (k + 0) = some (x, m1, k1) := hr
      have hd3 : decode (zb 237) pc = .ok (.invokevirtual i, 3) := hd
      have hm2 : zwf m2 := by
        obtain ⟨j, hj⟩ := zGo_iff.mp hgo
        exact (zrun_mo _ _ _ _ _ _ _ _ hj).2.2.1 hm
      have hM := st_met0 (b := b) (ro := ro) (cA := cA) (D := D) (as := [.ref o]) hst hm (y := z) (by omega) rfl hzl1 hcnt hgo
      have hlink : Cond.methodLink RL i (zy z) ∈ zGT := by
        have h := zp_in hp (by simp) (by simp)
        exact h
      have e0 : (Value.ref o :: rest).map (zcv b ro) = ([] : List Value).map (zcv b ro) ++ .ref (b + o) :: rest.map (zcv b ro) := by
        rw [List.map_cons]
        show Value.ref (zad b ro o) :: _ = _
        rw [hm.ad b ro hto (by omega)]
        rfl
      rw [e0]
      refine zcall_ret (al := false) (st_run (R := R) (e := e) (below := below) (meth := meth) (cells := cells) (slots := slots) (pc := pc) (m := m) (t := []) (o := o) (rest := rest.map (zcv b ro)) (z := z) (i := i) (lc := lc) hx hb hml hown hts hG hm hP hS hL.2.1 hM (by omega) ⟨by rw [nf.2.2] at hRf; omega, by rw [nw.2.2] at hRl; omega⟩ hlink hzk hto h13 (by rw [hza]; rfl) (z_cats b ro rest h4) hd3 ⟨by omega, by omega⟩) hS (fun H1 locs1 hP1 hS1 _ => ?_)
      exact hW p e R s mid args below meth c H1 locs1 cells slots (pc + 3) lc ls (.int v :: rest) m2 237 x m1 k k1 Q hC hRf hRl hm2 hP1 hS1 hL hcq hsq hcell hr2 K
    · have hr2 : wrun cf n y q'.1 q'.2.1 q'.2.2.1 q'.2.2.2 (k + 0) = some (x, m1, k1) := hr
      have hmo := zstep_mo _ hz'
      have z1 : q'.2.2.2.2.2.1.1 - m.2.2.1.1 = 0 := by rw [hcnt, Nat.sub_self]
      have z2 : q'.2.2.2.2.2.1.2 - m.2.2.1.2 = 0 := by rw [hcnt, Nat.sub_self]
      have hin : zk y = 2 → meth.name = "<init>" := fun h2 => by
        exfalso
        rcases hy with rfl | rfl | rfl
        · rw [nk.1] at h2; omega
        · rw [nk.2] at h2; omega
        · exact nk2 h2
      refine zstep_next (al := false) (q := q') hx hb hml hown2 hts hin hG hm (fun h => by cases h) (fun h => by cases h) hRf hRl (by rw [z1]; omega) (by rw [z2]; omega) hP hS hL hd hz' (fun H1 locs1 lc1 hP1 hS1 hL1 => ?_)
      rw [z1, z2, Nat.add_zero, Nat.add_zero]
      exact hW p e R s mid args below meth c H1 locs1 cells slots q'.1 lc1 q'.2.1 q'.2.2.1 q'.2.2.2 y x m1 k k1 Q hC hRf hRl (hmo.2.2.1 hm) hP1 hS1 hL1 hcq hsq hcell hr2 K
theorem wWk_all (hl : l.stackTraces = false) : ∀ n, wWk cf l b ro cA D n
  | 0 => by
    intro p e R s mid args below meth c H locs cells slots pc lc ls st m y x m1 k k1 Q hC hRf hRl hm hP hS hL hcq hsq hcell hr K
    cases hr
  | n + 1 => wWk_succ (wWk_all hl n) (wSd_of hl (wWk_all hl n))
end
