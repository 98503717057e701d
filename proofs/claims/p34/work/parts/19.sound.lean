/-! part 19: a run of the small machine is the method's contract -/
def zWk (l : Launch) (b : Nat) (ro : Nat → Nat) (cA : Nat → ClassId) (D : va_G) (n : Nat) : Prop :=
  ∀ (p : Program) (e : Env) (R : Room) (s : State) (mid : MethodId) (args : Array Value) (below : List Frame) (meth : Method) (c : Code) (H : Heap) (locs : List Loc) (cells slots pc : Nat) (lc : Array Slot) (ls st : List Value) (al : Bool) (m : zM) (y : Nat) (res : zRes) (m1 : zM),
    zCtx p l s mid args meth c y b ro cA D → zf y ≤ R.frames → zw y ≤ R.locals → zwf m → (al = true → zfr m) → (al = true → s.heap.size + cells = b + m.2.2.1.1) → va_P D vwCl (zW b ro cA m) H → va_S (zA b) s.heap H locs → zL b ro lc (zl y) ls →
    cells + (m1.2.2.1.1 - m.2.2.1.1) + zth res ≤ R.cells → slots + (m1.2.2.1.2 - m.2.2.1.2) + 6 * zth res ≤ R.slots → zrun al n y pc ls st m = some (res, m1) →
    W p l e R s mid args below meth c H locs cells slots (vx_MQ below (zQ b ro cA D al res m1) (zXC b ro cA D res m1) args s (cells + (m1.2.2.1.1 - m.2.2.1.1) + zth res) (slots + (m1.2.2.1.2 - m.2.2.1.2) + 6 * zth res) (zA b)) (F0 mid pc lc (st.map (zcv b ro)))
def zSd (l : Launch) (b : Nat) (ro : Nat → Nat) (cA : Nat → ClassId) (D : va_G) (n : Nat) : Prop :=
  ∀ (al : Bool) (y : Nat) (as : List Value) (m : zM) (res : zRes) (m1 : zM), y < 237 → zarg as = true → as.length ≤ zl y → zwf m → (al = true → zfr m) → zrun al n y 0 (zent y as) [] m = some (res, m1) →
    vx_Met l (zy y) (zws y) (zrm y (m1.2.2.1.1 - m.2.2.1.1 + zth res) (m1.2.2.1.2 - m.2.2.1.2 + 6 * zth res)) (zPc b ro cA D al m as) (zQ b ro cA D al res m1) (zXC b ro cA D res m1) (m1.2.2.1.1 - m.2.2.1.1 + zth res) (m1.2.2.1.2 - m.2.2.1.2 + 6 * zth res) (zA b)
section
variable {l : Launch} {b : Nat} {ro : Nat → Nat} {cA : Nat → ClassId} {D : va_G} {n : Nat}
theorem zSd_of (hl : l.stackTraces = false) (hW : zWk l b ro cA D n) : zSd l b ro cA D n := by
  intro al y as m res m1 hy ha hlen hm hfr hr
  obtain ⟨g0, g1, g2, g3, g4, g5, g6⟩ := zm_all hy
  refine z_ofW (cc := zb y) (maxL := zl y) (ret := zr y) g0 rfl ?_
  intro p e s mt args below meth c s₁ B hml ht hP
  obtain ⟨rfl, hG, hP, hsz⟩ := hP
  have hown : s.vm.findClass (zXn (zc y)) = some mt.cls := by
    have := findClass_of_methodNamed B.named
    rwa [g3] at this
  rw [lg_entry_eq]
  have hC : zCtx p l s mt (as.map (zcv b ro)).toArray meth c y b ro cA D := ⟨B.exec, B.bytes, hml, B.returns, B.notSynchronized, hown, atoms_spec (ws := zws y) B.pre, fun hk => by rw [(name_of_methodNamed B.named B.method).1]; exact (g6 hk).1, ht, hG, hl, hy⟩
  have k := hW p e (headSpec (zws y) (zrm y (m1.2.2.1.1 - m.2.2.1.1 + zth res) (m1.2.2.1.2 - m.2.2.1.2 + 6 * zth res))).room s mt (as.map (zcv b ro)).toArray below meth c s.heap [] 0 0 0 _ (zent y as) [] al m y res m1 hC (Nat.le_refl _) (Nat.le_refl _) hm hfr (fun h => hsz h) hP va_S.rf (z_entL ha hlen) (by rw [Nat.zero_add]; exact Nat.le_refl _) (by rw [Nat.zero_add]; exact Nat.le_refl _) hr
  rw [Nat.zero_add, Nat.zero_add] at k
  exact k
theorem z_szal {p : Program} {e : Env} {R : Room} {s : State} {mid : MethodId} {args : Array Value} {below : List Frame} {meth : Method} {c : Code} {H : Heap} {locs : List Loc} {cells slots : Nat} {Q : State → Prop} {m : zM} {al : Bool} {g : JFrame} (hP : va_P D vwCl (zW b ro cA m) H) (hS : va_S (zA b) s.heap H locs) (hb : b ≤ s.heap.size) (hz : al = true → s.heap.size + cells = b + m.2.2.1.1) (k : (al = true → H.size = b + m.2.2.1.1) → W p l e R s mid args below meth c H locs cells slots Q g) : W p l e R s mid args below meth c H locs cells slots Q g := by
  cases al with
  | false => exact k (fun h => by cases h)
  | true => exact z_sz hP hS hb (hz rfl) (fun h => k (fun _ => h))
set_option maxHeartbeats 4000000 in
theorem zWk_succ (hW : zWk l b ro cA D n) (hS0 : zSd l b ro cA D n) : zWk l b ro cA D (n + 1) := by
  intro p e R s mid args below meth c H locs cells slots pc lc ls st al m y res m1 hC hRf hRl hm hfr hz hP hS hL hcq hsq hr
  obtain ⟨hx, hb, hml, hrt, hlk, hown, hw, hin, het, hG, hst, hy⟩ := id hC
  have hts : ∀ w ∈ zGT, w.before args s = true := fun w h => hw w (List.mem_cons_of_mem _ h)
  unfold zrun at hr
  cases hat : zat al y pc ls st m with
  | none => rw [hat] at hr; cases hr
  | some q =>
    rw [hat] at hr
    obtain ⟨ins, len, hd, hstep⟩ := zat_of hat
    have hcls := zstep_cls q hstep
    rcases q with ⟨pc1, ls1, st1, m2⟩ | ⟨z, as, pc1, ls1, st1⟩ | r
    · have hmo := zat_mo _ hat
      have hr2 : zrun al n y pc1 ls1 st1 m2 = some (res, m1) := hr
      have hmo2 := zrun_mo _ _ _ _ _ _ _ _ hr2
      have a1 : m.2.2.1.1 ≤ m2.2.2.1.1 := hmo.1
      have a2 : m.2.2.1.2 ≤ m2.2.2.1.2 := hmo.2.1
      have a3 := hmo2.1
      have a4 := hmo2.2.1
      refine zstep_next hx hb hml hown hts hin hG hm hfr hz hRf hRl (q := (pc1, ls1, st1, m2)) ?_ ?_ hP hS hL hd hstep (fun H1 locs1 lc1 hP1 hS1 hL1 => ?_)
      · show cells + (m2.2.2.1.1 - m.2.2.1.1) ≤ R.cells
        omega
      · show slots + (m2.2.2.1.2 - m.2.2.1.2) ≤ R.slots
        omega
      · have e1 : cells + (m2.2.2.1.1 - m.2.2.1.1) + (m1.2.2.1.1 - m2.2.2.1.1) = cells + (m1.2.2.1.1 - m.2.2.1.1) := by omega
        have e2 : slots + (m2.2.2.1.2 - m.2.2.1.2) + (m1.2.2.1.2 - m2.2.2.1.2) = slots + (m1.2.2.1.2 - m.2.2.1.2) := by omega
        have k := hW p e R s mid args below meth c H1 locs1 (cells + (m2.2.2.1.1 - m.2.2.1.1)) (slots + (m2.2.2.1.2 - m.2.2.1.2)) pc1 lc1 ls1 st1 al m2 y res m1 hC hRf hRl (hmo.2.2.1 hm) (fun h => hmo.2.2.2 hm (hfr h)) (fun h => by have := hz h; omega) hP1 hS1 hL1 (by rw [e1]; exact hcq) (by rw [e2]; exact hsq) hr2
        rw [e1, e2] at k
        exact k
    · obtain ⟨rfl, rfl, hfit, harg, h4, hlz, hcase⟩ := hcls
      have hz237 := (zfit_of hfit).1
      have hr1 : (match zrun al n z 0 (zent z as) [] m with
        | none => none
        | some (.inl v, m1) => zrun al n y (pc + 3) ls1 (v.toList ++ st1) m1
        | some (.inr e, m1) => some (.inr e, m1)) = some (res, m1) := hr
      cases hcal : zrun al n z 0 (zent z as) [] m with
      | none => rw [hcal] at hr1; cases hr1
      | some q =>
        obtain ⟨r, m2⟩ := q
        rw [hcal] at hr1
        have hM := hS0 al z as m r m2 hz237 harg hlz hm hfr hcal
        have hmo := zrun_mo _ _ _ _ _ _ _ _ hcal
        have a1 := hmo.1
        have a2 := hmo.2.1
        refine z_szal hP hS hG.2.1 hz (fun hsz => ?_)
        have hrun : cells + (m2.2.2.1.1 - m.2.2.1.1 + zth r) ≤ R.cells → slots + (m2.2.2.1.2 - m.2.2.1.2 + 6 * zth r) ≤ R.slots → vx_Run p l e R s mid args below meth c H locs cells slots (m2.2.2.1.1 - m.2.2.1.1 + zth r) (m2.2.2.1.2 - m.2.2.1.2 + 6 * zth r) (F0 mid pc lc (st.map (zcv b ro))) (st1.map (zcv b ro)) (zQ b ro cA D al r m2 (as.map (zcv b ro)).toArray) (zXC b ro cA D r m2) (zA b) := by
          intro f1 f2
          rcases hcase with ⟨i, w, o, t, rfl, hp, hk, hto, h13, rfl, rfl, hlen⟩ | ⟨i, w, t, rfl, hp, hk, rfl, rfl, hlen⟩ | ⟨i, k, w, o, rfl, hp, hk2, hk, hza, rfl, rfl⟩
          · exact zcallV hx hb hml hown hts hG hRf hRl hm hP hS hsz hL.2.1 hM hfit hp hk hto h13 hlen h4 hd ⟨f1, f2⟩
          · exact zcallS hx hb hml hown hts hG hRf hRl hP hS hsz hL.2.1 hM hfit hp hk hlen h4 hd ⟨f1, f2⟩
          · exact zcallI hx hb hml hown hts hG hRf hRl hP hS hsz hL.2.1 hM hfit hp hk2 hk hza h4 hd ⟨f1, f2⟩
        clear hcase
        cases r with
        | inl v =>
          have hr2 : zrun al n y (pc + 3) ls1 (v.toList ++ st1) m2 = some (res, m1) := hr1
          have hmo2 := zrun_mo _ _ _ _ _ _ _ _ hr2
          have a3 := hmo2.1
          have a4 := hmo2.2.1
          have z0 : zth (.inl v : zRes) = 0 := rfl
          rw [z0] at hrun
          refine zcall_ret (hrun (by omega) (by omega)) hS (fun H1 locs1 hP1 hS1 _ => ?_)
          have e1 : cells + (m2.2.2.1.1 - m.2.2.1.1 + 0) + (m1.2.2.1.1 - m2.2.2.1.1) = cells + (m1.2.2.1.1 - m.2.2.1.1) := by omega
          have e2 : slots + (m2.2.2.1.2 - m.2.2.1.2 + 6 * 0) + (m1.2.2.1.2 - m2.2.2.1.2) = slots + (m1.2.2.1.2 - m.2.2.1.2) := by omega
          have k := hW p e R s mid args below meth c H1 locs1 (cells + (m2.2.2.1.1 - m.2.2.1.1 + 0)) (slots + (m2.2.2.1.2 - m.2.2.1.2 + 6 * 0)) (pc + 3) lc ls1 (v.toList ++ st1) al m2 y res m1 hC hRf hRl (hmo.2.2.1 hm) (fun h => hmo.2.2.2 hm (hfr h)) (fun h => by have := hz h; omega) hP1 hS1 hL (by rw [e1]; exact hcq) (by rw [e2]; exact hsq) hr2
          rw [e1, e2] at k
          have e3 : (v.toList ++ st1).map (zcv b ro) = (v.map (zcv b ro)).toList ++ st1.map (zcv b ro) := by cases v <;> rfl
          rw [e3] at k
          exact k
        | inr ex =>
          have hr2 : some ((.inr ex : zRes), m2) = some (res, m1) := hr1
          cases hr2
          have z1 : zth (.inr ex : zRes) = 1 := rfl
          rw [z1] at hrun hcq hsq ⊢
          exact zcall_thr (hrun (by omega) (by omega)) hS hlk het (by omega) (by omega) rfl rfl
    · have hr2 : some (r, m) = some (res, m1) := hr
      have h3 := Option.some.inj hr2
      have h4 : r = res := congrArg Prod.fst h3
      have h5 : m = m1 := congrArg Prod.snd h3
      clear h3 hr2 hr hstep hat
      subst h4
      subst h5
      rcases r with v | ex
      · refine z_szal hP hS hG.2.1 hz (fun hsz => ?_)
        have hd1 : decode (zb y) pc = .ok (ins, 1) := by
          rcases hcls with ⟨rfl, -⟩ | ⟨rfl, -⟩ | ⟨rfl, -⟩ | ⟨rfl, -⟩ | ⟨rfl, -⟩ <;> exact hd
        have k := z_ends (mid := mid) (lc := lc) (below := below) (e := e) (R := R) (cells := cells) (slots := slots) (l := l) (args := args) (locs := locs) hx hb hrt hlk hP hS hsz hd1 hcls
        have e1 : cells + (m.2.2.1.1 - m.2.2.1.1) + zth (.inl v : zRes) = cells := by rw [Nat.sub_self]; rfl
        have e2 : slots + (m.2.2.1.2 - m.2.2.1.2) + 6 * zth (.inl v : zRes) = slots := by rw [Nat.sub_self]; rfl
        rw [e1, e2]
        exact k
      · have e1 : cells + (m.2.2.1.1 - m.2.2.1.1) + zth (.inr ex : zRes) = cells + 1 := by rw [Nat.sub_self]; rfl
        have e2 : slots + (m.2.2.1.2 - m.2.2.1.2) + 6 * zth (.inr ex : zRes) = slots + 6 := by rw [Nat.sub_self]; rfl
        rw [e1] at hcq ⊢
        rw [e2] at hsq ⊢
        have hd1 : decode (zb y) pc = .ok (ins, zlen ins 3) := by
          obtain ⟨i, w, rfl, -⟩ := hcls
          exact hd
        exact z_throw hst hx hb hml hown hts hG het hRf hRl hlk hP hS hL.2.1 hcq hsq hd1 hcls
theorem zWk_all (hl : l.stackTraces = false) : ∀ n, zWk l b ro cA D n
  | 0 => by
    intro p e R s mid args below meth c H locs cells slots pc lc ls st al m y res m1 hC hRf hRl hm hfr hz hP hS hL hcq hsq hr
    cases hr
  | n + 1 => zWk_succ (zWk_all hl n) (zSd_of hl (zWk_all hl n))
/-- THE SMALL MACHINE IS SOUND -/
theorem zsound (hl : l.stackTraces = false) (n : Nat) : zSd l b ro cA D n := zSd_of hl (zWk_all hl n)
end
