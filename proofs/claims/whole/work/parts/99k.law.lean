/-! part 99k: a case of the law -/
/-- what holds all along the law's body -/
def lwC (p : Program) (l : Launch) (s : State) (mid : MethodId) (meth : Method) (c : Code) (b L : Nat) (xs : Nat → Int32) (b0 : Nat) (ro : Nat → Nat) (cA : Nat → ClassId) (D : va_G) : Prop :=
  p.tables.exec = Jvm.exec ∧ c.code = code ∧ c.maxLocals = 8 ∧ s.vm.findClass RL = some mid.cls ∧ (∀ w ∈ zGT, w.before #[Value.ref b] s = true) ∧ zG b0 ro cA D s ∧ zNs s ∧ va_X b L xs s s.heap ∧ b < s.heap.size ∧ ¬ zA b0 b ∧ l.stackTraces = false ∧ L ≤ 2560
def lwD (pc : Nat) (ins : Instr) (len : Nat) : Bool := decide (decode code pc = .ok (ins, len))
theorem lwD_of {pc len : Nat} {ins : Instr} (h : lwD pc ins len = true) : decode code pc = .ok (ins, len) := of_decide_eq_true h
def lwArgsB : Nat → Nat → Nat → Bool
  | _, _, 0 => true
  | pc, j, n + 1 => (lwD pc (.aload_n 0) 1 && (lwD (pc + 1) (.iload 5) 2 && (lwD (pc + 3) (.iconst (j : Int)) 1 && (lwD (pc + 4) .iadd 1 && lwD (pc + 5) .iaload 1)))) && lwArgsB (pc + 6) (j + 1) n
abbrev lwV (xs : Nat → Int32) (a : Nat) : Int := (xs a).toInt
def lwVals (xs : Nat → Int32) : Nat → Nat → List Value
  | _, 0 => []
  | a, n + 1 => .int (zi (lwV xs a)) :: lwVals xs (a + 1) n
abbrev lwL (b b0 k : Nat) : List (Nat × Value) := [(0, .ref b), (1, .ref (b0 + 0)), (2, .ref (b0 + 430)), (3, .ref (b0 + 474)), (4, .ref (b0 + 475)), (5, .int (zi ((5 * k : Nat) : Int)))]
section
variable {p : Program} {l : Launch} {e : Env} {s : State} {mid : MethodId} {below : List Frame} {meth : Method} {c : Code} {H : Heap} {locs : List Loc} {cells slots pc : Nat} {Q : State → Prop}
variable {b L b0 k : Nat} {xs : Nat → Int32} {ro : Nat → Nat} {cA : Nat → ClassId} {D : va_G} {ls : Array Slot}
theorem lw_args (C : lwC p l s mid meth c b L xs b0 ro cA D) (hS : va_S (zA b0) s.heap H locs) (h0 : ls[0]? = some (.val (.ref b))) (h5 : ls[5]? = some (.val (.int (zi ((5 * k : Nat) : Int))))) :
    ∀ (n pc j : Nat) (rest : List Value), lwArgsB pc j n = true → 5 * k + j + n ≤ L → W p l e room_1 s mid #[Value.ref b] below meth c H locs cells slots Q (F0 mid (pc + 6 * n) ls ((lwVals xs (5 * k + j) n).reverse ++ rest)) → W p l e room_1 s mid #[Value.ref b] below meth c H locs cells slots Q (F0 mid pc ls rest) := by
  intro n
  induction n with
  | zero =>
    intro pc j rest _ _ K
    have e1 : pc + 6 * 0 = pc := by omega
    have e2 : (lwVals xs (5 * k + j) 0).reverse ++ rest = rest := rfl
    rw [e1, e2] at K
    exact K
  | succ n ih =>
    intro pc j rest hB hL K
    unfold lwArgsB at hB
    simp only [Bool.and_eq_true] at hB
    obtain ⟨⟨d1, d2, d3, d4, d5⟩, hB⟩ := hB
    have C2 := C
    obtain ⟨hx, hb, hml, hown, hts, hG, hN, hX, hbl, hbA, hst, hL2⟩ := C2
    refine lv_aload_n hx hb (lwD_of d1) rfl h0 ?_
    refine lv_iload hx hb (lwD_of d2) h5 ?_
    refine lv_iconst hx hb (lwD_of d3) rfl ?_
    refine lv_iadd hx hb (lwD_of d4) ?_
    have e : zi ((5 * k : Nat) : Int) + Int32.ofInt (j : Int) = zi ((5 * k + j : Nat) : Int) := by
      rw [show Int32.ofInt (j : Int) = zi (j : Int) from rfl, zi_add]
      congr 1
    rw [e]
    have hq : qw ((5 * k + j : Nat) : Int) = ((5 * k + j : Nat) : Int) := qw_id (by omega) (by omega)
    have hn : (zi ((5 * k + j : Nat) : Int)).toNatClampNeg = 5 * k + j := by
      have := qw_nat (e := ((5 * k + j : Nat) : Int)) (by omega)
      omega
    refine va_sld hx hb hX hbl hbA hS (z_in ((zix_qw _ _).mpr ⟨by omega, by omega⟩)) (lwD_of d5) ?_
    rw [hn]
    have ev : xs (5 * k + j) = zi (lwV xs (5 * k + j)) := (Int32.ofInt_toInt _).symm
    have r := ih (pc + 6) (j + 1) (.int (xs (5 * k + j)) :: rest) hB (by omega) (by
      have e1 : pc + 6 + 6 * n = pc + 6 * (n + 1) := by omega
      have e2 : (lwVals xs (5 * k + (j + 1)) n).reverse ++ (.int (xs (5 * k + j)) :: rest) = (lwVals xs (5 * k + j) (n + 1)).reverse ++ rest := by
        rw [show lwVals xs (5 * k + j) (n + 1) = .int (zi (lwV xs (5 * k + j))) :: lwVals xs (5 * k + j + 1) n from rfl, ← ev]
        simp [Nat.add_assoc]
      rw [e1, e2]
      exact K)
    exact r
/-- the law calls a stub -/
theorem lw_call {y : MethodName} {cc : ByteArray} {nL i na : Nat} {hh : List (Nat × Nat × Nat × Nat)} {m m2 : zM} {as : List Value} {kv : Int32} (C : lwC p l s mid meth c b L xs b0 ro cA D) (hP : va_P D vwCl (zW b0 ro cA m) H) (hS : va_S (zA b0) s.heap H locs) (hLs : ls.size = 8)
    (hM : stM l b0 ro cA D y (Cond.codeWith y cc nL (some .int) hh) m m2 as kv) (hcw : Cond.codeWith y cc nL (some .int) hh ∈ zGT) (hlink : Cond.methodLink RL i y ∈ zGT) (hstat : Cond.static y ∈ zGT) (hini : Cond.initialized RL ∈ zGT) (hyc : y.cls = RL) (hn : (parseMethodDescriptor y.desc).map (fun d => d.parameters.length) = some na) (hna : as.length = na) (hnL : nL ≤ 7) (hd : decode code pc = .ok (.invokestatic i, 3)) (hf : cells + 1 ≤ 601024 ∧ slots + 6 ≤ 7293034)
    (K : ∀ (H1 : Heap) (locs1 : List Loc), va_P D vwCl (zW b0 ro cA m2) H1 → va_S (zA b0) s.heap H1 locs1 → W p l e room_1 s mid #[Value.ref b] below meth c H1 locs1 (cells + 1) (slots + 6) Q (F0 mid (pc + 3) ls [.int kv])) :
    W p l e room_1 s mid #[Value.ref b] below meth c H locs cells slots Q (F0 mid pc ls (as.map (zcv b0 ro)).reverse) := by
  obtain ⟨hx, hb, hml, hown, hts, hG, hN, hX, hbl, hbA, hst, hL2⟩ := C
  have hin : ∀ w ∈ (Cond.codeWith y cc nL (some .int) hh :: zGT), w ∈ zGT ∧ ((w.onTables && w.keeps) = true ∨ ∃ ty, w = .arrayClass ty) := fun w hw => (List.mem_cons.mp hw).elim (fun e => by rw [e]; exact zGT_good hcw) zGT_good
  have cw : vx_CSW room_1 s #[Value.ref b] RL i y cc nL (some .int) hh (Cond.codeWith y cc nL (some .int) hh :: zGT) rmS 1 6 na := by
    refine ⟨⟨rfl, rfl, Nat.le_of_ble_eq_true rfl, ?_, pay_in hts hin, List.mem_cons_self⟩, hts _ hcw, by rw [hyc]; exact hts _ hini, by rw [hyc]; exact ⟨by decide, by decide⟩, fun sig h => ?_, hts _ hlink, hts _ hstat⟩
    · show 8 + (nL + 11) + 454 ≤ 480
      omega
    · rw [h] at hn
      exact (Option.some.inj hn).symm
  have hpre : ∀ U : State, U.heap = H → s.WarmedH U.vm → zPs b0 ro cA D m as (as.map (zcv b0 ro)).toArray U := fun U hU hW => ⟨z_pre (al := false) hG hP hS (fun q => by cases q) U hU hW, hN.to hW.alike⟩
  refine zcall_ret (al := false) (rest := []) (vx_runSX (As := as.map (zcv b0 ro)) (rest := []) (Ts := zGT) (own := RL) ⟨hx, hb, hml, hown, hts⟩ hM cw ⟨zPs_blind, hpre⟩ rfl (by rw [List.length_map]; exact hna) hLs (by simp [F0]) (lv_room (Nat.le_of_ble_eq_true rfl)) hd hf) hS (fun H1 locs1 hP1 hS1 _ => ?_)
  exact K H1 locs1 hP1 hS1
end
