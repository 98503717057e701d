/-! part 99o.c1: cases of the law: error; printed by program (wip/whole/gen/gen_case.py) -/
section
variable {p : Program} {l : Launch} {e : Env} {s : State} {mid : MethodId} {below : List Frame} {meth : Method} {c : Code} {H : Heap} {locs : List Loc} {cells slots : Nat} {Q : State → Prop}
variable {b L b0 k : Nat} {xs : Nat → Int32} {ro : Nat → Nat} {cA : Nat → ClassId} {D : va_G} {ls : Array Slot} {V : zVt} {J : zJt} {d : Nat → Nat → UInt64}
theorem qL733 : Cond.methodLink RL 124 yL_error ∈ zGT := zGT_of (l := [Cond.methodLink RL 124 yL_error]) (r := [733]) (by decide +kernel) _ List.mem_cons_self
theorem qL734 : Cond.static yL_error ∈ zGT := zGT_of (l := [Cond.static yL_error]) (r := [734]) (by decide +kernel) _ List.mem_cons_self
theorem qL1535 : Cond.methodLink RL 127 (zy 152) ∈ zGT := zGT_of (l := [Cond.methodLink RL 127 (zy 152)]) (r := [1535]) (by decide +kernel) _ List.mem_cons_self
theorem lc_error (C : lwC p l s mid meth c b L xs b0 ro cA D) (hL : 5 * k + 5 ≤ L) (hk : k < 512) (hI : zInv (k : Int) V J) (hP : va_P D vwCl (zW b0 ro cA (zm V J d)) H) (hS : va_S (zA b0) s.heap H locs) (hl : lv_has ls 8 (lwL b b0 k)) (hf : cells + 1 ≤ 601024 ∧ slots + 6 ≤ 7293034) (K : lwK p l e s mid b below meth c Q b0 k ro cA D d cells slots) : W p l e room_1 s mid #[Value.ref b] below meth c H locs cells slots Q (F0 mid 346 ls []) :=
  lw_caseI (P := 346) (n := 2) (iS := 124) (iM := 127) (CC := 99) (RR := 152) (nL := 5) (off := 1867) (yS := yL_error) (cc := cL_error) (hh := [(0, 10, 13, 13)]) C (by decide +kernel) (by decide) (by omega) rfl (x99 hI (by omega) (lw_rg (5 * k + 1)) (lw_rg (5 * k + 1 + 1))) (by decide) (fun kk V1 J1 h => st_error C.2.2.2.2.2.2.2.2.2.2.1 h) qL735 qL733 qL734 rfl rfl (by decide) (by decide) ⟨Nat.le_of_ble_eq_true rfl, Nat.le_of_ble_eq_true rfl⟩ qL1535 rfl rfl rfl rfl (Nat.le_of_ble_eq_true rfl) hP hS hl hf K
end
