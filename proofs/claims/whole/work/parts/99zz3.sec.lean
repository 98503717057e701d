/-! part 99zz3: the stub of seconds -/
section
variable {b : Nat} {ro : Nat → Nat} {cA : Nat → ClassId} {m : zM} {o k : Nat}
theorem zE_stD {x : UInt64} (ht : (m.1 o).1 = 17) : zE b ro cA (zsD m o k x) o = .inl (cA 17, (m.1 o).2, .inr (.inr (.inr (.inl (vf_upd (m.2.2.2.2.2 o) k x))))) := by
  rw [zE_arrD (m := zsD m o k x) ht]
  show _ = Sum.inl (cA 17, (m.1 o).2, Sum.inr (Sum.inr (Sum.inr (Sum.inl (fun j => if j = k then x else m.2.2.2.2.2 o j)))))
  rw [← zup_eq]
end
theorem dL_seconds_0 : decode cL_seconds 0 = .ok (.aload 4, 2) := by decide +kernel
theorem dL_seconds_2 : decode cL_seconds 2 = .ok (.iconst 0, 1) := by decide +kernel
theorem dL_seconds_3 : decode cL_seconds 3 = .ok (.aload_n 0, 1) := by decide +kernel
theorem dL_seconds_4 : decode cL_seconds 4 = .ok (.iload_n 1, 1) := by decide +kernel
theorem dL_seconds_5 : decode cL_seconds 5 = .ok (.iload_n 2, 1) := by decide +kernel
theorem dL_seconds_6 : decode cL_seconds 6 = .ok (.iload_n 3, 1) := by decide +kernel
theorem dL_seconds_7 : decode cL_seconds 7 = .ok (.invokevirtual 43, 3) := by decide +kernel
theorem dL_seconds_10 : decode cL_seconds 10 = .ok (.f2d, 1) := by decide +kernel
theorem dL_seconds_11 : decode cL_seconds 11 = .ok (.dastore, 1) := by decide +kernel
theorem dL_seconds_12 : decode cL_seconds 12 = .ok (.goto 11, 3) := by decide +kernel
theorem dL_seconds_15 : decode cL_seconds 15 = .ok (.astore 5, 2) := by decide +kernel
theorem dL_seconds_17 : decode cL_seconds 17 = .ok (.iconst 1, 1) := by decide +kernel
theorem dL_seconds_18 : decode cL_seconds 18 = .ok (.ireturn, 1) := by decide +kernel
theorem dL_seconds_19 : decode cL_seconds 19 = .ok (.astore 5, 2) := by decide +kernel
theorem dL_seconds_21 : decode cL_seconds 21 = .ok (.iconst 2, 1) := by decide +kernel
theorem dL_seconds_22 : decode cL_seconds 22 = .ok (.ireturn, 1) := by decide +kernel
theorem dL_seconds_23 : decode cL_seconds 23 = .ok (.iconst 0, 1) := by decide +kernel
theorem dL_seconds_24 : decode cL_seconds 24 = .ok (.ireturn, 1) := by decide +kernel
theorem qL1022 : Cond.methodLink RL 43 (zy 108) ∈ zGT := zGT_of (l := [Cond.methodLink RL 43 (zy 108)]) (r := [1022]) (by decide +kernel) _ List.mem_cons_self
theorem qL1021 : Cond.codeWith yL_seconds cL_seconds 6 (some .int) [(0, 12, 15, 13), (0, 12, 19, 15)] ∈ zGT := zGT_of (l := [Cond.codeWith yL_seconds cL_seconds 6 (some .int) [(0, 12, 15, 13), (0, 12, 19, 15)]]) (r := [1021]) (by decide +kernel) _ List.mem_cons_self
/-- what the stub of seconds sees of its call -/
def stOf (lc : List Value) (V : zVt) (J : zJt) (d : Nat → Nat → UInt64) (k : Int) (V1 : zVt) (J1 : zJt) (d1 : Nat → Nat → UInt64) : Prop := (∃ x, zGo false 108 0 lc [] (zm V J d) = some (.inl (some (.float x)), zm V1 J1 d) ∧ vf_n64 (FP.f2d x) ∧ k = 0 ∧ d1 = zup d 475 0 (FP.f2d x)) ∨ ∃ i ex : Nat, ([0, 1] : List Nat)[i]? = some ex ∧ zGo false 108 0 lc [] (zm V J d) = zE1 ex V1 J1 d ∧ k = (i : Int) + 1 ∧ d = d1
theorem st_seconds {l : Launch} (hl : l.stackTraces = false) {b : Nat} {ro : Nat → Nat} {cA : Nat → ClassId} {D : va_G} {V V1 : zVt} {J J1 : zJt} {d d1 : Nat → Nat → UInt64} {k a0 a1 a2 : Int} (h : stOf (zent 108 [.ref 0, .int (zi a0), .int (zi a1), .int (zi a2)]) V J d k V1 J1 d1) : stM l b ro cA D yL_seconds (Cond.codeWith yL_seconds cL_seconds 6 (some .int) [(0, 12, 15, 13), (0, 12, 19, 15)]) (zm V J d) (zm V1 J1 d1) [.ref 0, .int (zi a0), .int (zi a1), .int (zi a2), .ref 475] (zi k) := by
  refine st_of (by decide) rfl [.ref (b + 0), .int (zi a0), .int (zi a1), .int (zi a2), .ref (b + 475)] rfl (Nat.le_of_ble_eq_true rfl) ?_
  intro p e s mid below meth c ls hx hb hml hown hts hG hN hr hlocks hT hP hl0
  have hS : va_S (zA b) s.heap s.heap [] := va_S.rf
  refine lv_aload hx hb dL_seconds_0 (lv_at hl0 4 rfl) ?_
  refine lv_iconst (v := 0) hx hb dL_seconds_2 (by decide) ?_
  refine lv_aload_n hx hb dL_seconds_3 rfl (lv_at hl0 0 rfl) ?_
  refine lv_iload_n hx hb dL_seconds_4 rfl (lv_at hl0 1 rfl) ?_
  refine lv_iload_n hx hb dL_seconds_5 rfl (lv_at hl0 2 rfl) ?_
  refine lv_iload_n hx hb dL_seconds_6 rfl (lv_at hl0 3 rfl) ?_
  rcases h with ⟨x, h, hn, rfl, rfl⟩ | ⟨i, ex, hi, h, rfl, rfl⟩
  · refine zcall_ret (st_run (m := zm V J d) (t := [.int (zi a2), .int (zi a1), .int (zi a0)]) (o := 0) (rest := [.int 0, .ref (b + 475)]) (z := 108) hx hb hml hown hts hG zm_wf hP hS hl0.1 (st_met0 (y := 108) hl (by decide) rfl (Nat.le_of_ble_eq_true rfl) h) (by decide) ⟨Nat.le_of_ble_eq_true rfl, Nat.le_of_ble_eq_true rfl⟩ qL1022 rfl rfl (by decide) rfl (Nat.le_of_ble_eq_true rfl) dL_seconds_7 ⟨Nat.le_of_ble_eq_true rfl, Nat.le_of_ble_eq_true rfl⟩) hS (fun H1 locs1 hP1 hS1 _ => ?_)
    refine lv_f2d hx hb dL_seconds_10 hn ?_
    have hDD : va_D (zA b) (zW b ro cA (zm V1 J1 d)) := zW_D (zA b) (fun _ q => q)
    have h475 : ((zm V1 J1 d).1 475) = (17, 1) := by
      show zS0 475 = _
      decide +kernel
    have ht1 : ((zm V1 J1 d).1 475).1 = 17 := by rw [h475]
    have hlt : 475 < (zm V1 J1 d).2.2.1.1 := (by decide : 475 < 476)
    refine va_dast hx hb hG.1 hP1 hDD hS1 475 4 (by rw [zW_at hlt, zE_arrD ht1]) rfl (z_in ?_) dL_seconds_11 (fun H2 locs2 hP2 _ hS2 => ?_)
    · rw [h475]
      exact ⟨by decide, by decide⟩
    · rw [zW_set (m1 := zsD (zm V1 J1 d) 475 (0 : Int32).toNatClampNeg (FP.f2d x)) hlt rfl (zE_stD ht1) (fun i hi => zE_D hi)] at hP2
      have hP3 : va_P D vwCl (zW b ro cA (zm V1 J1 (zup d 475 0 (FP.f2d x)))) H2 := hP2
      refine lv_goto (tgt := 23) hx hb dL_seconds_12 (by decide) ?_
      exact st_end hx hb hr hlocks dL_seconds_23 dL_seconds_24 rfl hP3 hS2 (Nat.le_of_ble_eq_true rfl) (Nat.le_of_ble_eq_true rfl)
  · match i, hi with
    | 0, hi =>
      cases hi
      refine st_catch (k := 0) (hh := [(0, 12, 15, 13), (0, 12, 19, 15)]) (st_run (m := zm V J d) (t := [.int (zi a2), .int (zi a1), .int (zi a0)]) (o := 0) (rest := [.int 0, .ref (b + 475)]) (z := 108) hx hb hml hown hts hG zm_wf hP hS hl0.1 (st_met1 (y := 108) hl (by decide) rfl (Nat.le_of_ble_eq_true rfl) h) (by decide) ⟨Nat.le_of_ble_eq_true rfl, Nat.le_of_ble_eq_true rfl⟩ qL1022 rfl rfl (by decide) rfl (Nat.le_of_ble_eq_true rfl) dL_seconds_7 ⟨Nat.le_of_ble_eq_true rfl, Nat.le_of_ble_eq_true rfl⟩) hS hown hts hG hN hT (by decide) rfl rfl (by decide) (fun H1 locs1 q hP1 hS1 => ?_)
      refine lv_astore hx hb dL_seconds_15 hl0 (by decide) rfl (fun ls1 _ => ?_)
      exact st_end hx hb hr hlocks dL_seconds_17 dL_seconds_18 rfl hP1 hS1 (Nat.le_of_ble_eq_true rfl) (Nat.le_of_ble_eq_true rfl)
    | 1, hi =>
      cases hi
      refine st_catch (k := 1) (hh := [(0, 12, 15, 13), (0, 12, 19, 15)]) (st_run (m := zm V J d) (t := [.int (zi a2), .int (zi a1), .int (zi a0)]) (o := 0) (rest := [.int 0, .ref (b + 475)]) (z := 108) hx hb hml hown hts hG zm_wf hP hS hl0.1 (st_met1 (y := 108) hl (by decide) rfl (Nat.le_of_ble_eq_true rfl) h) (by decide) ⟨Nat.le_of_ble_eq_true rfl, Nat.le_of_ble_eq_true rfl⟩ qL1022 rfl rfl (by decide) rfl (Nat.le_of_ble_eq_true rfl) dL_seconds_7 ⟨Nat.le_of_ble_eq_true rfl, Nat.le_of_ble_eq_true rfl⟩) hS hown hts hG hN hT (by decide) rfl rfl (by decide) (fun H1 locs1 q hP1 hS1 => ?_)
      refine lv_astore hx hb dL_seconds_19 hl0 (by decide) rfl (fun ls1 _ => ?_)
      exact st_end hx hb hr hlocks dL_seconds_21 dL_seconds_22 rfl hP1 hS1 (Nat.le_of_ble_eq_true rfl) (Nat.le_of_ble_eq_true rfl)
    | i + 2, hi => simp at hi
