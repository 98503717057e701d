/-! part 99m4: the memory behind the constructors is the start of the run -/
theorem dI_of {x : Int32} : ∀ (l : List (Nat × Nat × Int32)) (o k : Nat), (∀ q ∈ l, q.1 = o → q.2.1 = k → q.2.2 = x) → ((∃ q ∈ l, q.1 = o ∧ q.2.1 = k) ∨ x = 0) → dI l o k = x
  | [], o, k, _, h2 => by
    rcases h2 with ⟨q, hq, -⟩ | h2
    · cases hq
    · exact h2.symm
  | q :: l, o, k, h1, h2 => by
    unfold dI
    by_cases h : o = q.1 ∧ k = q.2.1
    · rw [if_pos h]
      exact h1 q List.mem_cons_self h.1.symm h.2.symm
    · rw [if_neg h]
      refine dI_of l o k (fun q' hq' => h1 q' (List.mem_cons_of_mem _ hq')) ?_
      rcases h2 with ⟨q', hq', e1, e2⟩ | h2
      · rcases List.mem_cons.mp hq' with e | e
        · subst e
          exact absurd ⟨e1.symm, e2.symm⟩ h
        · exact Or.inl ⟨q', e, e1, e2⟩
      · exact Or.inr h2
theorem dW48_all : dW48.all (fun q => decide (zI0 q.1 q.2.1 = q.2.2)) = true := by decide +kernel
theorem dI_W (o k : Nat) : dI dW48 o k = zI0 o k := by
  refine dI_of _ _ _ (fun q hq e1 e2 => ?_) ?_
  · have := of_decide_eq_true (List.all_eq_true.mp dW48_all q hq)
    rw [e1, e2] at this
    exact this.symm
  · unfold zI0
    by_cases a : o = 43 ∧ k < 4
    · refine Or.inl ⟨(43, k, 4), List.mem_append_right _ (List.mem_map.mpr ⟨k, ?_, rfl⟩), a.1.symm, rfl⟩
      have a2 := a.2
      simp only [List.mem_cons, List.not_mem_nil, or_false]
      omega
    · rw [if_neg a]
      by_cases c : 230 ≤ o ∧ o < 430 ∧ (o - 230) % 5 = 0 ∧ k = 1
      · obtain ⟨c1, c2, c3, c4⟩ := c
        refine Or.inl ⟨(230 + 5 * ((o - 230) / 5), 1, -1), List.mem_append_left _ (List.mem_map.mpr ⟨(o - 230) / 5, List.mem_reverse.mpr (List.mem_range.mpr (by omega)), rfl⟩), ?_, c4.symm⟩
        show 230 + 5 * ((o - 230) / 5) = o
        omega
      · rw [if_neg c]
        exact Or.inr rfl
theorem dRo_eq (o k : Nat) : ∀ R : List (Nat × Nat × Nat), dR (dRo R o) o k = dR R o k
  | [] => rfl
  | q :: R => by
    have ih := dRo_eq o k R
    unfold dRo at ih ⊢
    by_cases h : Nat.beq q.1 o = true
    · rw [List.filter_cons_of_pos (p := fun q : Nat × Nat × Nat => Nat.beq q.1 o) h]
      unfold dR
      rw [ih]
    · rw [List.filter_cons_of_neg (p := fun q : Nat × Nat × Nat => Nat.beq q.1 o) h, ih]
      have hne : q.1 ≠ o := fun e => h (by rw [e]; exact Nat.beq_refl o)
      show dR R o k = (if o = q.1 ∧ k = q.2.1 then some q.2.2 else dR R o k)
      rw [if_neg (fun g => hne g.1.symm)]
theorem dR_no (o k : Nat) : ∀ l : List (Nat × Nat × Nat), (∀ q ∈ l, q.2.1 ≠ k) → dR l o k = none
  | [], _ => rfl
  | q :: l, h => by
    unfold dR
    rw [if_neg (fun g => h q List.mem_cons_self g.2.symm)]
    exact dR_no o k l (fun q' hq' => h q' (List.mem_cons_of_mem _ hq'))
theorem zS0_lt20 : (List.range 432).all (fun o => Nat.blt (zS0 o).1 20) = true := by decide +kernel
/-- the same cells -/
theorem zW_start {d : zDt} (h1 : d.1 = 430) (h2 : d.2.2.2.2 = dW48) (hS : (List.range 430).all (fun o => match d.2.2.1.getD (429 - o) (99, 0) with
  | (c, n) => Nat.beq (zS0 o).1 c && Nat.beq (zS0 o).2 n) = true) (hR : (List.range 430).all (fun o => match dRo d.2.2.2.1 o with
    | l => if (zS0 o).1 < 13 then (List.range (zCl (zS0 o).1).2.2).all (fun k => decide (dR l o k = zR0 o k)) else if (zS0 o).1 < 18 then l.isEmpty else (List.range 61).all (fun k => decide (dR l o k = zR0 o k)) && l.all (fun q => Nat.blt q.2.1 61)) = true) (b : Nat) (ro : Nat → Nat) (cA : Nat → ClassId) :
    zW b ro cA (zdM (ddN (ddN d 13 40 40) 13 40 40)) = zW b ro cA (zm V0 J0 (fun _ _ => 0)) := by
  have hn : (zdM (ddN (ddN d 13 40 40) 13 40 40)).2.2.1.1 = 432 := by
    show d.1 + 1 + 1 = 432
    rw [h1]
  unfold zW
  rw [hn]
  show (List.range 432).map _ = (List.range 432).map _
  apply List.map_congr_left
  intro o ho
  have ho : o < 432 := List.mem_range.mp ho
  have shape : (zdM (ddN (ddN d 13 40 40) 13 40 40)).1 o = zS0 o := by
    show dS (d.1 + 1 + 1) ((13, 40) :: (13, 40) :: d.2.2.1) o = zS0 o
    unfold dS
    rw [h1, if_pos ho]
    rcases (show o = 431 ∨ o = 430 ∨ o < 430 by omega) with rfl | rfl | h
    · exact (by decide +kernel : (13, 40) = zS0 431)
    · exact (by decide +kernel : (13, 40) = zS0 430)
    · have := List.all_eq_true.mp hS o (List.mem_range.mpr h)
      rw [show 430 + 1 + 1 - 1 - o = (429 - o) + 1 + 1 by omega]
      show d.2.2.1.getD (429 - o) (99, 0) = zS0 o
      generalize d.2.2.1.getD (429 - o) (99, 0) = q at this ⊢
      obtain ⟨c, n⟩ := q
      simp only [Bool.and_eq_true] at this
      exact Prod.ext (Nat.eq_of_beq_eq_true this.1).symm (Nat.eq_of_beq_eq_true this.2).symm
  have ints : (zdM (ddN (ddN d 13 40 40) 13 40 40)).2.2.2.1 o = (zm V0 J0 (fun _ _ => 0)).2.2.2.1 o := by
    funext k
    show dI d.2.2.2.2 o k = if o < 432 then zi (V0 o (k : Int)) else 0
    rw [h2, dI_W, if_pos ho, V0_zi ho]
  have longs : (zdM (ddN (ddN d 13 40 40) 13 40 40)).2.2.2.2.1 o = (zm V0 J0 (fun _ _ => 0)).2.2.2.2.1 o := by
    funext k
    show (0 : Int64) = if o < 432 then J0 o (k : Int) else 0
    rw [if_pos ho]
    rfl
  have refs : ∀ k, ((zS0 o).1 < 13 → k < (zCl (zS0 o).1).2.2) → ((zS0 o).1 < 13 ∨ 18 ≤ (zS0 o).1) → dR d.2.2.2.1 o k = zR0 o k := by
    intro k hk hc
    have h430 : o < 430 := by
      rcases (show o = 431 ∨ o = 430 ∨ o < 430 by omega) with rfl | rfl | h
      · have e : (zS0 431).1 = 13 := by decide +kernel
        rw [e] at hc; omega
      · have e : (zS0 430).1 = 13 := by decide +kernel
        rw [e] at hc; omega
      · exact h
    have q := List.all_eq_true.mp hR o (List.mem_range.mpr h430)
    rw [← dRo_eq]
    generalize dRo d.2.2.2.1 o = l at q ⊢
    by_cases c13 : (zS0 o).1 < 13
    · simp only [if_pos c13] at q
      exact of_decide_eq_true (List.all_eq_true.mp q k (List.mem_range.mpr (hk c13)))
    · simp only [if_neg c13, if_neg (show ¬ (zS0 o).1 < 18 by omega), Bool.and_eq_true] at q
      by_cases k61 : k < 61
      · exact of_decide_eq_true (List.all_eq_true.mp q.1 k (List.mem_range.mpr k61))
      · rw [dR_no o k l (fun q' hq' e => by
          have := Nat.le_of_ble_eq_true (List.all_eq_true.mp q.2 q' hq')
          omega)]
        unfold zR0
        split
        · rw [if_neg (by omega)]
        · split
          · rw [if_neg (by omega)]
          · rename_i a1 a2
            exfalso
            have a3 : (zS0 o).1 < 20 := Nat.le_of_ble_eq_true (List.all_eq_true.mp zS0_lt20 o (List.mem_range.mpr ho))
            omega
  congr 1
  have sh2 : (zm V0 J0 (fun _ _ => 0)).1 o = zS0 o := rfl
  unfold zE
  rw [shape, sh2, ints]
  by_cases c13 : (zS0 o).1 < 13
  · rw [if_pos c13, if_pos c13]
    congr 2
    apply List.map_congr_left
    intro k hk
    congr 1
    unfold zgetf
    rw [ints]
    by_cases f2 : zfk (zS0 o).1 k = 2
    · rw [if_pos f2, if_pos f2]
      have := refs k (fun _ => List.mem_range.mp hk) (Or.inl c13)
      show va_rf (dR d.2.2.2.1 o k) = va_rf (zR0 o k)
      rw [this]
    · rw [if_neg f2, if_neg f2]
  · rw [if_neg c13, if_neg c13]
    by_cases c16 : (zS0 o).1 < 16
    · rw [if_pos c16, if_pos c16]
    · rw [if_neg c16, if_neg c16]
      by_cases e16 : (zS0 o).1 = 16
      · rw [if_pos e16, if_pos e16, longs]
      · rw [if_neg e16, if_neg e16]
        by_cases e17 : (zS0 o).1 = 17
        · rw [if_pos e17, if_pos e17]
          rfl
        · rw [if_neg e17, if_neg e17]
          have e : (fun k => ((zdM (ddN (ddN d 13 40 40) 13 40 40)).2.1 o k).map (zad b ro)) = fun k => ((zm V0 J0 (fun _ _ => 0)).2.1 o k).map (zad b ro) := by
            funext k
            show (dR d.2.2.2.1 o k).map (zad b ro) = (zR0 o k).map (zad b ro)
            rw [refs k (fun q => absurd q c13) (Or.inr (by omega))]
          rw [e]
