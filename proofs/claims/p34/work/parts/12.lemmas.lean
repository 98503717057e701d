/-! part 12: small lemmas for the steps of the walk -/
theorem z_ok {c : Prop} [Decidable c] {x : Option zC} {q : zC} (h : zok c x = some q) : c ∧ x = some q := by
  unfold zok at h
  split at h
  · exact ⟨by assumption, h⟩
  · cases h
theorem z_bind {α : Type} {x : Option α} {f : α → Option zC} {q : zC} (h : x.bind f = some q) : ∃ a, x = some a ∧ f a = some q := Option.bind_eq_some_iff.mp h
theorem z_j {pc t : Nat} {off : Int} (h : zj pc off = some t) : (pc : Int) + off = (t : Int) := by
  unfold zj at h
  split at h
  · cases h
    omega
  · cases h
theorem z_br {c : Prop} [Decidable c] {pc : Nat} {off : Int} {ls st : List Value} {m : zM} {q : Nat × List Value × List Value × zM} (h : zbr c pc off ls st m = some (.inl q)) : ∃ t : Nat, (pc : Int) + off = (t : Int) ∧ (c → q = (t, ls, st, m)) ∧ (¬ c → q = (pc + 3, ls, st, m)) := by
  unfold zbr at h
  obtain ⟨t, e, h⟩ := z_bind h
  refine ⟨t, z_j e, fun hc => ?_, fun hc => ?_⟩
  · rw [if_pos hc] at h
    cases h
    rfl
  · rw [if_neg hc] at h
    cases h
    rfl
theorem z_in {i : Int32} {n : Nat} (h : zix i n) : vp_in i n := fun q => q.elim h.1 (fun q => Nat.lt_irrefl _ (Nat.lt_of_lt_of_le h.2 q))
theorem z_callno {y z pc : Nat} {as ls rest : List Value} {q : Nat × List Value × List Value × zM} (h : zcall y z pc as ls rest = some (.inl q)) : False := by
  unfold zcall at h
  split at h <;> simp at h
theorem zfk_0 : (List.range 13).all (fun c => (List.range (zCl c).2.2).all fun k => decide (zfk c k = 0 → zty c k = .int)) = true := by decide +kernel
theorem zfk_d : (List.range 13).all (fun c => (List.range (zCl c).2.2).all fun k => decide (((zCl c).2.1 k).1 = zXn c)) = true := by decide +kernel
theorem zfk_int {c k : Nat} (hc : c < 13) (hk : k < (zCl c).2.2) (h : zfk c k = 0) : zty c k = .int := of_decide_eq_true (List.all_eq_true.mp (List.all_eq_true.mp zfk_0 c (List.mem_range.mpr hc)) k (List.mem_range.mpr hk)) h
theorem zfk_own {c k : Nat} (hc : c < 13) (hk : k < (zCl c).2.2) : ((zCl c).2.1 k).1 = zXn c := of_decide_eq_true (List.all_eq_true.mp (List.all_eq_true.mp zfk_d c (List.mem_range.mpr hc)) k (List.mem_range.mpr hk))
theorem zfk_1 {c k : Nat} (h : zfk c k = 1) : zty c k = .boolean := by
  unfold zfk at h
  split at h
  · cases h
  · cases h
  · assumption
  · cases h
theorem zfk_2 {c k : Nat} (h : zfk c k = 2) : (∃ n, zty c k = .object n) ∨ ∃ t, zty c k = .array t := by
  unfold zfk at h
  split at h
  · exact Or.inl ⟨_, by assumption⟩
  · exact Or.inr ⟨_, by assumption⟩
  · cases h
  · cases h
theorem zfk_3 (c k : Nat) : zfk c k = 0 ∨ zfk c k = 1 ∨ zfk c k = 2 := by
  unfold zfk
  split <;> simp
theorem z_narI {c k : Nat} {x : Int32} (hc : c < 13) (hk : k < (zCl c).2.2) (h : zfk c k = 0 ∨ zfk c k = 1 ∧ (x = 0 ∨ x = 1)) : narrow (zty c k) (.int x) = .int x ∧ fits (zty c k) (.int x) = true := by
  rcases h with h | ⟨h, h2⟩
  · rw [zfk_int hc hk h]
    exact ⟨rfl, rfl⟩
  · rw [zfk_1 h]
    rcases h2 with rfl | rfl
    · exact ⟨rfl, rfl⟩
    · exact ⟨rfl, rfl⟩
theorem z_narR {c k v : Nat} (h : zfk c k = 2) : narrow (zty c k) (.ref v) = .ref v ∧ fits (zty c k) (.ref v) = true := by
  rcases zfk_2 h with ⟨n, e⟩ | ⟨n, e⟩
  · rw [e]
    exact ⟨rfl, rfl⟩
  · rw [e]
    exact ⟨rfl, rfl⟩
theorem z_narz {x : Int32} (h : x = 0 ∨ x = 1) : vp_nar .boolean x = x := by
  rcases h with rfl | rfl
  · rfl
  · rfl
theorem z_narc {x : Int32} (h : 0 ≤ x ∧ x ≤ 65535) : vp_nar .char x = x := by
  obtain ⟨j, hj, e, -, -, -⟩ := pk_mu (x := x) (L := 65536) (fun q => absurd (Int32.le_iff_toInt_le.mp h.1) (by have := Int32.lt_iff_toInt_lt.mp q; omega)) (fun q => by
    have h1 := Int32.le_iff_toInt_le.mp h.2
    have h2 := Int32.le_iff_toInt_le.mp q
    have e1 : (65535 : Int32).toInt = 65535 := by decide
    have e2 : (nI 65536).toInt = 65536 := by decide
    omega) (by decide)
  subst e
  unfold vp_nar
  rw [(pk_charN hj).1]
theorem zad_tab0 (b : Nat) (ro : Nat → Nat) : zad b ro 1048576 = ro 1048576 := if_neg (Nat.lt_irrefl _)
theorem zad_tab1 (b : Nat) (ro : Nat → Nat) : zad b ro 1048577 = ro 1048577 := if_neg (by decide)
theorem zcv_rf (b : Nat) (ro : Nat → Nat) (r : Option Nat) : zcv b ro (va_rf r) = va_rf (r.map (zad b ro)) := by cases r <;> rfl
theorem z_cat : ∀ st : List Value, (st.map fun v => v.category).sum ≤ 2 * st.length
  | [] => Nat.le_refl _
  | v :: st => by
    have := z_cat st
    have h2 : v.category ≤ 2 := by cases v <;> first | exact Nat.le_refl 2 | exact Nat.le_succ 1
    simp only [List.map_cons, List.sum_cons, List.length_cons]
    omega
theorem z_catm (b : Nat) (ro : Nat → Nat) (st : List Value) (h : st.length ≤ 4) : ((st.map (zcv b ro)).map fun v => v.category).sum ≤ 8 := by
  have := z_cat (st.map (zcv b ro))
  rw [List.length_map] at this
  omega
theorem z_cats (b : Nat) (ro : Nat → Nat) (st : List Value) (h : zcs st ≤ 8) : ((st.map (zcv b ro)).map fun v => v.category).sum ≤ 8 := by
  have e : ((st.map (zcv b ro)).map fun v => v.category) = st.map fun v => v.category := by
    rw [List.map_map]
    apply List.map_congr_left
    intro v _
    exact zcv_cat v
  rw [e]
  exact h
section
variable {b : Nat} {ro : Nat → Nat} {cA : Nat → ClassId} {m : zM} {o k t : Nat}
theorem zE_inl (ht : (m.1 o).1 = t) (h1 : 13 ≤ t) : ∃ x : (Nat → Int32) ⊕ (Nat → Int64) ⊕ (Nat → UInt32) ⊕ (Nat → UInt64) ⊕ (Nat → Option Nat), zE b ro cA m o = .inl (cA t, (m.1 o).2, x) := by
  subst ht
  unfold zE
  rw [if_neg (Nat.not_lt.mpr h1)]
  split
  · exact ⟨_, rfl⟩
  · split
    · exact ⟨_, rfl⟩
    · split
      · exact ⟨_, rfl⟩
      · exact ⟨_, rfl⟩
theorem zTys_at (h1 : 13 ≤ t) (h2 : t < 20) : ∃ ty, (zTys cA)[t - 13]? = some (cA t, ty) := by
  rcases (show t = 13 ∨ t = 14 ∨ t = 15 ∨ t = 16 ∨ t = 17 ∨ t = 18 ∨ t = 19 by omega) with rfl | rfl | rfl | rfl | rfl | rfl | rfl
  all_goals exact ⟨_, rfl⟩
theorem zE_stI {x : Int32} (ht : (m.1 o).1 = t) (h1 : 13 ≤ t) (h2 : t < 16) : zE b ro cA (zsI m o k x) o = .inl (cA t, (m.1 o).2, .inl (upd (m.2.2.2.1 o) k x)) := by
  rw [zE_arr (m := zsI m o k x) ht h1 h2]
  show _ = Sum.inl (cA t, (m.1 o).2, Sum.inl (fun j => if j = k then x else m.2.2.2.1 o j))
  rw [← zup_eq]
theorem zE_stJ {x : Int64} (ht : (m.1 o).1 = 16) : zE b ro cA (zsJ m o k x) o = .inl (cA 16, (m.1 o).2, .inr (.inl (vp_updL (m.2.2.2.2.1 o) k x))) := by
  rw [zE_arrJ (m := zsJ m o k x) ht]
  show _ = Sum.inl (cA 16, (m.1 o).2, Sum.inr (Sum.inl (fun j => if j = k then x else m.2.2.2.2.1 o j)))
  rw [← zup_eq]
theorem zE_stR {v a : Nat} (ht : (m.1 o).1 = t) (h1 : 18 ≤ t) (hv : zad b ro v = a) : zE b ro cA (zsR m o k (some v)) o = .inl (cA t, (m.1 o).2, .inr (.inr (.inr (.inr (va_up (fun j => (m.2.1 o j).map (zad b ro)) k (some a)))))) := by
  rw [zE_arrR (m := zsR m o k (some v)) ht h1]
  show Sum.inl (cA t, (m.1 o).2, Sum.inr (Sum.inr (Sum.inr (Sum.inr (fun j => (zup m.2.1 o k (some v) o j).map (zad b ro)))))) = _
  have e : (fun j => (zup m.2.1 o k (some v) o j).map (zad b ro)) = va_up (fun j => (m.2.1 o j).map (zad b ro)) k (some a) := by
    funext j
    by_cases hj : j = k
    · simp [zup, va_up, hj, hv]
    · simp [zup, va_up, hj]
  rw [e]
end
section
variable {p : Program} {l : Launch} {e : Env} {R : Room} {s : State} {mid : MethodId} {args : Array Value} {below : List Frame} {meth : Method} {c : Code} {H : Heap} {locs : List Loc} {cells slots pc : Nat} {Q : State → Prop}
variable {b : Nat} {ro : Nat → Nat} {cA : Nat → ClassId} {D : va_G} {al : Bool} {m : zM} {lc : Array Slot} {y : Nat}
theorem z_ldcwf (hexec : p.tables.exec = Jvm.exec) {cc : ByteArray} (hb : c.code = cc) {own : String} {index : Nat} {v : UInt32} {rest : List Value} (hown : s.vm.findClass own = some mid.cls) (hconst : (Cond.constantFloat own index v).before args s = true) (hdg : decode cc pc = .ok (.ldc_w index, 3)) (k : W p l e R s mid args below meth c H locs cells slots Q (F0 mid (pc + 3) lc (.float v :: rest))) : W p l e R s mid args below meth c H locs cells slots Q (F0 mid pc lc rest) := by
  intro T hT X
  obtain ⟨t, a, b⟩ := k T hT X
  refine ⟨t, ?_, b⟩
  obtain ⟨kc, cf, hk, hcf, hcp⟩ := Cond.constantFloat_spec hown hconst
  obtain ⟨k', hk', he⟩ := X.warmed.alike.2.2 _ _ hk
  have hdg' : decode c.code (F0 mid pc lc rest).pc = .ok (.ldc_w index, 3) := by rw [hb]; exact hdg
  jvm_step X.here [hexec, hdg', ldc_w.wp_float (s := T) (f := F0 mid pc lc rest) X.here.top hk' (by rw [he]; exact hcf) hcp]
  exact a
def zK (p : Program) (l : Launch) (e : Env) (R : Room) (s : State) (mid : MethodId) (args : Array Value) (below : List Frame) (meth : Method) (c : Code) (cells slots : Nat) (Q : State → Prop) (b : Nat) (ro : Nat → Nat) (cA : Nat → ClassId) (D : va_G) (y : Nat) (m : zM) (q : Nat × List Value × List Value × zM) : Prop :=
  ∀ (H1 : Heap) (locs1 : List Loc) (lc1 : Array Slot), va_P D vwCl (zW b ro cA q.2.2.2) H1 → va_S (zA b) s.heap H1 locs1 → zL b ro lc1 (zl y) q.2.1 → W p l e R s mid args below meth c H1 locs1 (cells + (q.2.2.2.2.2.1.1 - m.2.2.1.1)) (slots + (q.2.2.2.2.2.1.2 - m.2.2.1.2)) Q (F0 mid q.1 lc1 (q.2.2.1.map (zcv b ro)))
theorem zK.sm {pc1 : Nat} {ls1 st1 : List Value} {m1 : zM} (K : zK p l e R s mid args below meth c cells slots Q b ro cA D y m (pc1, ls1, st1, m1)) (he : m1.2.2.1 = m.2.2.1) {H1 : Heap} {locs1 : List Loc} {lc1 : Array Slot} (hP : va_P D vwCl (zW b ro cA m1) H1) (hS : va_S (zA b) s.heap H1 locs1) (hL : zL b ro lc1 (zl y) ls1) : W p l e R s mid args below meth c H1 locs1 cells slots Q (F0 mid pc1 lc1 (st1.map (zcv b ro))) := by
  have h := K H1 locs1 lc1 hP hS hL
  simp only [he, Nat.sub_self, Nat.add_zero] at h
  exact h
theorem z_size {T : State} (hT : T.heap = H) (X : Stand p l e R s mid args below meth c T locs cells slots) (hP : va_P D vwCl (zW b ro cA m) H) (hS : va_S (zA b) s.heap H locs) (hb : b ≤ s.heap.size) (hz : s.heap.size + cells = b + m.2.2.1.1) : H.size = b + m.2.2.1.1 := by
  have h1 := X.heapSize
  rw [hT] at h1
  have h2 := hS.1
  have h3 : b + m.2.2.1.1 ≤ H.size := by
    rcases Nat.eq_zero_or_pos m.2.2.1.1 with q | q
    · omega
    · have h := (hP _ _ (zW_at (b := b) (ro := ro) (cA := cA) (show m.2.2.1.1 - 1 < m.2.2.1.1 by omega))).lt
      have h' : b + (m.2.2.1.1 - 1) < H.size := h
      omega
  omega
end
