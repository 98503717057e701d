/-! part 08: the words again, as facts for every method, pool entry and class -/
abbrev zGT : List Cond := lw_tbl.filter goodWord
theorem zGT_of {l : List Cond} {r : List Nat} (h : zplaced l r = true) : ∀ w ∈ l, w ∈ zGT := fun w hw => List.mem_filter.mpr (zplaced_mem l r h w hw)
theorem zGT_good {w : Cond} (h : w ∈ zGT) : w ∈ zGT ∧ ((w.onTables && w.keeps) = true ∨ ∃ ty, w = .arrayClass ty) := ⟨h, good_of_word (List.mem_filter.mp h).2⟩
theorem zchunk {f : Nat → Cond} {a n k : Nat} {r : List Nat} (h : zplaced ((List.range n).map fun j => f (a + j)) r = true) (h1 : a ≤ k) (h2 : k < a + n) : f k ∈ zGT := by
  refine zGT_of h _ (List.mem_map.mpr ⟨k - a, List.mem_range.mpr (by omega), ?_⟩)
  rw [show a + (k - a) = k by omega]
theorem zchunkc {a n k : Nat} {r : List Nat} (h : ((List.range n).map fun j => zWc (a + j)) = r.filterMap (fun i => lw_tbl[i]?)) (h1 : a ≤ k) (h2 : k < a + n) : zWc k ∈ zGT := by
  have hm : zWc k ∈ ((List.range n).map fun j => zWc (a + j)) := List.mem_map.mpr ⟨k - a, List.mem_range.mpr (by omega), by rw [show a + (k - a) = k by omega]⟩
  rw [h] at hm
  obtain ⟨i, -, hi⟩ := List.mem_filterMap.mp hm
  exact List.mem_filter.mpr ⟨List.mem_of_getElem? hi, rfl⟩
theorem zc_in {k : Nat} (h : k < 237) : zWc k ∈ zGT := by
  by_cases h0 : k < 20
  · exact zchunkc (a := 0) (n := 20) zF_c_0 (by omega) (by omega)
  by_cases h20 : k < 40
  · exact zchunkc (a := 20) (n := 20) zF_c_1 (by omega) (by omega)
  by_cases h40 : k < 60
  · exact zchunkc (a := 40) (n := 20) zF_c_2 (by omega) (by omega)
  by_cases h60 : k < 80
  · exact zchunkc (a := 60) (n := 20) zF_c_3 (by omega) (by omega)
  by_cases h80 : k < 100
  · exact zchunkc (a := 80) (n := 20) zF_c_4 (by omega) (by omega)
  by_cases h100 : k < 120
  · exact zchunkc (a := 100) (n := 20) zF_c_5 (by omega) (by omega)
  by_cases h120 : k < 140
  · exact zchunkc (a := 120) (n := 20) zF_c_6 (by omega) (by omega)
  by_cases h140 : k < 160
  · exact zchunkc (a := 140) (n := 20) zF_c_7 (by omega) (by omega)
  by_cases h160 : k < 180
  · exact zchunkc (a := 160) (n := 20) zF_c_8 (by omega) (by omega)
  by_cases h180 : k < 200
  · exact zchunkc (a := 180) (n := 20) zF_c_9 (by omega) (by omega)
  by_cases h200 : k < 220
  · exact zchunkc (a := 200) (n := 20) zF_c_10 (by omega) (by omega)
  exact zchunkc (a := 220) (n := 17) zF_c_11 (by omega) (by omega)
theorem zs_in {k : Nat} (h : k < 237) : zWs k ∈ zGT := by
  by_cases h0 : k < 40
  · exact zchunk (a := 0) (n := 40) (f := zWs) zF_s_0 (by omega) (by omega)
  by_cases h40 : k < 80
  · exact zchunk (a := 40) (n := 40) (f := zWs) zF_s_1 (by omega) (by omega)
  by_cases h80 : k < 120
  · exact zchunk (a := 80) (n := 40) (f := zWs) zF_s_2 (by omega) (by omega)
  by_cases h120 : k < 160
  · exact zchunk (a := 120) (n := 40) (f := zWs) zF_s_3 (by omega) (by omega)
  by_cases h160 : k < 200
  · exact zchunk (a := 160) (n := 40) (f := zWs) zF_s_4 (by omega) (by omega)
  exact zchunk (a := 200) (n := 37) (f := zWs) zF_s_5 (by omega) (by omega)
theorem zn_in {k : Nat} (h : k < 237) : zWn k ∈ zGT := by
  by_cases h0 : k < 40
  · exact zchunk (a := 0) (n := 40) (f := zWn) zF_n_0 (by omega) (by omega)
  by_cases h40 : k < 80
  · exact zchunk (a := 40) (n := 40) (f := zWn) zF_n_1 (by omega) (by omega)
  by_cases h80 : k < 120
  · exact zchunk (a := 80) (n := 40) (f := zWn) zF_n_2 (by omega) (by omega)
  by_cases h120 : k < 160
  · exact zchunk (a := 120) (n := 40) (f := zWn) zF_n_3 (by omega) (by omega)
  by_cases h160 : k < 200
  · exact zchunk (a := 160) (n := 40) (f := zWn) zF_n_4 (by omega) (by omega)
  exact zchunk (a := 200) (n := 37) (f := zWn) zF_n_5 (by omega) (by omega)
theorem zi_in {k : Nat} (h : k < 17) : Cond.initialized (zXn k) ∈ zGT := zchunk (a := 0) (n := 17) (f := fun c => Cond.initialized (zXn c)) zF_i_0 (by omega) (by omega)
theorem zlookup_mem {l : List (Nat × Nat × Nat × Nat)} {i : Nat} {e : Nat × Nat × Nat} (h : l.lookup i = some e) : (i, e) ∈ l := by
  induction l with
  | nil => simp at h
  | cons a l ih =>
    obtain ⟨j, e1⟩ := a
    rw [List.lookup_cons] at h
    by_cases q : i = j
    · subst q
      simp at h
      subst h
      exact List.mem_cons_self
    · have q' : (i == j) = false := by simpa using q
      rw [q'] at h
      exact List.mem_cons_of_mem _ (ih h)
theorem zpool_mem {c i : Nat} {e : Nat × Nat × Nat} (h : zpool c i = e) (ha : e.1 ≠ 0) : (i, e) ∈ zP.getD c [] ∧ c < 17 := by
  unfold zpool at h
  cases hl : (zP.getD c []).lookup i with
  | none => rw [hl] at h; subst h; simp at ha
  | some e1 =>
    rw [hl] at h
    simp at h
    subst h
    have hm := zlookup_mem hl
    refine ⟨hm, ?_⟩
    by_cases q : c < 17
    · exact q
    · have : zP.getD c [] = [] := by
        rw [List.getD_eq_getElem?_getD, List.getElem?_eq_none (by simp [zP]; omega)]; rfl
      rw [this] at hm
      cases hm
theorem zp_in {c i : Nat} {e : Nat × Nat × Nat} (h : zpool c i = e) (ha : e.1 ≠ 0) (hb : e.1 < 11) : zwordOf c (i, e) ∈ zGT := by
  obtain ⟨hm, hc⟩ := zpool_mem h ha
  have key : ∀ {l : List (Nat × Nat × Nat × Nat)} {r : List Nat}, (i, e) ∈ l → zplaced ((l.filter fun q => Nat.blt q.2.1 11).map (zwordOf c)) r = true → zwordOf c (i, e) ∈ zGT := fun hl hp => zGT_of hp _ (List.mem_map.mpr ⟨_, List.mem_filter.mpr ⟨hl, by simp [Nat.blt]; omega⟩, rfl⟩)
  rcases (show c = 0 ∨ c = 1 ∨ c = 2 ∨ c = 3 ∨ c = 4 ∨ c = 5 ∨ c = 6 ∨ c = 7 ∨ c = 8 ∨ c = 9 ∨ c = 10 ∨ c = 11 ∨ c = 12 ∨ c = 13 ∨ c = 14 ∨ c = 15 ∨ c = 16 by omega) with rfl | rfl | rfl | rfl | rfl | rfl | rfl | rfl | rfl | rfl | rfl | rfl | rfl | rfl | rfl | rfl | rfl
  · exact key (l := zP0) hm zF_p0
  · exact key (l := zP1) hm zF_p1
  · exact key (l := zP2) hm zF_p2
  · exact key (l := zP3) hm zF_p3
  · exact key (l := zP4) hm zF_p4
  · exact key (l := zP5) hm zF_p5
  · exact key (l := zP6) hm zF_p6
  · exact key (l := zP7) hm zF_p7
  · exact key (l := zP8) hm zF_p8
  · exact key (l := zP9) hm zF_p9
  · exact key (l := zP10) hm zF_p10
  · exact key (l := zP11) hm zF_p11
  · simp [zP, zP12] at hm
  · simp [zP, zP13] at hm
  · exact key (l := zP14) hm zF_p14
  · simp [zP, zP15] at hm
  · exact key (l := zP16) hm zF_p16
theorem zu_in {c : Nat} (h : c < 13) : ∀ w ∈ u_ws (zCl c).1 (zCl c).2.1 (zCl c).2.2, w ∈ zGT := by
  rcases (show c = 0 ∨ c = 1 ∨ c = 2 ∨ c = 3 ∨ c = 4 ∨ c = 5 ∨ c = 6 ∨ c = 7 ∨ c = 8 ∨ c = 9 ∨ c = 10 ∨ c = 11 ∨ c = 12 by omega) with rfl | rfl | rfl | rfl | rfl | rfl | rfl | rfl | rfl | rfl | rfl | rfl | rfl
  · exact zGT_of zF_u0
  · exact zGT_of zF_u1
  · exact zGT_of zF_u2
  · exact zGT_of zF_u3
  · exact zGT_of zF_u4
  · exact zGT_of zF_u5
  · exact zGT_of zF_u6
  · exact zGT_of zF_u7
  · exact zGT_of zF_u8
  · exact zGT_of zF_u9
  · exact zGT_of zF_u10
  · exact zGT_of zF_u11
  · exact zGT_of zF_u12
theorem zt_in {k : Nat} (h : k < 13) : Cond.instantiable (zCl k).1 (zCl k).2.2 ∈ zGT := zGT_of zF_t _ (List.mem_map.mpr ⟨k, List.mem_range.mpr h, rfl⟩)
theorem zcl_at {c : Nat} (h : c < 13) : vwCl[c]? = some ((zCl c).1, (zCl c).2.1, (zCl c).2.2) := by
  rcases (show c = 0 ∨ c = 1 ∨ c = 2 ∨ c = 3 ∨ c = 4 ∨ c = 5 ∨ c = 6 ∨ c = 7 ∨ c = 8 ∨ c = 9 ∨ c = 10 ∨ c = 11 ∨ c = 12 by omega) with rfl | rfl | rfl | rfl | rfl | rfl | rfl | rfl | rfl | rfl | rfl | rfl | rfl <;> rfl
theorem zcl_nm {c : Nat} (h : c < 13) : ∀ a, a < (zCl c).2.2 → ∀ b, b < (zCl c).2.2 → a ≠ b → ((zCl c).2.1 a).2.1 ≠ ((zCl c).2.1 b).2.1 := by
  rcases (show c = 0 ∨ c = 1 ∨ c = 2 ∨ c = 3 ∨ c = 4 ∨ c = 5 ∨ c = 6 ∨ c = 7 ∨ c = 8 ∨ c = 9 ∨ c = 10 ∨ c = 11 ∨ c = 12 by omega) with rfl | rfl | rfl | rfl | rfl | rfl | rfl | rfl | rfl | rfl | rfl | rfl | rfl
  · exact nmX0
  · exact nmX1
  · exact nmX2
  · exact nmX3
  · exact nmX4
  · exact nmX5
  · exact nmX6
  · exact nmX7
  · exact nmX8
  · exact nmX9
  · exact nmX10
  · exact nmX11
  · exact nmX11
theorem zcl_ty {c : Nat} (h : c < 13) : ∀ k, k < (zCl c).2.2 → parseFieldDescriptor ((zCl c).2.1 k).2.2.1 = some (zty c k) := by
  rcases (show c = 0 ∨ c = 1 ∨ c = 2 ∨ c = 3 ∨ c = 4 ∨ c = 5 ∨ c = 6 ∨ c = 7 ∨ c = 8 ∨ c = 9 ∨ c = 10 ∨ c = 11 ∨ c = 12 by omega) with rfl | rfl | rfl | rfl | rfl | rfl | rfl | rfl | rfl | rfl | rfl | rfl | rfl
  · exact tyX0_ok
  · exact tyX1_ok
  · exact tyX2_ok
  · exact tyX3_ok
  · exact tyX4_ok
  · exact tyX5_ok
  · exact tyX6_ok
  · exact tyX7_ok
  · exact tyX8_ok
  · exact tyX9_ok
  · exact tyX10_ok
  · exact tyX11_ok
  · exact tyX11_ok
def zmok (k : Nat) : Bool := plainFor (zy k) && (decide ((zy k).cls ≠ "java/lang/invoke/MethodHandle" ∧ (zy k).cls ≠ "java/lang/invoke/VarHandle") && (decide ((parseMethodDescriptor (zy k).desc).map (fun d => d.parameters.length) = some (za k)) && (decide ((zy k).cls = zXn (zc k)) && (Nat.blt (zc k) 17 && (match zk k with
  | 0 => !(Nat.blt (zc k) 13) || decide ((zy k).cls = (zCl (zc k)).1)
  | 1 => true
  | _ => decide ((zy k).name = "<init>") && (zr k).isNone)))))
theorem zF_m : (List.range 237).all zmok = true := by decide +kernel
theorem zm_ok {k : Nat} (h : k < 237) : zmok k = true := List.all_eq_true.mp zF_m k (List.mem_range.mpr h)
theorem zw_a : ∀ w ∈ [Cond.arrayClass .int, .arrayClass .boolean, .arrayClass .char, .arrayClass .long, .arrayClass .byte], w ∈ zGT := zGT_of zF_a
theorem zw_o : ∀ w ∈ [Cond.instanceMethod objectInit, .code objectInit ⟨#[0xb1]⟩ 1 none], w ∈ zGT := zGT_of zF_o
theorem zw_e : ∀ w ∈ zEx.map Cond.initialized, w ∈ zGT := zGT_of zF_e
