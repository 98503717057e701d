/-! part 09: the world of the small memory in the machine's heap -/
def zad (b : Nat) (ro : Nat → Nat) (o : Nat) : Nat := if o < 1048576 then b + o else ro o
def zcv (b : Nat) (ro : Nat → Nat) : Value → Value
  | .ref o => .ref (zad b ro o)
  | v => v
def zE (b : Nat) (ro : Nat → Nat) (cA : Nat → ClassId) (m : zM) (o : Nat) : va_E :=
  if (m.1 o).1 < 13 then .inr ((m.1 o).1, (List.range (zCl (m.1 o).1).2.2).map (fun k => zcv b ro (zgetf m o (m.1 o).1 k)))
  else if (m.1 o).1 < 16 then .inl (cA (m.1 o).1, (m.1 o).2, .inl (m.2.2.2.1 o))
  else if (m.1 o).1 = 16 then .inl (cA (m.1 o).1, (m.1 o).2, .inr (.inl (m.2.2.2.2.1 o)))
  else if (m.1 o).1 = 17 then .inl (cA (m.1 o).1, (m.1 o).2, .inr (.inr (.inr (.inl (m.2.2.2.2.2 o)))))
  else .inl (cA (m.1 o).1, (m.1 o).2, .inr (.inr (.inr (.inr (fun k => (m.2.1 o k).map (zad b ro))))))
def zW (b : Nat) (ro : Nat → Nat) (cA : Nat → ClassId) (m : zM) : va_W := (List.range m.2.2.1.1).map (fun o => (b + o, zE b ro cA m o))
def zTys (cA : Nat → ClassId) : List (ClassId × FieldType) := [(cA 13, .int), (cA 14, .boolean), (cA 15, .char), (cA 16, .long), (cA 17, .byte), (cA 18, .object RX6), (cA 19, .object RX0)]
abbrev zA (b : Nat) : Nat → Prop := fun q => b ≤ q
def zwf (m : zM) : Prop := m.2.2.1.1 ≤ 1048576 ∧ (∀ o, o < m.2.2.1.1 → (m.1 o).1 < 20) ∧ ∀ o, m.2.2.1.1 ≤ o → m.1 o = if o = 1048576 then (21, 7) else if o = 1048577 then (22, 7) else (99, 0)
def zfr (m : zM) : Prop := ∀ o k, m.2.2.1.1 ≤ o → m.2.2.2.1 o k = 0 ∧ m.2.2.2.2.1 o k = 0 ∧ m.2.2.2.2.2 o k = 0 ∧ m.2.1 o k = none
theorem zwf.in_ {m : zM} (h : zwf m) {o t : Nat} (ht : (m.1 o).1 = t) (h20 : t < 20) : o < m.2.2.1.1 := by
  rcases Nat.lt_or_ge o m.2.2.1.1 with q | q
  · exact q
  · have h1 := h.2.2 o q
    rw [h1] at ht
    split at ht
    · simp at ht; omega
    · split at ht
      · simp at ht; omega
      · simp at ht; omega
theorem zwf.ad {m : zM} (h : zwf m) {o t : Nat} (b : Nat) (ro : Nat → Nat) (ht : (m.1 o).1 = t) (h20 : t < 20) : zad b ro o = b + o := by
  unfold zad
  rw [if_pos (Nat.lt_of_lt_of_le (h.in_ ht h20) h.1)]
theorem zwf.tab {m : zM} (h : zwf m) {o t : Nat} (ht : (m.1 o).1 = t) (h20 : 20 ≤ t) (h99 : t < 99) : (o = 1048576 ∧ m.1 o = (21, 7)) ∨ (o = 1048577 ∧ m.1 o = (22, 7)) := by
  have hq : m.2.2.1.1 ≤ o := by
    rcases Nat.lt_or_ge o m.2.2.1.1 with q | q
    · have := h.2.1 o q; omega
    · exact q
  have h1 := h.2.2 o hq
  by_cases a : o = 1048576
  · rw [if_pos a] at h1; exact Or.inl ⟨a, h1⟩
  · by_cases a2 : o = 1048577
    · rw [if_neg a, if_pos a2] at h1; exact Or.inr ⟨a2, h1⟩
    · rw [if_neg a, if_neg a2] at h1; rw [h1] at ht; simp at ht; omega
section
variable {b : Nat} {ro : Nat → Nat} {cA : Nat → ClassId} {m m1 : zM} {o : Nat}
theorem zW_at (h : o < m.2.2.1.1) : (zW b ro cA m)[o]? = some (b + o, zE b ro cA m o) := by
  simp [zW, h]
theorem zW_some {k : Nat} {q : Nat × va_E} (h : (zW b ro cA m)[k]? = some q) : k < m.2.2.1.1 ∧ q = (b + k, zE b ro cA m k) := by
  have hl := (List.getElem?_eq_some_iff.mp h).1
  have hk : k < m.2.2.1.1 := by simpa [zW] using hl
  rw [zW_at hk] at h
  exact ⟨hk, (Option.some.inj h).symm⟩
theorem zW_D (A : Nat → Prop) (hA : ∀ q, b ≤ q → A q) : va_D A (zW b ro cA m) := by
  refine ⟨fun i j p q hi hj hpq => ?_, fun k q hk => ?_⟩
  · obtain ⟨-, rfl⟩ := zW_some hi
    obtain ⟨-, rfl⟩ := zW_some hj
    simp at hpq
    exact hpq
  · obtain ⟨-, rfl⟩ := zW_some hk
    exact hA _ (Nat.le_add_right _ _)
theorem zW_set {e : va_E} (ho : o < m.2.2.1.1) (hn : m1.2.2.1.1 = m.2.2.1.1) (he : zE b ro cA m1 o = e) (hq : ∀ i, i ≠ o → zE b ro cA m1 i = zE b ro cA m i) : (zW b ro cA m).set o (b + o, e) = zW b ro cA m1 := by
  apply List.ext_getElem?
  intro i
  by_cases hi : i < m.2.2.1.1
  · rw [zW_at (by omega)]
    by_cases hio : i = o
    · subst hio
      rw [List.getElem?_set_self (by simp [zW]; exact hi), he]
    · rw [List.getElem?_set_ne (Ne.symm hio), zW_at hi, hq i hio]
  · rw [List.getElem?_eq_none (by simp [zW]; omega), List.getElem?_eq_none (by simp [zW]; omega)]
theorem zW_mk {t n w : Nat} {e : va_E} (he : zE b ro cA (zmk m t n w) m.2.2.1.1 = e) : zW b ro cA m ++ [(b + m.2.2.1.1, e)] = zW b ro cA (zmk m t n w) := by
  have h1 : (zmk m t n w).2.2.1.1 = m.2.2.1.1 + 1 := rfl
  unfold zW
  rw [h1, List.range_succ, List.map_append, List.map_singleton, he]
  congr 1
  apply List.map_congr_left
  intro i hi
  have hi' : i < m.2.2.1.1 := List.mem_range.mp hi
  have hne : i ≠ m.2.2.1.1 := by omega
  simp only [zE, zmk, zgetf, if_neg hne]
theorem zup_ne {α : Type} {f : Nat → Nat → α} {k i : Nat} {v : α} (h : i ≠ o) : zup f o k v i = f i := by
  funext j
  simp [zup, h]
theorem zup_eq {α : Type} {f : Nat → Nat → α} {k : Nat} {v : α} : zup f o k v o = fun j => if j = k then v else f o j := by
  funext j
  simp [zup]
theorem zE_I {k : Nat} {x : Int32} {i : Nat} (h : i ≠ o) : zE b ro cA (zsI m o k x) i = zE b ro cA m i := by
  simp only [zE, zsI, zgetf, zup_ne h]
theorem zE_J {k : Nat} {x : Int64} {i : Nat} (h : i ≠ o) : zE b ro cA (zsJ m o k x) i = zE b ro cA m i := by
  simp only [zE, zsJ, zgetf, zup_ne h]
theorem zE_D {k : Nat} {x : UInt64} {i : Nat} (h : i ≠ o) : zE b ro cA (zsD m o k x) i = zE b ro cA m i := by
  simp only [zE, zsD, zgetf, zup_ne h]
theorem zE_R {k : Nat} {x : Option Nat} {i : Nat} (h : i ≠ o) : zE b ro cA (zsR m o k x) i = zE b ro cA m i := by
  simp only [zE, zsR, zgetf, zup_ne h]
theorem zE_obj {c : Nat} (ht : (m.1 o).1 = c) (hc : c < 13) : zE b ro cA m o = .inr (c, (List.range (zCl c).2.2).map (fun k => zcv b ro (zgetf m o c k))) := by
  subst ht
  simp only [zE, if_pos hc]
theorem zE_arr {t : Nat} (ht : (m.1 o).1 = t) (h1 : 13 ≤ t) (h2 : t < 16) : zE b ro cA m o = .inl (cA t, (m.1 o).2, .inl (m.2.2.2.1 o)) := by
  subst ht
  simp only [zE, if_neg (Nat.not_lt.mpr h1), if_pos h2]
theorem zE_arrJ (ht : (m.1 o).1 = 16) : zE b ro cA m o = .inl (cA 16, (m.1 o).2, .inr (.inl (m.2.2.2.2.1 o))) := by
  simp [zE, ht]
theorem zE_arrD (ht : (m.1 o).1 = 17) : zE b ro cA m o = .inl (cA 17, (m.1 o).2, .inr (.inr (.inr (.inl (m.2.2.2.2.2 o))))) := by
  simp [zE, ht]
theorem zE_arrR {t : Nat} (ht : (m.1 o).1 = t) (h1 : 18 ≤ t) : zE b ro cA m o = .inl (cA t, (m.1 o).2, .inr (.inr (.inr (.inr (fun k => (m.2.1 o k).map (zad b ro)))))) := by
  subst ht
  simp only [zE, if_neg (show ¬ (m.1 o).1 < 13 by omega), if_neg (show ¬ (m.1 o).1 < 16 by omega), if_neg (show ¬ (m.1 o).1 = 16 by omega), if_neg (show ¬ (m.1 o).1 = 17 by omega)]
theorem zmap_set {N k : Nat} {f g : Nat → Value} {v : Value} (hk : k < N) (hv : g k = v) (hq : ∀ j, j ≠ k → g j = f j) : ((List.range N).map f).set k v = (List.range N).map g := by
  apply List.ext_getElem?
  intro i
  by_cases hi : i < N
  · by_cases hik : i = k
    · subst hik
      rw [List.getElem?_set_self (by simpa using hi)]
      simp [hi, hv]
    · rw [List.getElem?_set_ne (Ne.symm hik)]
      simp [hi, hq i hik]
  · rw [List.getElem?_eq_none (by simp; omega), List.getElem?_eq_none (by simp; omega)]
theorem zE_objI {c k : Nat} {x : Int32} (ht : (m.1 o).1 = c) (hc : c < 13) (hk : k < (zCl c).2.2) (hf : ¬ zfk c k = 2) : zE b ro cA (zsI m o k x) o = .inr (c, ((List.range (zCl c).2.2).map (fun k => zcv b ro (zgetf m o c k))).set k (.int x)) := by
  rw [zE_obj (m := zsI m o k x) ht hc, zmap_set hk (g := fun j => zcv b ro (zgetf (zsI m o k x) o c j))]
  · simp [zgetf, hf, zcv, zup]
  · intro j hj
    simp [zgetf, zup, hj]
theorem zE_objR {c k v : Nat} (ht : (m.1 o).1 = c) (hc : c < 13) (hk : k < (zCl c).2.2) (hf : zfk c k = 2) : zE b ro cA (zsR m o k (some v)) o = .inr (c, ((List.range (zCl c).2.2).map (fun k => zcv b ro (zgetf m o c k))).set k (.ref (zad b ro v))) := by
  rw [zE_obj (m := zsR m o k (some v)) ht hc, zmap_set hk (g := fun j => zcv b ro (zgetf (zsR m o k (some v)) o c j))]
  · simp [zgetf, hf, zcv, zup, va_rf]
  · intro j hj
    simp [zgetf, zup, hj]
end
/-! locals -/
def zL (b : Nat) (ro : Nat → Nat) (lc : Array Slot) (n : Nat) (ls : List Value) : Prop := ls.length = n ∧ lc.size = n ∧ lv_wf lc ∧ ∀ (i : Nat) (v : Value), ls[i]? = some v → v ≠ Value.null → lc[i]? = some (Slot.val (zcv b ro v))
def zal (b : Nat) (ro : Nat → Nat) (ls : List Value) : List (Nat × Value) := (List.range ls.length).filterMap (fun i => (ls[i]?).bind fun v => if v = .null then none else some (i, zcv b ro v))
section
variable {b : Nat} {ro : Nat → Nat} {lc : Array Slot} {n k : Nat} {ls l1 : List Value} {v : Value}
theorem zal_mem {i : Nat} {w : Value} (h : ls[i]? = some w) (hw : w ≠ .null) : (i, zcv b ro w) ∈ zal b ro ls := by
  refine List.mem_filterMap.mpr ⟨i, List.mem_range.mpr (List.getElem?_eq_some_iff.mp h).1, ?_⟩
  rw [h]
  simp [hw]
theorem zL.has (h : zL b ro lc n ls) : lv_has lc n (zal b ro ls) := by
  refine ⟨h.2.1, h.2.2.1, fun q hq => ?_⟩
  obtain ⟨i, -, hi⟩ := List.mem_filterMap.mp hq
  cases hl : ls[i]? with
  | none => rw [hl] at hi; simp at hi
  | some w =>
    rw [hl] at hi
    simp at hi
    obtain ⟨h1, rfl⟩ := hi
    exact h.2.2.2 i w hl h1
theorem zcv_cat (v : Value) : (zcv b ro v).category = v.category := by cases v <;> rfl
theorem zcl_succ (ls : List Value) (j : Nat) : zcl ls (j + 1) = match ls[j]? with
    | some (.long _) => ls.set j .null
    | some (.double _) => ls.set j .null
    | _ => ls := rfl
theorem zcl_get {i : Nat} {w : Value} (h : (zcl ls k)[i]? = some w) (hw : w ≠ .null) : ls[i]? = some w ∧ (i + 1 = k → w.category ≠ 2) := by
  cases k with
  | zero => exact ⟨h, fun q => by omega⟩
  | succ j =>
    rw [zcl_succ] at h
    split at h
    · by_cases hij : i = j
      · subst hij
        rw [List.getElem?_set] at h
        simp at h
        exact absurd h.2.symm hw
      · rw [List.getElem?_set_ne (Ne.symm hij)] at h
        exact ⟨h, fun q => by omega⟩
    · by_cases hij : i = j
      · subst hij
        rw [List.getElem?_set] at h
        simp at h
        exact absurd h.2.symm hw
      · rw [List.getElem?_set_ne (Ne.symm hij)] at h
        exact ⟨h, fun q => by omega⟩
    · rename_i h1 h2
      refine ⟨h, fun q => ?_⟩
      have : i = j := by omega
      subst this
      intro hc
      cases w with
      | long x => exact h1 x h
      | double x => exact h2 x h
      | _ => simp [Value.category] at hc
theorem zcl_len : (zcl ls k).length = ls.length := by
  cases k with
  | zero => rfl
  | succ j => rw [zcl_succ]; split <;> simp
theorem zL.st1 {lc' : Array Slot} (h : zL b ro lc n ls) (hs : zst1 ls k v = some l1) (h' : lv_has lc' n ((k, zcv b ro v) :: (zal b ro ls).filter (fun q => !(q.1 == k) && !(q.1 + 1 == k && q.2.category == 2)))) : zL b ro lc' n l1 := by
  unfold zst1 at hs
  split at hs
  · cases hs
    refine ⟨by rw [List.length_set, zcl_len]; exact h.1, h'.1, h'.2.1, fun i w hi hw => ?_⟩
    by_cases hik : i = k
    · subst hik
      rw [List.getElem?_set] at hi
      simp at hi
      obtain ⟨-, rfl⟩ := hi
      exact h'.2.2 (i, zcv b ro v) List.mem_cons_self
    · rw [List.getElem?_set_ne (Ne.symm hik)] at hi
      obtain ⟨h1, h2⟩ := zcl_get hi hw
      refine h'.2.2 (i, zcv b ro w) (List.mem_cons_of_mem _ (List.mem_filter.mpr ⟨zal_mem h1 hw, ?_⟩))
      simp [hik, zcv_cat]
      by_cases q : i + 1 = k
      · exact Or.inr (h2 q)
      · exact Or.inl q
  · cases hs
theorem zL.st2 {lc' : Array Slot} (h : zL b ro lc n ls) (hs : zst2 ls k v = some l1) (h' : lv_has lc' n ((k, zcv b ro v) :: (zal b ro ls).filter (fun q => !(q.1 == k) && (!(q.1 == k + 1) && !(q.1 + 1 == k && q.2.category == 2))))) : zL b ro lc' n l1 := by
  unfold zst2 at hs
  split at hs
  · cases hs
    refine ⟨by rw [List.length_set, List.length_set, zcl_len]; exact h.1, h'.1, h'.2.1, fun i w hi hw => ?_⟩
    by_cases hik1 : i = k + 1
    · subst hik1
      rw [List.getElem?_set] at hi
      simp at hi
      exact absurd hi.2.symm hw
    rw [List.getElem?_set_ne (Ne.symm hik1)] at hi
    by_cases hik : i = k
    · subst hik
      rw [List.getElem?_set] at hi
      simp at hi
      obtain ⟨-, rfl⟩ := hi
      exact h'.2.2 (i, zcv b ro v) List.mem_cons_self
    · rw [List.getElem?_set_ne (Ne.symm hik)] at hi
      obtain ⟨h1, h2⟩ := zcl_get hi hw
      refine h'.2.2 (i, zcv b ro w) (List.mem_cons_of_mem _ (List.mem_filter.mpr ⟨zal_mem h1 hw, ?_⟩))
      simp [hik, hik1, zcv_cat]
      by_cases q : i + 1 = k
      · exact Or.inr (h2 q)
      · exact Or.inl q
  · cases hs
theorem zst1_lt (hs : zst1 ls k v = some l1) : k < ls.length := by
  unfold zst1 at hs
  split at hs
  · assumption
  · cases hs
theorem zst2_lt (hs : zst2 ls k v = some l1) : k + 1 < ls.length := by
  unfold zst2 at hs
  split at hs
  · assumption
  · cases hs
theorem zld1_at {x : Int32} (h : zL b ro lc n ls) (hl : zld1 ls k = some x) : ls[k]? = some (.int x) ∧ lc[k]? = some (.val (.int x)) := by
  unfold zld1 at hl
  split at hl
  · rename_i x' e
    cases hl
    exact ⟨e, h.2.2.2 k _ e (by simp)⟩
  · cases hl
theorem zldr_at {x : Nat} (h : zL b ro lc n ls) (hl : zldr ls k = some x) : lc[k]? = some (.val (.ref (zad b ro x))) := by
  unfold zldr at hl
  split at hl
  · rename_i x' e
    cases hl
    exact h.2.2.2 k _ e (by simp)
  · cases hl
theorem zldl_at {x : Int64} (h : zL b ro lc n ls) (hl : zldl ls k = some x) : lc[k]? = some (.val (.long x)) := by
  unfold zldl at hl
  split at hl
  · rename_i x' e
    cases hl
    exact h.2.2.2 k _ e (by simp)
  · cases hl
theorem zldf_at {x : UInt32} (h : zL b ro lc n ls) (hl : zldf ls k = some x) : lc[k]? = some (.val (.float x)) := by
  unfold zldf at hl
  split at hl
  · rename_i x' e
    cases hl
    exact h.2.2.2 k _ e (by simp)
  · cases hl
end
