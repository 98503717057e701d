/-! part 10: a step makes no object go away, and keeps the memory in order -/
def zMo (m m1 : zM) : Prop := m.2.2.1.1 ≤ m1.2.2.1.1 ∧ m.2.2.1.2 ≤ m1.2.2.1.2 ∧ (zwf m → zwf m1) ∧ (zwf m → zfr m → zfr m1)
theorem zMo.rf (m : zM) : zMo m m := ⟨Nat.le_refl _, Nat.le_refl _, id, fun _ h => h⟩
theorem zMo.tr {m m1 m2 : zM} (h : zMo m m1) (h2 : zMo m1 m2) : zMo m m2 := ⟨Nat.le_trans h.1 h2.1, Nat.le_trans h.2.1 h2.2.1, fun w => h2.2.2.1 (h.2.2.1 w), fun w f => h2.2.2.2 (h.2.2.1 w) (h.2.2.2 w f)⟩
def zSf (m : zM) (x : Option zC) : Prop := ∀ q, x = some (.inl q) → zMo m q.2.2.2
theorem zSf.no (m : zM) : zSf m none := fun q h => by cases h
theorem zSf.go (m : zM) {pc : Nat} {ls st : List Value} : zSf m (zgo pc ls st m) := fun q h => by cases h; exact zMo.rf m
theorem zSf.to {m m1 : zM} (h : zMo m m1) {pc : Nat} {ls st : List Value} : zSf m (zgo pc ls st m1) := fun q e => by cases e; exact h
theorem zSf.bind {α : Type} {m : zM} {x : Option α} {f : α → Option zC} (h : ∀ a, zSf m (f a)) : zSf m (x.bind f) := by
  cases x with
  | none => exact zSf.no m
  | some a => exact h a
theorem zSf.ok {m : zM} {c : Prop} [Decidable c] {x : Option zC} (h : c → zSf m x) : zSf m (zok c x) := by
  unfold zok
  split
  · exact h (by assumption)
  · exact zSf.no m
theorem zSf.ite {m : zM} {c : Prop} [Decidable c] {x y : Option zC} (h : zSf m x) (h2 : zSf m y) : zSf m (if c then x else y) := by
  split
  · exact h
  · exact h2
theorem zSf.br {m : zM} {c : Prop} [Decidable c] {pc : Nat} {off : Int} {ls st : List Value} : zSf m (zbr c pc off ls st m) := by
  unfold zbr
  exact zSf.bind fun t => zSf.ite (zSf.go m) (zSf.go m)
theorem zSf.call {m : zM} {y z pc : Nat} {as ls rest : List Value} : zSf m (zcall y z pc as ls rest) := by
  unfold zcall
  split
  · intro q h; simp at h
  · exact zSf.no m
theorem zSf.inr {m : zM} {r : (Nat × List Value × Nat × List Value × List Value) ⊕ zRes} : zSf m (some (.inr r)) := fun q h => by cases h
theorem zMo_I {m : zM} {o k t : Nat} {x : Int32} (ht : (m.1 o).1 = t) (h20 : t < 20) : zMo m (zsI m o k x) := by
  refine ⟨Nat.le_refl _, Nat.le_refl _, fun h => h, fun h f a j ha => ?_⟩
  have ho := h.in_ ht h20
  have hne : a ≠ o := by
    have : m.2.2.1.1 ≤ a := ha
    omega
  have := f a j ha
  simpa [zsI, zup, hne] using this
theorem zMo_J {m : zM} {o k t : Nat} {x : Int64} (ht : (m.1 o).1 = t) (h20 : t < 20) : zMo m (zsJ m o k x) := by
  refine ⟨Nat.le_refl _, Nat.le_refl _, fun h => h, fun h f a j ha => ?_⟩
  have ho := h.in_ ht h20
  have hne : a ≠ o := by
    have : m.2.2.1.1 ≤ a := ha
    omega
  have := f a j ha
  simpa [zsJ, zup, hne] using this
theorem zMo_R {m : zM} {o k t : Nat} {x : Option Nat} (ht : (m.1 o).1 = t) (h20 : t < 20) : zMo m (zsR m o k x) := by
  refine ⟨Nat.le_refl _, Nat.le_refl _, fun h => h, fun h f a j ha => ?_⟩
  have ho := h.in_ ht h20
  have hne : a ≠ o := by
    have : m.2.2.1.1 ≤ a := ha
    omega
  have := f a j ha
  simpa [zsR, zup, hne] using this
theorem zMo_mk {m : zM} {t n w : Nat} (h20 : t < 20) (hn : m.2.2.1.1 < 1000000) : zMo m (zmk m t n w) := by
  refine ⟨Nat.le_succ _, Nat.le_add_right _ _, fun h => ⟨?_, fun o ho => ?_, fun o ho => ?_⟩, fun h f a j ha => ?_⟩
  · show m.2.2.1.1 + 1 ≤ 1048576
    omega
  · have ho' : o < m.2.2.1.1 + 1 := ho
    show (if o = m.2.2.1.1 then (t, n) else m.1 o).1 < 20
    split
    · exact h20
    · exact h.2.1 o (by omega)
  · have ho' : m.2.2.1.1 + 1 ≤ o := ho
    show (if o = m.2.2.1.1 then (t, n) else m.1 o) = _
    rw [if_neg (by omega)]
    exact h.2.2 o (by omega)
  · have ha' : m.2.2.1.1 + 1 ≤ a := ha
    exact f a j (by omega)
set_option maxHeartbeats 4000000 in
theorem zstep_mo {al : Bool} {y : Nat} {ins : Instr} {pc : Nat} {ls st : List Value} {m : zM} : zSf m (zstep al y ins pc ls st m) := by
  unfold zstep
  split
  all_goals first
    | exact zSf.go m
    | exact zSf.no m
    | exact zSf.br
    | exact zSf.bind fun _ => zSf.go m
    | exact zSf.bind fun _ => zSf.bind fun _ => zSf.go m
    | exact zSf.bind fun _ => zSf.inr
    | exact zSf.ok fun _ => zSf.go m
    | exact zSf.ok fun _ => zSf.inr
    | exact zSf.ok fun _ => zSf.bind fun _ => zSf.inr
    | exact zSf.ok fun _ => zSf.bind fun _ => zSf.go m
    | exact zSf.ok fun h => zSf.to (zMo_I h.2 (by decide))
    | exact zSf.ok fun h => zSf.to (zMo_I h.2.1 (by decide))
    | exact zSf.ok fun h => zSf.to (zMo_J h.2 (by decide))
    | exact zSf.ok fun h => zSf.ite (zSf.go m) (zSf.ite (zSf.go m) (zSf.no m))
    | exact zSf.ok fun h => zSf.to (h.2.elim (fun q => zMo_R q.1 (by decide)) (fun q => zMo_R q.1 (by decide)))
    | skip
  all_goals first
    | (refine zSf.ite (zSf.bind fun _ => zSf.go m) ?_; split; exact zSf.bind fun _ => zSf.go m; exact zSf.no m)
    | (split <;> first
        | exact zSf.go m
        | exact zSf.no m
        | exact zSf.call
        | exact zSf.ok fun _ => zSf.go m
        | exact zSf.ok fun _ => zSf.call
        | exact zSf.ok fun _ => zSf.inr
        | exact zSf.ok fun h => zSf.to (zMo_I h.1 (by omega))
        | exact zSf.ok fun h => zSf.to (zMo_R h.1 (by omega))
        | exact zSf.ok fun h => zSf.to (zMo_mk (by omega) h.2.1)
        | exact zSf.ok fun h => zSf.to (zMo_mk (by decide) h.2.1)
        | (split <;> first
            | exact zSf.no m
            | exact zSf.ok fun _ => zSf.call
            | exact zSf.ok fun _ => zSf.go m))
    | (refine zSf.ok fun h => ?_
       split <;> first
        | exact zSf.to (zMo_mk (by decide) h.2.1)
        | exact zSf.no m)
theorem zat_mo {al : Bool} {y pc : Nat} {ls st : List Value} {m : zM} : zSf m (zat al y pc ls st m) := by
  unfold zat
  split
  · split
    · exact zstep_mo
    · exact zSf.no m
  · exact zSf.no m
theorem zrun_mo {al : Bool} : ∀ (n y pc : Nat) (ls st : List Value) (m m1 : zM) (r : zRes), zrun al n y pc ls st m = some (r, m1) → zMo m m1
  | 0, y, pc, ls, st, m, m1, r, h => by simp [zrun] at h
  | n + 1, y, pc, ls, st, m, m1, r, h => by
    unfold zrun at h
    split at h
    · cases h
    · rename_i pc1 ls1 st1 m2 e
      exact (zat_mo _ e).tr (zrun_mo n _ _ _ _ _ _ _ h)
    · split at h
      · cases h
      · rename_i e
        exact (zrun_mo n _ _ _ _ _ _ _ e).tr (zrun_mo n _ _ _ _ _ _ _ h)
      · rename_i e
        simp at h
        obtain ⟨-, rfl⟩ := h
        exact zrun_mo n _ _ _ _ _ _ _ e
    · simp at h
      obtain ⟨-, rfl⟩ := h
      exact zMo.rf m
