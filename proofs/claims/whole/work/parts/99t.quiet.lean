/-! part 99t: runs that write no long, and ints and references at places below 61 only -/
def zq (y : Nat) (i : Instr) (st : List Value) : Bool := match i, st with
  | .lastore, _ => false
  | .bastore, _ => false
  | .castore, _ => false
  | .iastore, _ :: .int i :: _ => Nat.blt i.toNatClampNeg 61
  | .aastore, _ :: .int i :: _ => Nat.blt i.toNatClampNeg 61
  | .putfield i, _ => Nat.blt (zpool (zc y) i).2.2 61
  | _, _ => true
def zQu (m m1 : zM) : Prop := m1.2.2.2.2.1 = m.2.2.2.2.1 ∧ m1.2.2.2.2.2 = m.2.2.2.2.2 ∧ ∀ o k, 61 ≤ k → m1.2.2.2.1 o k = m.2.2.2.1 o k ∧ m1.2.1 o k = m.2.1 o k
theorem zQu.rf (m : zM) : zQu m m := ⟨rfl, rfl, fun _ _ _ => ⟨rfl, rfl⟩⟩
theorem zQu.tr {m m1 m2 : zM} (h : zQu m m1) (h2 : zQu m1 m2) : zQu m m2 := ⟨h2.1.trans h.1, h2.2.1.trans h.2.1, fun o k q => ⟨(h2.2.2 o k q).1.trans (h.2.2 o k q).1, (h2.2.2 o k q).2.trans (h.2.2 o k q).2⟩⟩
theorem zQu_I {m : zM} {o k : Nat} {x : Int32} (h : k < 61) : zQu m (zsI m o k x) := ⟨rfl, rfl, fun a j q => ⟨by
  show zup m.2.2.2.1 o k x a j = _
  unfold zup
  rw [if_neg (by omega)], rfl⟩⟩
theorem zQu_R {m : zM} {o k : Nat} {x : Option Nat} (h : k < 61) : zQu m (zsR m o k x) := ⟨rfl, rfl, fun a j q => ⟨rfl, by
  show zup m.2.1 o k x a j = _
  unfold zup
  rw [if_neg (by omega)]⟩⟩
theorem zQu_mk {m : zM} {t n w : Nat} : zQu m (zmk m t n w) := ⟨rfl, rfl, fun _ _ _ => ⟨rfl, rfl⟩⟩
def zSq (m : zM) (x : Option zC) : Prop := ∀ q, x = some (.inl q) → zQu m q.2.2.2
theorem zSq.no (m : zM) : zSq m none := fun q h => by cases h
theorem zSq.go (m : zM) {pc : Nat} {ls st : List Value} : zSq m (zgo pc ls st m) := fun q h => by cases h; exact zQu.rf m
theorem zSq.to {m m1 : zM} (h : zQu m m1) {pc : Nat} {ls st : List Value} : zSq m (zgo pc ls st m1) := fun q e => by cases e; exact h
theorem zSq.bind {α : Type} {m : zM} {x : Option α} {f : α → Option zC} (h : ∀ a, zSq m (f a)) : zSq m (x.bind f) := by
  cases x with
  | none => exact zSq.no m
  | some a => exact h a
theorem zSq.ok {m : zM} {c : Prop} [Decidable c] {x : Option zC} (h : c → zSq m x) : zSq m (zok c x) := by
  unfold zok
  split
  · exact h (by assumption)
  · exact zSq.no m
theorem zSq.ite {m : zM} {c : Prop} [Decidable c] {x y : Option zC} (h : zSq m x) (h2 : zSq m y) : zSq m (if c then x else y) := by
  split
  · exact h
  · exact h2
theorem zSq.br {m : zM} {c : Prop} [Decidable c] {pc : Nat} {off : Int} {ls st : List Value} : zSq m (zbr c pc off ls st m) := by
  unfold zbr
  exact zSq.bind fun t => zSq.ite (zSq.go m) (zSq.go m)
theorem zSq.call {m : zM} {y z pc : Nat} {as ls rest : List Value} : zSq m (zcall y z pc as ls rest) := by
  unfold zcall
  split
  · intro q h; simp at h
  · exact zSq.no m
theorem zSq.inr {m : zM} {r : (Nat × List Value × Nat × List Value × List Value) ⊕ zRes} : zSq m (some (.inr r)) := fun q h => by cases h
theorem zq_i {y : Nat} {i : Int32} {v o : Value} {st : List Value} (h : zq y .iastore (v :: .int i :: o :: st) = true) : i.toNatClampNeg < 61 := Nat.le_of_ble_eq_true h
theorem zq_a {y : Nat} {i : Int32} {v o : Value} {st : List Value} (h : zq y .aastore (v :: .int i :: o :: st) = true) : i.toNatClampNeg < 61 := Nat.le_of_ble_eq_true h
theorem zq_p {y i a c k : Nat} {st : List Value} (h : zq y (.putfield i) st = true) (e : zpool (zc y) i = (a, c, k)) : k < 61 := by
  have h : Nat.blt (zpool (zc y) i).2.2 61 = true := h
  rw [e] at h
  exact Nat.le_of_ble_eq_true h
set_option maxHeartbeats 4000000 in
theorem zstep_qu {al : Bool} {y : Nat} {ins : Instr} {pc : Nat} {ls st : List Value} {m : zM} (hq : zq y ins st = true) : zSq m (zstep al y ins pc ls st m) := by
  revert hq
  unfold zstep
  split
  all_goals first
    | exact fun _ => zSq.go m
    | exact fun _ => zSq.no m
    | exact fun _ => zSq.br
    | exact fun _ => zSq.bind fun _ => zSq.go m
    | exact fun _ => zSq.bind fun _ => zSq.bind fun _ => zSq.go m
    | exact fun _ => zSq.bind fun _ => zSq.inr
    | exact fun _ => zSq.ok fun _ => zSq.go m
    | exact fun _ => zSq.ok fun _ => zSq.inr
    | exact fun _ => zSq.ok fun _ => zSq.bind fun _ => zSq.inr
    | exact fun _ => zSq.ok fun _ => zSq.bind fun _ => zSq.go m
    | exact fun hq => absurd hq (by decide)
    | exact fun hq => zSq.ok fun h => zSq.to (zQu_I (zq_i hq))
    | exact fun hq => zSq.ok fun h => zSq.to (zQu_R (zq_a hq))
    | exact fun _ => zSq.ok fun h => zSq.ite (zSq.go m) (zSq.ite (zSq.go m) (zSq.no m))
    | (intro hq; simp [zq] at hq; done)
    | skip
  all_goals intro hq
  all_goals first
    | (refine zSq.ite (zSq.bind fun _ => zSq.go m) ?_; split; exact zSq.bind fun _ => zSq.go m; exact zSq.no m)
    | (split <;> first
        | exact zSq.go m
        | exact zSq.no m
        | exact zSq.call
        | exact zSq.ok fun _ => zSq.go m
        | exact zSq.ok fun _ => zSq.call
        | exact zSq.ok fun _ => zSq.inr
        | exact zSq.ok fun h => zSq.to zQu_mk
        | (rename_i e; exact zSq.ok fun h => zSq.to (zQu_I (zq_p hq e)))
        | (rename_i e; exact zSq.ok fun h => zSq.to (zQu_R (zq_p hq e)))
        | (split <;> first
            | exact zSq.no m
            | exact zSq.ok fun _ => zSq.call
            | exact zSq.ok fun _ => zSq.go m))
    | (refine zSq.ok fun h => ?_
       split <;> first
        | exact zSq.to zQu_mk
        | exact zSq.no m)
/-- a quiet run -/
def zrunq (al : Bool) : Nat → Nat → Nat → List Value → List Value → zM → Option (zRes × zM)
  | 0, _, _, _, _, _ => none
  | n + 1, y, pc, ls, st, m => match decode (zb y) pc with
    | .error _ => none
    | .ok (i, len) => if zq y i st = true then (if len = zlen i len then (match zstep al y i pc ls st m with
      | none => none
      | some (.inl (pc1, ls1, st1, m1)) => zrunq al n y pc1 ls1 st1 m1
      | some (.inr (.inl (z, as, pc1, ls1, st1))) => match zrunq al n z 0 (zent z as) [] m with
        | none => none
        | some (.inl v, m1) => zrunq al n y pc1 ls1 (v.toList ++ st1) m1
        | some (.inr e, m1) => some (.inr e, m1)
      | some (.inr (.inr r)) => some (r, m)) else none) else none
theorem zrunq_ok {al : Bool} : ∀ (n y pc : Nat) (ls st : List Value) (m m1 : zM) (r : zRes), zrunq al n y pc ls st m = some (r, m1) → zrun al n y pc ls st m = some (r, m1) ∧ zQu m m1
  | 0, y, pc, ls, st, m, m1, r, h => by simp [zrunq] at h
  | n + 1, y, pc, ls, st, m, m1, r, h => by
    unfold zrunq at h
    unfold zrun zat
    cases hd : decode (zb y) pc with
    | error x => rw [hd] at h; cases h
    | ok q =>
      obtain ⟨i, len⟩ := q
      rw [hd] at h
      by_cases hq : zq y i st = true
      · by_cases hl : len = zlen i len
        · have hs := zstep_qu (al := al) (pc := pc) (ls := ls) (m := m) hq
          simp only [if_pos hq, if_pos hl] at h ⊢
          cases he : zstep al y i pc ls st m with
          | none => rw [he] at h; cases h
          | some a =>
            rw [he] at h hs
            rcases a with ⟨pc1, ls1, st1, m2⟩ | ⟨z, as, pc1, ls1, st1⟩ | r2
            · obtain ⟨g1, g2⟩ := zrunq_ok n _ _ _ _ _ _ _ h
              exact ⟨g1, (hs _ rfl).tr g2⟩
            · have h' : (match zrunq al n z 0 (zent z as) [] m with
                | none => none
                | some (.inl v, m1) => zrunq al n y pc1 ls1 (v.toList ++ st1) m1
                | some (.inr e, m1) => some (.inr e, m1)) = some (r, m1) := h
              show (match zrun al n z 0 (zent z as) [] m with
                | none => none
                | some (.inl v, m1) => zrun al n y pc1 ls1 (v.toList ++ st1) m1
                | some (.inr e, m1) => some (.inr e, m1)) = some (r, m1) ∧ _
              cases hc : zrunq al n z 0 (zent z as) [] m with
              | none => rw [hc] at h'; cases h'
              | some b =>
                rw [hc] at h'
                obtain ⟨b1, b2⟩ := b
                obtain ⟨g1, g2⟩ := zrunq_ok n _ _ _ _ _ _ _ hc
                rw [g1]
                rcases b1 with v | e
                · obtain ⟨g3, g4⟩ := zrunq_ok n _ _ _ _ _ _ _ h'
                  exact ⟨g3, g2.tr g4⟩
                · have h'' : some ((.inr e : zRes), b2) = some (r, m1) := h'
                  cases h''
                  exact ⟨rfl, g2⟩
            · have h'' : some (r2, m) = some (r, m1) := h
              cases h''
              exact ⟨rfl, zQu.rf m⟩
        · simp only [if_pos hq, if_neg hl] at h
          cases h
      · simp only [if_neg hq] at h
        cases h
