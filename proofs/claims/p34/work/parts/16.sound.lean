/-! part 16: what a step may be; calls, ends, throws; a run of the small machine is the method's contract -/
theorem zGood {z : Nat} (hz : z < 237) : GoodIn zGT (zws z) := fun w hw => (List.mem_cons.mp hw).elim (fun e => by rw [e]; exact zGT_good (zc_in hz)) zGT_good
theorem zm_all {k : Nat} (h : k < 237) : plainFor (zy k) = true ∧ ((zy k).cls ≠ "java/lang/invoke/MethodHandle" ∧ (zy k).cls ≠ "java/lang/invoke/VarHandle") ∧ (parseMethodDescriptor (zy k).desc).map (fun d => d.parameters.length) = some (za k) ∧ (zy k).cls = zXn (zc k) ∧ zc k < 17 ∧ (zk k = 0 → zc k < 13 → (zy k).cls = (zCl (zc k)).1) ∧ (zk k = 2 → (zy k).name = "<init>" ∧ zr k = none) := by
  have h0 := zm_ok h
  unfold zmok at h0
  simp only [Bool.and_eq_true, decide_eq_true_eq] at h0
  obtain ⟨h1, h2, h3, h4, h5, h6⟩ := h0
  refine ⟨h1, h2, h3, h4, Nat.le_of_ble_eq_true h5, fun e hc => ?_, fun e => ?_⟩
  · rw [e] at h6
    have h7 : (!(Nat.blt (zc k) 13) || decide ((zy k).cls = (zCl (zc k)).1)) = true := h6
    rw [show Nat.blt (zc k) 13 = true from Nat.ble_eq_true_of_le hc] at h7
    exact of_decide_eq_true h7
  · rw [e] at h6
    simp at h6
    exact h6
theorem zfit_of {y z : Nat} (h : zfit y z = true) : z < 237 ∧ zf z + 1 ≤ zf y ∧ 8 + (zl z + 11) + zw z ≤ zw y := by
  simp only [zfit, Bool.and_eq_true, decide_eq_true_eq, Nat.ble_eq] at h
  exact h
def zCls (y : Nat) (ins : Instr) (pc : Nat) (ls st : List Value) (m : zM) : zC → Prop
  | .inl _ => True
  | .inr (.inl (z, as, pc1, ls1, st1)) => pc1 = pc + 3 ∧ ls1 = ls ∧ zfit y z = true ∧ zarg as = true ∧ zcs st1 ≤ 8 ∧ as.length ≤ zl z ∧
    ((∃ (i w o : Nat) (t : List Value), ins = .invokevirtual i ∧ zpool (zc y) i = (2, z, w) ∧ zk z = 0 ∧ (m.1 o).1 = zc z ∧ zc z < 13 ∧ as = .ref o :: t.reverse ∧ st = t ++ .ref o :: st1 ∧ t.length = za z) ∨
     (∃ (i w : Nat) (t : List Value), ins = .invokestatic i ∧ zpool (zc y) i = (2, z, w) ∧ zk z = 1 ∧ as = t.reverse ∧ st = t ++ st1 ∧ t.length = za z) ∨
     (∃ (i k w o : Nat), ins = .invokespecial i ∧ zpool (zc y) i = (k, z, w) ∧ (k = 2 ∨ k = 12) ∧ zk z = 2 ∧ za z = 0 ∧ as = [.ref o] ∧ st = .ref o :: st1))
  | .inr (.inr (.inl v)) => (ins = .ireturn ∧ zri (zr y) = 1 ∧ v = zans (zr y) st ∧ v ≠ none) ∨ (ins = .lreturn ∧ zri (zr y) = 2 ∧ v = zans (zr y) st ∧ v ≠ none) ∨ (ins = .freturn ∧ zri (zr y) = 3 ∧ v = zans (zr y) st ∧ v ≠ none) ∨ (ins = .areturn ∧ zri (zr y) = 4 ∧ v = zans (zr y) st ∧ v ≠ none) ∨ (ins = .return_ ∧ zr y = none ∧ v = none ∧ st = [])
  | .inr (.inr (.inr e)) => ∃ i w, ins = .new i ∧ zpool (zc y) i = (9, e, w) ∧ zthrows y pc = true ∧ st.length ≤ 4
def zAll (P : zC → Prop) (x : Option zC) : Prop := ∀ q, x = some q → P q
section
variable {P : zC → Prop} {m : zM}
theorem zAll.no : zAll P none := fun q h => by cases h
theorem zAll.go {pc : Nat} {ls st : List Value} (h : ∀ q, P (.inl q)) : zAll P (zgo pc ls st m) := fun q e => by cases e; exact h _
theorem zAll.bind {α : Type} {x : Option α} {f : α → Option zC} (h : ∀ a, x = some a → zAll P (f a)) : zAll P (x.bind f) := by
  cases x with
  | none => exact zAll.no
  | some a => exact h a rfl
theorem zAll.ok {c : Prop} [Decidable c] {x : Option zC} (h : c → zAll P x) : zAll P (zok c x) := by
  unfold zok
  split
  · exact h (by assumption)
  · exact zAll.no
theorem zAll.ite {c : Prop} [Decidable c] {x y : Option zC} (h : zAll P x) (h2 : zAll P y) : zAll P (if c then x else y) := by
  split
  · exact h
  · exact h2
theorem zAll.br {c : Prop} [Decidable c] {pc : Nat} {off : Int} {ls st : List Value} (h : ∀ q, P (.inl q)) : zAll P (zbr c pc off ls st m) := by
  unfold zbr
  exact zAll.bind fun t _ => zAll.ite (zAll.go h) (zAll.go h)
theorem zAll.call {y z pc : Nat} {as ls rest : List Value} (h : zfit y z = true ∧ zarg as = true ∧ zcs rest ≤ 8 ∧ as.length ≤ zl z → P (.inr (.inl (z, as, pc + 3, ls, rest)))) : zAll P (zcall y z pc as ls rest) := by
  unfold zcall
  split
  · intro q e
    cases e
    exact h (by assumption)
  · exact zAll.no
end
set_option maxHeartbeats 8000000 in
theorem zstep_cls {al : Bool} {y : Nat} {ins : Instr} {pc : Nat} {ls st : List Value} {m : zM} : zAll (zCls y ins pc ls st m) (zstep al y ins pc ls st m) := by
  unfold zstep
  split
  all_goals first
    | exact zAll.no
    | exact zAll.go fun _ => trivial
    | exact zAll.br fun _ => trivial
    | exact zAll.bind fun _ _ => zAll.go fun _ => trivial
    | exact zAll.bind fun _ _ => zAll.bind fun _ _ => zAll.go fun _ => trivial
    | exact zAll.ok fun _ => zAll.go fun _ => trivial
    | exact zAll.ok fun _ => zAll.bind fun _ _ => zAll.go fun _ => trivial
    | exact zAll.ok fun h => zAll.ite (zAll.go fun _ => trivial) (zAll.ite (zAll.go fun _ => trivial) zAll.no)
    | (refine zAll.ite (zAll.bind fun _ _ => zAll.go fun _ => trivial) ?_; split; exact zAll.bind fun _ _ => zAll.go fun _ => trivial; exact zAll.no)
    | exact zAll.ok fun h1 => zAll.bind fun v hv q e => by cases e; exact Or.inl ⟨rfl, h1, hv.symm, fun h => by cases h⟩
    | exact zAll.ok fun h1 => zAll.bind fun v hv q e => by cases e; exact Or.inr (Or.inl ⟨rfl, h1, hv.symm, fun h => by cases h⟩)
    | exact zAll.ok fun h1 => zAll.bind fun v hv q e => by cases e; exact Or.inr (Or.inr (Or.inl ⟨rfl, h1, hv.symm, fun h => by cases h⟩))
    | exact zAll.ok fun h1 => zAll.bind fun v hv q e => by cases e; exact Or.inr (Or.inr (Or.inr (Or.inl ⟨rfl, h1, hv.symm, fun h => by cases h⟩)))
    | exact zAll.ok fun h1 q e => by cases e; exact Or.inr (Or.inr (Or.inr (Or.inr ⟨rfl, h1, rfl, rfl⟩)))
    | (refine zAll.ok fun h => ?_
       split <;> first
        | exact zAll.no
        | exact zAll.go fun _ => trivial)
    | skip
  all_goals first
    | (split <;> first
        | exact zAll.no
        | exact zAll.go fun _ => trivial
        | exact zAll.ok fun _ => zAll.go fun _ => trivial
        | (rename_i e w e2; exact zAll.ok fun h q e => by cases e; exact ⟨_, _, rfl, by assumption, h.1, h.2⟩))
    | skip
  · split
    · rename_i z w hp
      split
      · rename_i o rest hs
        refine zAll.ok fun h => zAll.call fun hc => ⟨rfl, rfl, hc.1, hc.2.1, hc.2.2.1, hc.2.2.2, Or.inl ⟨_, _, o, _, rfl, hp, h.1, h.2.2.1, h.2.2.2, rfl, ?_, ?_⟩⟩
        · rw [← hs, List.take_append_drop]
        · rw [List.length_take]
          omega
      · exact zAll.no
    · exact zAll.no
  · split
    · rename_i z w hp
      refine zAll.ok fun h => zAll.call fun hc => ⟨rfl, rfl, hc.1, hc.2.1, hc.2.2.1, hc.2.2.2, Or.inr (Or.inl ⟨_, _, _, rfl, hp, h.1, rfl, ?_, ?_⟩)⟩
      · rw [List.take_append_drop]
      · rw [List.length_take]
        omega
    · exact zAll.no
  · split
    · split
      · exact zAll.ok fun _ => zAll.go fun _ => trivial
      · exact zAll.no
    · rename_i z w hp
      split
      · exact zAll.ok fun h => zAll.call fun hc => ⟨rfl, rfl, hc.1, hc.2.1, hc.2.2.1, hc.2.2.2, Or.inr (Or.inr ⟨_, _, _, _, rfl, hp, Or.inl rfl, h.1, h.2, rfl, rfl⟩)⟩
      · exact zAll.no
    · rename_i z w hp
      split
      · exact zAll.ok fun h => zAll.call fun hc => ⟨rfl, rfl, hc.1, hc.2.1, hc.2.2.1, hc.2.2.2, Or.inr (Or.inr ⟨_, _, _, _, rfl, hp, Or.inr rfl, h.1, h.2, rfl, rfl⟩)⟩
      · exact zAll.no
    · exact zAll.no
theorem zat_of {al : Bool} {y pc : Nat} {ls st : List Value} {m : zM} {q : zC} (h : zat al y pc ls st m = some q) : ∃ ins len, decode (zb y) pc = .ok (ins, zlen ins len) ∧ zstep al y ins pc ls st m = some q := by
  unfold zat at h
  split at h
  · rename_i i len e
    split at h
    · rename_i hl
      exact ⟨i, len, by rw [e, ← hl], h⟩
    · cases h
  · cases h
