/-! part 99f: THE LAW'S OWN MACHINE: law (237), sings (143) and fits (144) run by a step function of their own; a stub is one step (what the class answers or throws, as the stub tells it), and so is cell; k counts the stubs called -/
theorem zm_wf {V : zVt} {J : zJt} {d : Nat → Nat → UInt64} : zwf (zm V J d) := by
  have h0 : (List.range 432).all (fun o => Nat.blt (zS0 o).1 20) = true := by decide +kernel
  refine ⟨(by decide : 432 ≤ 1048576), fun o ho => Nat.le_of_ble_eq_true (List.all_eq_true.mp h0 o (List.mem_range.mpr ho)), fun o ho => ?_⟩
  have ho : 432 ≤ o := ho
  show zS0 o = _
  unfold zS0
  rw [if_neg (by omega), if_neg (by omega), if_neg (by omega), if_neg (by omega)]
/-- the stubs' numbers: write 0, error 1, errorAt 2, tokens 3, token 4, bars 5, pitch 6, seconds 7, print 8, lend 9, back 10, pencil 11, holder 12, copyError 13, copyPitch 14, copyAnew 15, begins 16, differ 17, clashes 18, clashesOf 19, room 20, ask 21, done 22, learned 23, misled 24, judge 25, concert 26; 27 is cell -/
def wC (s : Nat) : Nat := ([96, 99, 102, 103, 104, 105, 106, 108, 109, 111, 114, 116, 117, 118, 119, 120, 121, 122, 123, 128, 129, 130, 131, 132, 134, 135, 142] : List Nat).getD s 0
def wA (s : Nat) : Nat := ([3, 2, 2, 2, 3, 2, 4, 3, 2, 2, 1, 4, 1, 1, 3, 3, 3, 2, 2, 2, 2, 4, 1, 4, 3, 1, 1] : List Nat).getD s 0
def wX (s : Nat) : List Nat := ([[0, 1, 2], [0], [0], [0], [0], [0], [0], [0, 1], [0, 2], [0, 2], [0, 2], [0, 1, 2], [0], [0], [0], [0], [0], [0, 1, 2], [0], [0, 1], [0, 1], [0, 1, 2], [0], [0], [0], [0], [0, 2]] : List (List Nat)).getD s []
def wch (x : Int32) : Int32 := (x.toUInt32 % 65536).toInt32
def warg (s : Nat) (xs : List Int32) : List Int32 := if s = 0 then (match xs with
  | [p, v, l] => [p, v, wch l]
  | _ => []) else xs
def wans (s : Nat) : Value → Option Int32
  | .int x => if s = 16 then (if x = 0 then some 0 else some 1) else if s = 7 then none else some x
  | .float x => if s = 7 then some (FP.f2i x) else none
  | _ => none
def wcode (e : Nat) : Int32 := if e = 0 then -101 else if e = 1 then -102 else -103
abbrev wvals (xs : List Int32) : List Value := xs.map fun x => .int x
/-- a stub, called on object 0 -/
noncomputable def wstub (s : Nat) (xs : List Int32) (m : zM) : Option (Int32 × zM) :=
  match zGo false (wC s) 0 (zent (wC s) (.ref 0 :: wvals (warg s xs))) [] m with
  | some (.inl (some v), m1) => if m1.2.2.1 = m.2.2.1 then (wans s v).map fun x => (x, m1) else none
  | some (.inr e, m1) => if e ∈ wX s ∧ m1.2.2.1 = m.2.2.1 then some (wcode e, m1) else none
  | _ => none
theorem wstub_cs {s : Nat} {xs : List Int32} {m m1 : zM} {x : Int32} (h : wstub s xs m = some (x, m1)) : m1.2.2.1 = m.2.2.1 ∧ ((∃ v, zGo false (wC s) 0 (zent (wC s) (.ref 0 :: wvals (warg s xs))) [] m = some (.inl (some v), m1) ∧ wans s v = some x) ∨ ∃ e, zGo false (wC s) 0 (zent (wC s) (.ref 0 :: wvals (warg s xs))) [] m = some (.inr e, m1) ∧ e ∈ wX s ∧ x = wcode e) := by
  unfold wstub at h
  split at h
  · rename_i v m2 e
    split at h
    · rename_i q
      cases hw : wans s v with
      | none => rw [hw] at h; cases h
      | some y =>
        rw [hw] at h
        have h2 : (y, m2) = (x, m1) := Option.some.inj h
        cases h2
        exact ⟨q, Or.inl ⟨v, e, hw⟩⟩
    · cases h
  · rename_i ex m2 e
    split at h
    · rename_i q
      have h2 : (wcode ex, m2) = (x, m1) := Option.some.inj h
      cases h2
      exact ⟨q.2, Or.inr ⟨ex, e, q.1, rfl⟩⟩
    · cases h
  · cases h
def wlist : List Value → Option (List Int32)
  | [] => some []
  | .int x :: l => (wlist l).map fun r => x :: r
  | _ :: _ => none
theorem wlist_eq : ∀ {l : List Value} {xs : List Int32}, wlist l = some xs → l = wvals xs
  | [], xs, h => by
    cases h
    rfl
  | v :: l, xs, h => by
    cases v with
    | int x =>
      unfold wlist at h
      cases hl : wlist l with
      | none => rw [hl] at h; cases h
      | some r =>
        rw [hl] at h
        cases h
        show Value.int x :: l = Value.int x :: wvals r
        rw [wlist_eq hl]
    | _ => cases h
theorem wlist_of : ∀ xs : List Int32, wlist (wvals xs) = some xs
  | [] => rfl
  | x :: xs => by
    show (wlist (wvals xs)).map (fun r => x :: r) = some (x :: xs)
    rw [wlist_of xs]
    rfl
/-- what a step of the law's machine answers: go on (with so many stubs called); call; the law's own answer -/
abbrev wT : Type := Nat × List Value × List Value × zM × Nat
abbrev wR : Type := wT ⊕ ((Nat × List Value × Nat × List Value × List Value) ⊕ Int32)
noncomputable def wstepS (cf : Int32 → Int32) (y i pc : Nat) (ls st : List Value) (m : zM) : Option wR := match zpool 16 i with
  | (13, s, _) => if s = 27 then (match st with
      | .int k :: .ref o :: rest => if y = 237 ∧ o = 1048578 ∧ zcs rest ≤ 8 ∧ 0 ≤ k then some (.inl (pc + 3, ls, .int (cf k) :: rest, m, 0)) else none
      | _ => none)
    else (match st.drop (wA s) with
      | .ref o :: rest => if s < 27 ∧ o = 0 ∧ (m.1 0).1 = 11 ∧ zcs rest ≤ 8 then (wlist (st.take (wA s)).reverse).bind fun xs => if xs.length = wA s then (wstub s xs m).map fun q => .inl (pc + 3, ls, .int q.1 :: rest, q.2, 1) else none else none
      | _ => none)
  | (2, z, _) => if y = 237 ∧ (z = 143 ∨ z = 144) ∧ zcs (st.drop (za z)) ≤ 8 ∧ zarg (st.take (za z)).reverse = true ∧ (st.take (za z)).length = za z then some (.inr (.inl (z, (st.take (za z)).reverse, pc + 3, ls, st.drop (za z)))) else none
  | _ => none
noncomputable def wstepV (y i pc : Nat) (ls st : List Value) (m : zM) : Option wR := match zpool 16 i, st with
  | (2, z, _), .ref o :: rest => if y = 237 ∧ z < 143 ∧ za z = 0 ∧ zk z = 0 ∧ (m.1 o).1 = zc z ∧ zc z < 13 ∧ zcs rest ≤ 8 ∧ 1 ≤ zl z ∧ zf z + 1 ≤ 11 ∧ 8 + (zl z + 11) + zw z ≤ 270 then (match zGo false z 0 (zent z [.ref o]) [] m with
      | some (.inl (some (.int v)), m1) => if m1.2.2.1 = m.2.2.1 then some (.inl (pc + 3, ls, .int v :: rest, m1, 0)) else none
      | _ => none) else none
  | _, _ => none
def wplain (y : Nat) (ins : Instr) (pc : Nat) (ls st : List Value) (m : zM) : Option wR := match zstep false y ins pc ls st m with
  | some (.inl q) => if q.2.2.2.2.2.1 = m.2.2.1 then some (.inl (q.1, q.2.1, q.2.2.1, q.2.2.2, 0)) else none
  | _ => none
noncomputable def wstep (cf : Int32 → Int32) (y : Nat) (ins : Instr) (pc : Nat) (ls st : List Value) (m : zM) : Option wR := match ins with
  | .ireturn => match st with
    | [.int x] => if x = 0 ∨ x = 1 then some (.inr (.inr x)) else none
    | _ => none
  | .invokestatic i => wstepS cf y i pc ls st m
  | .invokevirtual i => wstepV y i pc ls st m
  | ins => wplain y ins pc ls st m
noncomputable def wat (cf : Int32 → Int32) (y pc : Nat) (ls st : List Value) (m : zM) : Option wR := match decode (zb y) pc with
  | .ok (i, len) => if len = zlen i len then wstep cf y i pc ls st m else none
  | .error _ => none
noncomputable def wrun (cf : Int32 → Int32) : Nat → Nat → Nat → List Value → List Value → zM → Nat → Option (Int32 × zM × Nat)
  | 0, _, _, _, _, _, _ => none
  | n + 1, y, pc, ls, st, m, k => match wat cf y pc ls st m with
    | none => none
    | some (.inl (pc1, ls1, st1, m1, j)) => wrun cf n y pc1 ls1 st1 m1 (k + j)
    | some (.inr (.inl (z, as, pc1, ls1, st1))) => match wrun cf n z 0 (zent z as) [] m k with
      | none => none
      | some (x, m1, k1) => wrun cf n y pc1 ls1 (.int x :: st1) m1 k1
    | some (.inr (.inr x)) => some (x, m, k)
theorem wrun_le {cf : Int32 → Int32} : ∀ (n y pc : Nat) (ls st : List Value) (m : zM) (k : Nat) (x : Int32) (m1 : zM) (k1 : Nat), wrun cf n y pc ls st m k = some (x, m1, k1) → k ≤ k1
  | 0, y, pc, ls, st, m, k, x, m1, k1, h => by simp [wrun] at h
  | n + 1, y, pc, ls, st, m, k, x, m1, k1, h => by
    unfold wrun at h
    split at h
    · cases h
    · have := wrun_le n _ _ _ _ _ _ _ _ _ h
      omega
    · split at h
      · cases h
      · rename_i e
        have a := wrun_le n _ _ _ _ _ _ _ _ _ e
        have b := wrun_le n _ _ _ _ _ _ _ _ _ h
        omega
    · simp at h
      omega
theorem wrun_one {cf : Int32 → Int32} : ∀ (n y pc : Nat) (ls st : List Value) (m : zM) (k : Nat) (q : Int32 × zM × Nat), wrun cf n y pc ls st m k = some q → wrun cf (n + 1) y pc ls st m k = some q
  | 0, y, pc, ls, st, m, k, q, h => by cases h
  | n + 1, y, pc, ls, st, m, k, q, h => by
    unfold wrun at h ⊢
    cases hat : wat cf y pc ls st m with
    | none => rw [hat] at h; cases h
    | some a =>
      rw [hat] at h
      rcases a with ⟨pc1, ls1, st1, m1, j⟩ | ⟨z, as, pc1, ls1, st1⟩ | x
      · exact wrun_one n _ _ _ _ _ _ _ h
      · have h' : (match wrun cf n z 0 (zent z as) [] m k with
          | none => none
          | some (x, m1, k1) => wrun cf n y pc1 ls1 (.int x :: st1) m1 k1) = some q := h
        show (match wrun cf (n + 1) z 0 (zent z as) [] m k with
          | none => none
          | some (x, m1, k1) => wrun cf (n + 1) y pc1 ls1 (.int x :: st1) m1 k1) = some q
        cases hc : wrun cf n z 0 (zent z as) [] m k with
        | none => rw [hc] at h'; cases h'
        | some b =>
          rw [hc] at h'
          rw [wrun_one n _ _ _ _ _ _ _ hc]
          obtain ⟨x, m1, k1⟩ := b
          exact wrun_one n _ _ _ _ _ _ _ h'
      · exact h
theorem wrun_more {cf : Int32 → Int32} {n y pc : Nat} {ls st : List Value} {m : zM} {k : Nat} {q : Int32 × zM × Nat} (h : wrun cf n y pc ls st m k = some q) (j : Nat) : wrun cf (n + j) y pc ls st m k = some q := by
  induction j with
  | zero => exact h
  | succ j ih => exact wrun_one _ _ _ _ _ _ _ _ ih
theorem wrun_at {cf : Int32 → Int32} {n j y pc : Nat} {ls st : List Value} {m : zM} {k : Nat} {q : Int32 × zM × Nat} (h : wrun cf n y pc ls st m k = some q) (hk : n ≤ j) : wrun cf j y pc ls st m k = some q := by
  have := wrun_more h (j - n)
  rwa [Nat.add_sub_cancel' hk] at this
/-- the law's run without fuel -/
noncomputable def wGo (cf : Int32 → Int32) (y pc : Nat) (ls st : List Value) (m : zM) (k : Nat) : Option (Int32 × zM × Nat) :=
  @dite _ (∃ q, ∃ n, wrun cf n y pc ls st m k = some q) (Classical.propDecidable _) (fun h => some (Classical.choose h)) (fun _ => none)
theorem wGo_iff {cf : Int32 → Int32} {y pc : Nat} {ls st : List Value} {m : zM} {k : Nat} {q : Int32 × zM × Nat} : wGo cf y pc ls st m k = some q ↔ ∃ n, wrun cf n y pc ls st m k = some q := by
  unfold wGo
  constructor
  · intro h
    split at h
    · rename_i he
      cases h
      exact Classical.choose_spec he
    · cases h
  · rintro ⟨n, hn⟩
    have he : ∃ q, ∃ n, wrun cf n y pc ls st m k = some q := ⟨q, n, hn⟩
    rw [dif_pos he]
    obtain ⟨j, hj⟩ := Classical.choose_spec he
    have h1 := wrun_at hn (Nat.le_max_left n j)
    have h2 := wrun_at hj (Nat.le_max_right n j)
    rw [h1] at h2
    exact h2.symm
noncomputable def wGor (cf : Int32 → Int32) (y pc : Nat) (ls st : List Value) : Int32 × zM × Nat → Option (Int32 × zM × Nat) := fun q => wGo cf y pc ls (.int q.1 :: st) q.2.1 q.2.2
noncomputable def wGoc (cf : Int32 → Int32) (y : Nat) (m : zM) (k : Nat) : Option wR → Option (Int32 × zM × Nat)
  | none => none
  | some (.inl (pc, ls, st, m, j)) => wGo cf y pc ls st m (k + j)
  | some (.inr (.inl (z, as, pc, ls, st))) => (wGo cf z 0 (zent z as) [] m k).bind (wGor cf y pc ls st)
  | some (.inr (.inr x)) => some (x, m, k)
theorem wGo_eq {cf : Int32 → Int32} {y pc : Nat} {ls st : List Value} {m : zM} {k : Nat} : wGo cf y pc ls st m k = wGoc cf y m k (wat cf y pc ls st m) := by
  apply Option.ext
  intro q
  rw [wGo_iff]
  have h0 : (∃ n, wrun cf n y pc ls st m k = some q) ↔ ∃ n, wrun cf (n + 1) y pc ls st m k = some q := by
    constructor
    · rintro ⟨n, h⟩
      exact ⟨n, wrun_one _ _ _ _ _ _ _ _ h⟩
    · rintro ⟨n, h⟩
      exact ⟨n + 1, h⟩
  rw [h0]
  unfold wrun
  cases wat cf y pc ls st m with
  | none => simp [wGoc]
  | some a =>
    rcases a with ⟨pc1, ls1, st1, m1, j⟩ | ⟨z, as, pc1, ls1, st1⟩ | x
    · exact wGo_iff.symm
    · show (∃ n, (match wrun cf n z 0 (zent z as) [] m k with
          | none => none
          | some (x, m1, k1) => wrun cf n y pc1 ls1 (.int x :: st1) m1 k1) = some q) ↔ (wGo cf z 0 (zent z as) [] m k).bind (wGor cf y pc1 ls1 st1) = some q
      rw [Option.bind_eq_some_iff]
      constructor
      · rintro ⟨n, h⟩
        cases hc : wrun cf n z 0 (zent z as) [] m k with
        | none => rw [hc] at h; cases h
        | some b =>
          rw [hc] at h
          exact ⟨b, wGo_iff.mpr ⟨n, hc⟩, wGo_iff.mpr ⟨n, h⟩⟩
      · rintro ⟨b, hb, h⟩
        obtain ⟨n, hn⟩ := wGo_iff.mp hb
        obtain ⟨j, hj⟩ := wGo_iff.mp (show wGo cf y pc1 ls1 (.int b.1 :: st1) b.2.1 b.2.2 = some q from h)
        refine ⟨max n j, ?_⟩
        rw [wrun_at hn (Nat.le_max_left n j)]
        exact wrun_at hj (Nat.le_max_right n j)
    · show (∃ _ : Nat, some (x, m, k) = some q) ↔ some (x, m, k) = some q
      exact ⟨fun ⟨_, h⟩ => h, fun h => ⟨0, h⟩⟩
/-- an instruction's equation -/
theorem wGo_in {cf : Int32 → Int32} {y pc : Nat} {ls st : List Value} {m : zM} {k : Nat} {ins : Instr} {len : Nat} (d : decode (zb y) pc = .ok (ins, len)) (hl : len = zlen ins len) : wGo cf y pc ls st m k = wGoc cf y m k (wstep cf y ins pc ls st m) := by
  rw [wGo_eq]
  unfold wat
  rw [d]
  show wGoc cf y m k (if len = zlen ins len then wstep cf y ins pc ls st m else none) = _
  rw [if_pos hl]
theorem wat_of {cf : Int32 → Int32} {y pc : Nat} {ls st : List Value} {m : zM} {q : wR} (h : wat cf y pc ls st m = some q) : ∃ ins len, decode (zb y) pc = .ok (ins, zlen ins len) ∧ wstep cf y ins pc ls st m = some q := by
  unfold wat at h
  split at h
  · rename_i i len e
    split at h
    · rename_i hl
      refine ⟨i, len, ?_, h⟩
      rw [e]
      exact congrArg (fun z => Except.ok (i, z)) hl
    · cases h
  · cases h
