/-! part 20: the small machine without fuel -/
theorem zrun_one {al : Bool} : ∀ (n y pc : Nat) (ls st : List Value) (m : zM) (q : zRes × zM), zrun al n y pc ls st m = some q → zrun al (n + 1) y pc ls st m = some q
  | 0, y, pc, ls, st, m, q, h => by cases h
  | n + 1, y, pc, ls, st, m, q, h => by
    unfold zrun at h ⊢
    cases hat : zat al y pc ls st m with
    | none => rw [hat] at h; cases h
    | some a =>
      rw [hat] at h
      rcases a with ⟨pc1, ls1, st1, m1⟩ | ⟨z, as, pc1, ls1, st1⟩ | r
      · exact zrun_one n _ _ _ _ _ _ h
      · have h' : (match zrun al n z 0 (zent z as) [] m with
          | none => none
          | some (.inl v, m1) => zrun al n y pc1 ls1 (v.toList ++ st1) m1
          | some (.inr e, m1) => some (.inr e, m1)) = some q := h
        show (match zrun al (n + 1) z 0 (zent z as) [] m with
          | none => none
          | some (.inl v, m1) => zrun al (n + 1) y pc1 ls1 (v.toList ++ st1) m1
          | some (.inr e, m1) => some (.inr e, m1)) = some q
        cases hc : zrun al n z 0 (zent z as) [] m with
        | none => rw [hc] at h'; cases h'
        | some b =>
          rw [hc] at h'
          rw [zrun_one n _ _ _ _ _ _ hc]
          rcases b with ⟨v | e, m1⟩
          · exact zrun_one n _ _ _ _ _ _ h'
          · exact h'
      · exact h
theorem zrun_more {al : Bool} {n y pc : Nat} {ls st : List Value} {m : zM} {q : zRes × zM} (h : zrun al n y pc ls st m = some q) (k : Nat) : zrun al (n + k) y pc ls st m = some q := by
  induction k with
  | zero => exact h
  | succ k ih => exact zrun_one _ _ _ _ _ _ _ ih
theorem zrun_at {al : Bool} {n k y pc : Nat} {ls st : List Value} {m : zM} {q : zRes × zM} (h : zrun al n y pc ls st m = some q) (hk : n ≤ k) : zrun al k y pc ls st m = some q := by
  have := zrun_more h (k - n)
  rwa [Nat.add_sub_cancel' hk] at this
noncomputable def zGo (al : Bool) (y pc : Nat) (ls st : List Value) (m : zM) : Option (zRes × zM) :=
  @dite _ (∃ q, ∃ n, zrun al n y pc ls st m = some q) (Classical.propDecidable _) (fun h => some (Classical.choose h)) (fun _ => none)
theorem zGo_iff {al : Bool} {y pc : Nat} {ls st : List Value} {m : zM} {q : zRes × zM} : zGo al y pc ls st m = some q ↔ ∃ n, zrun al n y pc ls st m = some q := by
  unfold zGo
  constructor
  · intro h
    split at h
    · rename_i he
      cases h
      exact Classical.choose_spec he
    · cases h
  · rintro ⟨n, hn⟩
    have he : ∃ q, ∃ n, zrun al n y pc ls st m = some q := ⟨q, n, hn⟩
    rw [dif_pos he]
    obtain ⟨k, hk⟩ := Classical.choose_spec he
    have h1 := zrun_at hn (Nat.le_max_left n k)
    have h2 := zrun_at hk (Nat.le_max_right n k)
    rw [h1] at h2
    exact h2.symm
noncomputable def zGor (al : Bool) (y pc : Nat) (ls st : List Value) : zRes × zM → Option (zRes × zM)
  | (.inl v, m) => zGo al y pc ls (v.toList ++ st) m
  | (.inr e, m) => some (.inr e, m)
noncomputable def zGoc (al : Bool) (y : Nat) (m : zM) : Option zC → Option (zRes × zM)
  | none => none
  | some (.inl (pc, ls, st, m)) => zGo al y pc ls st m
  | some (.inr (.inl (z, as, pc, ls, st))) => (zGo al z 0 (zent z as) [] m).bind (zGor al y pc ls st)
  | some (.inr (.inr r)) => some (r, m)
theorem zGo_eq {al : Bool} {y pc : Nat} {ls st : List Value} {m : zM} : zGo al y pc ls st m = zGoc al y m (zat al y pc ls st m) := by
  apply Option.ext
  intro q
  rw [zGo_iff]
  have h0 : (∃ n, zrun al n y pc ls st m = some q) ↔ ∃ n, zrun al (n + 1) y pc ls st m = some q := by
    constructor
    · rintro ⟨n, h⟩
      exact ⟨n, zrun_one _ _ _ _ _ _ _ h⟩
    · rintro ⟨n, h⟩
      exact ⟨n + 1, h⟩
  rw [h0]
  unfold zrun
  cases zat al y pc ls st m with
  | none => simp [zGoc]
  | some a =>
    rcases a with ⟨pc1, ls1, st1, m1⟩ | ⟨z, as, pc1, ls1, st1⟩ | r
    · exact zGo_iff.symm
    · show (∃ n, (match zrun al n z 0 (zent z as) [] m with
          | none => none
          | some (.inl v, m1) => zrun al n y pc1 ls1 (v.toList ++ st1) m1
          | some (.inr e, m1) => some (.inr e, m1)) = some q) ↔ (zGo al z 0 (zent z as) [] m).bind (zGor al y pc1 ls1 st1) = some q
      rw [Option.bind_eq_some_iff]
      constructor
      · rintro ⟨n, h⟩
        cases hc : zrun al n z 0 (zent z as) [] m with
        | none => rw [hc] at h; cases h
        | some b =>
          rw [hc] at h
          refine ⟨b, zGo_iff.mpr ⟨n, hc⟩, ?_⟩
          rcases b with ⟨v | e, m1⟩
          · exact zGo_iff.mpr ⟨n, h⟩
          · exact h
      · rintro ⟨b, hb, h⟩
        obtain ⟨n, hn⟩ := zGo_iff.mp hb
        rcases b with ⟨v | e, m1⟩
        · obtain ⟨k, hk⟩ := zGo_iff.mp (show zGo al y pc1 ls1 (v.toList ++ st1) m1 = some q from h)
          refine ⟨max n k, ?_⟩
          rw [zrun_at hn (Nat.le_max_left n k)]
          exact zrun_at hk (Nat.le_max_right n k)
        · refine ⟨n, ?_⟩
          rw [hn]
          exact h
    · show (∃ _ : Nat, some (r, m) = some q) ↔ some (r, m) = some q
      exact ⟨fun ⟨_, h⟩ => h, fun h => ⟨0, h⟩⟩
/-- an instruction's equation -/
theorem zGo_in {al : Bool} {y pc : Nat} {ls st : List Value} {m : zM} {ins : Instr} {len : Nat} (d : decode (zb y) pc = .ok (ins, len)) (hl : len = zlen ins len) : zGo al y pc ls st m = zGoc al y m (zstep al y ins pc ls st m) := by
  rw [zGo_eq]
  unfold zat
  rw [d]
  show zGoc al y m (if len = zlen ins len then zstep al y ins pc ls st m else none) = _
  rw [if_pos hl]
/-- what a run without fuel says of the real machine -/
theorem zGo_met {l : Launch} {b : Nat} {ro : Nat → Nat} {cA : Nat → ClassId} {D : va_G} (hl : l.stackTraces = false) {al : Bool} {y : Nat} {as : List Value} {m : zM} {res : zRes} {m1 : zM} (hy : y < 237) (ha : zarg as = true) (hlen : as.length ≤ zl y) (hm : zwf m) (hfr : al = true → zfr m) (h : zGo al y 0 (zent y as) [] m = some (res, m1)) :
    vx_Met l (zy y) (zws y) (zrm y (m1.2.2.1.1 - m.2.2.1.1 + zth res) (m1.2.2.1.2 - m.2.2.1.2 + 6 * zth res)) (zPc b ro cA D al m as) (zQ b ro cA D al res m1) (zXC b ro cA D res m1) (m1.2.2.1.1 - m.2.2.1.1 + zth res) (m1.2.2.1.2 - m.2.2.1.2 + 6 * zth res) (zA b) := by
  obtain ⟨n, hn⟩ := zGo_iff.mp h
  exact zsound hl n al y as m res m1 hy ha hlen hm hfr hn
