/-! part 99m: the small machine over a memory of lists (for the constructors) -/
abbrev zDt : Type := Nat × Nat × List (Nat × Nat) × List (Nat × Nat × Nat) × List (Nat × Nat × Int32)
def dI : List (Nat × Nat × Int32) → Nat → Nat → Int32
  | [], _, _ => 0
  | q :: l, a, j => if a = q.1 ∧ j = q.2.1 then q.2.2 else dI l a j
def dR : List (Nat × Nat × Nat) → Nat → Nat → Option Nat
  | [], _, _ => none
  | q :: l, a, j => if a = q.1 ∧ j = q.2.1 then some q.2.2 else dR l a j
def dS (n : Nat) (S : List (Nat × Nat)) (o : Nat) : Nat × Nat := if o < n then S.getD (n - 1 - o) (99, 0) else if o = 1048576 then (21, 7) else if o = 1048577 then (22, 7) else (99, 0)
def zdM (d : zDt) : zM := (fun o => dS d.1 d.2.2.1 o, fun a j => dR d.2.2.2.1 a j, (d.1, d.2.1), fun a j => dI d.2.2.2.2 a j, fun _ _ => 0, fun _ _ => 0)
def ddI (d : zDt) (o k : Nat) (x : Int32) : zDt := (d.1, d.2.1, d.2.2.1, d.2.2.2.1, (o, k, x) :: d.2.2.2.2)
def ddR (d : zDt) (o k v : Nat) : zDt := (d.1, d.2.1, d.2.2.1, (o, k, v) :: d.2.2.2.1, d.2.2.2.2)
def ddN (d : zDt) (t n w : Nat) : zDt := (d.1 + 1, d.2.1 + w, (t, n) :: d.2.2.1, d.2.2.2.1, d.2.2.2.2)
theorem zdM_I {d : zDt} {o k : Nat} {x : Int32} : zsI (zdM d) o k x = zdM (ddI d o k x) := rfl
theorem zdM_R {d : zDt} {o k v : Nat} : zsR (zdM d) o k (some v) = zdM (ddR d o k v) := rfl
theorem zdM_N {d : zDt} {t n w : Nat} : zmk (zdM d) t n w = zdM (ddN d t n w) := by
  have h : (fun o => if o = d.1 then (t, n) else dS d.1 d.2.2.1 o) = fun o => dS (d.1 + 1) ((t, n) :: d.2.2.1) o := by
    funext o
    unfold dS
    by_cases e : o = d.1
    · subst e
      rw [if_pos rfl, if_pos (Nat.lt_succ_self _), show d.1 + 1 - 1 - d.1 = 0 by omega]
      rfl
    · rw [if_neg e]
      by_cases g : o < d.1
      · rw [if_pos g, if_pos (by omega), show d.1 + 1 - 1 - o = (d.1 - 1 - o) + 1 by omega]
        rfl
      · rw [if_neg g, if_neg (show ¬ o < d.1 + 1 by omega)]
  show ((fun o => if o = d.1 then (t, n) else dS d.1 d.2.2.1 o), _) = _
  rw [h]
  rfl
def zdq : Instr → Bool
  | .lastore => false
  | _ => true
def zdU (y : Nat) (i : Instr) (st : List Value) (d : zDt) : zDt := match i, st with
  | .putfield i, .int x :: .ref o :: _ => ddI d o (zpool (zc y) i).2.2 x
  | .putfield i, .ref v :: .ref o :: _ => ddR d o (zpool (zc y) i).2.2 v
  | .iastore, .int x :: .int i :: .ref o :: _ => ddI d o i.toNatClampNeg x
  | .bastore, .int x :: .int i :: .ref o :: _ => ddI d o i.toNatClampNeg x
  | .castore, .int x :: .int i :: .ref o :: _ => ddI d o i.toNatClampNeg x
  | .aastore, .ref v :: .int i :: .ref o :: _ => ddR d o i.toNatClampNeg v
  | .new i, _ => match zpool (zc y) i with
    | (3, c, _) => ddN d c 0 (zCl c).2.2
    | _ => d
  | .newarray ty, .int n :: _ => match ty with
    | .int => ddN d 13 n.toNatClampNeg n.toNatClampNeg
    | .boolean => ddN d 14 n.toNatClampNeg n.toNatClampNeg
    | .char => ddN d 15 n.toNatClampNeg n.toNatClampNeg
    | .long => ddN d 16 n.toNatClampNeg n.toNatClampNeg
    | _ => d
  | .anewarray i, .int n :: _ => match zpool (zc y) i with
    | (3, 6, _) => ddN d 18 n.toNatClampNeg n.toNatClampNeg
    | (3, 0, _) => ddN d 19 n.toNatClampNeg n.toNatClampNeg
    | _ => d
  | _, _ => d
def zSe (m' : zM) (x : Option zC) : Prop := ∀ q, x = some (.inl q) → q.2.2.2 = m'
theorem zSe.no (m' : zM) : zSe m' none := fun q h => by cases h
theorem zSe.go (m' : zM) {pc : Nat} {ls st : List Value} : zSe m' (zgo pc ls st m') := fun q h => by cases h; rfl
theorem zSe.to {m' m1 : zM} (h : m1 = m') {pc : Nat} {ls st : List Value} : zSe m' (zgo pc ls st m1) := fun q e => by cases e; exact h
theorem zSe.bind {α : Type} {m' : zM} {x : Option α} {f : α → Option zC} (h : ∀ a, zSe m' (f a)) : zSe m' (x.bind f) := by
  cases x with
  | none => exact zSe.no m'
  | some a => exact h a
theorem zSe.ok {m' : zM} {c : Prop} [Decidable c] {x : Option zC} (h : c → zSe m' x) : zSe m' (zok c x) := by
  unfold zok
  split
  · exact h (by assumption)
  · exact zSe.no m'
theorem zSe.ite {m' : zM} {c : Prop} [Decidable c] {x y : Option zC} (h : zSe m' x) (h2 : zSe m' y) : zSe m' (if c then x else y) := by
  split
  · exact h
  · exact h2
theorem zSe.br {m : zM} {c : Prop} [Decidable c] {pc : Nat} {off : Int} {ls st : List Value} : zSe m (zbr c pc off ls st m) := by
  unfold zbr
  exact zSe.bind fun t => zSe.ite (zSe.go m) (zSe.go m)
theorem zSe.call {m' : zM} {y z pc : Nat} {as ls rest : List Value} : zSe m' (zcall y z pc as ls rest) := by
  unfold zcall
  split
  · intro q h; simp at h
  · exact zSe.no m'
theorem zSe.inr {m' : zM} {r : (Nat × List Value × Nat × List Value × List Value) ⊕ zRes} : zSe m' (some (.inr r)) := fun q h => by cases h
set_option maxHeartbeats 8000000 in
theorem zstep_up {al : Bool} {y : Nat} {ins : Instr} {pc : Nat} {ls st : List Value} {d : zDt} (hq : zdq ins = true) : zSe (zdM (zdU y ins st d)) (zstep al y ins pc ls st (zdM d)) := by
  revert hq
  unfold zstep
  split
  all_goals first
    | exact fun _ => zSe.no _
    | exact fun _ => zSe.go (zdM d)
    | exact fun _ => zSe.br (m := zdM d)
    | exact fun _ => zSe.bind fun _ => zSe.go (zdM d)
    | exact fun _ => zSe.bind fun _ => zSe.bind fun _ => zSe.go (zdM d)
    | exact fun _ => zSe.bind fun _ => zSe.inr
    | exact fun _ => zSe.ok fun _ => zSe.go (zdM d)
    | exact fun _ => zSe.ok fun _ => zSe.inr
    | exact fun _ => zSe.ok fun _ => zSe.bind fun _ => zSe.inr
    | exact fun _ => zSe.ok fun _ => zSe.bind fun _ => zSe.go (zdM d)
    | exact fun hq => absurd hq (by decide)
    | exact fun _ => zSe.ok fun h => zSe.to zdM_I
    | exact fun _ => zSe.ok fun h => zSe.to zdM_R
    | exact fun _ => zSe.ok fun h => zSe.ite (zSe.go (zdM d)) (zSe.ite (zSe.go (zdM d)) (zSe.no _))
    | skip
  all_goals intro hq
  all_goals first
    | (refine zSe.ite (zSe.bind fun _ => zSe.go (zdM d)) ?_; split; exact zSe.bind fun _ => zSe.go (zdM d); exact zSe.no _)
    | (split <;> first
        | exact zSe.no _
        | exact zSe.go (zdM d)
        | exact zSe.call
        | exact zSe.ok fun _ => zSe.go (zdM d)
        | exact zSe.ok fun _ => zSe.call
        | exact zSe.ok fun _ => zSe.inr
        | (rename_i e; exact zSe.ok fun h => zSe.to (by rw [zdM_N]; simp only [zdU, e]))
        | (rename_i e; exact zSe.ok fun h => zSe.to (by rw [zdM_I]; simp only [zdU, e]))
        | (rename_i e; exact zSe.ok fun h => zSe.to (by rw [zdM_R]; simp only [zdU, e]))
        | (split <;> first
            | exact zSe.no _
            | exact zSe.ok fun _ => zSe.call
            | exact zSe.ok fun _ => zSe.go (zdM d)))
    | (refine zSe.ok fun h => ?_
       split <;> first
        | exact zSe.to zdM_N
        | exact zSe.no _)
