/-! part 49: singing as a function of a state S: row 0 scalars (0 place, 1 depth, 2 filled, 3 bars, 4 the NOTE that is tied or -1, 5 its pitch, 6 its change, 7 fault, 8 the fault's token or -1), row 1 passes, row 2 the bar's sounds, row 3 signs, row 4 all bars, 16 sounds each; a sound: 0 a rest, a pitch, a pitch + 128 where a note begins
  tokens P: rows 0 kind, 1 number, 2 step, 3 sign, 4 ticks, 5 tie, 6 mate, 7 start; row 8: 0 how many, 1 the meter, 2 the key, 3 the text's end -/
def vst (S : zVt) (o : Nat) (f : Int → Int) : zVt := fun o2 => if o2 = o then f else S o2
theorem vst_at (S : zVt) (o : Nat) (f : Int → Int) : vst S o f o = f := if_pos rfl
theorem vst_o {S : zVt} {o o2 : Nat} {f : Int → Int} (h : o2 ≠ o) : vst S o f o2 = S o2 := if_neg h
def yCh (g : Int) : Int := if g = 1 then 1 else if g = 2 then -1 else 0
def yLp (l : Int) : Int := 2 * l - (if 2 < l then 1 else 0)
def yKey (l key : Int) : Int := if 0 < key ∧ (2 * l + 1) % 7 < key then 1 else if key < 0 ∧ 6 - (2 * l + 1) % 7 < -key then -1 else 0
def yFl (S : zVt) (f t : Int) : zVt := vup (vup S 0 7 f) 0 8 t
/-- a note's change and pitch -/
def yCg (P S : zVt) (a : Int) : Int := if S 0 4 ≠ -1 then S 0 6 else if P 3 a ≠ 0 then yCh (P 3 a) else if S 3 (P 2 a) ≠ 9 then S 3 (P 2 a) else yKey (P 2 a % 7) (P 8 2)
def yPt (P S : zVt) (a : Int) : Int := 12 * (P 2 a / 7) + yLp (P 2 a % 7) + yCg P S a
def yFil (S : zVt) (c f l : Int) : zVt := vst (vup S 0 2 (S 0 2 + c)) 2 (fun t => if S 0 2 ≤ t ∧ t < S 0 2 + c then (if t = S 0 2 then f else l) else S 2 t)
abbrev yBadTie (P S : zVt) (a : Int) : Prop := S 0 4 ≠ -1 ∧ (yPt P S a ≠ S 0 5 ∨ (P 3 a ≠ 0 ∧ yCh (P 3 a) ≠ S 0 6))
def yNote (P S : zVt) (a : Int) : zVt :=
  if yBadTie P S a then yFl S 9 (S 0 4)
  else if P 8 1 < S 0 2 + P 4 a then yFl S 7 a
  else vup (vup (vup (if P 3 a ≠ 0 then vup (yFil S (P 4 a) (if S 0 4 = -1 then yPt P S a + 128 else yPt P S a) (yPt P S a)) 3 (P 2 a) (yCh (P 3 a)) else yFil S (P 4 a) (if S 0 4 = -1 then yPt P S a + 128 else yPt P S a) (yPt P S a)) 0 4 (if P 5 a = 0 then -1 else a)) 0 5 (yPt P S a)) 0 6 (yCg P S a)
def yRest (P S : zVt) (a : Int) : zVt := if S 0 4 ≠ -1 then yFl S 9 (S 0 4) else if P 8 1 < S 0 2 + P 4 a then yFl S 7 a else yFil S (P 4 a) 0 0
/-- the bars with one more -/
def yAdd (B H : Int → Int) (nb fl mt : Int) : Int → Int := fun j => if 16 * nb ≤ j ∧ j < 16 * nb + 16 then (if mt - fl ≤ j - 16 * nb ∧ j - 16 * nb < mt then H (j - 16 * nb - (mt - fl)) else 0) else B j
def yBar (P S : zVt) (a : Int) : zVt :=
  if S 0 2 = 0 ∨ S 0 2 < P 8 1 ∧ 0 < S 0 3 then yFl S 8 a
  else if 40 ≤ S 0 3 then yFl S 10 a
  else vst (vst (vup (vup S 0 3 (S 0 3 + 1)) 0 2 0) 3 (fun _ => 9)) 4 (yAdd (S 4) (S 2) (S 0 3) (S 0 2) (P 8 1))
def yStep (P S : zVt) : zVt :=
  if P 0 (S 0 0) = 3 then vup (yNote P S (S 0 0)) 0 0 (S 0 0 + 1)
  else if P 0 (S 0 0) = 4 then vup (yRest P S (S 0 0)) 0 0 (S 0 0 + 1)
  else if P 0 (S 0 0) = 5 then vup (yBar P S (S 0 0)) 0 0 (S 0 0 + 1)
  else if P 0 (S 0 0) = 6 then vup (vup (vup S 1 (S 0 1) 1) 0 1 (S 0 1 + 1)) 0 0 (S 0 0 + 1)
  else if P 0 (S 0 0) = 7 then (if S 1 (S 0 1 - 1) < P 1 (S 0 0) then vup (vup S 1 (S 0 1 - 1) (S 1 (S 0 1 - 1) + 1)) 0 0 (P 6 (S 0 0) + 1) else vup (vup S 0 1 (S 0 1 - 1)) 0 0 (S 0 0 + 1))
  else if P 0 (S 0 0) = 8 then vup S 0 0 (if P 1 (S 0 0) = S 1 (S 0 1 - 1) then S 0 0 + 1 else P 6 (S 0 0) + 1)
  else vup S 0 0 (S 0 0 + 1)
def yFin (P S : zVt) : zVt := if S 0 4 ≠ -1 then yFl S 9 (S 0 4) else if 0 < S 0 2 then yBar P S (-1) else S
def yRun (P : zVt) : Nat → zVt → zVt
  | 0, S => S
  | n + 1, S => if S 0 0 < P 8 0 ∧ S 0 7 = 0 then yRun P n (yStep P S) else S
abbrev yDone (P S : zVt) : Prop := P 8 0 ≤ S 0 0 ∨ S 0 7 ≠ 0
/-- the state at the beginning -/
def yBeg : zVt := fun o k => if o = 0 then (if k = 0 then 3 else if k = 4 ∨ k = 8 then -1 else 0) else if o = 3 then 9 else 0
/-- the tokens are in order: depth D, opens O -/
def yTok (P : zVt) (D : Int → Int) (O : Int → Int → Int) : Prop :=
  (3 ≤ P 8 0 ∧ P 8 0 ≤ 60) ∧ (2 ≤ P 8 1 ∧ P 8 1 ≤ 16) ∧ (-7 ≤ P 8 2 ∧ P 8 2 ≤ 7) ∧ D 3 = 0 ∧ ∀ k, 3 ≤ k → k < P 8 0 →
    (0 ≤ P 0 k ∧ P 0 k ≤ 9) ∧ (0 ≤ D k ∧ D k ≤ 3) ∧ (∀ i, 0 ≤ i → i < D k → 3 ≤ O k i ∧ O k i < k) ∧
    (P 0 k = 3 → (9 ≤ P 2 k ∧ P 2 k ≤ 49) ∧ (0 ≤ P 3 k ∧ P 3 k ≤ 3) ∧ (1 ≤ P 4 k ∧ P 4 k ≤ 24) ∧ (P 5 k = 0 ∨ P 5 k = 1)) ∧
    (P 0 k = 4 → 1 ≤ P 4 k ∧ P 4 k ≤ 24) ∧
    (P 0 k = 6 → D k ≤ 2 ∧ D (k + 1) = D k + 1 ∧ O (k + 1) (D k) = k ∧ ∀ i, 0 ≤ i → i < D k → O (k + 1) i = O k i) ∧
    (P 0 k = 7 → 1 ≤ D k ∧ (2 ≤ P 1 k ∧ P 1 k ≤ 4) ∧ D (k + 1) = D k - 1 ∧ (∀ i, 0 ≤ i → i < D k - 1 → O (k + 1) i = O k i) ∧ P 6 k = O k (D k - 1) ∧ D (P 6 k + 1) = D k ∧ ∀ i, 0 ≤ i → i < D k → O (P 6 k + 1) i = O k i) ∧
    (P 0 k = 8 → 1 ≤ D k ∧ (1 ≤ P 1 k ∧ P 1 k ≤ 4) ∧ (k < P 6 k ∧ P 6 k < P 8 0) ∧ (D (P 6 k + 1) = D k ∧ ∀ i, 0 ≤ i → i < D k → O (P 6 k + 1) i = O k i) ∧ D (k + 1) = D k ∧ ∀ i, 0 ≤ i → i < D k → O (k + 1) i = O k i) ∧
    (P 0 k ≠ 6 → P 0 k ≠ 7 → D (k + 1) = D k ∧ ∀ i, 0 ≤ i → i < D k → O (k + 1) i = O k i)
abbrev yByte (b : Int) : Prop := b = 0 ∨ (15 ≤ b ∧ b ≤ 85) ∨ (143 ≤ b ∧ b ≤ 213)
def yInv (P : zVt) (D : Int → Int) (S : zVt) : Prop :=
  (3 ≤ S 0 0 ∧ S 0 0 ≤ P 8 0) ∧ S 0 1 = D (S 0 0) ∧ (0 ≤ D (S 0 0) ∧ D (S 0 0) ≤ 3) ∧ (∀ i, 0 ≤ i → i < S 0 1 → 1 ≤ S 1 i ∧ S 1 i ≤ 4) ∧ (0 ≤ S 0 2 ∧ S 0 2 ≤ P 8 1) ∧ (∀ t, 0 ≤ t → t < S 0 2 → yByte (S 2 t)) ∧ (∀ s, 0 ≤ s → s < 50 → S 3 s = 9 ∨ (-1 ≤ S 3 s ∧ S 3 s ≤ 1)) ∧ (0 ≤ S 0 3 ∧ S 0 3 ≤ 40) ∧ (S 0 4 = -1 ∨ (3 ≤ S 0 4 ∧ S 0 4 < P 8 0) ∧ (15 ≤ S 0 5 ∧ S 0 5 ≤ 85) ∧ (-1 ≤ S 0 6 ∧ S 0 6 ≤ 1)) ∧ (∀ j, 0 ≤ j → j < 16 * S 0 3 → yByte (S 4 j)) ∧ S 0 7 = 0
theorem yCh_rng (g : Int) : -1 ≤ yCh g ∧ yCh g ≤ 1 := by
  unfold yCh
  repeat' split
  all_goals omega
theorem yKey_rng (l key : Int) : -1 ≤ yKey l key ∧ yKey l key ≤ 1 := by
  unfold yKey
  repeat' split
  all_goals omega
theorem yLp_rng {l : Int} (h : 0 ≤ l ∧ l ≤ 6) : 0 ≤ yLp l ∧ yLp l ≤ 11 ∧ (2 ≤ l → 4 ≤ yLp l) := by
  unfold yLp
  split <;> omega
theorem yCg_rng {P S : zVt} {D : Int → Int} {a : Int} (h : yInv P D S) (h2 : 9 ≤ P 2 a ∧ P 2 a ≤ 49) : -1 ≤ yCg P S a ∧ yCg P S a ≤ 1 := by
  unfold yCg
  have h3 := h.2.2.2.2.2.2.1 (P 2 a) (by omega) (by omega)
  have h4 := h.2.2.2.2.2.2.2.2.1
  have h5 := yCh_rng (P 3 a)
  have h6 := yKey_rng (P 2 a % 7) (P 8 2)
  repeat' split
  all_goals omega
theorem yPt_rng {P S : zVt} {D : Int → Int} {a : Int} (h : yInv P D S) (h2 : 9 ≤ P 2 a ∧ P 2 a ≤ 49) : 15 ≤ yPt P S a ∧ yPt P S a ≤ 85 := by
  have h3 := yCg_rng h h2
  unfold yPt
  generalize yCg P S a = c at *
  have h4 := yLp_rng (l := P 2 a % 7) (by omega)
  generalize P 2 a = s at *
  unfold yLp at *
  split at h4
  · rename_i hl
    rw [if_pos hl]
    omega
  · rename_i hl
    rw [if_neg hl]
    omega
theorem yByte_fil {S : zVt} {c f l t : Int} (h1 : ∀ t, 0 ≤ t → t < S 0 2 → yByte (S 2 t)) (hf : yByte f) (hl : yByte l) (t0 : 0 ≤ t) (t1 : t < S 0 2 + c) : yByte (yFil S c f l 2 t) := by
  unfold yFil
  rw [vst_at]
  show yByte (if _ then _ else _)
  split
  · split <;> assumption
  · exact h1 t t0 (by omega)
theorem yByte_add {B H : Int → Int} {nb fl mt j : Int} (h1 : ∀ t, 0 ≤ t → t < fl → yByte (H t)) (h2 : ∀ j, 0 ≤ j → j < 16 * nb → yByte (B j)) (j0 : 0 ≤ j) (j1 : j < 16 * (nb + 1)) : yByte (yAdd B H nb fl mt j) := by
  unfold yAdd
  split
  · split
    · exact h1 _ (by omega) (by omega)
    · exact Or.inl rfl
  · exact h2 j j0 (by omega)
