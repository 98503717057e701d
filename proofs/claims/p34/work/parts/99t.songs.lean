/-! part 99t: the texts that sings writes: tokens -/
/-- a list as a text -/
def lGet (l : List Int) (p : Int) : Int := if 0 ≤ p then l.getD p.toNat 0 else 0
theorem lGet_app (A B : List Int) (i : Nat) : lGet (A ++ B) ((A.length : Nat) + (i : Int)) = lGet B i := by
  unfold lGet
  rw [if_pos (by omega), if_pos (by omega), show ((A.length : Nat) + (i : Int)).toNat = A.length + i by omega, Int.toNat_natCast]
  rw [List.getD_eq_getElem?_getD, List.getD_eq_getElem?_getD, List.getElem?_append_right (by omega), show A.length + i - A.length = i by omega]
theorem lGet_lt (A B : List Int) (i : Nat) (h : i < A.length) : lGet (A ++ B) i = lGet A i := by
  unfold lGet
  rw [if_pos (by omega), if_pos (by omega), List.getD_eq_getElem?_getD, List.getD_eq_getElem?_getD, List.getElem?_append_left (by omega)]
theorem lGet_end (l : List Int) {p : Int} (h : (l.length : Int) ≤ p) : lGet l p = 0 := by
  unfold lGet
  rw [if_pos (by omega), List.getD_eq_getElem?_getD, List.getElem?_eq_none (by omega)]
  rfl
/-- kind, number, ticks, letters -/
abbrev lTk := Int × Int × Int × List Int
abbrev lCl (b : Int) : lTk := (0, if b = 71 then 0 else 1, 0, [64, b])
abbrev lKy (s k : Int) : lTk := (1, if s = 35 then k else -k, 0, [s, 48 + k])
abbrev lMt (c : Int) : lTk := (2, 4 * (c - 48), 0, [77, c, 47, 52])
abbrev lNo (a l : Int) : lTk := (3, a, if l = 113 then 4 else 2, [48 + a, l])
abbrev lSn (g a : Int) : lTk := (3, a, 4, [g, 48 + a, 113])
abbrev lRe : lTk := (4, 0, 2, [114, 101])
abbrev lBa : lTk := (5, 0, 0, [124])
abbrev lOp : lTk := (6, 0, 0, [91])
abbrev lCe (n : Int) : lTk := (7, n, 0, [93, 48 + n])
def lWf (t : lTk) : Prop := (∃ b, (b = 71 ∨ b = 70) ∧ t = lCl b) ∨ (∃ s k, (s = 35 ∨ s = 98) ∧ (0 ≤ k ∧ k ≤ 7) ∧ t = lKy s k) ∨ (∃ c, (c = 49 ∨ c = 50) ∧ t = lMt c) ∨ (∃ a l, (0 ≤ a ∧ a ≤ 9) ∧ (l = 113 ∨ l = 101) ∧ t = lNo a l) ∨ (∃ g a, (g = 94 ∨ g = 61) ∧ (0 ≤ a ∧ a ≤ 9) ∧ t = lSn g a) ∨ t = lRe ∨ t = lBa ∨ t = lOp ∨ ∃ n, (2 ≤ n ∧ n ≤ 3) ∧ t = lCe n
/-- a text T has the token t at p -/
def lTok (T : Int → Int) (p : Int) (t : lTk) : Prop := yK T p = t.1 ∧ yU T p = t.2.1 ∧ yC T p = t.2.2.1 ∧ yI T p = 0 ∧ yE T p = p + (t.2.2.2.length : Nat) ∧ T p ≠ 32
section
variable {T : Int → Int} {p : Int}
theorem lk_cl {b : Int} (hb : b = 71 ∨ b = 70) (h0 : T p = 64) (h1 : T (p + 1) = b) : lTok T p (lCl b) := by
  have k : yK T p = 0 := by unfold yK; rw [if_pos h0]
  refine ⟨k, ?_, ?_, ?_, ?_, by omega⟩
  · unfold yU
    rw [if_pos k, h1]
    rcases hb with rfl | rfl <;> decide
  · unfold yC
    rw [if_neg (by omega), if_neg (by omega)]
  · unfold yI
    rw [if_neg (by omega)]
  · unfold yE
    rw [if_pos k, if_pos (by omega)]
    rfl
theorem lk_ky {s k : Int} (hs : s = 35 ∨ s = 98) (hk : 0 ≤ k ∧ k ≤ 7) (h0 : T p = s) (h1 : T (p + 1) = 48 + k) : lTok T p (lKy s k) := by
  have e : yK T p = 1 := by
    rcases yK_cs T p with ⟨e1, e2⟩ | ⟨e1, e2⟩ | ⟨e1, e2⟩ | ⟨e1, e2⟩ | ⟨e1, e2⟩ | ⟨e1, e2⟩ | ⟨e1, e2⟩ | ⟨e1, e2⟩ | ⟨e1, e2⟩ | ⟨e1, e2⟩ | ⟨e1, e2⟩ <;> omega
  refine ⟨e, ?_, ?_, ?_, ?_, by omega⟩
  · unfold yU
    rw [if_neg (by omega), if_pos e, h0, h1]
    show _ = if s = 35 then k else -k
    rcases hs with rfl | rfl
    · rw [if_pos rfl, if_pos rfl]; omega
    · rw [if_neg (by omega), if_neg (by omega)]; omega
  · unfold yC
    rw [if_neg (by omega), if_neg (by omega)]
  · unfold yI
    rw [if_neg (by omega)]
  · unfold yE
    rw [if_neg (by omega), if_pos e, if_pos (by omega)]
    rfl
theorem lk_mt {c : Int} (hc : c = 49 ∨ c = 50) (h0 : T p = 77) (h1 : T (p + 1) = c) (h2 : T (p + 2) = 47) (h3 : T (p + 3) = 52) : lTok T p (lMt c) := by
  have e : yK T p = 2 := by
    rcases yK_cs T p with ⟨e1, e2⟩ | ⟨e1, e2⟩ | ⟨e1, e2⟩ | ⟨e1, e2⟩ | ⟨e1, e2⟩ | ⟨e1, e2⟩ | ⟨e1, e2⟩ | ⟨e1, e2⟩ | ⟨e1, e2⟩ | ⟨e1, e2⟩ | ⟨e1, e2⟩ <;> omega
  have em : yMet (T (p + 1)) (T (p + 2)) (T (p + 3)) = 4 * (c - 48) := by
    unfold yMet
    rw [h1, h2, h3, if_pos (by omega)]
  refine ⟨e, ?_, ?_, ?_, ?_, by omega⟩
  · unfold yU
    rw [if_neg (by omega), if_neg (by omega), if_pos e, em]
  · unfold yC
    rw [if_neg (by omega), if_neg (by omega)]
  · unfold yI
    rw [if_neg (by omega)]
  · unfold yE
    rw [if_neg (by omega), if_neg (by omega), if_pos e, em, if_neg (by omega)]
    rfl
theorem lk_no {a l : Int} (hp : 0 ≤ p) (ha : 0 ≤ a ∧ a ≤ 9) (hl : l = 113 ∨ l = 101) (h0 : T p = 48 + a) (h1 : T (p + 1) = l) (h2 : T (p + 2) ≠ 46 ∧ T (p + 2) ≠ 126) : lTok T p (lNo a l) := by
  have e : yK T p = 3 := by
    rcases yK_cs T p with ⟨e1, e2⟩ | ⟨e1, e2⟩ | ⟨e1, e2⟩ | ⟨e1, e2⟩ | ⟨e1, e2⟩ | ⟨e1, e2⟩ | ⟨e1, e2⟩ | ⟨e1, e2⟩ | ⟨e1, e2⟩ | ⟨e1, e2⟩ | ⟨e1, e2⟩ <;> omega
  have na : yNa T p = p := by
    unfold yNa
    rcases ySg_cs (T p) with ⟨s, _⟩ | ⟨s, _⟩ | ⟨s, _⟩ | ⟨_, s⟩
    · omega
    · omega
    · omega
    · rw [s]; exact Int.add_zero p
  have nm : yNm T p = 0 := by
    unfold yNm
    rw [if_neg (by omega)]
  have nb : yNb T p = p := by
    unfold yNb
    rw [na, nm, Int.add_zero]
  have de : yDe T p = p + 1 := by
    unfold yDe
    rw [if_pos (by omega), if_neg (by omega)]
  have dv : yDv T p = a := by
    unfold yDv
    rw [if_pos (by omega), if_neg (by omega)]
    omega
  have ns : yNs T p = a := by
    unfold yNs yVs
    rw [na, nm, nb, dv, if_pos rfl]
  have ne : yNe T p = p + 1 := by
    unfold yNe
    rw [nb, de]
  have no : yNo T p := by
    show yNe T p ≠ yNb T p ∧ -9 ≤ yNs T p ∧ yNs T p ≤ 19
    omega
  have p2 : p + 1 + 1 = p + 2 := by omega
  have dl : yDur l = (if l = 113 then 4 else 2) := by rcases hl with rfl | rfl <;> rfl
  have d1 : yDur l ≠ 0 := by rcases hl with rfl | rfl <;> decide
  have nt : yNt T p = p + 2 := by
    unfold yNt yTe
    rw [if_pos no, ne, p2, h1, if_neg (fun w => h2.1 w.2), if_neg d1]
  refine ⟨e, ?_, ?_, ?_, ?_, by omega⟩
  · unfold yU
    rw [if_neg (by omega), if_neg (by omega), if_neg (by omega), if_neg (by omega), if_neg (by omega), if_pos e, ns]
  · unfold yC yNl yTk
    rw [if_neg (by omega), if_pos e, if_pos no, ne, p2, h1, if_neg (fun w => h2.1 w.2), dl]
  · unfold yI yNi
    rw [if_pos e, nt, if_neg h2.2]
  · unfold yE yNi
    rw [if_neg (by omega), if_neg (by omega), if_neg (by omega), if_neg (by omega), if_neg (by omega), if_neg (by omega), if_pos e, nt, if_neg (by omega), if_neg h2.2, Int.add_zero]
    rfl
theorem lk_sn {g a : Int} (hp : 0 ≤ p) (hg : g = 94 ∨ g = 61) (ha : 0 ≤ a ∧ a ≤ 9) (h0 : T p = g) (h1 : T (p + 1) = 48 + a) (h2 : T (p + 2) = 113) (h3 : T (p + 3) ≠ 46 ∧ T (p + 3) ≠ 126) : lTok T p (lSn g a) := by
  have e : yK T p = 3 := by
    rcases yK_cs T p with ⟨e1, e2⟩ | ⟨e1, e2⟩ | ⟨e1, e2⟩ | ⟨e1, e2⟩ | ⟨e1, e2⟩ | ⟨e1, e2⟩ | ⟨e1, e2⟩ | ⟨e1, e2⟩ | ⟨e1, e2⟩ | ⟨e1, e2⟩ | ⟨e1, e2⟩ <;> omega
  have na : yNa T p = p + 1 := by
    unfold yNa
    rcases ySg_cs (T p) with ⟨_, s⟩ | ⟨_, s⟩ | ⟨_, s⟩ | ⟨s, _⟩
    · rw [s]; rfl
    · rw [s]; rfl
    · rw [s]; rfl
    · omega
  have nm : yNm T (p + 1) = 0 := by
    unfold yNm
    rw [if_neg (by omega)]
  have nb : yNb T p = p + 1 := by
    unfold yNb
    rw [na, nm, Int.add_zero]
  have p2 : p + 1 + 1 = p + 2 := by omega
  have p3 : p + 2 + 1 = p + 3 := by omega
  have de : yDe T (p + 1) = p + 2 := by
    unfold yDe
    rw [p2, if_pos (by omega), if_neg (by omega)]
  have dv : yDv T (p + 1) = a := by
    unfold yDv
    rw [p2, if_pos (by omega), if_neg (by omega)]
    omega
  have ns : yNs T p = a := by
    unfold yNs yVs
    rw [na, nm, nb, dv, if_pos rfl]
  have ne : yNe T p = p + 2 := by
    unfold yNe
    rw [nb, de]
  have no : yNo T p := by
    show yNe T p ≠ yNb T p ∧ -9 ≤ yNs T p ∧ yNs T p ≤ 19
    omega
  have nt : yNt T p = p + 3 := by
    unfold yNt yTe
    rw [if_pos no, ne, p3, h2, if_neg (fun w => h3.1 w.2), if_neg (by decide)]
  refine ⟨e, ?_, ?_, ?_, ?_, by omega⟩
  · unfold yU
    rw [if_neg (by omega), if_neg (by omega), if_neg (by omega), if_neg (by omega), if_neg (by omega), if_pos e, ns]
  · unfold yC yNl yTk
    rw [if_neg (by omega), if_pos e, if_pos no, ne, p3, h2, if_neg (fun w => h3.1 w.2)]
    rfl
  · unfold yI yNi
    rw [if_pos e, nt, if_neg h3.2]
  · unfold yE yNi
    rw [if_neg (by omega), if_neg (by omega), if_neg (by omega), if_neg (by omega), if_neg (by omega), if_neg (by omega), if_pos e, nt, if_neg (by omega), if_neg h3.2, Int.add_zero]
    rfl
theorem lk_re (h0 : T p = 114) (h1 : T (p + 1) = 101) (h2 : T (p + 2) ≠ 46) : lTok T p lRe := by
  have e : yK T p = 4 := by
    rcases yK_cs T p with ⟨e1, e2⟩ | ⟨e1, e2⟩ | ⟨e1, e2⟩ | ⟨e1, e2⟩ | ⟨e1, e2⟩ | ⟨e1, e2⟩ | ⟨e1, e2⟩ | ⟨e1, e2⟩ | ⟨e1, e2⟩ | ⟨e1, e2⟩ | ⟨e1, e2⟩ <;> omega
  refine ⟨e, ?_, ?_, ?_, ?_, by omega⟩
  · unfold yU
    rw [if_neg (by omega), if_neg (by omega), if_neg (by omega), if_neg (by omega), if_neg (by omega), if_neg (by omega)]
  · unfold yC yTk
    rw [if_pos e, h1, if_neg (fun w => h2 w.2)]
    rfl
  · unfold yI
    rw [if_neg (by omega)]
  · unfold yE yTe
    rw [if_neg (by omega), if_neg (by omega), if_neg (by omega), if_pos e, h1, if_neg (fun w => h2 w.2), if_neg (by decide), show p + 1 + 1 = p + 2 by omega]
    rfl
theorem lk_b {c k : Int} (hc : c = 124 ∧ k = 5 ∨ c = 91 ∧ k = 6) (h0 : T p = c) : lTok T p (k, 0, 0, [c]) := by
  have e : yK T p = k := by
    rcases yK_cs T p with ⟨e1, e2⟩ | ⟨e1, e2⟩ | ⟨e1, e2⟩ | ⟨e1, e2⟩ | ⟨e1, e2⟩ | ⟨e1, e2⟩ | ⟨e1, e2⟩ | ⟨e1, e2⟩ | ⟨e1, e2⟩ | ⟨e1, e2⟩ | ⟨e1, e2⟩ <;> omega
  refine ⟨e, ?_, ?_, ?_, ?_, by omega⟩
  · unfold yU
    rw [if_neg (by omega), if_neg (by omega), if_neg (by omega), if_neg (by omega), if_neg (by omega), if_neg (by omega)]
  · unfold yC
    rw [if_neg (by omega), if_neg (by omega)]
  · unfold yI
    rw [if_neg (by omega)]
  · unfold yE
    rw [if_neg (by omega), if_neg (by omega), if_neg (by omega), if_neg (by omega), if_neg (by omega), if_neg (by omega), if_neg (by omega)]
    rfl
theorem lk_ce {n : Int} (hn : 2 ≤ n ∧ n ≤ 3) (h0 : T p = 93) (h1 : T (p + 1) = 48 + n) : lTok T p (lCe n) := by
  have e : yK T p = 7 := by
    rcases yK_cs T p with ⟨e1, e2⟩ | ⟨e1, e2⟩ | ⟨e1, e2⟩ | ⟨e1, e2⟩ | ⟨e1, e2⟩ | ⟨e1, e2⟩ | ⟨e1, e2⟩ | ⟨e1, e2⟩ | ⟨e1, e2⟩ | ⟨e1, e2⟩ | ⟨e1, e2⟩ <;> omega
  refine ⟨e, ?_, ?_, ?_, ?_, by omega⟩
  · unfold yU
    rw [if_neg (by omega), if_neg (by omega), if_neg (by omega), if_pos e, h1]
    show 48 + n - 48 = n
    omega
  · unfold yC
    rw [if_neg (by omega), if_neg (by omega)]
  · unfold yI
    rw [if_neg (by omega)]
  · unfold yE
    rw [if_neg (by omega), if_neg (by omega), if_neg (by omega), if_neg (by omega), if_pos e, if_pos (by omega)]
    rfl
theorem lTok_of {t : lTk} (hp : 0 ≤ p) (hw : lWf t) (hT : ∀ i : Nat, i < t.2.2.2.length → T (p + i) = lGet t.2.2.2 i) (hn : T (p + (t.2.2.2.length : Nat)) ≠ 46 ∧ T (p + (t.2.2.2.length : Nat)) ≠ 126) : lTok T p t := by
  have z : ∀ q : Int, p + ((0 : Nat) : Int) = p := fun _ => Int.add_zero p
  rcases hw with ⟨b, hb, rfl⟩ | ⟨s, k, hs, hk, rfl⟩ | ⟨c, hc, rfl⟩ | ⟨a, l, ha, hl, rfl⟩ | ⟨g, a, hg, ha, rfl⟩ | rfl | rfl | rfl | ⟨n, h2, rfl⟩
  · exact lk_cl hb ((congrArg T (z 0)).symm.trans (hT 0 (Nat.le_of_ble_eq_true rfl))) (hT 1 (Nat.le_of_ble_eq_true rfl))
  · exact lk_ky hs hk ((congrArg T (z 0)).symm.trans (hT 0 (Nat.le_of_ble_eq_true rfl))) (hT 1 (Nat.le_of_ble_eq_true rfl))
  · exact lk_mt hc ((congrArg T (z 0)).symm.trans (hT 0 (Nat.le_of_ble_eq_true rfl))) (hT 1 (Nat.le_of_ble_eq_true rfl)) (hT 2 (Nat.le_of_ble_eq_true rfl)) (hT 3 (Nat.le_of_ble_eq_true rfl))
  · exact lk_no hp ha hl ((congrArg T (z 0)).symm.trans (hT 0 (Nat.le_of_ble_eq_true rfl))) (hT 1 (Nat.le_of_ble_eq_true rfl)) hn
  · exact lk_sn hp hg ha ((congrArg T (z 0)).symm.trans (hT 0 (Nat.le_of_ble_eq_true rfl))) (hT 1 (Nat.le_of_ble_eq_true rfl)) (hT 2 (Nat.le_of_ble_eq_true rfl)) hn
  · exact lk_re ((congrArg T (z 0)).symm.trans (hT 0 (Nat.le_of_ble_eq_true rfl))) (hT 1 (Nat.le_of_ble_eq_true rfl)) hn.1
  · exact lk_b (Or.inl ⟨rfl, rfl⟩) ((congrArg T (z 0)).symm.trans (hT 0 (Nat.le_of_ble_eq_true rfl)))
  · exact lk_b (Or.inr ⟨rfl, rfl⟩) ((congrArg T (z 0)).symm.trans (hT 0 (Nat.le_of_ble_eq_true rfl)))
  · exact lk_ce h2 ((congrArg T (z 0)).symm.trans (hT 0 (Nat.le_of_ble_eq_true rfl))) (hT 1 (Nat.le_of_ble_eq_true rfl))
end
/-- the letters of tokens -/
def lFl : List lTk → List Int
  | [] => []
  | t :: ts => t.2.2.2 ++ lFl ts
theorem lFl_app : ∀ (a b : List lTk), lFl (a ++ b) = lFl a ++ lFl b
  | [], _ => rfl
  | t :: a, b => by
    show t.2.2.2 ++ lFl (a ++ b) = (t.2.2.2 ++ lFl a) ++ lFl b
    rw [lFl_app a b, List.append_assoc]
/-- a property of tokens and their numbers, from k on -/
def lA (Q : Int → lTk → Prop) : Int → List lTk → Prop
  | _, [] => True
  | k, t :: ts => Q k t ∧ lA Q (k + 1) ts
theorem lA_app {Q : Int → lTk → Prop} : ∀ (a b : List lTk) (k : Int), lA Q k (a ++ b) ↔ lA Q k a ∧ lA Q (k + (a.length : Nat)) b
  | [], b, k => by
    show lA Q k b ↔ True ∧ lA Q (k + ((0 : Nat) : Int)) b
    rw [show k + ((0 : Nat) : Int) = k from Int.add_zero k]
    exact ⟨fun h => ⟨trivial, h⟩, fun h => h.2⟩
  | t :: a, b, k => by
    show (Q k t ∧ lA Q (k + 1) (a ++ b)) ↔ (Q k t ∧ lA Q (k + 1) a) ∧ lA Q (k + ((a.length + 1 : Nat) : Int)) b
    rw [lA_app a b (k + 1), show k + 1 + (a.length : Int) = k + ((a.length + 1 : Nat) : Int) by omega]
    exact ⟨fun h => ⟨⟨h.1, h.2.1⟩, h.2.2⟩, fun h => ⟨h.1.1, h.1.2, h.2⟩⟩
theorem lA_mono {Q R : Int → lTk → Prop} : ∀ (a : List lTk) (k : Int), (∀ i t, Q i t → R i t) → lA Q k a → lA R k a
  | [], _ => fun _ _ => trivial
  | _ :: a, k => fun h q => ⟨h _ _ q.1, lA_mono a (k + 1) h q.2⟩
theorem lWf_0 {t : lTk} (hw : lWf t) (r : List Int) : lGet (t.2.2.2 ++ r) 0 ≠ 32 ∧ lGet (t.2.2.2 ++ r) 0 ≠ 46 ∧ lGet (t.2.2.2 ++ r) 0 ≠ 126 ∧ 1 ≤ t.2.2.2.length := by
  have g : ∀ x : Int, ∀ l : List Int, lGet (x :: l) 0 = x := fun _ _ => rfl
  rcases hw with ⟨b, hb, rfl⟩ | ⟨s, k, hs, hk, rfl⟩ | ⟨c, hc, rfl⟩ | ⟨a, l, ha, hl, rfl⟩ | ⟨g2, a, hg, ha, rfl⟩ | rfl | rfl | rfl | ⟨n, h2, rfl⟩
  all_goals
    simp only [List.cons_append, g, List.length_cons]
    refine ⟨?_, ?_, ?_, ?_⟩ <;> omega
theorem lFl_0 {ts : List lTk} (hw : ∀ t ∈ ts, lWf t) : lGet (lFl ts) 0 ≠ 32 ∧ lGet (lFl ts) 0 ≠ 46 ∧ lGet (lFl ts) 0 ≠ 126 := by
  cases ts with
  | nil => decide
  | cons t ts =>
    have h := lWf_0 (hw t List.mem_cons_self) (lFl ts)
    exact ⟨h.1, h.2.1, h.2.2.1⟩
/-- the tokens of the text are read one behind the other -/
theorem lRead (ts : List lTk) : ∀ (A : List Int) (k : Int) (T : Int → Int), T = lGet (A ++ lFl ts) → (∀ t ∈ ts, lWf t) → 0 ≤ k → yP T k = (A.length : Nat) → lA (fun j t => lTok T (yP T j) t ∧ 0 ≤ yP T j ∧ yP T j < ((A ++ lFl ts).length : Nat)) k ts ∧ yP T (k + (ts.length : Nat)) = ((A ++ lFl ts).length : Nat) := by
  induction ts with
  | nil =>
    intro A k T hT hw hk hp
    refine ⟨trivial, ?_⟩
    show yP T (k + ((0 : Nat) : Int)) = ((A ++ []).length : Nat)
    rw [show k + ((0 : Nat) : Int) = k from Int.add_zero k, hp, List.append_nil]
  | cons t ts ih =>
    intro A k T hT hw hk hp
    have hwt := hw t List.mem_cons_self
    have hws : ∀ t ∈ ts, lWf t := fun s hs => hw s (List.mem_cons_of_mem _ hs)
    have e1 : A ++ lFl (t :: ts) = (A ++ t.2.2.2) ++ lFl ts := (List.append_assoc _ _ _).symm
    have f0 := lFl_0 hws
    have g1 : ∀ i : Nat, T ((A.length : Nat) + (i : Int)) = lGet (t.2.2.2 ++ lFl ts) i := fun i => by
      rw [hT]
      exact lGet_app A (t.2.2.2 ++ lFl ts) i
    have gn : T ((A.length : Nat) + ((t.2.2.2.length : Nat) : Int)) = lGet (lFl ts) 0 := by
      rw [g1]
      have := lGet_app t.2.2.2 (lFl ts) 0
      rw [show ((t.2.2.2.length : Nat) : Int) + ((0 : Nat) : Int) = ((t.2.2.2.length : Nat) : Int) from Int.add_zero _] at this
      exact this
    have ht : lTok T (yP T k) t := by
      rw [hp]
      refine lTok_of (by omega) hwt (fun i hi => ?_) (by rw [gn]; exact f0.2)
      rw [g1, lGet_lt _ _ i hi]
    have ee := ht.2.2.2.2.1
    rw [hp] at ee
    have hp1 : yP T (k + 1) = ((A ++ t.2.2.2).length : Nat) := by
      rw [yP_s T hk, hp, ee, skp_id (by rw [gn]; exact f0.1), List.length_append]
      omega
    obtain ⟨i1, i2⟩ := ih (A ++ t.2.2.2) (k + 1) T (by rw [hT, e1]) hws (by omega) hp1
    have hl := (lWf_0 hwt (lFl ts)).2.2.2
    rw [e1]
    refine ⟨⟨⟨ht, by omega, ?_⟩, i1⟩, ?_⟩
    · rw [hp, List.length_append, List.length_append]
      omega
    · rw [← i2]
      exact congrArg (yP T) (by rw [List.length_cons]; omega)
theorem lRead0 {ts : List lTk} (hw : ∀ t ∈ ts, lWf t) (h60 : ts.length ≤ 60) {T : Int → Int} (hT : T = lGet (lFl ts)) : lA (fun j t => lTok T (yP T j) t) 0 ts ∧ yLx T ((lFl ts).length : Nat) (ts.length : Nat) (-1) := by
  have f0 := lFl_0 hw
  have e0 : yP T 0 = (([] : List Int).length : Nat) := by
    rw [yP_0, skp_id (by rw [hT]; exact f0.1)]
    rfl
  obtain ⟨i1, i2⟩ := lRead ts [] 0 T (by rw [hT]; rfl) hw (by omega) e0
  refine ⟨lA_mono ts 0 (fun i t h => h.1) i1, ⟨by omega, by omega⟩, ?_, Or.inl ⟨?_, rfl⟩⟩
  · have key : ∀ (l : List lTk) (k : Int), lA (fun j t => lTok T (yP T j) t ∧ 0 ≤ yP T j ∧ yP T j < (([] ++ lFl ts).length : Nat)) k l → (∀ t ∈ l, lWf t) → ∀ j, k ≤ j → j < k + (l.length : Nat) → yP T j < ((lFl ts).length : Nat) ∧ yE T (yP T j) ≠ -1 := by
      intro l
      induction l with
      | nil => intro k _ _ j j0 j1; simp only [List.length_nil] at j1; omega
      | cons t l ih =>
        intro k h hwl j j0 j1
        by_cases e : j = k
        · rw [e]
          refine ⟨h.1.2.2, ?_⟩
          rw [h.1.1.2.2.2.2.1]
          have := h.1.2.1
          omega
        · exact ih (k + 1) h.2 (fun s hs => hwl s (List.mem_cons_of_mem _ hs)) j (by omega) (by rw [List.length_cons] at j1; omega)
    intro k k0 k1
    exact key ts 0 i1 hw k k0 (by omega)
  · rw [show (0 : Int) + (ts.length : Nat) = (ts.length : Nat) by omega] at i2
    rw [i2]
    exact Int.le_refl _
