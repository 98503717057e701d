/-! part 32: tools; leaf methods of the reference's reader -/
section
variable {k pc : Nat} {ls st : List Value} {m : zM} {v : Value} {e : Nat}
theorem zGor_v : zGor false k pc ls st (.inl (some v), m) = zGo false k pc ls (v :: st) m := rfl
theorem zGor_n : zGor false k pc ls st (.inl none, m) = zGo false k pc ls st m := rfl
theorem zGor_e : zGor false k pc ls st (.inr e, m) = some (.inr e, m) := rfl
end
theorem zbs {α β : Type} (a : α) (f : α → Option β) : (some a).bind f = f a := rfl
theorem zck_T (x : Option (zRes × zM)) {h : Decidable True} : @zck True h x = x := if_pos trivial
/-- the answers -/
abbrev zI1 (x : Int) (V : zVt) (J : zJt) (d : Nat → Nat → UInt64) : Option (zRes × zM) := some (.inl (some (.int (zi x))), zm V J d)
abbrev zN1 (V : zVt) (J : zJt) (d : Nat → Nat → UInt64) : Option (zRes × zM) := some (.inl none, zm V J d)
theorem vup_at (V : zVt) (o : Nat) (k x : Int) : vup V o k x o k = x := if_pos ⟨rfl, rfl⟩
theorem vup_ne {V : zVt} {o o2 : Nat} {k k2 x : Int} (h : ¬ (o2 = o ∧ k2 = k)) : vup V o k x o2 k2 = V o2 k2 := if_neg h
theorem vup_o {V : zVt} {o o2 : Nat} {k k2 x : Int} (h : o2 ≠ o) : vup V o k x o2 k2 = V o2 k2 := if_neg (fun q => h q.1)
theorem vup_k {V : zVt} {o : Nat} {k k2 x : Int} (h : k2 ≠ k) : vup V o k x o k2 = V o k2 := if_neg (fun q => h q.2)
theorem vup_vup (V : zVt) (o : Nat) (k x y : Int) : vup (vup V o k x) o k y = vup V o k y := by
  funext a b
  unfold vup
  by_cases h : a = o ∧ b = k
  · rw [if_pos h, if_pos h]
  · rw [if_neg h, if_neg h, if_neg h]
theorem vup_fn {V : zVt} {o o2 : Nat} {k x : Int} (h : o2 ≠ o) : vup V o k x o2 = V o2 := by
  funext b
  exact vup_o h
theorem qdiv_p {a b : Int} (ha : 0 ≤ a ∧ a < 2147483648) (hb : 0 < b ∧ b < 2147483648) : qdiv a b = a / b := by
  unfold qdiv
  rw [Int32.toInt_div, Int32.toInt_ofInt, Int32.toInt_ofInt]
  have e : (Int32.size : Int) = 4294967296 := rfl
  have e1 : a.bmod Int32.size = a := Int.bmod_eq_of_le (by rw [e]; omega) (by rw [e]; omega)
  have e2 : b.bmod Int32.size = b := Int.bmod_eq_of_le (by rw [e]; omega) (by rw [e]; omega)
  rw [e1, e2, Int.tdiv_eq_ediv_of_nonneg ha.1]
  have h1 : 0 ≤ a / b := Int.ediv_nonneg ha.1 (by omega)
  have h2 : a / b ≤ a := Int.ediv_le_self b ha.1
  exact Int.bmod_eq_of_le (by omega) (by omega)
/-- a letter of a part's text, as the reference has it -/
def zt (V : zVt) (w p : Int) : Int := if p < V 432 w then V 431 (160 * w + p) else 0
/-- the lengths are in order -/
def zTx (V : zVt) : Prop := ∀ w, 0 ≤ w → w < 12 → (0 ≤ V 432 w ∧ V 432 w ≤ 160) ∧ ∀ p, 0 ≤ p → p < V 432 w → 32 ≤ V 431 (160 * w + p) ∧ V 431 (160 * w + p) ≤ 126
theorem zTx_v {V : zVt} {o : Nat} {k x : Int} (h1 : o ≠ 431) (h2 : o ≠ 432) (h : zTx V) : zTx (vup V o k x) := by
  intro w hw hw2
  simp only [vup_o h1.symm, vup_o h2.symm]
  exact h w hw hw2
theorem zt_v {V : zVt} {o : Nat} {k x w p : Int} (h1 : o ≠ 431) (h2 : o ≠ 432) : zt (vup V o k x) w p = zt V w p := by
  unfold zt
  rw [vup_o h1.symm, vup_o h2.symm]
theorem zt_rng {V : zVt} (h : zTx V) {w p : Int} (hw : 0 ≤ w ∧ w < 12) (hp : 0 ≤ p) : 0 ≤ zt V w p ∧ zt V w p ≤ 126 := by
  unfold zt
  split
  · have := (h w hw.1 hw.2).2 p hp (by assumption)
    omega
  · omega
section
variable {V : zVt} {J : zJt} {d : Nat → Nat → UInt64}
theorem sp158 {a b c : Int} (ha : -100000 ≤ a ∧ a < 100000) (hb : 0 ≤ b ∧ b < 100) (hc : 0 ≤ c ∧ c < 100) : zGo false 158 0 [.int (zi a), .int (zi b), .int (zi c)] [] (zm V J d) = zI1 (if 48 + b ≤ a ∧ a ≤ 48 + c then 1 else 0) V J d := by
  repeat' first
    | simp (disch := first | omega | assumption | (apply zTx_v <;> first | omega | assumption | (apply zTx_v <;> first | omega | assumption))) only [qw_id, zck_t, zGor_v, zGor_n, zGor_e, zbs, vup_at, vup_vup, true_or, or_true, and_true, true_and, zck_T]
    | split
    | rw [ze_158_0] | rw [ze_158_20] | rw [ze_158_21]
  all_goals first
    | rfl
    | (exfalso; omega)
    | (exfalso; simp_all; done)
    | skip
theorem sp147 {a b : Int} (ha : -2147483648 ≤ a ∧ a < 2147483648) (hb : -2147483648 ≤ b ∧ b < 2147483648) : zGo false 147 0 [.int (zi a), .int (zi b)] [] (zm V J d) = zI1 (if 0 ≤ a ∧ a < b then 1 else 0) V J d := by
  repeat' first
    | simp (disch := first | omega | assumption | (apply zTx_v <;> first | omega | assumption | (apply zTx_v <;> first | omega | assumption))) only [qw_id, zck_t, zGor_v, zGor_n, zGor_e, zbs, vup_at, vup_vup, true_or, or_true, and_true, true_and, zck_T]
    | split
    | rw [ze_147_0] | rw [ze_147_13] | rw [ze_147_14]
  all_goals first
    | rfl
    | (exfalso; omega)
    | (exfalso; simp_all; done)
    | skip
theorem sp148 {a b c : Int} (ha : -2147483648 ≤ a ∧ a < 2147483648) (hb : -2147483648 ≤ b ∧ b < 2147483648) (hc : -2147483648 ≤ c ∧ c < 2147483648) : zGo false 148 0 [.int (zi a), .int (zi b), .int (zi c)] [] (zm V J d) = zI1 (if b ≤ a ∧ a ≤ c then 1 else 0) V J d := by
  repeat' first
    | simp (disch := first | omega | assumption | (apply zTx_v <;> first | omega | assumption | (apply zTx_v <;> first | omega | assumption))) only [qw_id, zck_t, zGor_v, zGor_n, zGor_e, zbs, vup_at, vup_vup, true_or, or_true, and_true, true_and, zck_T]
    | split
    | rw [ze_148_0] | rw [ze_148_14] | rw [ze_148_15]
  all_goals first
    | rfl
    | (exfalso; omega)
    | (exfalso; simp_all; done)
    | skip
theorem sp155 (h : zTx V) {w p : Int} (hw : 0 ≤ w ∧ w < 12) (hp : 0 ≤ p ∧ p < 100000) : zGo false 155 0 [.ref 430, .int (zi w), .int (zi p)] [] (zm V J d) = zI1 (zt V w p) V J d := by
  have h1 := (h w hw.1 hw.2).1
  unfold zt
  repeat' first
    | simp (disch := first | omega | assumption | (apply zTx_v <;> first | omega | assumption | (apply zTx_v <;> first | omega | assumption))) only [qw_id, zck_t, zGor_v, zGor_n, zGor_e, zbs, vup_at, vup_vup, true_or, or_true, and_true, true_and, zck_T]
    | split
    | rw [ze_155_0] | rw [ze_155_26]
  all_goals first
    | rfl
    | (exfalso; omega)
    | (exfalso; simp_all; done)
    | skip
end
/-- a length's ticks by its letter, then with a point -/
def yDur (c : Int) : Int := if c = 119 then 16 else if c = 104 then 8 else if c = 113 then 4 else if c = 101 then 2 else if c = 115 then 1 else 0
def yTk (c n : Int) : Int := if 1 < yDur c ∧ n = 46 then yDur c + yDur c / 2 else yDur c
def yTe (c n p : Int) : Int := if 1 < yDur c ∧ n = 46 then p + 2 else if yDur c = 0 then -1 else p + 1
theorem yDur_cs (c : Int) : (c = 119 ∧ yDur c = 16) ∨ (c = 104 ∧ yDur c = 8) ∨ (c = 113 ∧ yDur c = 4) ∨ (c = 101 ∧ yDur c = 2) ∨ (c = 115 ∧ yDur c = 1) ∨ ((c ≠ 119 ∧ c ≠ 104 ∧ c ≠ 113 ∧ c ≠ 101 ∧ c ≠ 115) ∧ yDur c = 0) := by
  unfold yDur
  repeat' split
  all_goals omega
theorem yDur_rng (c : Int) : 0 ≤ yDur c ∧ yDur c ≤ 16 := by
  unfold yDur
  repeat' split
  all_goals omega
section
variable {V : zVt} {J : zJt} {d : Nat → Nat → UInt64}
theorem sp161 (h : zTx V) {w p : Int} (hw : 0 ≤ w ∧ w < 12) (hp : 0 ≤ p ∧ p < 10000) : zGo false 161 0 [.ref 430, .int (zi w), .int (zi p), .null] [] (zm V J d) = zI1 (yTe (zt V w p) (zt V w (p + 1)) p) (vup V 430 12 (yTk (zt V w p) (zt V w (p + 1)))) J d := by
  have r1 := zt_rng h hw hp.1
  have r2 := zt_rng h hw (show 0 ≤ p + 1 by omega)
  unfold yTe yTk
  rcases yDur_cs (zt V w p) with ⟨e1, e2⟩ | ⟨e1, e2⟩ | ⟨e1, e2⟩ | ⟨e1, e2⟩ | ⟨e1, e2⟩ | ⟨e1, e2⟩
  all_goals rw [e2]
  all_goals clear e2
  all_goals
    repeat' first
      | (exfalso; omega)
      | simp (disch := first | omega | assumption | (apply zTx_v <;> first | omega | assumption | (apply zTx_v <;> first | omega | assumption))) only [sp155, zt_v, qdiv_p, qw_id, zck_t, zGor_v, zGor_n, zGor_e, zbs, vup_at, vup_vup, true_or, or_true, and_true, true_and, zck_T]
      | split
      | rw [ze_161_0] | rw [ze_161_6] | rw [ze_161_61] | rw [ze_161_80] | rw [ze_161_104] | rw [ze_161_118]
    all_goals first
      | rfl
      | (exfalso; omega)
      | (exfalso; simp_all; done)
      | skip
theorem sp157 {a b c : Int} (hn : 0 ≤ V 430 10 ∧ V 430 10 < 60) : zGo false 157 0 [.ref 430, .int (zi a), .int (zi b), .int (zi c)] [] (zm V J d) = zI1 c (vup (vup (vup (vup (vup V 433 (V 430 10) a) 435 (V 430 10) b) 436 (V 430 10) 0) 437 (V 430 10) 0) 438 (V 430 10) 0) J d := by
  repeat' first
    | simp (disch := first | omega | assumption | (apply zTx_v <;> first | omega | assumption | (apply zTx_v <;> first | omega | assumption))) only [vup_o, qw_id, zck_t, zGor_v, zGor_n, zGor_e, zbs, vup_at, vup_vup, true_or, or_true, and_true, true_and, zck_T]
    | split
    | rw [ze_157_0]
  all_goals first
    | rfl
    | (exfalso; omega)
    | (exfalso; simp_all; done)
    | skip
end
/-- the five cells that a token's reading writes -/
def yIs (V : zVt) (n a b s t i : Int) : zVt := vup (vup (vup (vup (vup V 433 n a) 435 n b) 436 n s) 437 n t) 438 n i
section
variable {V : zVt} {J : zJt} {d : Nat → Nat → UInt64}
theorem sp157' {a b c : Int} (hn : 0 ≤ V 430 10 ∧ V 430 10 < 60) : zGo false 157 0 [.ref 430, .int (zi a), .int (zi b), .int (zi c)] [] (zm V J d) = zI1 c (yIs V (V 430 10) a b 0 0 0) J d := sp157 hn
def yMet (c1 c2 c3 : Int) : Int := if (49 ≤ c1 ∧ c1 ≤ 57) ∧ c2 = 47 ∧ c3 = 52 ∧ 4 * (c1 - 48) ≤ 16 then 4 * (c1 - 48) else if (49 ≤ c1 ∧ c1 ≤ 57) ∧ c2 = 47 ∧ c3 = 56 ∧ 2 * (c1 - 48) ≤ 16 then 2 * (c1 - 48) else 0
theorem yMet_cs (c1 c2 c3 : Int) : (((49 ≤ c1 ∧ c1 ≤ 57) ∧ c2 = 47 ∧ c3 = 52 ∧ 4 * (c1 - 48) ≤ 16) ∧ yMet c1 c2 c3 = 4 * (c1 - 48)) ∨ (((49 ≤ c1 ∧ c1 ≤ 57) ∧ c2 = 47 ∧ c3 = 56 ∧ 2 * (c1 - 48) ≤ 16) ∧ yMet c1 c2 c3 = 2 * (c1 - 48)) ∨ ((¬((49 ≤ c1 ∧ c1 ≤ 57) ∧ c2 = 47 ∧ c3 = 52 ∧ 4 * (c1 - 48) ≤ 16) ∧ ¬((49 ≤ c1 ∧ c1 ≤ 57) ∧ c2 = 47 ∧ c3 = 56 ∧ 2 * (c1 - 48) ≤ 16)) ∧ yMet c1 c2 c3 = 0) := by
  unfold yMet
  repeat' split
  all_goals omega
theorem sp159 (h : zTx V) {w p : Int} (hw : 0 ≤ w ∧ w < 12) (hp : 0 ≤ p ∧ p < 10000) (hn : 0 ≤ V 430 10 ∧ V 430 10 < 60) : zGo false 159 0 [.ref 430, .int (zi w), .int (zi p), .null, .null, .null, .null] [] (zm V J d) =
    if yMet (zt V w (p + 1)) (zt V w (p + 2)) (zt V w (p + 3)) = 0 then zI1 (-1) V J d else zI1 (p + 4) (yIs V (V 430 10) 2 (yMet (zt V w (p + 1)) (zt V w (p + 2)) (zt V w (p + 3))) 0 0 0) J d := by
  have r1 := zt_rng h hw (show 0 ≤ p + 1 by omega)
  have r2 := zt_rng h hw (show 0 ≤ p + 2 by omega)
  have r3 := zt_rng h hw (show 0 ≤ p + 3 by omega)
  rcases yMet_cs (zt V w (p + 1)) (zt V w (p + 2)) (zt V w (p + 3)) with ⟨e1, e2⟩ | ⟨e1, e2⟩ | ⟨e1, e2⟩
  all_goals rw [e2]
  all_goals clear e2
  all_goals
    repeat' first
      | (exfalso; omega)
      | simp (disch := first | omega | assumption | (apply zTx_v <;> first | omega | assumption | (apply zTx_v <;> first | omega | assumption))) only [sp155, sp148, sp157', qw_id, zck_t, zGor_v, zGor_n, zGor_e, zbs, vup_at, vup_vup, true_or, or_true, and_true, true_and, zck_T]
      | split
      | rw [ze_159_0] | rw [ze_159_8] | rw [ze_159_20] | rw [ze_159_38] | rw [ze_159_47] | rw [ze_159_58] | rw [ze_159_77] | rw [ze_159_85] | rw [ze_159_92] | rw [ze_159_93] | rw [ze_159_110] | rw [ze_159_114]
    all_goals first
      | rfl
      | (exfalso; omega)
      | (exfalso; simp_all; done)
      | skip
theorem yIs_n {V : zVt} {n a b s t i k : Int} {o : Nat} (h : o ≠ 433 ∧ o ≠ 435 ∧ o ≠ 436 ∧ o ≠ 437 ∧ o ≠ 438) : yIs V n a b s t i o k = V o k := by
  unfold yIs
  rw [vup_o h.2.2.2.2, vup_o h.2.2.2.1, vup_o h.2.2.1, vup_o h.2.1, vup_o h.1]
theorem yIs_s (V : zVt) (n a b s t i s2 : Int) : vup (yIs V n a b s t i) 436 n s2 = yIs V n a b s2 t i := by
  unfold yIs
  funext o k
  simp only [vup]
  repeat' split
  all_goals first
    | rfl
    | omega
theorem yIs_t (V : zVt) (n a b s t i t2 : Int) : vup (yIs V n a b s t i) 437 n t2 = yIs V n a b s t2 i := by
  unfold yIs
  funext o k
  simp only [vup]
  repeat' split
  all_goals first
    | rfl
    | omega
theorem yIs_i (V : zVt) (n a b s t i i2 : Int) : vup (yIs V n a b s t i) 438 n i2 = yIs V n a b s t i2 := by
  unfold yIs
  exact vup_vup _ _ _ _ _
theorem yIs_i5 (V : zVt) (n a b s t i : Int) : yIs V n a b s t i 438 n = i := vup_at _ _ _ _
theorem zt_yIs (V : zVt) (n a b s t i w p : Int) : zt (yIs V n a b s t i) w p = zt V w p := by
  unfold zt
  rw [yIs_n (by decide), yIs_n (by decide)]
theorem zTx_yIs {V : zVt} (n a b s t i : Int) (h : zTx V) : zTx (yIs V n a b s t i) := by
  intro w h1 h2
  have := h w h1 h2
  rw [yIs_n (by decide)]
  refine ⟨this.1, fun p hp hp2 => ?_⟩
  rw [yIs_n (by decide)]
  exact this.2 p hp hp2
theorem sp160 (h : zTx V) {w p : Int} (hw : 0 ≤ w ∧ w < 12) (hp : 0 ≤ p ∧ p < 9000) (hn : 0 ≤ V 430 10 ∧ V 430 10 < 60) : zGo false 160 0 [.ref 430, .int (zi w), .int (zi p), .null] [] (zm V J d) =
    if yTk (zt V w (p + 1)) (zt V w (p + 2)) = 0 then zI1 (-1) (vup V 430 12 0) J d else zI1 (yTe (zt V w (p + 1)) (zt V w (p + 2)) (p + 1)) (yIs (vup V 430 12 (yTk (zt V w (p + 1)) (zt V w (p + 2)))) (V 430 10) 4 0 0 (yTk (zt V w (p + 1)) (zt V w (p + 2))) 0) J d := by
  have e0 := sp161 (J := J) (d := d) h hw (p := p + 1) (by omega)
  rw [show p + 1 + 1 = p + 2 by omega] at e0
  have hk : yTk (zt V w (p + 1)) (zt V w (p + 2)) = 0 ↔ yTe (zt V w (p + 1)) (zt V w (p + 2)) (p + 1) = -1 := by
    have := yDur_rng (zt V w (p + 1))
    unfold yTk yTe
    repeat' split
    all_goals omega
  have hr : -1 ≤ yTe (zt V w (p + 1)) (zt V w (p + 2)) (p + 1) ∧ yTe (zt V w (p + 1)) (zt V w (p + 2)) (p + 1) ≤ p + 3 := by
    unfold yTe
    repeat' split
    all_goals omega
  generalize yTe (zt V w (p + 1)) (zt V w (p + 2)) (p + 1) = e at *
  generalize yTk (zt V w (p + 1)) (zt V w (p + 2)) = t at *
  repeat' first
    | (exfalso; omega)
    | simp (disch := first | omega | assumption | (apply zTx_v <;> first | omega | assumption | (apply zTx_v <;> first | omega | assumption))) only [e0, sp157', vup_o, yIs_n, yIs_t, qw_id, zck_t, zGor_v, zGor_n, zGor_e, zbs, vup_at, vup_vup, true_or, or_true, and_true, true_and, zck_T]
    | split
    | rw [ze_160_0] | rw [ze_160_8] | rw [ze_160_23]
  all_goals first
    | rfl
    | (exfalso; omega)
    | (exfalso; simp_all; done)
    | skip
  all_goals skip
end
