/-! part 97: sets of singers as bits -/
theorem zi_N {x : Nat} (hx : x < 65536) : (zi (x : Int)).toBitVec.toNat = x := by
  rw [zi_nI (by omega), Int.toNat_natCast, pk_tn (by omega)]
theorem qor_N {x y : Nat} (hx : x < 65536) (hy : y < 65536) : qor (x : Int) (y : Int) = ((x ||| y : Nat) : Int) := by
  have e3 : (zi (x : Int) ||| zi (y : Int)).toBitVec.toNat = x ||| y := by
    rw [Int32.toBitVec_or, BitVec.toNat_or, zi_N hx, zi_N hy]
  have hlt : x ||| y < 2 ^ 16 := Nat.or_lt_two_pow (by omega) (by omega)
  unfold qor
  show (zi (x : Int) ||| zi (y : Int)).toBitVec.toInt = _
  rw [BitVec.toInt_eq_toNat_cond, e3, if_pos (by omega)]
theorem qand_N {x y : Nat} (hx : x < 65536) (hy : y < 65536) : qand (x : Int) (y : Int) = ((x &&& y : Nat) : Int) := by
  have e3 : (zi (x : Int) &&& zi (y : Int)).toBitVec.toNat = x &&& y := by
    rw [Int32.toBitVec_and, BitVec.toNat_and, zi_N hx, zi_N hy]
  have hlt : x &&& y ≤ x := Nat.and_le_left
  unfold qand
  show (zi (x : Int) &&& zi (y : Int)).toBitVec.toInt = _
  rw [BitVec.toInt_eq_toNat_cond, e3, if_pos (by omega)]
def nH (g : Int → Int) : Nat := (yHr g 16).toNat
theorem nH_i {g : Int → Int} (hg : yB01 g) : ((nH g : Nat) : Int) = yHr g 16 ∧ nH g < 65536 := by
  have r := yHr_rng hg 16 (by omega)
  unfold nH
  omega
theorem nH_bit {g : Int → Int} (hg : yB01 g) {t : Nat} (ht : t < 16) : (nH g).testBit t = decide (g t = 1) := by
  have e := yHr_bit hg (t := (t : Int)) (by omega)
  rw [Int.toNat_natCast, ← (nH_i hg).1] at e
  rw [Nat.testBit_eq_decide_div_mod_eq]
  have e2 : ((nH g / 2 ^ t % 2 : Nat) : Int) = g t := by
    rw [Int.natCast_emod, Int.natCast_ediv]
    exact e
  by_cases q : g t = 1
  · rw [decide_eq_true q]
    exact decide_eq_true (by omega)
  · rw [decide_eq_false q]
    exact decide_eq_false (by omega)
theorem nH_hi {x : Nat} (hx : x < 65536) {t : Nat} (ht : 16 ≤ t) : x.testBit t = false := by
  refine Nat.testBit_lt_two_pow (Nat.lt_of_lt_of_le hx ?_)
  exact Nat.pow_le_pow_right (n := 2) (by decide) ht
theorem nH_ext {g : Int → Int} (hg : yB01 g) {x : Nat} (hx : x < 65536) (h : ∀ t : Nat, t < 16 → x.testBit t = decide (g t = 1)) : (x : Int) = yHr g 16 := by
  rw [← (nH_i hg).1]
  congr 1
  refine Nat.eq_of_testBit_eq (fun t => ?_)
  by_cases q : t < 16
  · rw [h t q, nH_bit hg q]
  · rw [nH_hi hx (by omega), nH_hi (nH_i hg).2 (by omega)]
theorem yB01_or {g h : Int → Int} (hg : yB01 g) : yB01 (fun t => if h t = 1 then 1 else g t) := fun t t0 t1 => by
  show (if h t = 1 then 1 else g t) = 0 ∨ (if h t = 1 then 1 else g t) = 1
  split
  · exact Or.inr rfl
  · exact hg t t0 t1
theorem qor_un {g h : Int → Int} (hg : yB01 g) (hh : yB01 h) : qor (yHr g 16) (yHr h 16) = yHr (fun t => if h t = 1 then 1 else g t) 16 := by
  obtain ⟨g1, g2⟩ := nH_i hg
  obtain ⟨h1, h2⟩ := nH_i hh
  have hlt : nH g ||| nH h < 2 ^ 16 := Nat.or_lt_two_pow (by omega) (by omega)
  rw [← g1, ← h1, qor_N g2 h2]
  refine nH_ext (yB01_or hg) (by omega) (fun t ht => ?_)
  rw [Nat.testBit_or, nH_bit hg ht, nH_bit hh ht]
  show _ = decide ((if h t = 1 then 1 else g t) = 1)
  by_cases q : h t = 1
  · rw [if_pos q, decide_eq_true q]
    simp
  · rw [if_neg q, decide_eq_false q]
    simp
theorem qor_set {g : Int → Int} (hg : yB01 g) {s : Int} (hs : 0 ≤ s ∧ s < 16) : qor (yHr g 16) (qshl 1 s) = yHr (fun t => if t = s then 1 else g t) 16 := by
  obtain ⟨g1, g2⟩ := nH_i hg
  have hp : 2 ^ s.toNat < 2 ^ 16 := Nat.pow_lt_pow_right (by decide) (by omega)
  have hlt : nH g ||| 2 ^ s.toNat < 2 ^ 16 := Nat.or_lt_two_pow (by omega) hp
  rw [← g1, qshl_1 hs, qor_N g2 (by omega)]
  refine nH_ext (fun t t0 t1 => ?_) (by omega) (fun t ht => ?_)
  · show (if t = s then 1 else g t) = 0 ∨ (if t = s then 1 else g t) = 1
    split
    · exact Or.inr rfl
    · exact hg t t0 t1
  · rw [Nat.testBit_or, nH_bit hg ht, Nat.testBit_two_pow]
    show _ = decide ((if (t : Int) = s then 1 else g t) = 1)
    by_cases q : (t : Int) = s
    · rw [if_pos q, decide_eq_true (show s.toNat = t by omega)]
      simp
    · rw [if_neg q, decide_eq_false (show ¬ s.toNat = t by omega)]
      simp
theorem qand_un {g h : Int → Int} (hg : yB01 g) (hh : yB01 h) : (0 ≤ qand (yHr g 16) (yHr h 16) ∧ qand (yHr g 16) (yHr h 16) < 65536) ∧ (qand (yHr g 16) (yHr h 16) = 0 ↔ ∀ t, 0 ≤ t → t < 16 → ¬(g t = 1 ∧ h t = 1)) := by
  obtain ⟨g1, g2⟩ := nH_i hg
  obtain ⟨h1, h2⟩ := nH_i hh
  have hlt : nH g &&& nH h ≤ nH g := Nat.and_le_left
  rw [← g1, ← h1, qand_N g2 h2]
  refine ⟨by omega, ?_⟩
  constructor
  · intro e t t0 t1 ⟨q1, q2⟩
    have e2 : nH g &&& nH h = 0 := by omega
    have e3 : (nH g &&& nH h).testBit t.toNat = false := by rw [e2, Nat.zero_testBit]
    rw [Nat.testBit_and, nH_bit hg (by omega), nH_bit hh (by omega), Int.toNat_of_nonneg t0, decide_eq_true q1, decide_eq_true q2] at e3
    exact absurd e3 (by decide)
  · intro e
    have e2 : nH g &&& nH h = 0 := by
      refine Nat.eq_of_testBit_eq (fun t => ?_)
      rw [Nat.zero_testBit, Nat.testBit_and]
      by_cases q : t < 16
      · rw [nH_bit hg q, nH_bit hh q]
        have := e t (by omega) (by omega)
        by_cases q1 : g t = 1
        · rw [decide_eq_true q1, decide_eq_false (fun w => this ⟨q1, w⟩)]
          rfl
        · rw [decide_eq_false q1]
          rfl
      · rw [nH_hi g2 (by omega)]
        rfl
    omega
theorem yHr_0 {g : Int → Int} (hg : yB01 g) : yHr g 16 = 0 ↔ ∀ t, 0 ≤ t → t < 16 → g t = 0 := by
  constructor
  · intro e t t0 t1
    have h := yHr_eq hg (h := fun _ => 0) (fun _ _ _ => Or.inl rfl) 16 (by omega) (by rw [e]; rfl) t (by omega) t1
    exact h
  · intro e
    rw [yHr_cong (g := g) (h := fun _ => 0) 16 (by omega) e]
    rfl
/-- how many bits are set, of 12 -/
def pcN (x : Nat) : Nat := x % 2 + x / 2 % 2 + x / 4 % 2 + x / 8 % 2 + x / 16 % 2 + x / 32 % 2 + x / 64 % 2 + x / 128 % 2 + x / 256 % 2 + x / 512 % 2 + x / 1024 % 2 + x / 2048 % 2
def pcE (x0 : Int) : Int := (qand (((qand (((qand (x0 - (qand (qushr x0 (1)) (1431655765 : Nat))) (858993459 : Nat)) + (qand (qushr (x0 - (qand (qushr x0 (1)) (1431655765 : Nat))) (2)) (858993459 : Nat))) + (qushr ((qand (x0 - (qand (qushr x0 (1)) (1431655765 : Nat))) (858993459 : Nat)) + (qand (qushr (x0 - (qand (qushr x0 (1)) (1431655765 : Nat))) (2)) (858993459 : Nat))) (4))) (252645135 : Nat)) + (qushr (qand (((qand (x0 - (qand (qushr x0 (1)) (1431655765 : Nat))) (858993459 : Nat)) + (qand (qushr (x0 - (qand (qushr x0 (1)) (1431655765 : Nat))) (2)) (858993459 : Nat))) + (qushr ((qand (x0 - (qand (qushr x0 (1)) (1431655765 : Nat))) (858993459 : Nat)) + (qand (qushr (x0 - (qand (qushr x0 (1)) (1431655765 : Nat))) (2)) (858993459 : Nat))) (4))) (252645135 : Nat)) (8))) + (qushr ((qand (((qand (x0 - (qand (qushr x0 (1)) (1431655765 : Nat))) (858993459 : Nat)) + (qand (qushr (x0 - (qand (qushr x0 (1)) (1431655765 : Nat))) (2)) (858993459 : Nat))) + (qushr ((qand (x0 - (qand (qushr x0 (1)) (1431655765 : Nat))) (858993459 : Nat)) + (qand (qushr (x0 - (qand (qushr x0 (1)) (1431655765 : Nat))) (2)) (858993459 : Nat))) (4))) (252645135 : Nat)) + (qushr (qand (((qand (x0 - (qand (qushr x0 (1)) (1431655765 : Nat))) (858993459 : Nat)) + (qand (qushr (x0 - (qand (qushr x0 (1)) (1431655765 : Nat))) (2)) (858993459 : Nat))) + (qushr ((qand (x0 - (qand (qushr x0 (1)) (1431655765 : Nat))) (858993459 : Nat)) + (qand (qushr (x0 - (qand (qushr x0 (1)) (1431655765 : Nat))) (2)) (858993459 : Nat))) (4))) (252645135 : Nat)) (8))) (16))) (63))
theorem pcs : ∀ a : Fin 64, ∀ b : Fin 64, pcE (((64 * (a : Nat) + (b : Nat) : Nat)) : Int) = ((pcN (64 * (a : Nat) + (b : Nat)) : Nat) : Int) := by decide +kernel
theorem pcE_e {x : Nat} (hx : x < 4096) : pcE (x : Int) = ((pcN x : Nat) : Int) := by
  have h := pcs ⟨x / 64, by omega⟩ ⟨x % 64, by omega⟩
  simp only [show 64 * (x / 64) + x % 64 = x by omega] at h
  exact h
theorem yHr_pc {g : Int → Int} (hg : yB01 g) (hz : ∀ t, 12 ≤ t → t < 16 → g t = 0) : pcE (yHr g 16) = g 0 + g 1 + g 2 + g 3 + g 4 + g 5 + g 6 + g 7 + g 8 + g 9 + g 10 + g 11 := by
  have b0 := yHr_bit hg (t := 0) (by decide)
  have b1 := yHr_bit hg (t := 1) (by decide)
  have b2 := yHr_bit hg (t := 2) (by decide)
  have b3 := yHr_bit hg (t := 3) (by decide)
  have b4 := yHr_bit hg (t := 4) (by decide)
  have b5 := yHr_bit hg (t := 5) (by decide)
  have b6 := yHr_bit hg (t := 6) (by decide)
  have b7 := yHr_bit hg (t := 7) (by decide)
  have b8 := yHr_bit hg (t := 8) (by decide)
  have b9 := yHr_bit hg (t := 9) (by decide)
  have b10 := yHr_bit hg (t := 10) (by decide)
  have b11 := yHr_bit hg (t := 11) (by decide)
  have b12 := yHr_bit hg (t := 12) (by decide)
  have b13 := yHr_bit hg (t := 13) (by decide)
  have b14 := yHr_bit hg (t := 14) (by decide)
  have b15 := yHr_bit hg (t := 15) (by decide)
  rw [hz 12 (by decide) (by decide)] at b12
  rw [hz 13 (by decide) (by decide)] at b13
  rw [hz 14 (by decide) (by decide)] at b14
  rw [hz 15 (by decide) (by decide)] at b15
  obtain ⟨n1, n2⟩ := nH_i hg
  rw [← n1] at b0 b1 b2 b3 b4 b5 b6 b7 b8 b9 b10 b11 b12 b13 b14 b15 ⊢
  rw [show ((2 ^ (0 : Int).toNat : Nat) : Int) = 1 from rfl] at b0
  rw [show ((2 ^ (1 : Int).toNat : Nat) : Int) = 2 from rfl] at b1
  rw [show ((2 ^ (2 : Int).toNat : Nat) : Int) = 4 from rfl] at b2
  rw [show ((2 ^ (3 : Int).toNat : Nat) : Int) = 8 from rfl] at b3
  rw [show ((2 ^ (4 : Int).toNat : Nat) : Int) = 16 from rfl] at b4
  rw [show ((2 ^ (5 : Int).toNat : Nat) : Int) = 32 from rfl] at b5
  rw [show ((2 ^ (6 : Int).toNat : Nat) : Int) = 64 from rfl] at b6
  rw [show ((2 ^ (7 : Int).toNat : Nat) : Int) = 128 from rfl] at b7
  rw [show ((2 ^ (8 : Int).toNat : Nat) : Int) = 256 from rfl] at b8
  rw [show ((2 ^ (9 : Int).toNat : Nat) : Int) = 512 from rfl] at b9
  rw [show ((2 ^ (10 : Int).toNat : Nat) : Int) = 1024 from rfl] at b10
  rw [show ((2 ^ (11 : Int).toNat : Nat) : Int) = 2048 from rfl] at b11
  rw [show ((2 ^ (12 : Int).toNat : Nat) : Int) = 4096 from rfl] at b12
  rw [show ((2 ^ (13 : Int).toNat : Nat) : Int) = 8192 from rfl] at b13
  rw [show ((2 ^ (14 : Int).toNat : Nat) : Int) = 16384 from rfl] at b14
  rw [show ((2 ^ (15 : Int).toNat : Nat) : Int) = 32768 from rfl] at b15
  generalize nH g = x at *
  have hx : x < 4096 := by
    clear b0 b1 b2 b3 b4 b5 b6 b7 b8 b9 b10 b11
    omega
  clear b12 b13 b14 b15 n1 n2
  have c0 : ((x % 2 : Nat) : Int) = g 0 := by
    rw [← b0, Int.ediv_one, Int.natCast_emod]
    rfl
  have c1 : ((x / 2 % 2 : Nat) : Int) = g 1 := by
    rw [← b1, Int.natCast_emod, Int.natCast_ediv]
    rfl
  have c2 : ((x / 4 % 2 : Nat) : Int) = g 2 := by
    rw [← b2, Int.natCast_emod, Int.natCast_ediv]
    rfl
  have c3 : ((x / 8 % 2 : Nat) : Int) = g 3 := by
    rw [← b3, Int.natCast_emod, Int.natCast_ediv]
    rfl
  have c4 : ((x / 16 % 2 : Nat) : Int) = g 4 := by
    rw [← b4, Int.natCast_emod, Int.natCast_ediv]
    rfl
  have c5 : ((x / 32 % 2 : Nat) : Int) = g 5 := by
    rw [← b5, Int.natCast_emod, Int.natCast_ediv]
    rfl
  have c6 : ((x / 64 % 2 : Nat) : Int) = g 6 := by
    rw [← b6, Int.natCast_emod, Int.natCast_ediv]
    rfl
  have c7 : ((x / 128 % 2 : Nat) : Int) = g 7 := by
    rw [← b7, Int.natCast_emod, Int.natCast_ediv]
    rfl
  have c8 : ((x / 256 % 2 : Nat) : Int) = g 8 := by
    rw [← b8, Int.natCast_emod, Int.natCast_ediv]
    rfl
  have c9 : ((x / 512 % 2 : Nat) : Int) = g 9 := by
    rw [← b9, Int.natCast_emod, Int.natCast_ediv]
    rfl
  have c10 : ((x / 1024 % 2 : Nat) : Int) = g 10 := by
    rw [← b10, Int.natCast_emod, Int.natCast_ediv]
    rfl
  have c11 : ((x / 2048 % 2 : Nat) : Int) = g 11 := by
    rw [← b11, Int.natCast_emod, Int.natCast_ediv]
    rfl
  rw [pcE_e hx]
  unfold pcN
  simp only [Int.natCast_add, c0, c1, c2, c3, c4, c5, c6, c7, c8, c9, c10, c11]
theorem os16 : ∀ x : Fin 16, ∀ v : Fin 4, qand ((x : Nat) : Int) (qshl 1 ((v : Nat) : Int)) = if ((x : Nat) : Int) / ((2 ^ (v : Nat) : Nat) : Int) % 2 = 1 then ((2 ^ (v : Nat) : Nat) : Int) else 0 := by decide
theorem qand_4 {x v : Int} (hx : 0 ≤ x ∧ x < 16) (hv : 0 ≤ v ∧ v < 4) : qand x (qshl 1 v) = if x / ((2 ^ v.toNat : Nat) : Int) % 2 = 1 then ((2 ^ v.toNat : Nat) : Int) else 0 := by
  have h := os16 ⟨x.toNat, by omega⟩ ⟨v.toNat, by omega⟩
  simp only [Int.toNat_of_nonneg hx.1, Int.toNat_of_nonneg hv.1] at h
  exact h
theorem sp235 {V : zVt} {J : zJt} {d : Nat → Nat → UInt64} {x : Int} : zGo false 235 0 [.int (zi x)] [] (zm V J d) = zI1 (pcE x) V J d := ze_235_0 x
