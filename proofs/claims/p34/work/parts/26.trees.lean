/-! part 26: methods as equations; printed by program (wip/p34/gen/gen_tree.py, gen_trees_all.py) -/
/-! PartSongDesk copyError (I)I -/
theorem ze_118_0 {V : zVt} {J : zJt} {d : Nat → Nat → UInt64} (x1 : Int) : zGo false 118 0 [.ref 0, .int (zi x1)] [] (zm V J d) =
    (zGo false 112 0 [.ref 0, .int (zi x1)] [] (zm V J d)).bind (zGor false 118 5 [.ref 0, .int (zi x1)] []) := by
  refine (zr_aload_n (n := 0) (x := 0) (by decide +kernel) rfl).trans ?_
  refine (zr_iload_n (n := 1) (x := zi x1) (by decide +kernel) rfl).trans ?_
  exact zr_cV (i := 183) (z := 112) (w := 0) (o := 0) (t := [.int (zi x1)]) (rest := []) (L := [.ref 0, .int (zi x1)]) (pc1 := 5) (by decide +kernel) (by decide +kernel) rfl (n := 1) (r := 0) rfl rfl rfl (by decide +kernel) rfl rfl
theorem ze_118_5 {V : zVt} {J : zJt} {d : Nat → Nat → UInt64} (x1 : Int) (s0 : Nat) (g0 : zBk 0 s0) : zGo false 118 5 [.ref 0, .int (zi x1)] [.ref s0] (zm V J d) =
    some (.inl (some (.int (zi (V (s0 + 3) 0)))), zm V J d) := by
  refine (zr_getR (i := 236) (c := 0) (k := 3) (r := (s0 + 3)) (by decide +kernel) (by decide +kernel) (zb0_0 g0) (by decide +kernel) (zR0_f (o := s0) (c := 0) (n := 0) (k := 3) (j := 3) (zb0_0 g0) (by decide) rfl)).trans ?_
  refine (zr_getI (i := 151) (c := 5) (k := 0) (by decide +kernel) (by decide +kernel) (zb5_0 (zBk_0music g0)) (by decide +kernel)).trans ?_
  exact zr_iret (a := (V (s0 + 3) 0)) (by decide +kernel) rfl
/-! PartSongDesk copyPitch (III)I -/
theorem ze_119_0 {V : zVt} {J : zJt} {d : Nat → Nat → UInt64} (x1 : Int) (x2 : Int) (x3 : Int) : zGo false 119 0 [.ref 0, .int (zi x1), .int (zi x2), .int (zi x3), .null] [] (zm V J d) =
    (zGo false 112 0 [.ref 0, .int (zi x1)] [] (zm V J d)).bind (zGor false 119 5 [.ref 0, .int (zi x1), .int (zi x2), .int (zi x3), .null] []) := by
  refine (zr_aload_n (n := 0) (x := 0) (by decide +kernel) rfl).trans ?_
  refine (zr_iload_n (n := 1) (x := zi x1) (by decide +kernel) rfl).trans ?_
  exact zr_cV (i := 183) (z := 112) (w := 0) (o := 0) (t := [.int (zi x1)]) (rest := []) (L := [.ref 0, .int (zi x1)]) (pc1 := 5) (by decide +kernel) (by decide +kernel) rfl (n := 1) (r := 0) rfl rfl rfl (by decide +kernel) rfl rfl
theorem ze_119_5 {V : zVt} {J : zJt} {d : Nat → Nat → UInt64} (x1 : Int) (x2 : Int) (x3 : Int) (s0 : Nat) (g0 : zBk 0 s0) : zGo false 119 5 [.ref 0, .int (zi x1), .int (zi x2), .int (zi x3), .null] [.ref s0] (zm V J d) =
    (zGo false 107 0 [.ref 0, .ref (s0 + 3), .int (zi x2), .int (zi x3)] [] (zm V J d)).bind (zGor false 119 18 [.ref 0, .int (zi x1), .int (zi x2), .int (zi x3), .ref (s0 + 3)] []) := by
  refine (zr_getR (i := 236) (c := 0) (k := 3) (r := (s0 + 3)) (by decide +kernel) (by decide +kernel) (zb0_0 g0) (by decide +kernel) (zR0_f (o := s0) (c := 0) (n := 0) (k := 3) (j := 3) (zb0_0 g0) (by decide) rfl)).trans ?_
  refine (zr_astore (n := 4) (l1 := [.ref 0, .int (zi x1), .int (zi x2), .int (zi x3), .ref (s0 + 3)]) (by decide +kernel) rfl).trans ?_
  refine (zr_aload_n (n := 0) (x := 0) (by decide +kernel) rfl).trans ?_
  refine (zr_aload (n := 4) (x := (s0 + 3)) (by decide +kernel) rfl).trans ?_
  refine (zr_iload_n (n := 2) (x := zi x2) (by decide +kernel) rfl).trans ?_
  refine (zr_iload_n (n := 3) (x := zi x3) (by decide +kernel) rfl).trans ?_
  exact zr_cV (i := 157) (z := 107) (w := 0) (o := 0) (t := [.int (zi x3), .int (zi x2), .ref (s0 + 3)]) (rest := []) (L := [.ref 0, .ref (s0 + 3), .int (zi x2), .int (zi x3)]) (pc1 := 18) (by decide +kernel) (by decide +kernel) rfl (n := 3) (r := 0) rfl rfl rfl (by decide +kernel) rfl rfl
theorem ze_119_18 {V : zVt} {J : zJt} {d : Nat → Nat → UInt64} (x1 : Int) (x2 : Int) (x3 : Int) (x4 : Nat) (h4 : zBk 5 x4) : zGo false 119 18 [.ref 0, .int (zi x1), .int (zi x2), .int (zi x3), .ref x4] [] (zm V J d) =
    (zGo false 36 0 [.ref x4, .int (zi x2), .int (zi x3), .null] [] (zm V J d)).bind (zGor false 119 25 [.ref 0, .int (zi x1), .int (zi x2), .int (zi x3), .ref x4] []) := by
  refine (zr_aload (n := 4) (x := x4) (by decide +kernel) rfl).trans ?_
  refine (zr_iload_n (n := 2) (x := zi x2) (by decide +kernel) rfl).trans ?_
  refine (zr_iload_n (n := 3) (x := zi x3) (by decide +kernel) rfl).trans ?_
  exact zr_cV (i := 161) (z := 36) (w := 0) (o := x4) (t := [.int (zi x3), .int (zi x2)]) (rest := []) (L := [.ref x4, .int (zi x2), .int (zi x3), .null]) (pc1 := 25) (by decide +kernel) (by decide +kernel) (zb5_0 h4) (n := 2) (r := 0) rfl rfl rfl (by decide +kernel) rfl rfl
theorem ze_119_25 {V : zVt} {J : zJt} {d : Nat → Nat → UInt64} (x1 : Int) (x2 : Int) (x3 : Int) (x4 : Nat) (s0 : Int) (h4 : zBk 5 x4) : zGo false 119 25 [.ref 0, .int (zi x1), .int (zi x2), .int (zi x3), .ref x4] [.int (zi s0)] (zm V J d) =
    some (.inl (some (.int (zi s0))), zm V J d) := by
  exact zr_iret (a := s0) (by decide +kernel) rfl
/-! PartSongDesk copyPitchAnew (III)I -/
theorem ze_120_0 {V : zVt} {J : zJt} {d : Nat → Nat → UInt64} (x1 : Int) (x2 : Int) (x3 : Int) : zGo false 120 0 [.ref 0, .int (zi x1), .int (zi x2), .int (zi x3), .null] [] (zm V J d) =
    (zGo false 112 0 [.ref 0, .int (zi x1)] [] (zm V J d)).bind (zGor false 120 5 [.ref 0, .int (zi x1), .int (zi x2), .int (zi x3), .null] []) := by
  refine (zr_aload_n (n := 0) (x := 0) (by decide +kernel) rfl).trans ?_
  refine (zr_iload_n (n := 1) (x := zi x1) (by decide +kernel) rfl).trans ?_
  exact zr_cV (i := 183) (z := 112) (w := 0) (o := 0) (t := [.int (zi x1)]) (rest := []) (L := [.ref 0, .int (zi x1)]) (pc1 := 5) (by decide +kernel) (by decide +kernel) rfl (n := 1) (r := 0) rfl rfl rfl (by decide +kernel) rfl rfl
theorem ze_120_5 {V : zVt} {J : zJt} {d : Nat → Nat → UInt64} (x1 : Int) (x2 : Int) (x3 : Int) (s0 : Nat) (g0 : zBk 0 s0) : zGo false 120 5 [.ref 0, .int (zi x1), .int (zi x2), .int (zi x3), .null] [.ref s0] (zm V J d) =
    zck (0 ≤ qw (V s0 0) ∧ qw (V s0 0) < 12) ((zGo false 101 0 [.ref 0, .ref (50 + 15 * (qw (V s0 0)).toNat), .ref 26] [] (zm V J d)).bind (zGor false 120 25 [.ref 0, .int (zi x1), .int (zi x2), .int (zi x3), .ref s0] [])) := by
  refine (zr_astore (n := 4) (l1 := [.ref 0, .int (zi x1), .int (zi x2), .int (zi x3), .ref s0]) (by decide +kernel) rfl).trans ?_
  refine (zr_aload_n (n := 0) (x := 0) (by decide +kernel) rfl).trans ?_
  refine (zr_aload_n (n := 0) (x := 0) (by decide +kernel) rfl).trans ?_
  refine (zr_getR (i := 11) (c := 11) (k := 0) (r := 1) (by decide +kernel) (by decide +kernel) rfl (by decide +kernel) (zR0_f (o := 0) (c := 11) (n := 0) (k := 0) (j := 1) rfl (by decide) rfl)).trans ?_
  refine (zr_aload (n := 4) (x := s0) (by decide +kernel) rfl).trans ?_
  refine (zr_getI (i := 176) (c := 0) (k := 0) (by decide +kernel) (by decide +kernel) (zb0_0 g0) (by decide +kernel)).trans ?_
  refine (zr_parts (e := (V s0 0)) (by decide +kernel)).trans (zck_ct fun q17 => ?_)
  refine (zr_aload_n (n := 0) (x := 0) (by decide +kernel) rfl).trans ?_
  refine (zr_getR (i := 52) (c := 11) (k := 7) (r := 26) (by decide +kernel) (by decide +kernel) rfl (by decide +kernel) (zR0_f (o := 0) (c := 11) (n := 0) (k := 7) (j := 26) rfl (by decide) rfl)).trans ?_
  exact zr_cV (i := 237) (z := 101) (w := 0) (o := 0) (t := [.ref 26, .ref (50 + 15 * (qw (V s0 0)).toNat)]) (rest := []) (L := [.ref 0, .ref (50 + 15 * (qw (V s0 0)).toNat), .ref 26]) (pc1 := 25) (by decide +kernel) (by decide +kernel) rfl (n := 2) (r := 0) rfl rfl rfl (by decide +kernel) rfl rfl
theorem ze_120_25 {V : zVt} {J : zJt} {d : Nat → Nat → UInt64} (x1 : Int) (x2 : Int) (x3 : Int) (x4 : Nat) (h4 : zBk 0 x4) : zGo false 120 25 [.ref 0, .int (zi x1), .int (zi x2), .int (zi x3), .ref x4] [] (zm V J d) =
    (zGo false 68 0 [.ref 12, .ref 26, .ref (x4 + 1), .ref 3, .ref 35, .null] [] (zm V J d)).bind (zGor false 120 49 [.ref 0, .int (zi x1), .int (zi x2), .int (zi x3), .ref x4] []) := by
  refine (zr_aload_n (n := 0) (x := 0) (by decide +kernel) rfl).trans ?_
  refine (zr_getR (i := 45) (c := 11) (k := 6) (r := 12) (by decide +kernel) (by decide +kernel) rfl (by decide +kernel) (zR0_f (o := 0) (c := 11) (n := 0) (k := 6) (j := 12) rfl (by decide) rfl)).trans ?_
  refine (zr_aload_n (n := 0) (x := 0) (by decide +kernel) rfl).trans ?_
  refine (zr_getR (i := 52) (c := 11) (k := 7) (r := 26) (by decide +kernel) (by decide +kernel) rfl (by decide +kernel) (zR0_f (o := 0) (c := 11) (n := 0) (k := 7) (j := 26) rfl (by decide) rfl)).trans ?_
  refine (zr_aload (n := 4) (x := x4) (by decide +kernel) rfl).trans ?_
  refine (zr_getR (i := 198) (c := 0) (k := 2) (r := (x4 + 1)) (by decide +kernel) (by decide +kernel) (zb0_0 h4) (by decide +kernel) (zR0_f (o := x4) (c := 0) (n := 0) (k := 2) (j := 1) (zb0_0 h4) (by decide) rfl)).trans ?_
  refine (zr_aload_n (n := 0) (x := 0) (by decide +kernel) rfl).trans ?_
  refine (zr_getR (i := 24) (c := 11) (k := 3) (r := 3) (by decide +kernel) (by decide +kernel) rfl (by decide +kernel) (zR0_f (o := 0) (c := 11) (n := 0) (k := 3) (j := 3) rfl (by decide) rfl)).trans ?_
  refine (zr_aload_n (n := 0) (x := 0) (by decide +kernel) rfl).trans ?_
  refine (zr_getR (i := 59) (c := 11) (k := 8) (r := 35) (by decide +kernel) (by decide +kernel) rfl (by decide +kernel) (zR0_f (o := 0) (c := 11) (n := 0) (k := 8) (j := 35) rfl (by decide) rfl)).trans ?_
  exact zr_cV (i := 241) (z := 68) (w := 0) (o := 12) (t := [.ref 35, .ref 3, .ref (x4 + 1), .ref 26]) (rest := []) (L := [.ref 12, .ref 26, .ref (x4 + 1), .ref 3, .ref 35, .null]) (pc1 := 49) (by decide +kernel) (by decide +kernel) rfl (n := 4) (r := 0) rfl rfl rfl (by decide +kernel) rfl rfl
theorem ze_120_49 {V : zVt} {J : zJt} {d : Nat → Nat → UInt64} (x1 : Int) (x2 : Int) (x3 : Int) (x4 : Nat) (h4 : zBk 0 x4) : zGo false 120 49 [.ref 0, .int (zi x1), .int (zi x2), .int (zi x3), .ref x4] [] (zm V J d) =
    (zGo false 107 0 [.ref 0, .ref 35, .int (zi x2), .int (zi x3)] [] (zm V J d)).bind (zGor false 120 59 [.ref 0, .int (zi x1), .int (zi x2), .int (zi x3), .ref x4] []) := by
  refine (zr_aload_n (n := 0) (x := 0) (by decide +kernel) rfl).trans ?_
  refine (zr_aload_n (n := 0) (x := 0) (by decide +kernel) rfl).trans ?_
  refine (zr_getR (i := 59) (c := 11) (k := 8) (r := 35) (by decide +kernel) (by decide +kernel) rfl (by decide +kernel) (zR0_f (o := 0) (c := 11) (n := 0) (k := 8) (j := 35) rfl (by decide) rfl)).trans ?_
  refine (zr_iload_n (n := 2) (x := zi x2) (by decide +kernel) rfl).trans ?_
  refine (zr_iload_n (n := 3) (x := zi x3) (by decide +kernel) rfl).trans ?_
  exact zr_cV (i := 157) (z := 107) (w := 0) (o := 0) (t := [.int (zi x3), .int (zi x2), .ref 35]) (rest := []) (L := [.ref 0, .ref 35, .int (zi x2), .int (zi x3)]) (pc1 := 59) (by decide +kernel) (by decide +kernel) rfl (n := 3) (r := 0) rfl rfl rfl (by decide +kernel) rfl rfl
theorem ze_120_59 {V : zVt} {J : zJt} {d : Nat → Nat → UInt64} (x1 : Int) (x2 : Int) (x3 : Int) (x4 : Nat) (h4 : zBk 0 x4) : zGo false 120 59 [.ref 0, .int (zi x1), .int (zi x2), .int (zi x3), .ref x4] [] (zm V J d) =
    (zGo false 36 0 [.ref 35, .int (zi x2), .int (zi x3), .null] [] (zm V J d)).bind (zGor false 120 68 [.ref 0, .int (zi x1), .int (zi x2), .int (zi x3), .ref x4] []) := by
  refine (zr_aload_n (n := 0) (x := 0) (by decide +kernel) rfl).trans ?_
  refine (zr_getR (i := 59) (c := 11) (k := 8) (r := 35) (by decide +kernel) (by decide +kernel) rfl (by decide +kernel) (zR0_f (o := 0) (c := 11) (n := 0) (k := 8) (j := 35) rfl (by decide) rfl)).trans ?_
  refine (zr_iload_n (n := 2) (x := zi x2) (by decide +kernel) rfl).trans ?_
  refine (zr_iload_n (n := 3) (x := zi x3) (by decide +kernel) rfl).trans ?_
  exact zr_cV (i := 161) (z := 36) (w := 0) (o := 35) (t := [.int (zi x3), .int (zi x2)]) (rest := []) (L := [.ref 35, .int (zi x2), .int (zi x3), .null]) (pc1 := 68) (by decide +kernel) (by decide +kernel) (zb5_0 zBk_35) (n := 2) (r := 0) rfl rfl rfl (by decide +kernel) rfl rfl
theorem ze_120_68 {V : zVt} {J : zJt} {d : Nat → Nat → UInt64} (x1 : Int) (x2 : Int) (x3 : Int) (x4 : Nat) (s0 : Int) (h4 : zBk 0 x4) : zGo false 120 68 [.ref 0, .int (zi x1), .int (zi x2), .int (zi x3), .ref x4] [.int (zi s0)] (zm V J d) =
    some (.inl (some (.int (zi s0))), zm V J d) := by
  exact zr_iret (a := s0) (by decide +kernel) rfl
/-! PartSongDesk begins (III)Z -/
theorem ze_121_0 {V : zVt} {J : zJt} {d : Nat → Nat → UInt64} (x1 : Int) (x2 : Int) (x3 : Int) : zGo false 121 0 [.ref 0, .int (zi x1), .int (zi x2), .int (zi x3), .null] [] (zm V J d) =
    (zGo false 112 0 [.ref 0, .int (zi x1)] [] (zm V J d)).bind (zGor false 121 5 [.ref 0, .int (zi x1), .int (zi x2), .int (zi x3), .null] []) := by
  refine (zr_aload_n (n := 0) (x := 0) (by decide +kernel) rfl).trans ?_
  refine (zr_iload_n (n := 1) (x := zi x1) (by decide +kernel) rfl).trans ?_
  exact zr_cV (i := 183) (z := 112) (w := 0) (o := 0) (t := [.int (zi x1)]) (rest := []) (L := [.ref 0, .int (zi x1)]) (pc1 := 5) (by decide +kernel) (by decide +kernel) rfl (n := 1) (r := 0) rfl rfl rfl (by decide +kernel) rfl rfl
theorem ze_121_5 {V : zVt} {J : zJt} {d : Nat → Nat → UInt64} (x1 : Int) (x2 : Int) (x3 : Int) (s0 : Nat) (g0 : zBk 0 s0) : zGo false 121 5 [.ref 0, .int (zi x1), .int (zi x2), .int (zi x3), .null] [.ref s0] (zm V J d) =
    (zGo false 107 0 [.ref 0, .ref (s0 + 3), .int (zi x2), .int (zi x3)] [] (zm V J d)).bind (zGor false 121 18 [.ref 0, .int (zi x1), .int (zi x2), .int (zi x3), .ref (s0 + 3)] []) := by
  refine (zr_getR (i := 236) (c := 0) (k := 3) (r := (s0 + 3)) (by decide +kernel) (by decide +kernel) (zb0_0 g0) (by decide +kernel) (zR0_f (o := s0) (c := 0) (n := 0) (k := 3) (j := 3) (zb0_0 g0) (by decide) rfl)).trans ?_
  refine (zr_astore (n := 4) (l1 := [.ref 0, .int (zi x1), .int (zi x2), .int (zi x3), .ref (s0 + 3)]) (by decide +kernel) rfl).trans ?_
  refine (zr_aload_n (n := 0) (x := 0) (by decide +kernel) rfl).trans ?_
  refine (zr_aload (n := 4) (x := (s0 + 3)) (by decide +kernel) rfl).trans ?_
  refine (zr_iload_n (n := 2) (x := zi x2) (by decide +kernel) rfl).trans ?_
  refine (zr_iload_n (n := 3) (x := zi x3) (by decide +kernel) rfl).trans ?_
  exact zr_cV (i := 157) (z := 107) (w := 0) (o := 0) (t := [.int (zi x3), .int (zi x2), .ref (s0 + 3)]) (rest := []) (L := [.ref 0, .ref (s0 + 3), .int (zi x2), .int (zi x3)]) (pc1 := 18) (by decide +kernel) (by decide +kernel) rfl (n := 3) (r := 0) rfl rfl rfl (by decide +kernel) rfl rfl
theorem ze_121_18 {V : zVt} {J : zJt} {d : Nat → Nat → UInt64} (x1 : Int) (x2 : Int) (x3 : Int) (x4 : Nat) (h4 : zBk 5 x4) : zGo false 121 18 [.ref 0, .int (zi x1), .int (zi x2), .int (zi x3), .ref x4] [] (zm V J d) =
    (zGo false 38 0 [.ref x4, .int (zi x2), .int (zi x3)] [] (zm V J d)).bind (zGor false 121 25 [.ref 0, .int (zi x1), .int (zi x2), .int (zi x3), .ref x4] []) := by
  refine (zr_aload (n := 4) (x := x4) (by decide +kernel) rfl).trans ?_
  refine (zr_iload_n (n := 2) (x := zi x2) (by decide +kernel) rfl).trans ?_
  refine (zr_iload_n (n := 3) (x := zi x3) (by decide +kernel) rfl).trans ?_
  exact zr_cV (i := 245) (z := 38) (w := 0) (o := x4) (t := [.int (zi x3), .int (zi x2)]) (rest := []) (L := [.ref x4, .int (zi x2), .int (zi x3)]) (pc1 := 25) (by decide +kernel) (by decide +kernel) (zb5_0 h4) (n := 2) (r := 0) rfl rfl rfl (by decide +kernel) rfl rfl
theorem ze_121_25 {V : zVt} {J : zJt} {d : Nat → Nat → UInt64} (x1 : Int) (x2 : Int) (x3 : Int) (x4 : Nat) (s0 : Int) (h4 : zBk 5 x4) : zGo false 121 25 [.ref 0, .int (zi x1), .int (zi x2), .int (zi x3), .ref x4] [.int (zi s0)] (zm V J d) =
    zck (qw s0 = 0 ∨ qw s0 = 1) (some (.inl (some (.int (zi s0))), zm V J d)) := by
  exact zr_zret (a := s0) (by decide +kernel) rfl
/-! PartSongDesk differ (II)I -/
theorem ze_122_0 {V : zVt} {J : zJt} {d : Nat → Nat → UInt64} (x1 : Int) (x2 : Int) : zGo false 122 0 [.ref 0, .int (zi x1), .int (zi x2), .null, .null] [] (zm V J d) =
    (zGo false 112 0 [.ref 0, .int (zi x1)] [] (zm V J d)).bind (zGor false 122 5 [.ref 0, .int (zi x1), .int (zi x2), .null, .null] []) := by
  refine (zr_aload_n (n := 0) (x := 0) (by decide +kernel) rfl).trans ?_
  refine (zr_iload_n (n := 1) (x := zi x1) (by decide +kernel) rfl).trans ?_
  exact zr_cV (i := 183) (z := 112) (w := 0) (o := 0) (t := [.int (zi x1)]) (rest := []) (L := [.ref 0, .int (zi x1)]) (pc1 := 5) (by decide +kernel) (by decide +kernel) rfl (n := 1) (r := 0) rfl rfl rfl (by decide +kernel) rfl rfl
theorem ze_122_5 {V : zVt} {J : zJt} {d : Nat → Nat → UInt64} (x1 : Int) (x2 : Int) (s0 : Nat) (g0 : zBk 0 s0) : zGo false 122 5 [.ref 0, .int (zi x1), .int (zi x2), .null, .null] [.ref s0] (zm V J d) =
    (zGo false 112 0 [.ref 0, .int (zi x2)] [] (zm V J d)).bind (zGor false 122 11 [.ref 0, .int (zi x1), .int (zi x2), .ref s0, .null] []) := by
  refine (zr_astore_n (n := 3) (l1 := [.ref 0, .int (zi x1), .int (zi x2), .ref s0, .null]) (by decide +kernel) rfl).trans ?_
  refine (zr_aload_n (n := 0) (x := 0) (by decide +kernel) rfl).trans ?_
  refine (zr_iload_n (n := 2) (x := zi x2) (by decide +kernel) rfl).trans ?_
  exact zr_cV (i := 183) (z := 112) (w := 0) (o := 0) (t := [.int (zi x2)]) (rest := []) (L := [.ref 0, .int (zi x2)]) (pc1 := 11) (by decide +kernel) (by decide +kernel) rfl (n := 1) (r := 0) rfl rfl rfl (by decide +kernel) rfl rfl
theorem ze_122_11 {V : zVt} {J : zJt} {d : Nat → Nat → UInt64} (x1 : Int) (x2 : Int) (x3 : Nat) (s0 : Nat) (h3 : zBk 0 x3) (g0 : zBk 0 s0) : zGo false 122 11 [.ref 0, .int (zi x1), .int (zi x2), .ref x3, .null] [.ref s0] (zm V J d) =
    (if qw (V x3 0) = qw (V s0 0) then (if qw (V (x3 + 3) 0) ≠ 0 then zGo false 122 56 [.ref 0, .int (zi x1), .int (zi x2), .ref x3, .ref s0] [] (zm V J d) else (if qw (V (s0 + 3) 0) = 0 then (zGo false 39 0 [.ref (x3 + 3), .ref (s0 + 3), .null, .null] [] (zm V J d)).bind (zGor false 122 78 [.ref 0, .int (zi x1), .int (zi x2), .ref x3, .ref s0] []) else zGo false 122 56 [.ref 0, .int (zi x1), .int (zi x2), .ref x3, .ref s0] [] (zm V J d))) else some (.inr 1, zm V J d)) := by
  refine (zr_astore (n := 4) (l1 := [.ref 0, .int (zi x1), .int (zi x2), .ref x3, .ref s0]) (by decide +kernel) rfl).trans ?_
  refine (zr_aload_n (n := 3) (x := x3) (by decide +kernel) rfl).trans ?_
  refine (zr_getI (i := 176) (c := 0) (k := 0) (by decide +kernel) (by decide +kernel) (zb0_0 h3) (by decide +kernel)).trans ?_
  refine (zr_aload (n := 4) (x := s0) (by decide +kernel) rfl).trans ?_
  refine (zr_getI (i := 176) (c := 0) (k := 0) (by decide +kernel) (by decide +kernel) (zb0_0 g0) (by decide +kernel)).trans ?_
  refine (zr_ceq (off := 13) (a := (V x3 0)) (b := (V s0 0)) (t := 35) (by decide +kernel) rfl).trans (zif_ct (fun _ => ?_) (fun _ => ?_))
  · refine (zr_aload_n (n := 3) (x := x3) (by decide +kernel) rfl).trans ?_
    refine (zr_getR (i := 236) (c := 0) (k := 3) (r := (x3 + 3)) (by decide +kernel) (by decide +kernel) (zb0_0 h3) (by decide +kernel) (zR0_f (o := x3) (c := 0) (n := 0) (k := 3) (j := 3) (zb0_0 h3) (by decide) rfl)).trans ?_
    refine (zr_getI (i := 151) (c := 5) (k := 0) (by decide +kernel) (by decide +kernel) (zb5_0 (zBk_0music h3)) (by decide +kernel)).trans ?_
    refine (zr_ifne (off := 14) (a := (V (x3 + 3) 0)) (t := 56) (by decide +kernel) rfl).trans (zif_ct (fun _ => ?_) (fun _ => ?_))
    · rfl
    · refine (zr_aload (n := 4) (x := s0) (by decide +kernel) rfl).trans ?_
      refine (zr_getR (i := 236) (c := 0) (k := 3) (r := (s0 + 3)) (by decide +kernel) (by decide +kernel) (zb0_0 g0) (by decide +kernel) (zR0_f (o := s0) (c := 0) (n := 0) (k := 3) (j := 3) (zb0_0 g0) (by decide) rfl)).trans ?_
      refine (zr_getI (i := 151) (c := 5) (k := 0) (by decide +kernel) (by decide +kernel) (zb5_0 (zBk_0music g0)) (by decide +kernel)).trans ?_
      refine (zr_ifeq (off := 13) (a := (V (s0 + 3) 0)) (t := 66) (by decide +kernel) rfl).trans (zif_ct (fun _ => ?_) (fun _ => ?_))
      · refine (zr_aload_n (n := 3) (x := x3) (by decide +kernel) rfl).trans ?_
        refine (zr_getR (i := 236) (c := 0) (k := 3) (r := (x3 + 3)) (by decide +kernel) (by decide +kernel) (zb0_0 h3) (by decide +kernel) (zR0_f (o := x3) (c := 0) (n := 0) (k := 3) (j := 3) (zb0_0 h3) (by decide) rfl)).trans ?_
        refine (zr_aload (n := 4) (x := s0) (by decide +kernel) rfl).trans ?_
        refine (zr_getR (i := 236) (c := 0) (k := 3) (r := (s0 + 3)) (by decide +kernel) (by decide +kernel) (zb0_0 g0) (by decide +kernel) (zR0_f (o := s0) (c := 0) (n := 0) (k := 3) (j := 3) (zb0_0 g0) (by decide) rfl)).trans ?_
        exact zr_cV (i := 252) (z := 39) (w := 0) (o := (x3 + 3)) (t := [.ref (s0 + 3)]) (rest := []) (L := [.ref (x3 + 3), .ref (s0 + 3), .null, .null]) (pc1 := 78) (by decide +kernel) (by decide +kernel) (zb5_0 (zBk_0music h3)) (n := 1) (r := 0) rfl rfl rfl (by decide +kernel) rfl rfl
      · rfl
  · exact zr_thr (i := 83) (e := 1) (w := 0) (by decide +kernel) (by decide +kernel) (by decide +kernel) (by decide)
theorem ze_122_56 {V : zVt} {J : zJt} {d : Nat → Nat → UInt64} (x1 : Int) (x2 : Int) (x3 : Nat) (x4 : Nat) (h3 : zBk 0 x3) (h4 : zBk 0 x4) : zGo false 122 56 [.ref 0, .int (zi x1), .int (zi x2), .ref x3, .ref x4] [] (zm V J d) =
    some (.inr 2, zm V J d) := by
  exact zr_thr (i := 98) (e := 2) (w := 0) (by decide +kernel) (by decide +kernel) (by decide +kernel) (by decide)
theorem ze_122_78 {V : zVt} {J : zJt} {d : Nat → Nat → UInt64} (x1 : Int) (x2 : Int) (x3 : Nat) (x4 : Nat) (s0 : Int) (h3 : zBk 0 x3) (h4 : zBk 0 x4) : zGo false 122 78 [.ref 0, .int (zi x1), .int (zi x2), .ref x3, .ref x4] [.int (zi s0)] (zm V J d) =
    some (.inl (some (.int (zi s0))), zm V J d) := by
  exact zr_iret (a := s0) (by decide +kernel) rfl
/-! PartSongDesk clashes (II)I -/
theorem ze_123_0 {V : zVt} {J : zJt} {d : Nat → Nat → UInt64} (x1 : Int) (x2 : Int) : zGo false 123 0 [.ref 0, .int (zi x1), .int (zi x2), .null, .null] [] (zm V J d) =
    (zGo false 124 0 [.ref 0, .int (zi x1)] [] (zm V J d)).bind (zGor false 123 5 [.ref 0, .int (zi x1), .int (zi x2), .null, .null] []) := by
  refine (zr_aload_n (n := 0) (x := 0) (by decide +kernel) rfl).trans ?_
  refine (zr_iload_n (n := 1) (x := zi x1) (by decide +kernel) rfl).trans ?_
  exact zr_cV (i := 256) (z := 124) (w := 0) (o := 0) (t := [.int (zi x1)]) (rest := []) (L := [.ref 0, .int (zi x1)]) (pc1 := 5) (by decide +kernel) (by decide +kernel) rfl (n := 1) (r := 0) rfl rfl rfl (by decide +kernel) rfl rfl
theorem ze_123_5 {V : zVt} {J : zJt} {d : Nat → Nat → UInt64} (x1 : Int) (x2 : Int) : zGo false 123 5 [.ref 0, .int (zi x1), .int (zi x2), .null, .null] [] (zm V J d) =
    (if qw x2 < 0 then zGo false 123 15 [.ref 0, .int (zi x1), .int (zi x2), .null, .null] [] (zm V J d) else (if qw x2 < qw (40) then zGo false 123 31 [.ref 0, .int (zi x1), .int (zi x2), .int (zi (0)), .int (zi (0))] [] (zm V J d) else zGo false 123 15 [.ref 0, .int (zi x1), .int (zi x2), .null, .null] [] (zm V J d))) := by
  refine (zr_iload_n (n := 2) (x := zi x2) (by decide +kernel) rfl).trans ?_
  refine (zr_iflt (off := 9) (a := x2) (t := 15) (by decide +kernel) rfl).trans (zif_ct (fun _ => ?_) (fun _ => ?_))
  · rfl
  · refine (zr_iload_n (n := 2) (x := zi x2) (by decide +kernel) rfl).trans ?_
    refine (zr_bipush (n := 40) (by decide +kernel) rfl).trans ?_
    refine (zr_clt (off := 14) (a := x2) (b := (40)) (t := 26) (by decide +kernel) rfl).trans (zif_ct (fun _ => ?_) (fun _ => ?_))
    · refine (zr_iconst (n := 0) (by decide +kernel)).trans ?_
      refine (zr_istore_n (n := 3) (l1 := [.ref 0, .int (zi x1), .int (zi x2), .int (zi (0)), .null]) (by decide +kernel) rfl).trans ?_
      refine (zr_iconst (n := 0) (by decide +kernel)).trans ?_
      refine (zr_istore (n := 4) (l1 := [.ref 0, .int (zi x1), .int (zi x2), .int (zi (0)), .int (zi (0))]) (by decide +kernel) rfl).trans ?_
      rfl
    · rfl
theorem ze_123_15 {V : zVt} {J : zJt} {d : Nat → Nat → UInt64} (x1 : Int) (x2 : Int) : zGo false 123 15 [.ref 0, .int (zi x1), .int (zi x2), .null, .null] [] (zm V J d) =
    some (.inr 0, zm V J d) := by
  exact zr_thr (i := 139) (e := 0) (w := 0) (by decide +kernel) (by decide +kernel) (by decide +kernel) (by decide)
theorem ze_123_31 {V : zVt} {J : zJt} {d : Nat → Nat → UInt64} (x1 : Int) (x2 : Int) (x3 : Int) (x4 : Int) : zGo false 123 31 [.ref 0, .int (zi x1), .int (zi x2), .int (zi x3), .int (zi x4)] [] (zm V J d) =
    (if qw (3) < qw x4 then some (.inl (some (.int (zi x3))), zm V J d) else (zGo false 125 0 [.ref 0, .int (zi x1), .int (zi x2), .int (zi x4), .null, .null, .null, .null, .null, .null] [] (zm V J d)).bind (zGor false 123 46 [.ref 0, .int (zi x1), .int (zi x2), .int (zi x3), .int (zi x4)] [.int (zi x3)])) := by
  refine (zr_iload (n := 4) (x := zi x4) (by decide +kernel) rfl).trans ?_
  refine (zr_iconst (n := 3) (by decide +kernel)).trans ?_
  refine (zr_cgt (off := 20) (a := x4) (b := (3)) (t := 54) (by decide +kernel) rfl).trans (zif_ct (fun _ => ?_) (fun _ => ?_))
  · refine (zr_iload_n (n := 3) (x := zi x3) (by decide +kernel) rfl).trans ?_
    exact zr_iret (a := x3) (by decide +kernel) rfl
  · refine (zr_iload_n (n := 3) (x := zi x3) (by decide +kernel) rfl).trans ?_
    refine (zr_aload_n (n := 0) (x := 0) (by decide +kernel) rfl).trans ?_
    refine (zr_iload_n (n := 1) (x := zi x1) (by decide +kernel) rfl).trans ?_
    refine (zr_iload_n (n := 2) (x := zi x2) (by decide +kernel) rfl).trans ?_
    refine (zr_iload (n := 4) (x := zi x4) (by decide +kernel) rfl).trans ?_
    exact zr_cV (i := 261) (z := 125) (w := 0) (o := 0) (t := [.int (zi x4), .int (zi x2), .int (zi x1)]) (rest := [.int (zi x3)]) (L := [.ref 0, .int (zi x1), .int (zi x2), .int (zi x4), .null, .null, .null, .null, .null, .null]) (pc1 := 46) (by decide +kernel) (by decide +kernel) rfl (n := 3) (r := 1) rfl rfl rfl (by decide +kernel) rfl rfl
theorem ze_123_46 {V : zVt} {J : zJt} {d : Nat → Nat → UInt64} (x1 : Int) (x2 : Int) (x3 : Int) (x4 : Int) (s0 : Int) (s1 : Int) : zGo false 123 46 [.ref 0, .int (zi x1), .int (zi x2), .int (zi x3), .int (zi x4)] [.int (zi s1), .int (zi s0)] (zm V J d) =
    zGo false 123 31 [.ref 0, .int (zi x1), .int (zi x2), .int (zi (s0 + s1)), .int (zi (x4 + 1))] [] (zm V J d) := by
  refine (zr_iadd (a := s0) (b := s1) (by decide +kernel)).trans ?_
  refine (zr_istore_n (n := 3) (l1 := [.ref 0, .int (zi x1), .int (zi x2), .int (zi (s0 + s1)), .int (zi x4)]) (by decide +kernel) rfl).trans ?_
  refine (zr_iinc (n := 4) (k := 1) (x := x4) (l1 := [.ref 0, .int (zi x1), .int (zi x2), .int (zi (s0 + s1)), .int (zi (x4 + 1))]) (by decide +kernel) rfl rfl).trans ?_
  refine (zr_goto (off := -20) (t := 31) (by decide +kernel) rfl).trans ?_
  rfl
/-! PartSongDesk mustBePiece (I)V -/
theorem ze_124_0 {V : zVt} {J : zJt} {d : Nat → Nat → UInt64} (x1 : Int) : zGo false 124 0 [.ref 0, .int (zi x1)] [] (zm V J d) =
    (if qw x1 < 0 then zGo false 124 9 [.ref 0, .int (zi x1)] [] (zm V J d) else (if qw x1 < qw (3) then some (.inl none, zm V J d) else zGo false 124 9 [.ref 0, .int (zi x1)] [] (zm V J d))) := by
  refine (zr_iload_n (n := 1) (x := zi x1) (by decide +kernel) rfl).trans ?_
  refine (zr_iflt (off := 8) (a := x1) (t := 9) (by decide +kernel) rfl).trans (zif_ct (fun _ => ?_) (fun _ => ?_))
  · rfl
  · refine (zr_iload_n (n := 1) (x := zi x1) (by decide +kernel) rfl).trans ?_
    refine (zr_iconst (n := 3) (by decide +kernel)).trans ?_
    refine (zr_clt (off := 14) (a := x1) (b := (3)) (t := 20) (by decide +kernel) rfl).trans (zif_ct (fun _ => ?_) (fun _ => ?_))
    · exact zr_vret (by decide +kernel) rfl
    · rfl
theorem ze_124_9 {V : zVt} {J : zJt} {d : Nat → Nat → UInt64} (x1 : Int) : zGo false 124 9 [.ref 0, .int (zi x1)] [] (zm V J d) =
    some (.inr 0, zm V J d) := by
  exact zr_thr (i := 139) (e := 0) (w := 0) (by decide +kernel) (by decide +kernel) (by decide +kernel) (by decide)
/-! PartSongDesk clashesIn (III)I -/
theorem ze_125_0 {V : zVt} {J : zJt} {d : Nat → Nat → UInt64} (x1 : Int) (x2 : Int) (x3 : Int) : zGo false 125 0 [.ref 0, .int (zi x1), .int (zi x2), .int (zi x3), .null, .null, .null, .null, .null, .null] [] (zm V J d) =
    (if qw x3 ≠ 0 then (zGo false 127 0 [.ref 0, .int (zi x1), .int (zi x2), .null, .null, .null] [] (zm V J d)).bind (zGor false 125 25 [.ref 0, .int (zi x1), .int (zi x2), .int (zi x3), .null, .null, .null, .null, .null, .null] []) else (zGo false 126 0 [.ref 0, .int (zi x1), .int (zi x2), .null, .null, .null, .null] [] (zm V J d)).bind (zGor false 125 10 [.ref 0, .int (zi x1), .int (zi x2), .int (zi x3), .null, .null, .null, .null, .null, .null] [])) := by
  refine (zr_iload_n (n := 3) (x := zi x3) (by decide +kernel) rfl).trans ?_
  refine (zr_ifne (off := 18) (a := x3) (t := 19) (by decide +kernel) rfl).trans (zif_ct (fun _ => ?_) (fun _ => ?_))
  · refine (zr_aload_n (n := 0) (x := 0) (by decide +kernel) rfl).trans ?_
    refine (zr_iload_n (n := 1) (x := zi x1) (by decide +kernel) rfl).trans ?_
    refine (zr_iload_n (n := 2) (x := zi x2) (by decide +kernel) rfl).trans ?_
    exact zr_cV (i := 348) (z := 127) (w := 0) (o := 0) (t := [.int (zi x2), .int (zi x1)]) (rest := []) (L := [.ref 0, .int (zi x1), .int (zi x2), .null, .null, .null]) (pc1 := 25) (by decide +kernel) (by decide +kernel) rfl (n := 2) (r := 0) rfl rfl rfl (by decide +kernel) rfl rfl
  · refine (zr_aload_n (n := 0) (x := 0) (by decide +kernel) rfl).trans ?_
    refine (zr_iload_n (n := 1) (x := zi x1) (by decide +kernel) rfl).trans ?_
    refine (zr_iload_n (n := 2) (x := zi x2) (by decide +kernel) rfl).trans ?_
    exact zr_cV (i := 345) (z := 126) (w := 0) (o := 0) (t := [.int (zi x2), .int (zi x1)]) (rest := []) (L := [.ref 0, .int (zi x1), .int (zi x2), .null, .null, .null, .null]) (pc1 := 10) (by decide +kernel) (by decide +kernel) rfl (n := 2) (r := 0) rfl rfl rfl (by decide +kernel) rfl rfl
theorem ze_125_10 {V : zVt} {J : zJt} {d : Nat → Nat → UInt64} (x1 : Int) (x2 : Int) (x3 : Int) (s0 : Int) : zGo false 125 10 [.ref 0, .int (zi x1), .int (zi x2), .int (zi x3), .null, .null, .null, .null, .null, .null] [.int (zi s0)] (zm V J d) =
    (if qw s0 = 0 then zGo false 125 18 [.ref 0, .int (zi x1), .int (zi x2), .int (zi x3), .null, .null, .null, .null, .null, .null] [.int (zi (0))] (zm V J d) else zGo false 125 18 [.ref 0, .int (zi x1), .int (zi x2), .int (zi x3), .null, .null, .null, .null, .null, .null] [.int (zi (1))] (zm V J d)) := by
  refine (zr_ifeq (off := 7) (a := s0) (t := 17) (by decide +kernel) rfl).trans (zif_ct (fun _ => ?_) (fun _ => ?_))
  · refine (zr_iconst (n := 0) (by decide +kernel)).trans ?_
    rfl
  · refine (zr_iconst (n := 1) (by decide +kernel)).trans ?_
    refine (zr_goto (off := 4) (t := 18) (by decide +kernel) rfl).trans ?_
    rfl
theorem ze_125_18 {V : zVt} {J : zJt} {d : Nat → Nat → UInt64} (x1 : Int) (x2 : Int) (x3 : Int) (s0 : Int) : zGo false 125 18 [.ref 0, .int (zi x1), .int (zi x2), .int (zi x3), .null, .null, .null, .null, .null, .null] [.int (zi s0)] (zm V J d) =
    some (.inl (some (.int (zi s0))), zm V J d) := by
  exact zr_iret (a := s0) (by decide +kernel) rfl
theorem ze_125_25 {V : zVt} {J : zJt} {d : Nat → Nat → UInt64} (x1 : Int) (x2 : Int) (x3 : Int) (s0 : Int) : zGo false 125 25 [.ref 0, .int (zi x1), .int (zi x2), .int (zi x3), .null, .null, .null, .null, .null, .null] [.int (zi s0)] (zm V J d) =
    (if qw x3 ≠ qw (1) then (if qw s0 = 0 then zGo false 125 56 [.ref 0, .int (zi x1), .int (zi x2), .int (zi x3), .int (zi s0), .int (zi (0)), .int (zi (1)), .null, .null, .null] [] (zm V J d) else some (.inl (some (.int (zi (0)))), zm V J d)) else (if qw s0 = 0 then zGo false 125 42 [.ref 0, .int (zi x1), .int (zi x2), .int (zi x3), .int (zi s0), .null, .null, .null, .null, .null] [.int (zi (0))] (zm V J d) else zGo false 125 42 [.ref 0, .int (zi x1), .int (zi x2), .int (zi x3), .int (zi s0), .null, .null, .null, .null, .null] [.int (zi (1))] (zm V J d))) := by
  refine (zr_istore (n := 4) (l1 := [.ref 0, .int (zi x1), .int (zi x2), .int (zi x3), .int (zi s0), .null, .null, .null, .null, .null]) (by decide +kernel) rfl).trans ?_
  refine (zr_iload_n (n := 3) (x := zi x3) (by decide +kernel) rfl).trans ?_
  refine (zr_iconst (n := 1) (by decide +kernel)).trans ?_
  refine (zr_cne (off := 14) (a := x3) (b := (1)) (t := 43) (by decide +kernel) rfl).trans (zif_ct (fun _ => ?_) (fun _ => ?_))
  · refine (zr_iload (n := 4) (x := zi s0) (by decide +kernel) rfl).trans ?_
    refine (zr_ifeq (off := 5) (a := s0) (t := 50) (by decide +kernel) rfl).trans (zif_ct (fun _ => ?_) (fun _ => ?_))
    · refine (zr_iconst (n := 0) (by decide +kernel)).trans ?_
      refine (zr_istore (n := 5) (l1 := [.ref 0, .int (zi x1), .int (zi x2), .int (zi x3), .int (zi s0), .int (zi (0)), .null, .null, .null, .null]) (by decide +kernel) rfl).trans ?_
      refine (zr_iconst (n := 1) (by decide +kernel)).trans ?_
      refine (zr_istore (n := 6) (l1 := [.ref 0, .int (zi x1), .int (zi x2), .int (zi x3), .int (zi s0), .int (zi (0)), .int (zi (1)), .null, .null, .null]) (by decide +kernel) rfl).trans ?_
      rfl
    · refine (zr_iconst (n := 0) (by decide +kernel)).trans ?_
      exact zr_iret (a := (0)) (by decide +kernel) rfl
  · refine (zr_iload (n := 4) (x := zi s0) (by decide +kernel) rfl).trans ?_
    refine (zr_ifeq (off := 7) (a := s0) (t := 41) (by decide +kernel) rfl).trans (zif_ct (fun _ => ?_) (fun _ => ?_))
    · refine (zr_iconst (n := 0) (by decide +kernel)).trans ?_
      rfl
    · refine (zr_iconst (n := 1) (by decide +kernel)).trans ?_
      refine (zr_goto (off := 4) (t := 42) (by decide +kernel) rfl).trans ?_
      rfl
theorem ze_125_42 {V : zVt} {J : zJt} {d : Nat → Nat → UInt64} (x1 : Int) (x2 : Int) (x3 : Int) (x4 : Int) (s0 : Int) : zGo false 125 42 [.ref 0, .int (zi x1), .int (zi x2), .int (zi x3), .int (zi x4), .null, .null, .null, .null, .null] [.int (zi s0)] (zm V J d) =
    some (.inl (some (.int (zi s0))), zm V J d) := by
  exact zr_iret (a := s0) (by decide +kernel) rfl
theorem ze_125_56 {V : zVt} {J : zJt} {d : Nat → Nat → UInt64} (x1 : Int) (x2 : Int) (x3 : Int) (x4 : Int) (x5 : Int) (x6 : Int) (x7 : Value) (x8 : Value) (x9 : Value) : zGo false 125 56 [.ref 0, .int (zi x1), .int (zi x2), .int (zi x3), .int (zi x4), .int (zi x5), .int (zi x6), x7, x8, x9] [] (zm V J d) =
    (if qw (4) ≤ qw x6 then some (.inl (some (.int (zi x5))), zm V J d) else zGo false 125 65 [.ref 0, .int (zi x1), .int (zi x2), .int (zi x3), .int (zi x4), .int (zi x5), .int (zi x6), .int (zi (0)), x8, x9] [] (zm V J d)) := by
  refine (zr_iload (n := 6) (x := zi x6) (by decide +kernel) rfl).trans ?_
  refine (zr_iconst (n := 4) (by decide +kernel)).trans ?_
  refine (zr_cge (off := 87) (a := x6) (b := (4)) (t := 146) (by decide +kernel) rfl).trans (zif_ct (fun _ => ?_) (fun _ => ?_))
  · refine (zr_iload (n := 5) (x := zi x5) (by decide +kernel) rfl).trans ?_
    exact zr_iret (a := x5) (by decide +kernel) rfl
  · refine (zr_iconst (n := 0) (by decide +kernel)).trans ?_
    refine (zr_istore (n := 7) (l1 := [.ref 0, .int (zi x1), .int (zi x2), .int (zi x3), .int (zi x4), .int (zi x5), .int (zi x6), .int (zi (0)), x8, x9]) (by decide +kernel) rfl).trans ?_
    rfl
theorem ze_125_65 {V : zVt} {J : zJt} {d : Nat → Nat → UInt64} (x1 : Int) (x2 : Int) (x3 : Int) (x4 : Int) (x5 : Int) (x6 : Int) (x7 : Int) (x8 : Value) (x9 : Value) : zGo false 125 65 [.ref 0, .int (zi x1), .int (zi x2), .int (zi x3), .int (zi x4), .int (zi x5), .int (zi x6), .int (zi x7), x8, x9] [] (zm V J d) =
    (if qw x6 ≤ qw x7 then zGo false 125 56 [.ref 0, .int (zi x1), .int (zi x2), .int (zi x3), .int (zi x4), .int (zi x5), .int (zi (x6 + 1)), .int (zi x7), x8, x9] [] (zm V J d) else zck (0 ≤ qw ((x1 * (4)) + x7) ∧ qw ((x1 * (4)) + x7) < 12) (zck (0 ≤ qw ((x1 * (4)) + x6) ∧ qw ((x1 * (4)) + x6) < 12) ((zGo false 44 0 [.ref (50 + 15 * (qw ((x1 * (4)) + x7)).toNat)] [] (zm V J d)).bind (zGor false 125 103 [.ref 0, .int (zi x1), .int (zi x2), .int (zi x3), .int (zi x4), .int (zi x5), .int (zi x6), .int (zi x7), .ref (50 + 15 * (qw ((x1 * (4)) + x7)).toNat), .ref (50 + 15 * (qw ((x1 * (4)) + x6)).toNat)] [])))) := by
  refine (zr_iload (n := 7) (x := zi x7) (by decide +kernel) rfl).trans ?_
  refine (zr_iload (n := 6) (x := zi x6) (by decide +kernel) rfl).trans ?_
  refine (zr_cge (off := 71) (a := x7) (b := x6) (t := 140) (by decide +kernel) rfl).trans (zif_ct (fun _ => ?_) (fun _ => ?_))
  · refine (zr_iinc (n := 6) (k := 1) (x := x6) (l1 := [.ref 0, .int (zi x1), .int (zi x2), .int (zi x3), .int (zi x4), .int (zi x5), .int (zi (x6 + 1)), .int (zi x7), x8, x9]) (by decide +kernel) rfl rfl).trans ?_
    refine (zr_goto (off := -87) (t := 56) (by decide +kernel) rfl).trans ?_
    rfl
  · refine (zr_aload_n (n := 0) (x := 0) (by decide +kernel) rfl).trans ?_
    refine (zr_getR (i := 11) (c := 11) (k := 0) (r := 1) (by decide +kernel) (by decide +kernel) rfl (by decide +kernel) (zR0_f (o := 0) (c := 11) (n := 0) (k := 0) (j := 1) rfl (by decide) rfl)).trans ?_
    refine (zr_iload_n (n := 1) (x := zi x1) (by decide +kernel) rfl).trans ?_
    refine (zr_iconst (n := 4) (by decide +kernel)).trans ?_
    refine (zr_imul (a := x1) (b := (4)) (by decide +kernel)).trans ?_
    refine (zr_iload (n := 7) (x := zi x7) (by decide +kernel) rfl).trans ?_
    refine (zr_iadd (a := (x1 * (4))) (b := x7) (by decide +kernel)).trans ?_
    refine (zr_parts (e := ((x1 * (4)) + x7)) (by decide +kernel)).trans (zck_ct fun q82 => ?_)
    refine (zr_astore (n := 8) (l1 := [.ref 0, .int (zi x1), .int (zi x2), .int (zi x3), .int (zi x4), .int (zi x5), .int (zi x6), .int (zi x7), .ref (50 + 15 * (qw ((x1 * (4)) + x7)).toNat), x9]) (by decide +kernel) rfl).trans ?_
    refine (zr_aload_n (n := 0) (x := 0) (by decide +kernel) rfl).trans ?_
    refine (zr_getR (i := 11) (c := 11) (k := 0) (r := 1) (by decide +kernel) (by decide +kernel) rfl (by decide +kernel) (zR0_f (o := 0) (c := 11) (n := 0) (k := 0) (j := 1) rfl (by decide) rfl)).trans ?_
    refine (zr_iload_n (n := 1) (x := zi x1) (by decide +kernel) rfl).trans ?_
    refine (zr_iconst (n := 4) (by decide +kernel)).trans ?_
    refine (zr_imul (a := x1) (b := (4)) (by decide +kernel)).trans ?_
    refine (zr_iload (n := 6) (x := zi x6) (by decide +kernel) rfl).trans ?_
    refine (zr_iadd (a := (x1 * (4))) (b := x6) (by decide +kernel)).trans ?_
    refine (zr_parts (e := ((x1 * (4)) + x6)) (by decide +kernel)).trans (zck_ct fun q95 => ?_)
    refine (zr_astore (n := 9) (l1 := [.ref 0, .int (zi x1), .int (zi x2), .int (zi x3), .int (zi x4), .int (zi x5), .int (zi x6), .int (zi x7), .ref (50 + 15 * (qw ((x1 * (4)) + x7)).toNat), .ref (50 + 15 * (qw ((x1 * (4)) + x6)).toNat)]) (by decide +kernel) rfl).trans ?_
    refine (zr_aload (n := 8) (x := (50 + 15 * (qw ((x1 * (4)) + x7)).toNat)) (by decide +kernel) rfl).trans ?_
    exact zr_cV (i := 351) (z := 44) (w := 0) (o := (50 + 15 * (qw ((x1 * (4)) + x7)).toNat)) (t := []) (rest := []) (L := [.ref (50 + 15 * (qw ((x1 * (4)) + x7)).toNat)]) (pc1 := 103) (by decide +kernel) (by decide +kernel) (zb6_0 (zBk_part (show (qw ((x1 * (4)) + x7)).toNat < 12 by omega))) (n := 0) (r := 0) rfl rfl rfl (by decide +kernel) rfl rfl
theorem ze_125_103 {V : zVt} {J : zJt} {d : Nat → Nat → UInt64} (x1 : Int) (x2 : Int) (x3 : Int) (x4 : Int) (x5 : Int) (x6 : Int) (x7 : Int) (x8 : Nat) (x9 : Nat) (s0 : Int) (h8 : zBk 6 x8) (h9 : zBk 6 x9) : zGo false 125 103 [.ref 0, .int (zi x1), .int (zi x2), .int (zi x3), .int (zi x4), .int (zi x5), .int (zi x6), .int (zi x7), .ref x8, .ref x9] [.int (zi s0)] (zm V J d) =
    (if qw s0 = 0 then zGo false 125 134 [.ref 0, .int (zi x1), .int (zi x2), .int (zi x3), .int (zi x4), .int (zi x5), .int (zi x6), .int (zi x7), .ref x8, .ref x9] [] (zm V J d) else (zGo false 44 0 [.ref x9] [] (zm V J d)).bind (zGor false 125 111 [.ref 0, .int (zi x1), .int (zi x2), .int (zi x3), .int (zi x4), .int (zi x5), .int (zi x6), .int (zi x7), .ref x8, .ref x9] [])) := by
  refine (zr_ifeq (off := 31) (a := s0) (t := 134) (by decide +kernel) rfl).trans (zif_ct (fun _ => ?_) (fun _ => ?_))
  · rfl
  · refine (zr_aload (n := 9) (x := x9) (by decide +kernel) rfl).trans ?_
    exact zr_cV (i := 351) (z := 44) (w := 0) (o := x9) (t := []) (rest := []) (L := [.ref x9]) (pc1 := 111) (by decide +kernel) (by decide +kernel) (zb6_0 h9) (n := 0) (r := 0) rfl rfl rfl (by decide +kernel) rfl rfl
theorem ze_125_111 {V : zVt} {J : zJt} {d : Nat → Nat → UInt64} (x1 : Int) (x2 : Int) (x3 : Int) (x4 : Int) (x5 : Int) (x6 : Int) (x7 : Int) (x8 : Nat) (x9 : Nat) (s0 : Int) (h8 : zBk 6 x8) (h9 : zBk 6 x9) : zGo false 125 111 [.ref 0, .int (zi x1), .int (zi x2), .int (zi x3), .int (zi x4), .int (zi x5), .int (zi x6), .int (zi x7), .ref x8, .ref x9] [.int (zi s0)] (zm V J d) =
    (if qw s0 = 0 then zGo false 125 134 [.ref 0, .int (zi x1), .int (zi x2), .int (zi x3), .int (zi x4), .int (zi x5), .int (zi x6), .int (zi x7), .ref x8, .ref x9] [] (zm V J d) else (zGo false 40 0 [.ref (x8 + 13), .ref (x9 + 13), .int (zi x2), .int (zi x3), .null, .null, .null, .null] [] (zm V J d)).bind (zGor false 125 131 [.ref 0, .int (zi x1), .int (zi x2), .int (zi x3), .int (zi x4), .int (zi x5), .int (zi x6), .int (zi x7), .ref x8, .ref x9] [.int (zi x5)])) := by
  refine (zr_ifeq (off := 23) (a := s0) (t := 134) (by decide +kernel) rfl).trans (zif_ct (fun _ => ?_) (fun _ => ?_))
  · rfl
  · refine (zr_iload (n := 5) (x := zi x5) (by decide +kernel) rfl).trans ?_
    refine (zr_aload (n := 8) (x := x8) (by decide +kernel) rfl).trans ?_
    refine (zr_getR (i := 148) (c := 6) (k := 8) (r := (x8 + 13)) (by decide +kernel) (by decide +kernel) (zb6_0 h8) (by decide +kernel) (zR0_f (o := x8) (c := 6) (n := 0) (k := 8) (j := 13) (zb6_0 h8) (by decide) rfl)).trans ?_
    refine (zr_aload (n := 9) (x := x9) (by decide +kernel) rfl).trans ?_
    refine (zr_getR (i := 148) (c := 6) (k := 8) (r := (x9 + 13)) (by decide +kernel) (by decide +kernel) (zb6_0 h9) (by decide +kernel) (zR0_f (o := x9) (c := 6) (n := 0) (k := 8) (j := 13) (zb6_0 h9) (by decide) rfl)).trans ?_
    refine (zr_iload_n (n := 2) (x := zi x2) (by decide +kernel) rfl).trans ?_
    refine (zr_iload_n (n := 3) (x := zi x3) (by decide +kernel) rfl).trans ?_
    exact zr_cV (i := 355) (z := 40) (w := 0) (o := (x8 + 13)) (t := [.int (zi x3), .int (zi x2), .ref (x9 + 13)]) (rest := [.int (zi x5)]) (L := [.ref (x8 + 13), .ref (x9 + 13), .int (zi x2), .int (zi x3), .null, .null, .null, .null]) (pc1 := 131) (by decide +kernel) (by decide +kernel) (zb5_0 (zBk_6music h8)) (n := 3) (r := 1) rfl rfl rfl (by decide +kernel) rfl rfl
theorem ze_125_131 {V : zVt} {J : zJt} {d : Nat → Nat → UInt64} (x1 : Int) (x2 : Int) (x3 : Int) (x4 : Int) (x5 : Int) (x6 : Int) (x7 : Int) (x8 : Nat) (x9 : Nat) (s0 : Int) (s1 : Int) (h8 : zBk 6 x8) (h9 : zBk 6 x9) : zGo false 125 131 [.ref 0, .int (zi x1), .int (zi x2), .int (zi x3), .int (zi x4), .int (zi x5), .int (zi x6), .int (zi x7), .ref x8, .ref x9] [.int (zi s1), .int (zi s0)] (zm V J d) =
    zGo false 125 134 [.ref 0, .int (zi x1), .int (zi x2), .int (zi x3), .int (zi x4), .int (zi (s0 + s1)), .int (zi x6), .int (zi x7), .ref x8, .ref x9] [] (zm V J d) := by
  refine (zr_iadd (a := s0) (b := s1) (by decide +kernel)).trans ?_
  refine (zr_istore (n := 5) (l1 := [.ref 0, .int (zi x1), .int (zi x2), .int (zi x3), .int (zi x4), .int (zi (s0 + s1)), .int (zi x6), .int (zi x7), .ref x8, .ref x9]) (by decide +kernel) rfl).trans ?_
  rfl
theorem ze_125_134 {V : zVt} {J : zJt} {d : Nat → Nat → UInt64} (x1 : Int) (x2 : Int) (x3 : Int) (x4 : Int) (x5 : Int) (x6 : Int) (x7 : Int) (x8 : Nat) (x9 : Nat) (h8 : zBk 6 x8) (h9 : zBk 6 x9) : zGo false 125 134 [.ref 0, .int (zi x1), .int (zi x2), .int (zi x3), .int (zi x4), .int (zi x5), .int (zi x6), .int (zi x7), .ref x8, .ref x9] [] (zm V J d) =
    zGo false 125 65 [.ref 0, .int (zi x1), .int (zi x2), .int (zi x3), .int (zi x4), .int (zi x5), .int (zi x6), .int (zi (x7 + 1)), .ref x8, .ref x9] [] (zm V J d) := by
  refine (zr_iinc (n := 7) (k := 1) (x := x7) (l1 := [.ref 0, .int (zi x1), .int (zi x2), .int (zi x3), .int (zi x4), .int (zi x5), .int (zi x6), .int (zi (x7 + 1)), .ref x8, .ref x9]) (by decide +kernel) rfl rfl).trans ?_
  refine (zr_goto (off := -72) (t := 65) (by decide +kernel) rfl).trans ?_
  rfl
/-! PartSongDesk isOfUnlikeLengths (II)Z -/
theorem ze_126_0 {V : zVt} {J : zJt} {d : Nat → Nat → UInt64} (x1 : Int) (x2 : Int) : zGo false 126 0 [.ref 0, .int (zi x1), .int (zi x2), .null, .null, .null, .null] [] (zm V J d) =
    zGo false 126 8 [.ref 0, .int (zi x1), .int (zi x2), .int (zi (0)), .int (zi (0)), .int (zi (0)), .null] [] (zm V J d) := by
  refine (zr_iconst (n := 0) (by decide +kernel)).trans ?_
  refine (zr_istore_n (n := 3) (l1 := [.ref 0, .int (zi x1), .int (zi x2), .int (zi (0)), .null, .null, .null]) (by decide +kernel) rfl).trans ?_
  refine (zr_iconst (n := 0) (by decide +kernel)).trans ?_
  refine (zr_istore (n := 4) (l1 := [.ref 0, .int (zi x1), .int (zi x2), .int (zi (0)), .int (zi (0)), .null, .null]) (by decide +kernel) rfl).trans ?_
  refine (zr_iconst (n := 0) (by decide +kernel)).trans ?_
  refine (zr_istore (n := 5) (l1 := [.ref 0, .int (zi x1), .int (zi x2), .int (zi (0)), .int (zi (0)), .int (zi (0)), .null]) (by decide +kernel) rfl).trans ?_
  rfl
theorem ze_126_8 {V : zVt} {J : zJt} {d : Nat → Nat → UInt64} (x1 : Int) (x2 : Int) (x3 : Int) (x4 : Int) (x5 : Int) (x6 : Value) : zGo false 126 8 [.ref 0, .int (zi x1), .int (zi x2), .int (zi x3), .int (zi x4), .int (zi x5), x6] [] (zm V J d) =
    (if qw (4) ≤ qw x5 then (if qw x4 ≤ 0 then zGo false 126 81 [.ref 0, .int (zi x1), .int (zi x2), .int (zi x3), .int (zi x4), .int (zi x5), x6] [] (zm V J d) else (if qw x3 ≤ qw x4 then zGo false 126 81 [.ref 0, .int (zi x1), .int (zi x2), .int (zi x3), .int (zi x4), .int (zi x5), x6] [] (zm V J d) else zGo false 126 82 [.ref 0, .int (zi x1), .int (zi x2), .int (zi x3), .int (zi x4), .int (zi x5), x6] [.int (zi (1))] (zm V J d))) else zck (0 ≤ qw ((x1 * (4)) + x5) ∧ qw ((x1 * (4)) + x5) < 12) ((zGo false 44 0 [.ref (50 + 15 * (qw ((x1 * (4)) + x5)).toNat)] [] (zm V J d)).bind (zGor false 126 32 [.ref 0, .int (zi x1), .int (zi x2), .int (zi x3), .int (zi x4), .int (zi x5), .ref (50 + 15 * (qw ((x1 * (4)) + x5)).toNat)] []))) := by
  refine (zr_iload (n := 5) (x := zi x5) (by decide +kernel) rfl).trans ?_
  refine (zr_iconst (n := 4) (by decide +kernel)).trans ?_
  refine (zr_cge (off := 55) (a := x5) (b := (4)) (t := 66) (by decide +kernel) rfl).trans (zif_ct (fun _ => ?_) (fun _ => ?_))
  · refine (zr_iload (n := 4) (x := zi x4) (by decide +kernel) rfl).trans ?_
    refine (zr_ifle (off := 13) (a := x4) (t := 81) (by decide +kernel) rfl).trans (zif_ct (fun _ => ?_) (fun _ => ?_))
    · rfl
    · refine (zr_iload (n := 4) (x := zi x4) (by decide +kernel) rfl).trans ?_
      refine (zr_iload_n (n := 3) (x := zi x3) (by decide +kernel) rfl).trans ?_
      refine (zr_cge (off := 7) (a := x4) (b := x3) (t := 81) (by decide +kernel) rfl).trans (zif_ct (fun _ => ?_) (fun _ => ?_))
      · rfl
      · refine (zr_iconst (n := 1) (by decide +kernel)).trans ?_
        refine (zr_goto (off := 4) (t := 82) (by decide +kernel) rfl).trans ?_
        rfl
  · refine (zr_aload_n (n := 0) (x := 0) (by decide +kernel) rfl).trans ?_
    refine (zr_getR (i := 11) (c := 11) (k := 0) (r := 1) (by decide +kernel) (by decide +kernel) rfl (by decide +kernel) (zR0_f (o := 0) (c := 11) (n := 0) (k := 0) (j := 1) rfl (by decide) rfl)).trans ?_
    refine (zr_iload_n (n := 1) (x := zi x1) (by decide +kernel) rfl).trans ?_
    refine (zr_iconst (n := 4) (by decide +kernel)).trans ?_
    refine (zr_imul (a := x1) (b := (4)) (by decide +kernel)).trans ?_
    refine (zr_iload (n := 5) (x := zi x5) (by decide +kernel) rfl).trans ?_
    refine (zr_iadd (a := (x1 * (4))) (b := x5) (by decide +kernel)).trans ?_
    refine (zr_parts (e := ((x1 * (4)) + x5)) (by decide +kernel)).trans (zck_ct fun q24 => ?_)
    refine (zr_astore (n := 6) (l1 := [.ref 0, .int (zi x1), .int (zi x2), .int (zi x3), .int (zi x4), .int (zi x5), .ref (50 + 15 * (qw ((x1 * (4)) + x5)).toNat)]) (by decide +kernel) rfl).trans ?_
    refine (zr_aload (n := 6) (x := (50 + 15 * (qw ((x1 * (4)) + x5)).toNat)) (by decide +kernel) rfl).trans ?_
    exact zr_cV (i := 351) (z := 44) (w := 0) (o := (50 + 15 * (qw ((x1 * (4)) + x5)).toNat)) (t := []) (rest := []) (L := [.ref (50 + 15 * (qw ((x1 * (4)) + x5)).toNat)]) (pc1 := 32) (by decide +kernel) (by decide +kernel) (zb6_0 (zBk_part (show (qw ((x1 * (4)) + x5)).toNat < 12 by omega))) (n := 0) (r := 0) rfl rfl rfl (by decide +kernel) rfl rfl
theorem ze_126_32 {V : zVt} {J : zJt} {d : Nat → Nat → UInt64} (x1 : Int) (x2 : Int) (x3 : Int) (x4 : Int) (x5 : Int) (x6 : Nat) (s0 : Int) (h6 : zBk 6 x6) : zGo false 126 32 [.ref 0, .int (zi x1), .int (zi x2), .int (zi x3), .int (zi x4), .int (zi x5), .ref x6] [.int (zi s0)] (zm V J d) =
    (if qw s0 = 0 then zGo false 126 60 [.ref 0, .int (zi x1), .int (zi x2), .int (zi x3), .int (zi x4), .int (zi x5), .ref x6] [] (zm V J d) else (zGo false 30 0 [.ref (x6 + 13), .int (zi x2)] [] (zm V J d)).bind (zGor false 126 49 [.ref 0, .int (zi x1), .int (zi x2), .int (zi (x3 + 1)), .int (zi x4), .int (zi x5), .ref x6] [.int (zi x4)])) := by
  refine (zr_ifeq (off := 28) (a := s0) (t := 60) (by decide +kernel) rfl).trans (zif_ct (fun _ => ?_) (fun _ => ?_))
  · rfl
  · refine (zr_iinc (n := 3) (k := 1) (x := x3) (l1 := [.ref 0, .int (zi x1), .int (zi x2), .int (zi (x3 + 1)), .int (zi x4), .int (zi x5), .ref x6]) (by decide +kernel) rfl rfl).trans ?_
    refine (zr_iload (n := 4) (x := zi x4) (by decide +kernel) rfl).trans ?_
    refine (zr_aload (n := 6) (x := x6) (by decide +kernel) rfl).trans ?_
    refine (zr_getR (i := 148) (c := 6) (k := 8) (r := (x6 + 13)) (by decide +kernel) (by decide +kernel) (zb6_0 h6) (by decide +kernel) (zR0_f (o := x6) (c := 6) (n := 0) (k := 8) (j := 13) (zb6_0 h6) (by decide) rfl)).trans ?_
    refine (zr_iload_n (n := 2) (x := zi x2) (by decide +kernel) rfl).trans ?_
    exact zr_cV (i := 326) (z := 30) (w := 0) (o := (x6 + 13)) (t := [.int (zi x2)]) (rest := [.int (zi x4)]) (L := [.ref (x6 + 13), .int (zi x2)]) (pc1 := 49) (by decide +kernel) (by decide +kernel) (zb5_0 (zBk_6music h6)) (n := 1) (r := 1) rfl rfl rfl (by decide +kernel) rfl rfl
theorem ze_126_49 {V : zVt} {J : zJt} {d : Nat → Nat → UInt64} (x1 : Int) (x2 : Int) (x3 : Int) (x4 : Int) (x5 : Int) (x6 : Nat) (s0 : Int) (s1 : Int) (h6 : zBk 6 x6) : zGo false 126 49 [.ref 0, .int (zi x1), .int (zi x2), .int (zi x3), .int (zi x4), .int (zi x5), .ref x6] [.int (zi s1), .int (zi s0)] (zm V J d) =
    (if qw s1 = 0 then zGo false 126 57 [.ref 0, .int (zi x1), .int (zi x2), .int (zi x3), .int (zi x4), .int (zi x5), .ref x6] [.int (zi (0)), .int (zi s0)] (zm V J d) else zGo false 126 57 [.ref 0, .int (zi x1), .int (zi x2), .int (zi x3), .int (zi x4), .int (zi x5), .ref x6] [.int (zi (1)), .int (zi s0)] (zm V J d)) := by
  refine (zr_ifeq (off := 7) (a := s1) (t := 56) (by decide +kernel) rfl).trans (zif_ct (fun _ => ?_) (fun _ => ?_))
  · refine (zr_iconst (n := 0) (by decide +kernel)).trans ?_
    rfl
  · refine (zr_iconst (n := 1) (by decide +kernel)).trans ?_
    refine (zr_goto (off := 4) (t := 57) (by decide +kernel) rfl).trans ?_
    rfl
theorem ze_126_57 {V : zVt} {J : zJt} {d : Nat → Nat → UInt64} (x1 : Int) (x2 : Int) (x3 : Int) (x4 : Int) (x5 : Int) (x6 : Nat) (s0 : Int) (s1 : Int) (h6 : zBk 6 x6) : zGo false 126 57 [.ref 0, .int (zi x1), .int (zi x2), .int (zi x3), .int (zi x4), .int (zi x5), .ref x6] [.int (zi s1), .int (zi s0)] (zm V J d) =
    zGo false 126 60 [.ref 0, .int (zi x1), .int (zi x2), .int (zi x3), .int (zi (s0 + s1)), .int (zi x5), .ref x6] [] (zm V J d) := by
  refine (zr_iadd (a := s0) (b := s1) (by decide +kernel)).trans ?_
  refine (zr_istore (n := 4) (l1 := [.ref 0, .int (zi x1), .int (zi x2), .int (zi x3), .int (zi (s0 + s1)), .int (zi x5), .ref x6]) (by decide +kernel) rfl).trans ?_
  rfl
theorem ze_126_60 {V : zVt} {J : zJt} {d : Nat → Nat → UInt64} (x1 : Int) (x2 : Int) (x3 : Int) (x4 : Int) (x5 : Int) (x6 : Nat) (h6 : zBk 6 x6) : zGo false 126 60 [.ref 0, .int (zi x1), .int (zi x2), .int (zi x3), .int (zi x4), .int (zi x5), .ref x6] [] (zm V J d) =
    zGo false 126 8 [.ref 0, .int (zi x1), .int (zi x2), .int (zi x3), .int (zi x4), .int (zi (x5 + 1)), .ref x6] [] (zm V J d) := by
  refine (zr_iinc (n := 5) (k := 1) (x := x5) (l1 := [.ref 0, .int (zi x1), .int (zi x2), .int (zi x3), .int (zi x4), .int (zi (x5 + 1)), .ref x6]) (by decide +kernel) rfl rfl).trans ?_
  refine (zr_goto (off := -55) (t := 8) (by decide +kernel) rfl).trans ?_
  rfl
theorem ze_126_81 {V : zVt} {J : zJt} {d : Nat → Nat → UInt64} (x1 : Int) (x2 : Int) (x3 : Int) (x4 : Int) (x5 : Int) (x6 : Value) : zGo false 126 81 [.ref 0, .int (zi x1), .int (zi x2), .int (zi x3), .int (zi x4), .int (zi x5), x6] [] (zm V J d) =
    zGo false 126 82 [.ref 0, .int (zi x1), .int (zi x2), .int (zi x3), .int (zi x4), .int (zi x5), x6] [.int (zi (0))] (zm V J d) := by
  refine (zr_iconst (n := 0) (by decide +kernel)).trans ?_
  rfl
theorem ze_126_82 {V : zVt} {J : zJt} {d : Nat → Nat → UInt64} (x1 : Int) (x2 : Int) (x3 : Int) (x4 : Int) (x5 : Int) (x6 : Value) (s0 : Int) : zGo false 126 82 [.ref 0, .int (zi x1), .int (zi x2), .int (zi x3), .int (zi x4), .int (zi x5), x6] [.int (zi s0)] (zm V J d) =
    zck (qw s0 = 0 ∨ qw s0 = 1) (some (.inl (some (.int (zi s0))), zm V J d)) := by
  exact zr_zret (a := s0) (by decide +kernel) rfl
/-! PartSongDesk isOfUnlikeTicks (II)Z -/
theorem ze_127_0 {V : zVt} {J : zJt} {d : Nat → Nat → UInt64} (x1 : Int) (x2 : Int) : zGo false 127 0 [.ref 0, .int (zi x1), .int (zi x2), .null, .null, .null] [] (zm V J d) =
    zGo false 127 5 [.ref 0, .int (zi x1), .int (zi x2), .int (zi (-1)), .int (zi (0)), .null] [] (zm V J d) := by
  refine (zr_iconst (n := -1) (by decide +kernel)).trans ?_
  refine (zr_istore_n (n := 3) (l1 := [.ref 0, .int (zi x1), .int (zi x2), .int (zi (-1)), .null, .null]) (by decide +kernel) rfl).trans ?_
  refine (zr_iconst (n := 0) (by decide +kernel)).trans ?_
  refine (zr_istore (n := 4) (l1 := [.ref 0, .int (zi x1), .int (zi x2), .int (zi (-1)), .int (zi (0)), .null]) (by decide +kernel) rfl).trans ?_
  rfl
theorem ze_127_5 {V : zVt} {J : zJt} {d : Nat → Nat → UInt64} (x1 : Int) (x2 : Int) (x3 : Int) (x4 : Int) (x5 : Value) : zGo false 127 5 [.ref 0, .int (zi x1), .int (zi x2), .int (zi x3), .int (zi x4), x5] [] (zm V J d) =
    (if qw (4) ≤ qw x4 then zck (qw (0) = 0 ∨ qw (0) = 1) (some (.inl (some (.int (zi (0)))), zm V J d)) else zck (0 ≤ qw ((x1 * (4)) + x4) ∧ qw ((x1 * (4)) + x4) < 12) ((zGo false 44 0 [.ref (50 + 15 * (qw ((x1 * (4)) + x4)).toNat)] [] (zm V J d)).bind (zGor false 127 29 [.ref 0, .int (zi x1), .int (zi x2), .int (zi x3), .int (zi x4), .ref (50 + 15 * (qw ((x1 * (4)) + x4)).toNat)] []))) := by
  refine (zr_iload (n := 4) (x := zi x4) (by decide +kernel) rfl).trans ?_
  refine (zr_iconst (n := 4) (by decide +kernel)).trans ?_
  refine (zr_cge (off := 70) (a := x4) (b := (4)) (t := 78) (by decide +kernel) rfl).trans (zif_ct (fun _ => ?_) (fun _ => ?_))
  · refine (zr_iconst (n := 0) (by decide +kernel)).trans ?_
    exact zr_zret (a := (0)) (by decide +kernel) rfl
  · refine (zr_aload_n (n := 0) (x := 0) (by decide +kernel) rfl).trans ?_
    refine (zr_getR (i := 11) (c := 11) (k := 0) (r := 1) (by decide +kernel) (by decide +kernel) rfl (by decide +kernel) (zR0_f (o := 0) (c := 11) (n := 0) (k := 0) (j := 1) rfl (by decide) rfl)).trans ?_
    refine (zr_iload_n (n := 1) (x := zi x1) (by decide +kernel) rfl).trans ?_
    refine (zr_iconst (n := 4) (by decide +kernel)).trans ?_
    refine (zr_imul (a := x1) (b := (4)) (by decide +kernel)).trans ?_
    refine (zr_iload (n := 4) (x := zi x4) (by decide +kernel) rfl).trans ?_
    refine (zr_iadd (a := (x1 * (4))) (b := x4) (by decide +kernel)).trans ?_
    refine (zr_parts (e := ((x1 * (4)) + x4)) (by decide +kernel)).trans (zck_ct fun q21 => ?_)
    refine (zr_astore (n := 5) (l1 := [.ref 0, .int (zi x1), .int (zi x2), .int (zi x3), .int (zi x4), .ref (50 + 15 * (qw ((x1 * (4)) + x4)).toNat)]) (by decide +kernel) rfl).trans ?_
    refine (zr_aload (n := 5) (x := (50 + 15 * (qw ((x1 * (4)) + x4)).toNat)) (by decide +kernel) rfl).trans ?_
    exact zr_cV (i := 351) (z := 44) (w := 0) (o := (50 + 15 * (qw ((x1 * (4)) + x4)).toNat)) (t := []) (rest := []) (L := [.ref (50 + 15 * (qw ((x1 * (4)) + x4)).toNat)]) (pc1 := 29) (by decide +kernel) (by decide +kernel) (zb6_0 (zBk_part (show (qw ((x1 * (4)) + x4)).toNat < 12 by omega))) (n := 0) (r := 0) rfl rfl rfl (by decide +kernel) rfl rfl
theorem ze_127_29 {V : zVt} {J : zJt} {d : Nat → Nat → UInt64} (x1 : Int) (x2 : Int) (x3 : Int) (x4 : Int) (x5 : Nat) (s0 : Int) (h5 : zBk 6 x5) : zGo false 127 29 [.ref 0, .int (zi x1), .int (zi x2), .int (zi x3), .int (zi x4), .ref x5] [.int (zi s0)] (zm V J d) =
    (if qw s0 = 0 then zGo false 127 72 [.ref 0, .int (zi x1), .int (zi x2), .int (zi x3), .int (zi x4), .ref x5] [] (zm V J d) else (zGo false 30 0 [.ref (x5 + 13), .int (zi x2)] [] (zm V J d)).bind (zGor false 127 41 [.ref 0, .int (zi x1), .int (zi x2), .int (zi x3), .int (zi x4), .ref x5] [])) := by
  refine (zr_ifeq (off := 43) (a := s0) (t := 72) (by decide +kernel) rfl).trans (zif_ct (fun _ => ?_) (fun _ => ?_))
  · rfl
  · refine (zr_aload (n := 5) (x := x5) (by decide +kernel) rfl).trans ?_
    refine (zr_getR (i := 148) (c := 6) (k := 8) (r := (x5 + 13)) (by decide +kernel) (by decide +kernel) (zb6_0 h5) (by decide +kernel) (zR0_f (o := x5) (c := 6) (n := 0) (k := 8) (j := 13) (zb6_0 h5) (by decide) rfl)).trans ?_
    refine (zr_iload_n (n := 2) (x := zi x2) (by decide +kernel) rfl).trans ?_
    exact zr_cV (i := 326) (z := 30) (w := 0) (o := (x5 + 13)) (t := [.int (zi x2)]) (rest := []) (L := [.ref (x5 + 13), .int (zi x2)]) (pc1 := 41) (by decide +kernel) (by decide +kernel) (zb5_0 (zBk_6music h5)) (n := 1) (r := 0) rfl rfl rfl (by decide +kernel) rfl rfl
theorem ze_127_41 {V : zVt} {J : zJt} {d : Nat → Nat → UInt64} (x1 : Int) (x2 : Int) (x3 : Int) (x4 : Int) (x5 : Nat) (s0 : Int) (h5 : zBk 6 x5) : zGo false 127 41 [.ref 0, .int (zi x1), .int (zi x2), .int (zi x3), .int (zi x4), .ref x5] [.int (zi s0)] (zm V J d) =
    (if qw s0 = 0 then zGo false 127 72 [.ref 0, .int (zi x1), .int (zi x2), .int (zi x3), .int (zi x4), .ref x5] [] (zm V J d) else (if qw x3 = qw (-1) then zGo false 127 63 [.ref 0, .int (zi x1), .int (zi x2), .int (zi x3), .int (zi x4), .ref x5] [] (zm V J d) else (if qw x3 = qw (V (x5 + 13) 3) then zGo false 127 63 [.ref 0, .int (zi x1), .int (zi x2), .int (zi x3), .int (zi x4), .ref x5] [] (zm V J d) else zck (qw (1) = 0 ∨ qw (1) = 1) (some (.inl (some (.int (zi (1)))), zm V J d))))) := by
  refine (zr_ifeq (off := 31) (a := s0) (t := 72) (by decide +kernel) rfl).trans (zif_ct (fun _ => ?_) (fun _ => ?_))
  · rfl
  · refine (zr_iload_n (n := 3) (x := zi x3) (by decide +kernel) rfl).trans ?_
    refine (zr_iconst (n := -1) (by decide +kernel)).trans ?_
    refine (zr_ceq (off := 17) (a := x3) (b := (-1)) (t := 63) (by decide +kernel) rfl).trans (zif_ct (fun _ => ?_) (fun _ => ?_))
    · rfl
    · refine (zr_iload_n (n := 3) (x := zi x3) (by decide +kernel) rfl).trans ?_
      refine (zr_aload (n := 5) (x := x5) (by decide +kernel) rfl).trans ?_
      refine (zr_getR (i := 148) (c := 6) (k := 8) (r := (x5 + 13)) (by decide +kernel) (by decide +kernel) (zb6_0 h5) (by decide +kernel) (zR0_f (o := x5) (c := 6) (n := 0) (k := 8) (j := 13) (zb6_0 h5) (by decide) rfl)).trans ?_
      refine (zr_getI (i := 167) (c := 5) (k := 3) (by decide +kernel) (by decide +kernel) (zb5_0 (zBk_6music h5)) (by decide +kernel)).trans ?_
      refine (zr_ceq (off := 5) (a := x3) (b := (V (x5 + 13) 3)) (t := 63) (by decide +kernel) rfl).trans (zif_ct (fun _ => ?_) (fun _ => ?_))
      · rfl
      · refine (zr_iconst (n := 1) (by decide +kernel)).trans ?_
        exact zr_zret (a := (1)) (by decide +kernel) rfl
theorem ze_127_63 {V : zVt} {J : zJt} {d : Nat → Nat → UInt64} (x1 : Int) (x2 : Int) (x3 : Int) (x4 : Int) (x5 : Nat) (h5 : zBk 6 x5) : zGo false 127 63 [.ref 0, .int (zi x1), .int (zi x2), .int (zi x3), .int (zi x4), .ref x5] [] (zm V J d) =
    zGo false 127 72 [.ref 0, .int (zi x1), .int (zi x2), .int (zi (V (x5 + 13) 3)), .int (zi x4), .ref x5] [] (zm V J d) := by
  refine (zr_aload (n := 5) (x := x5) (by decide +kernel) rfl).trans ?_
  refine (zr_getR (i := 148) (c := 6) (k := 8) (r := (x5 + 13)) (by decide +kernel) (by decide +kernel) (zb6_0 h5) (by decide +kernel) (zR0_f (o := x5) (c := 6) (n := 0) (k := 8) (j := 13) (zb6_0 h5) (by decide) rfl)).trans ?_
  refine (zr_getI (i := 167) (c := 5) (k := 3) (by decide +kernel) (by decide +kernel) (zb5_0 (zBk_6music h5)) (by decide +kernel)).trans ?_
  refine (zr_istore_n (n := 3) (l1 := [.ref 0, .int (zi x1), .int (zi x2), .int (zi (V (x5 + 13) 3)), .int (zi x4), .ref x5]) (by decide +kernel) rfl).trans ?_
  rfl
theorem ze_127_72 {V : zVt} {J : zJt} {d : Nat → Nat → UInt64} (x1 : Int) (x2 : Int) (x3 : Int) (x4 : Int) (x5 : Nat) (h5 : zBk 6 x5) : zGo false 127 72 [.ref 0, .int (zi x1), .int (zi x2), .int (zi x3), .int (zi x4), .ref x5] [] (zm V J d) =
    zGo false 127 5 [.ref 0, .int (zi x1), .int (zi x2), .int (zi x3), .int (zi (x4 + 1)), .ref x5] [] (zm V J d) := by
  refine (zr_iinc (n := 4) (k := 1) (x := x4) (l1 := [.ref 0, .int (zi x1), .int (zi x2), .int (zi x3), .int (zi (x4 + 1)), .ref x5]) (by decide +kernel) rfl rfl).trans ?_
  refine (zr_goto (off := -70) (t := 5) (by decide +kernel) rfl).trans ?_
  rfl
/-! PartSongDesk clashesOf (II)I -/
theorem ze_128_0 {V : zVt} {J : zJt} {d : Nat → Nat → UInt64} (x1 : Int) (x2 : Int) : zGo false 128 0 [.ref 0, .int (zi x1), .int (zi x2), .null, .null] [] (zm V J d) =
    (zGo false 124 0 [.ref 0, .int (zi x1)] [] (zm V J d)).bind (zGor false 128 5 [.ref 0, .int (zi x1), .int (zi x2), .null, .null] []) := by
  refine (zr_aload_n (n := 0) (x := 0) (by decide +kernel) rfl).trans ?_
  refine (zr_iload_n (n := 1) (x := zi x1) (by decide +kernel) rfl).trans ?_
  exact zr_cV (i := 256) (z := 124) (w := 0) (o := 0) (t := [.int (zi x1)]) (rest := []) (L := [.ref 0, .int (zi x1)]) (pc1 := 5) (by decide +kernel) (by decide +kernel) rfl (n := 1) (r := 0) rfl rfl rfl (by decide +kernel) rfl rfl
theorem ze_128_5 {V : zVt} {J : zJt} {d : Nat → Nat → UInt64} (x1 : Int) (x2 : Int) : zGo false 128 5 [.ref 0, .int (zi x1), .int (zi x2), .null, .null] [] (zm V J d) =
    (if qw x2 < 0 then zGo false 128 14 [.ref 0, .int (zi x1), .int (zi x2), .null, .null] [] (zm V J d) else (if qw x2 ≤ qw (3) then zGo false 128 30 [.ref 0, .int (zi x1), .int (zi x2), .int (zi (0)), .int (zi (0))] [] (zm V J d) else zGo false 128 14 [.ref 0, .int (zi x1), .int (zi x2), .null, .null] [] (zm V J d))) := by
  refine (zr_iload_n (n := 2) (x := zi x2) (by decide +kernel) rfl).trans ?_
  refine (zr_iflt (off := 8) (a := x2) (t := 14) (by decide +kernel) rfl).trans (zif_ct (fun _ => ?_) (fun _ => ?_))
  · rfl
  · refine (zr_iload_n (n := 2) (x := zi x2) (by decide +kernel) rfl).trans ?_
    refine (zr_iconst (n := 3) (by decide +kernel)).trans ?_
    refine (zr_cle (off := 14) (a := x2) (b := (3)) (t := 25) (by decide +kernel) rfl).trans (zif_ct (fun _ => ?_) (fun _ => ?_))
    · refine (zr_iconst (n := 0) (by decide +kernel)).trans ?_
      refine (zr_istore_n (n := 3) (l1 := [.ref 0, .int (zi x1), .int (zi x2), .int (zi (0)), .null]) (by decide +kernel) rfl).trans ?_
      refine (zr_iconst (n := 0) (by decide +kernel)).trans ?_
      refine (zr_istore (n := 4) (l1 := [.ref 0, .int (zi x1), .int (zi x2), .int (zi (0)), .int (zi (0))]) (by decide +kernel) rfl).trans ?_
      rfl
    · rfl
theorem ze_128_14 {V : zVt} {J : zJt} {d : Nat → Nat → UInt64} (x1 : Int) (x2 : Int) : zGo false 128 14 [.ref 0, .int (zi x1), .int (zi x2), .null, .null] [] (zm V J d) =
    some (.inr 1, zm V J d) := by
  exact zr_thr (i := 83) (e := 1) (w := 0) (by decide +kernel) (by decide +kernel) (by decide +kernel) (by decide)
theorem ze_128_30 {V : zVt} {J : zJt} {d : Nat → Nat → UInt64} (x1 : Int) (x2 : Int) (x3 : Int) (x4 : Int) : zGo false 128 30 [.ref 0, .int (zi x1), .int (zi x2), .int (zi x3), .int (zi x4)] [] (zm V J d) =
    (if qw (40) ≤ qw x4 then some (.inl (some (.int (zi x3))), zm V J d) else (zGo false 125 0 [.ref 0, .int (zi x1), .int (zi x4), .int (zi x2), .null, .null, .null, .null, .null, .null] [] (zm V J d)).bind (zGor false 128 46 [.ref 0, .int (zi x1), .int (zi x2), .int (zi x3), .int (zi x4)] [.int (zi x3)])) := by
  refine (zr_iload (n := 4) (x := zi x4) (by decide +kernel) rfl).trans ?_
  refine (zr_bipush (n := 40) (by decide +kernel) rfl).trans ?_
  refine (zr_cge (off := 20) (a := x4) (b := (40)) (t := 54) (by decide +kernel) rfl).trans (zif_ct (fun _ => ?_) (fun _ => ?_))
  · refine (zr_iload_n (n := 3) (x := zi x3) (by decide +kernel) rfl).trans ?_
    exact zr_iret (a := x3) (by decide +kernel) rfl
  · refine (zr_iload_n (n := 3) (x := zi x3) (by decide +kernel) rfl).trans ?_
    refine (zr_aload_n (n := 0) (x := 0) (by decide +kernel) rfl).trans ?_
    refine (zr_iload_n (n := 1) (x := zi x1) (by decide +kernel) rfl).trans ?_
    refine (zr_iload (n := 4) (x := zi x4) (by decide +kernel) rfl).trans ?_
    refine (zr_iload_n (n := 2) (x := zi x2) (by decide +kernel) rfl).trans ?_
    exact zr_cV (i := 261) (z := 125) (w := 0) (o := 0) (t := [.int (zi x2), .int (zi x4), .int (zi x1)]) (rest := [.int (zi x3)]) (L := [.ref 0, .int (zi x1), .int (zi x4), .int (zi x2), .null, .null, .null, .null, .null, .null]) (pc1 := 46) (by decide +kernel) (by decide +kernel) rfl (n := 3) (r := 1) rfl rfl rfl (by decide +kernel) rfl rfl
theorem ze_128_46 {V : zVt} {J : zJt} {d : Nat → Nat → UInt64} (x1 : Int) (x2 : Int) (x3 : Int) (x4 : Int) (s0 : Int) (s1 : Int) : zGo false 128 46 [.ref 0, .int (zi x1), .int (zi x2), .int (zi x3), .int (zi x4)] [.int (zi s1), .int (zi s0)] (zm V J d) =
    zGo false 128 30 [.ref 0, .int (zi x1), .int (zi x2), .int (zi (s0 + s1)), .int (zi (x4 + 1))] [] (zm V J d) := by
  refine (zr_iadd (a := s0) (b := s1) (by decide +kernel)).trans ?_
  refine (zr_istore_n (n := 3) (l1 := [.ref 0, .int (zi x1), .int (zi x2), .int (zi (s0 + s1)), .int (zi x4)]) (by decide +kernel) rfl).trans ?_
  refine (zr_iinc (n := 4) (k := 1) (x := x4) (l1 := [.ref 0, .int (zi x1), .int (zi x2), .int (zi (s0 + s1)), .int (zi (x4 + 1))]) (by decide +kernel) rfl rfl).trans ?_
  refine (zr_goto (off := -21) (t := 30) (by decide +kernel) rfl).trans ?_
  rfl
/-! PartSongDesk room (II)I -/
theorem ze_129_0 {V : zVt} {J : zJt} {d : Nat → Nat → UInt64} (x1 : Int) (x2 : Int) : zGo false 129 0 [.ref 0, .int (zi x1), .int (zi x2), .null] [] (zm V J d) =
    (if qw x1 < 0 then zGo false 129 9 [.ref 0, .int (zi x1), .int (zi x2), .null] [] (zm V J d) else (if qw x1 < qw (4) then (if qw x2 < 0 then zGo false 129 30 [.ref 0, .int (zi x1), .int (zi x2), .null] [] (zm V J d) else (if qw x2 ≤ qw (12) then zck (0 ≤ qw x1 ∧ qw x1 < (4 : Nat)) (zck (0 ≤ qw x1 ∧ qw x1 < (4 : Nat)) (some (.inl (some (.int (zi (V 43 (qw x1))))), zm (vup V 43 (qw x1) x2) J d))) else zGo false 129 30 [.ref 0, .int (zi x1), .int (zi x2), .null] [] (zm V J d))) else zGo false 129 9 [.ref 0, .int (zi x1), .int (zi x2), .null] [] (zm V J d))) := by
  refine (zr_iload_n (n := 1) (x := zi x1) (by decide +kernel) rfl).trans ?_
  refine (zr_iflt (off := 8) (a := x1) (t := 9) (by decide +kernel) rfl).trans (zif_ct (fun _ => ?_) (fun _ => ?_))
  · rfl
  · refine (zr_iload_n (n := 1) (x := zi x1) (by decide +kernel) rfl).trans ?_
    refine (zr_iconst (n := 4) (by decide +kernel)).trans ?_
    refine (zr_clt (off := 14) (a := x1) (b := (4)) (t := 20) (by decide +kernel) rfl).trans (zif_ct (fun _ => ?_) (fun _ => ?_))
    · refine (zr_iload_n (n := 2) (x := zi x2) (by decide +kernel) rfl).trans ?_
      refine (zr_iflt (off := 9) (a := x2) (t := 30) (by decide +kernel) rfl).trans (zif_ct (fun _ => ?_) (fun _ => ?_))
      · rfl
      · refine (zr_iload_n (n := 2) (x := zi x2) (by decide +kernel) rfl).trans ?_
        refine (zr_bipush (n := 12) (by decide +kernel) rfl).trans ?_
        refine (zr_cle (off := 14) (a := x2) (b := (12)) (t := 41) (by decide +kernel) rfl).trans (zif_ct (fun _ => ?_) (fun _ => ?_))
        · refine (zr_aload_n (n := 0) (x := 0) (by decide +kernel) rfl).trans ?_
          refine (zr_getR (i := 66) (c := 11) (k := 9) (r := 37) (by decide +kernel) (by decide +kernel) rfl (by decide +kernel) (zR0_f (o := 0) (c := 11) (n := 0) (k := 9) (j := 37) rfl (by decide) rfl)).trans ?_
          refine (zr_getR (i := 274) (c := 8) (k := 6) (r := 43) (by decide +kernel) (by decide +kernel) rfl (by decide +kernel) (zR0_f (o := 37) (c := 8) (n := 0) (k := 6) (j := 6) rfl (by decide) rfl)).trans ?_
          refine (zr_iload_n (n := 1) (x := zi x1) (by decide +kernel) rfl).trans ?_
          refine (zr_iald (n := 4) (e := x1) (by decide +kernel) rfl).trans (zck_ct fun _ => ?_)
          refine (zr_istore_n (n := 3) (l1 := [.ref 0, .int (zi x1), .int (zi x2), .int (zi (V 43 (qw x1)))]) (by decide +kernel) rfl).trans ?_
          refine (zr_aload_n (n := 0) (x := 0) (by decide +kernel) rfl).trans ?_
          refine (zr_getR (i := 66) (c := 11) (k := 9) (r := 37) (by decide +kernel) (by decide +kernel) rfl (by decide +kernel) (zR0_f (o := 0) (c := 11) (n := 0) (k := 9) (j := 37) rfl (by decide) rfl)).trans ?_
          refine (zr_getR (i := 274) (c := 8) (k := 6) (r := 43) (by decide +kernel) (by decide +kernel) rfl (by decide +kernel) (zR0_f (o := 37) (c := 8) (n := 0) (k := 6) (j := 6) rfl (by decide) rfl)).trans ?_
          refine (zr_iload_n (n := 1) (x := zi x1) (by decide +kernel) rfl).trans ?_
          refine (zr_iload_n (n := 2) (x := zi x2) (by decide +kernel) rfl).trans ?_
          refine (zr_iast (n := 4) (e := x1) (x := x2) (by decide +kernel) rfl).trans (zck_ct fun _ => ?_)
          refine (zr_iload_n (n := 3) (x := zi (V 43 (qw x1))) (by decide +kernel) rfl).trans ?_
          exact zr_iret (a := (V 43 (qw x1))) (by decide +kernel) rfl
        · rfl
    · rfl
theorem ze_129_9 {V : zVt} {J : zJt} {d : Nat → Nat → UInt64} (x1 : Int) (x2 : Int) : zGo false 129 9 [.ref 0, .int (zi x1), .int (zi x2), .null] [] (zm V J d) =
    some (.inr 0, zm V J d) := by
  exact zr_thr (i := 139) (e := 0) (w := 0) (by decide +kernel) (by decide +kernel) (by decide +kernel) (by decide)
theorem ze_129_30 {V : zVt} {J : zJt} {d : Nat → Nat → UInt64} (x1 : Int) (x2 : Int) : zGo false 129 30 [.ref 0, .int (zi x1), .int (zi x2), .null] [] (zm V J d) =
    some (.inr 1, zm V J d) := by
  exact zr_thr (i := 83) (e := 1) (w := 0) (by decide +kernel) (by decide +kernel) (by decide +kernel) (by decide)
/-! PartSongDesk ask (IIII)I -/
theorem ze_130_0 {V : zVt} {J : zJt} {d : Nat → Nat → UInt64} (x1 : Int) (x2 : Int) (x3 : Int) (x4 : Int) : zGo false 130 0 [.ref 0, .int (zi x1), .int (zi x2), .int (zi x3), .int (zi x4)] [] (zm V J d) =
    (zGo false 124 0 [.ref 0, .int (zi x1)] [] (zm V J d)).bind (zGor false 130 5 [.ref 0, .int (zi x1), .int (zi x2), .int (zi x3), .int (zi x4)] []) := by
  refine (zr_aload_n (n := 0) (x := 0) (by decide +kernel) rfl).trans ?_
  refine (zr_iload_n (n := 1) (x := zi x1) (by decide +kernel) rfl).trans ?_
  exact zr_cV (i := 256) (z := 124) (w := 0) (o := 0) (t := [.int (zi x1)]) (rest := []) (L := [.ref 0, .int (zi x1)]) (pc1 := 5) (by decide +kernel) (by decide +kernel) rfl (n := 1) (r := 0) rfl rfl rfl (by decide +kernel) rfl rfl
theorem ze_130_5 {V : zVt} {J : zJt} {d : Nat → Nat → UInt64} (x1 : Int) (x2 : Int) (x3 : Int) (x4 : Int) : zGo false 130 5 [.ref 0, .int (zi x1), .int (zi x2), .int (zi x3), .int (zi x4)] [] (zm V J d) =
    (if qw x2 < qw (1) then zGo false 130 39 [.ref 0, .int (zi x1), .int (zi x2), .int (zi x3), .int (zi x4)] [] (zm V J d) else (if qw (15) < qw x2 then zGo false 130 39 [.ref 0, .int (zi x1), .int (zi x2), .int (zi x3), .int (zi x4)] [] (zm V J d) else (if qw x3 < 0 then zGo false 130 39 [.ref 0, .int (zi x1), .int (zi x2), .int (zi x3), .int (zi x4)] [] (zm V J d) else (if qw (40) ≤ qw x3 then zGo false 130 39 [.ref 0, .int (zi x1), .int (zi x2), .int (zi x3), .int (zi x4)] [] (zm V J d) else (if qw x4 < qw x3 then zGo false 130 39 [.ref 0, .int (zi x1), .int (zi x2), .int (zi x3), .int (zi x4)] [] (zm V J d) else (if qw x4 < qw (40) then (if qw (V 37 5) < qw (40) then (zGo false 66 0 [.ref 37, .int (zi x1), .int (zi x2), .int (zi x3), .int (zi x4)] [] (zm V J d)).bind (zGor false 130 85 [.ref 0, .int (zi x1), .int (zi x2), .int (zi x3), .int (zi x4)] []) else some (.inr 2, zm V J d)) else zGo false 130 39 [.ref 0, .int (zi x1), .int (zi x2), .int (zi x3), .int (zi x4)] [] (zm V J d))))))) := by
  refine (zr_iload_n (n := 2) (x := zi x2) (by decide +kernel) rfl).trans ?_
  refine (zr_iconst (n := 1) (by decide +kernel)).trans ?_
  refine (zr_clt (off := 32) (a := x2) (b := (1)) (t := 39) (by decide +kernel) rfl).trans (zif_ct (fun _ => ?_) (fun _ => ?_))
  · rfl
  · refine (zr_iload_n (n := 2) (x := zi x2) (by decide +kernel) rfl).trans ?_
    refine (zr_bipush (n := 15) (by decide +kernel) rfl).trans ?_
    refine (zr_cgt (off := 26) (a := x2) (b := (15)) (t := 39) (by decide +kernel) rfl).trans (zif_ct (fun _ => ?_) (fun _ => ?_))
    · rfl
    · refine (zr_iload_n (n := 3) (x := zi x3) (by decide +kernel) rfl).trans ?_
      refine (zr_iflt (off := 22) (a := x3) (t := 39) (by decide +kernel) rfl).trans (zif_ct (fun _ => ?_) (fun _ => ?_))
      · rfl
      · refine (zr_iload_n (n := 3) (x := zi x3) (by decide +kernel) rfl).trans ?_
        refine (zr_bipush (n := 40) (by decide +kernel) rfl).trans ?_
        refine (zr_cge (off := 16) (a := x3) (b := (40)) (t := 39) (by decide +kernel) rfl).trans (zif_ct (fun _ => ?_) (fun _ => ?_))
        · rfl
        · refine (zr_iload (n := 4) (x := zi x4) (by decide +kernel) rfl).trans ?_
          refine (zr_iload_n (n := 3) (x := zi x3) (by decide +kernel) rfl).trans ?_
          refine (zr_clt (off := 10) (a := x4) (b := x3) (t := 39) (by decide +kernel) rfl).trans (zif_ct (fun _ => ?_) (fun _ => ?_))
          · rfl
          · refine (zr_iload (n := 4) (x := zi x4) (by decide +kernel) rfl).trans ?_
            refine (zr_bipush (n := 40) (by decide +kernel) rfl).trans ?_
            refine (zr_clt (off := 14) (a := x4) (b := (40)) (t := 50) (by decide +kernel) rfl).trans (zif_ct (fun _ => ?_) (fun _ => ?_))
            · refine (zr_aload_n (n := 0) (x := 0) (by decide +kernel) rfl).trans ?_
              refine (zr_getR (i := 66) (c := 11) (k := 9) (r := 37) (by decide +kernel) (by decide +kernel) rfl (by decide +kernel) (zR0_f (o := 0) (c := 11) (n := 0) (k := 9) (j := 37) rfl (by decide) rfl)).trans ?_
              refine (zr_getI (i := 279) (c := 8) (k := 5) (by decide +kernel) (by decide +kernel) rfl (by decide +kernel)).trans ?_
              refine (zr_bipush (n := 40) (by decide +kernel) rfl).trans ?_
              refine (zr_clt (off := 14) (a := (V 37 5)) (b := (40)) (t := 73) (by decide +kernel) rfl).trans (zif_ct (fun _ => ?_) (fun _ => ?_))
              · refine (zr_aload_n (n := 0) (x := 0) (by decide +kernel) rfl).trans ?_
                refine (zr_getR (i := 66) (c := 11) (k := 9) (r := 37) (by decide +kernel) (by decide +kernel) rfl (by decide +kernel) (zR0_f (o := 0) (c := 11) (n := 0) (k := 9) (j := 37) rfl (by decide) rfl)).trans ?_
                refine (zr_iload_n (n := 1) (x := zi x1) (by decide +kernel) rfl).trans ?_
                refine (zr_iload_n (n := 2) (x := zi x2) (by decide +kernel) rfl).trans ?_
                refine (zr_iload_n (n := 3) (x := zi x3) (by decide +kernel) rfl).trans ?_
                refine (zr_iload (n := 4) (x := zi x4) (by decide +kernel) rfl).trans ?_
                exact zr_cV (i := 284) (z := 66) (w := 0) (o := 37) (t := [.int (zi x4), .int (zi x3), .int (zi x2), .int (zi x1)]) (rest := []) (L := [.ref 37, .int (zi x1), .int (zi x2), .int (zi x3), .int (zi x4)]) (pc1 := 85) (by decide +kernel) (by decide +kernel) rfl (n := 4) (r := 0) rfl rfl rfl (by decide +kernel) rfl rfl
              · exact zr_thr (i := 98) (e := 2) (w := 0) (by decide +kernel) (by decide +kernel) (by decide +kernel) (by decide)
            · rfl
theorem ze_130_39 {V : zVt} {J : zJt} {d : Nat → Nat → UInt64} (x1 : Int) (x2 : Int) (x3 : Int) (x4 : Int) : zGo false 130 39 [.ref 0, .int (zi x1), .int (zi x2), .int (zi x3), .int (zi x4)] [] (zm V J d) =
    some (.inr 1, zm V J d) := by
  exact zr_thr (i := 83) (e := 1) (w := 0) (by decide +kernel) (by decide +kernel) (by decide +kernel) (by decide)
theorem ze_130_85 {V : zVt} {J : zJt} {d : Nat → Nat → UInt64} (x1 : Int) (x2 : Int) (x3 : Int) (x4 : Int) (s0 : Int) : zGo false 130 85 [.ref 0, .int (zi x1), .int (zi x2), .int (zi x3), .int (zi x4)] [.int (zi s0)] (zm V J d) =
    some (.inl (some (.int (zi s0))), zm V J d) := by
  exact zr_iret (a := s0) (by decide +kernel) rfl
/-! PartSongDesk done (I)I -/
theorem ze_131_0 {V : zVt} {J : zJt} {d : Nat → Nat → UInt64} (x1 : Int) : zGo false 131 0 [.ref 0, .int (zi x1)] [] (zm V J d) =
    (if qw x1 < 0 then zGo false 131 15 [.ref 0, .int (zi x1)] [] (zm V J d) else (if qw x1 < qw (V 37 5) then zck (0 ≤ qw x1 ∧ qw x1 < (40 : Nat)) (some (.inl (some (.int (zi (V 42 (qw x1))))), zm V J d)) else zGo false 131 15 [.ref 0, .int (zi x1)] [] (zm V J d))) := by
  refine (zr_iload_n (n := 1) (x := zi x1) (by decide +kernel) rfl).trans ?_
  refine (zr_iflt (off := 14) (a := x1) (t := 15) (by decide +kernel) rfl).trans (zif_ct (fun _ => ?_) (fun _ => ?_))
  · rfl
  · refine (zr_iload_n (n := 1) (x := zi x1) (by decide +kernel) rfl).trans ?_
    refine (zr_aload_n (n := 0) (x := 0) (by decide +kernel) rfl).trans ?_
    refine (zr_getR (i := 66) (c := 11) (k := 9) (r := 37) (by decide +kernel) (by decide +kernel) rfl (by decide +kernel) (zR0_f (o := 0) (c := 11) (n := 0) (k := 9) (j := 37) rfl (by decide) rfl)).trans ?_
    refine (zr_getI (i := 279) (c := 8) (k := 5) (by decide +kernel) (by decide +kernel) rfl (by decide +kernel)).trans ?_
    refine (zr_clt (off := 14) (a := x1) (b := (V 37 5)) (t := 26) (by decide +kernel) rfl).trans (zif_ct (fun _ => ?_) (fun _ => ?_))
    · refine (zr_aload_n (n := 0) (x := 0) (by decide +kernel) rfl).trans ?_
      refine (zr_getR (i := 66) (c := 11) (k := 9) (r := 37) (by decide +kernel) (by decide +kernel) rfl (by decide +kernel) (zR0_f (o := 0) (c := 11) (n := 0) (k := 9) (j := 37) rfl (by decide) rfl)).trans ?_
      refine (zr_getR (i := 287) (c := 8) (k := 4) (r := 42) (by decide +kernel) (by decide +kernel) rfl (by decide +kernel) (zR0_f (o := 37) (c := 8) (n := 0) (k := 4) (j := 5) rfl (by decide) rfl)).trans ?_
      refine (zr_iload_n (n := 1) (x := zi x1) (by decide +kernel) rfl).trans ?_
      refine (zr_iald (n := 40) (e := x1) (by decide +kernel) rfl).trans (zck_ct fun _ => ?_)
      exact zr_iret (a := (V 42 (qw x1))) (by decide +kernel) rfl
    · rfl
theorem ze_131_15 {V : zVt} {J : zJt} {d : Nat → Nat → UInt64} (x1 : Int) : zGo false 131 15 [.ref 0, .int (zi x1)] [] (zm V J d) =
    some (.inr 0, zm V J d) := by
  exact zr_thr (i := 139) (e := 0) (w := 0) (by decide +kernel) (by decide +kernel) (by decide +kernel) (by decide)
/-! PartSongDesk learned (IIII)I -/
theorem ze_132_0 {V : zVt} {J : zJt} {d : Nat → Nat → UInt64} (x1 : Int) (x2 : Int) (x3 : Int) (x4 : Int) : zGo false 132 0 [.ref 0, .int (zi x1), .int (zi x2), .int (zi x3), .int (zi x4)] [] (zm V J d) =
    (zGo false 133 0 [.ref 0, .int (zi x1), .int (zi x2), .int (zi x3)] [] (zm V J d)).bind (zGor false 132 7 [.ref 0, .int (zi x1), .int (zi x2), .int (zi x3), .int (zi x4)] []) := by
  refine (zr_aload_n (n := 0) (x := 0) (by decide +kernel) rfl).trans ?_
  refine (zr_iload_n (n := 1) (x := zi x1) (by decide +kernel) rfl).trans ?_
  refine (zr_iload_n (n := 2) (x := zi x2) (by decide +kernel) rfl).trans ?_
  refine (zr_iload_n (n := 3) (x := zi x3) (by decide +kernel) rfl).trans ?_
  exact zr_cV (i := 295) (z := 133) (w := 0) (o := 0) (t := [.int (zi x3), .int (zi x2), .int (zi x1)]) (rest := []) (L := [.ref 0, .int (zi x1), .int (zi x2), .int (zi x3)]) (pc1 := 7) (by decide +kernel) (by decide +kernel) rfl (n := 3) (r := 0) rfl rfl rfl (by decide +kernel) rfl rfl
theorem ze_132_7 {V : zVt} {J : zJt} {d : Nat → Nat → UInt64} (x1 : Int) (x2 : Int) (x3 : Int) (x4 : Int) : zGo false 132 7 [.ref 0, .int (zi x1), .int (zi x2), .int (zi x3), .int (zi x4)] [] (zm V J d) =
    (if qw x4 < 0 then zGo false 132 19 [.ref 0, .int (zi x1), .int (zi x2), .int (zi x3), .int (zi x4)] [] (zm V J d) else (if qw x4 < qw (40) then (zGo false 22 0 [.ref 46, .int (zi x1), .int (zi ((x2 * (4)) + x3)), .int (zi x4)] [] (zm V J d)).bind (zGor false 132 45 [.ref 0, .int (zi x1), .int (zi x2), .int (zi x3), .int (zi x4)] []) else zGo false 132 19 [.ref 0, .int (zi x1), .int (zi x2), .int (zi x3), .int (zi x4)] [] (zm V J d))) := by
  refine (zr_iload (n := 4) (x := zi x4) (by decide +kernel) rfl).trans ?_
  refine (zr_iflt (off := 10) (a := x4) (t := 19) (by decide +kernel) rfl).trans (zif_ct (fun _ => ?_) (fun _ => ?_))
  · rfl
  · refine (zr_iload (n := 4) (x := zi x4) (by decide +kernel) rfl).trans ?_
    refine (zr_bipush (n := 40) (by decide +kernel) rfl).trans ?_
    refine (zr_clt (off := 14) (a := x4) (b := (40)) (t := 30) (by decide +kernel) rfl).trans (zif_ct (fun _ => ?_) (fun _ => ?_))
    · refine (zr_aload_n (n := 0) (x := 0) (by decide +kernel) rfl).trans ?_
      refine (zr_getR (i := 73) (c := 11) (k := 10) (r := 46) (by decide +kernel) (by decide +kernel) rfl (by decide +kernel) (zR0_f (o := 0) (c := 11) (n := 0) (k := 10) (j := 46) rfl (by decide) rfl)).trans ?_
      refine (zr_iload_n (n := 1) (x := zi x1) (by decide +kernel) rfl).trans ?_
      refine (zr_iload_n (n := 2) (x := zi x2) (by decide +kernel) rfl).trans ?_
      refine (zr_iconst (n := 4) (by decide +kernel)).trans ?_
      refine (zr_imul (a := x2) (b := (4)) (by decide +kernel)).trans ?_
      refine (zr_iload_n (n := 3) (x := zi x3) (by decide +kernel) rfl).trans ?_
      refine (zr_iadd (a := (x2 * (4))) (b := x3) (by decide +kernel)).trans ?_
      refine (zr_iload (n := 4) (x := zi x4) (by decide +kernel) rfl).trans ?_
      exact zr_cV (i := 299) (z := 22) (w := 0) (o := 46) (t := [.int (zi x4), .int (zi ((x2 * (4)) + x3)), .int (zi x1)]) (rest := []) (L := [.ref 46, .int (zi x1), .int (zi ((x2 * (4)) + x3)), .int (zi x4)]) (pc1 := 45) (by decide +kernel) (by decide +kernel) rfl (n := 3) (r := 0) rfl rfl rfl (by decide +kernel) rfl rfl
    · rfl
theorem ze_132_19 {V : zVt} {J : zJt} {d : Nat → Nat → UInt64} (x1 : Int) (x2 : Int) (x3 : Int) (x4 : Int) : zGo false 132 19 [.ref 0, .int (zi x1), .int (zi x2), .int (zi x3), .int (zi x4)] [] (zm V J d) =
    some (.inr 0, zm V J d) := by
  exact zr_thr (i := 139) (e := 0) (w := 0) (by decide +kernel) (by decide +kernel) (by decide +kernel) (by decide)
theorem ze_132_45 {V : zVt} {J : zJt} {d : Nat → Nat → UInt64} (x1 : Int) (x2 : Int) (x3 : Int) (x4 : Int) (s0 : Int) : zGo false 132 45 [.ref 0, .int (zi x1), .int (zi x2), .int (zi x3), .int (zi x4)] [.int (zi s0)] (zm V J d) =
    some (.inl (some (.int (zi s0))), zm V J d) := by
  exact zr_iret (a := s0) (by decide +kernel) rfl
/-! PartSongDesk mustBeSingerAndPart (III)V -/
theorem ze_133_0 {V : zVt} {J : zJt} {d : Nat → Nat → UInt64} (x1 : Int) (x2 : Int) (x3 : Int) : zGo false 133 0 [.ref 0, .int (zi x1), .int (zi x2), .int (zi x3)] [] (zm V J d) =
    (if qw x1 < 0 then zGo false 133 28 [.ref 0, .int (zi x1), .int (zi x2), .int (zi x3)] [] (zm V J d) else (if qw (12) ≤ qw x1 then zGo false 133 28 [.ref 0, .int (zi x1), .int (zi x2), .int (zi x3)] [] (zm V J d) else (if qw x2 < 0 then zGo false 133 28 [.ref 0, .int (zi x1), .int (zi x2), .int (zi x3)] [] (zm V J d) else (if qw (3) ≤ qw x2 then zGo false 133 28 [.ref 0, .int (zi x1), .int (zi x2), .int (zi x3)] [] (zm V J d) else (if qw x3 < 0 then zGo false 133 28 [.ref 0, .int (zi x1), .int (zi x2), .int (zi x3)] [] (zm V J d) else (if qw x3 < qw (4) then some (.inl none, zm V J d) else zGo false 133 28 [.ref 0, .int (zi x1), .int (zi x2), .int (zi x3)] [] (zm V J d))))))) := by
  refine (zr_iload_n (n := 1) (x := zi x1) (by decide +kernel) rfl).trans ?_
  refine (zr_iflt (off := 27) (a := x1) (t := 28) (by decide +kernel) rfl).trans (zif_ct (fun _ => ?_) (fun _ => ?_))
  · rfl
  · refine (zr_iload_n (n := 1) (x := zi x1) (by decide +kernel) rfl).trans ?_
    refine (zr_bipush (n := 12) (by decide +kernel) rfl).trans ?_
    refine (zr_cge (off := 21) (a := x1) (b := (12)) (t := 28) (by decide +kernel) rfl).trans (zif_ct (fun _ => ?_) (fun _ => ?_))
    · rfl
    · refine (zr_iload_n (n := 2) (x := zi x2) (by decide +kernel) rfl).trans ?_
      refine (zr_iflt (off := 17) (a := x2) (t := 28) (by decide +kernel) rfl).trans (zif_ct (fun _ => ?_) (fun _ => ?_))
      · rfl
      · refine (zr_iload_n (n := 2) (x := zi x2) (by decide +kernel) rfl).trans ?_
        refine (zr_iconst (n := 3) (by decide +kernel)).trans ?_
        refine (zr_cge (off := 12) (a := x2) (b := (3)) (t := 28) (by decide +kernel) rfl).trans (zif_ct (fun _ => ?_) (fun _ => ?_))
        · rfl
        · refine (zr_iload_n (n := 3) (x := zi x3) (by decide +kernel) rfl).trans ?_
          refine (zr_iflt (off := 8) (a := x3) (t := 28) (by decide +kernel) rfl).trans (zif_ct (fun _ => ?_) (fun _ => ?_))
          · rfl
          · refine (zr_iload_n (n := 3) (x := zi x3) (by decide +kernel) rfl).trans ?_
            refine (zr_iconst (n := 4) (by decide +kernel)).trans ?_
            refine (zr_clt (off := 14) (a := x3) (b := (4)) (t := 39) (by decide +kernel) rfl).trans (zif_ct (fun _ => ?_) (fun _ => ?_))
            · exact zr_vret (by decide +kernel) rfl
            · rfl
theorem ze_133_28 {V : zVt} {J : zJt} {d : Nat → Nat → UInt64} (x1 : Int) (x2 : Int) (x3 : Int) : zGo false 133 28 [.ref 0, .int (zi x1), .int (zi x2), .int (zi x3)] [] (zm V J d) =
    some (.inr 0, zm V J d) := by
  exact zr_thr (i := 139) (e := 0) (w := 0) (by decide +kernel) (by decide +kernel) (by decide +kernel) (by decide)
/-! PartSongDesk misled (III)I -/
theorem ze_134_0 {V : zVt} {J : zJt} {d : Nat → Nat → UInt64} (x1 : Int) (x2 : Int) (x3 : Int) : zGo false 134 0 [.ref 0, .int (zi x1), .int (zi x2), .int (zi x3), .null] [] (zm V J d) =
    (zGo false 133 0 [.ref 0, .int (zi x1), .int (zi x2), .int (zi x3)] [] (zm V J d)).bind (zGor false 134 7 [.ref 0, .int (zi x1), .int (zi x2), .int (zi x3), .null] []) := by
  refine (zr_aload_n (n := 0) (x := 0) (by decide +kernel) rfl).trans ?_
  refine (zr_iload_n (n := 1) (x := zi x1) (by decide +kernel) rfl).trans ?_
  refine (zr_iload_n (n := 2) (x := zi x2) (by decide +kernel) rfl).trans ?_
  refine (zr_iload_n (n := 3) (x := zi x3) (by decide +kernel) rfl).trans ?_
  exact zr_cV (i := 295) (z := 133) (w := 0) (o := 0) (t := [.int (zi x3), .int (zi x2), .int (zi x1)]) (rest := []) (L := [.ref 0, .int (zi x1), .int (zi x2), .int (zi x3)]) (pc1 := 7) (by decide +kernel) (by decide +kernel) rfl (n := 3) (r := 0) rfl rfl rfl (by decide +kernel) rfl rfl
theorem ze_134_7 {V : zVt} {J : zJt} {d : Nat → Nat → UInt64} (x1 : Int) (x2 : Int) (x3 : Int) : zGo false 134 7 [.ref 0, .int (zi x1), .int (zi x2), .int (zi x3), .null] [] (zm V J d) =
    zck (0 ≤ qw ((x2 * (4)) + x3) ∧ qw ((x2 * (4)) + x3) < 12) ((zGo false 23 0 [.ref 46, .int (zi x1), .int (zi ((x2 * (4)) + x3)), .ref ((50 + 15 * (qw ((x2 * (4)) + x3)).toNat) + 13), .null, .null] [] (zm V J d)).bind (zGor false 134 34 [.ref 0, .int (zi x1), .int (zi x2), .int (zi x3), .int (zi ((x2 * (4)) + x3))] [])) := by
  refine (zr_iload_n (n := 2) (x := zi x2) (by decide +kernel) rfl).trans ?_
  refine (zr_iconst (n := 4) (by decide +kernel)).trans ?_
  refine (zr_imul (a := x2) (b := (4)) (by decide +kernel)).trans ?_
  refine (zr_iload_n (n := 3) (x := zi x3) (by decide +kernel) rfl).trans ?_
  refine (zr_iadd (a := (x2 * (4))) (b := x3) (by decide +kernel)).trans ?_
  refine (zr_istore (n := 4) (l1 := [.ref 0, .int (zi x1), .int (zi x2), .int (zi x3), .int (zi ((x2 * (4)) + x3))]) (by decide +kernel) rfl).trans ?_
  refine (zr_aload_n (n := 0) (x := 0) (by decide +kernel) rfl).trans ?_
  refine (zr_getR (i := 73) (c := 11) (k := 10) (r := 46) (by decide +kernel) (by decide +kernel) rfl (by decide +kernel) (zR0_f (o := 0) (c := 11) (n := 0) (k := 10) (j := 46) rfl (by decide) rfl)).trans ?_
  refine (zr_iload_n (n := 1) (x := zi x1) (by decide +kernel) rfl).trans ?_
  refine (zr_iload (n := 4) (x := zi ((x2 * (4)) + x3)) (by decide +kernel) rfl).trans ?_
  refine (zr_aload_n (n := 0) (x := 0) (by decide +kernel) rfl).trans ?_
  refine (zr_getR (i := 11) (c := 11) (k := 0) (r := 1) (by decide +kernel) (by decide +kernel) rfl (by decide +kernel) (zR0_f (o := 0) (c := 11) (n := 0) (k := 0) (j := 1) rfl (by decide) rfl)).trans ?_
  refine (zr_iload (n := 4) (x := zi ((x2 * (4)) + x3)) (by decide +kernel) rfl).trans ?_
  refine (zr_parts (e := ((x2 * (4)) + x3)) (by decide +kernel)).trans (zck_ct fun q27 => ?_)
  refine (zr_getR (i := 148) (c := 6) (k := 8) (r := ((50 + 15 * (qw ((x2 * (4)) + x3)).toNat) + 13)) (by decide +kernel) (by decide +kernel) (zb6_0 (zBk_part (show (qw ((x2 * (4)) + x3)).toNat < 12 by omega))) (by decide +kernel) (zR0_f (o := (50 + 15 * (qw ((x2 * (4)) + x3)).toNat)) (c := 6) (n := 0) (k := 8) (j := 13) (zb6_0 (zBk_part (show (qw ((x2 * (4)) + x3)).toNat < 12 by omega))) (by decide) rfl)).trans ?_
  exact zr_cV (i := 302) (z := 23) (w := 0) (o := 46) (t := [.ref ((50 + 15 * (qw ((x2 * (4)) + x3)).toNat) + 13), .int (zi ((x2 * (4)) + x3)), .int (zi x1)]) (rest := []) (L := [.ref 46, .int (zi x1), .int (zi ((x2 * (4)) + x3)), .ref ((50 + 15 * (qw ((x2 * (4)) + x3)).toNat) + 13), .null, .null]) (pc1 := 34) (by decide +kernel) (by decide +kernel) rfl (n := 3) (r := 0) rfl rfl rfl (by decide +kernel) rfl rfl
theorem ze_134_34 {V : zVt} {J : zJt} {d : Nat → Nat → UInt64} (x1 : Int) (x2 : Int) (x3 : Int) (x4 : Int) (s0 : Int) : zGo false 134 34 [.ref 0, .int (zi x1), .int (zi x2), .int (zi x3), .int (zi x4)] [.int (zi s0)] (zm V J d) =
    some (.inl (some (.int (zi s0))), zm V J d) := by
  exact zr_iret (a := s0) (by decide +kernel) rfl
/-! PartSongDesk judge (I)I -/
theorem ze_135_0 {V : zVt} {J : zJt} {d : Nat → Nat → UInt64} (x1 : Int) : zGo false 135 0 [.ref 0, .int (zi x1)] [] (zm V J d) =
    (zGo false 124 0 [.ref 0, .int (zi x1)] [] (zm V J d)).bind (zGor false 135 5 [.ref 0, .int (zi x1)] []) := by
  refine (zr_aload_n (n := 0) (x := 0) (by decide +kernel) rfl).trans ?_
  refine (zr_iload_n (n := 1) (x := zi x1) (by decide +kernel) rfl).trans ?_
  exact zr_cV (i := 256) (z := 124) (w := 0) (o := 0) (t := [.int (zi x1)]) (rest := []) (L := [.ref 0, .int (zi x1)]) (pc1 := 5) (by decide +kernel) (by decide +kernel) rfl (n := 1) (r := 0) rfl rfl rfl (by decide +kernel) rfl rfl
theorem ze_135_5 {V : zVt} {J : zJt} {d : Nat → Nat → UInt64} (x1 : Int) : zGo false 135 5 [.ref 0, .int (zi x1)] [] (zm V J d) =
    (zGo false 136 0 [.ref 0, .int (zi x1)] [] (zm V J d)).bind (zGor false 135 10 [.ref 0, .int (zi x1)] []) := by
  refine (zr_aload_n (n := 0) (x := 0) (by decide +kernel) rfl).trans ?_
  refine (zr_iload_n (n := 1) (x := zi x1) (by decide +kernel) rfl).trans ?_
  exact zr_cV (i := 306) (z := 136) (w := 0) (o := 0) (t := [.int (zi x1)]) (rest := []) (L := [.ref 0, .int (zi x1)]) (pc1 := 10) (by decide +kernel) (by decide +kernel) rfl (n := 1) (r := 0) rfl rfl rfl (by decide +kernel) rfl rfl
theorem ze_135_10 {V : zVt} {J : zJt} {d : Nat → Nat → UInt64} (x1 : Int) (s0 : Int) : zGo false 135 10 [.ref 0, .int (zi x1)] [.int (zi s0)] (zm V J d) =
    some (.inl (some (.int (zi s0))), zm V J d) := by
  exact zr_iret (a := s0) (by decide +kernel) rfl
/-! PartSongDesk verdictOn (I)I -/
theorem ze_136_0 {V : zVt} {J : zJt} {d : Nat → Nat → UInt64} (x1 : Int) : zGo false 136 0 [.ref 0, .int (zi x1)] [] (zm V J d) =
    (zGo false 137 0 [.ref 0, .int (zi x1), .null, .null] [] (zm V J d)).bind (zGor false 136 5 [.ref 0, .int (zi x1)] []) := by
  refine (zr_aload_n (n := 0) (x := 0) (by decide +kernel) rfl).trans ?_
  refine (zr_iload_n (n := 1) (x := zi x1) (by decide +kernel) rfl).trans ?_
  exact zr_cV (i := 386) (z := 137) (w := 0) (o := 0) (t := [.int (zi x1)]) (rest := []) (L := [.ref 0, .int (zi x1), .null, .null]) (pc1 := 5) (by decide +kernel) (by decide +kernel) rfl (n := 1) (r := 0) rfl rfl rfl (by decide +kernel) rfl rfl
theorem ze_136_5 {V : zVt} {J : zJt} {d : Nat → Nat → UInt64} (x1 : Int) (s0 : Int) : zGo false 136 5 [.ref 0, .int (zi x1)] [.int (zi s0)] (zm V J d) =
    (if qw s0 ≠ 0 then (zGo false 138 0 [.ref 0, .int (zi x1), .null] [] (zm V J d)).bind (zGor false 136 15 [.ref 0, .int (zi x1)] []) else some (.inl (some (.int (zi (1)))), zm V J d)) := by
  refine (zr_ifne (off := 5) (a := s0) (t := 10) (by decide +kernel) rfl).trans (zif_ct (fun _ => ?_) (fun _ => ?_))
  · refine (zr_aload_n (n := 0) (x := 0) (by decide +kernel) rfl).trans ?_
    refine (zr_iload_n (n := 1) (x := zi x1) (by decide +kernel) rfl).trans ?_
    exact zr_cV (i := 389) (z := 138) (w := 0) (o := 0) (t := [.int (zi x1)]) (rest := []) (L := [.ref 0, .int (zi x1), .null]) (pc1 := 15) (by decide +kernel) (by decide +kernel) rfl (n := 1) (r := 0) rfl rfl rfl (by decide +kernel) rfl rfl
  · refine (zr_iconst (n := 1) (by decide +kernel)).trans ?_
    exact zr_iret (a := (1)) (by decide +kernel) rfl
theorem ze_136_15 {V : zVt} {J : zJt} {d : Nat → Nat → UInt64} (x1 : Int) (s0 : Int) : zGo false 136 15 [.ref 0, .int (zi x1)] [.int (zi s0)] (zm V J d) =
    (if qw s0 = 0 then (zGo false 139 0 [.ref 0, .int (zi x1), .null, .null] [] (zm V J d)).bind (zGor false 136 25 [.ref 0, .int (zi x1)] []) else some (.inl (some (.int (zi (2)))), zm V J d)) := by
  refine (zr_ifeq (off := 5) (a := s0) (t := 20) (by decide +kernel) rfl).trans (zif_ct (fun _ => ?_) (fun _ => ?_))
  · refine (zr_aload_n (n := 0) (x := 0) (by decide +kernel) rfl).trans ?_
    refine (zr_iload_n (n := 1) (x := zi x1) (by decide +kernel) rfl).trans ?_
    exact zr_cV (i := 392) (z := 139) (w := 0) (o := 0) (t := [.int (zi x1)]) (rest := []) (L := [.ref 0, .int (zi x1), .null, .null]) (pc1 := 25) (by decide +kernel) (by decide +kernel) rfl (n := 1) (r := 0) rfl rfl rfl (by decide +kernel) rfl rfl
  · refine (zr_iconst (n := 2) (by decide +kernel)).trans ?_
    exact zr_iret (a := (2)) (by decide +kernel) rfl
theorem ze_136_25 {V : zVt} {J : zJt} {d : Nat → Nat → UInt64} (x1 : Int) (s0 : Int) : zGo false 136 25 [.ref 0, .int (zi x1)] [.int (zi s0)] (zm V J d) =
    (if qw s0 = 0 then (zGo false 140 0 [.ref 0, .int (zi x1), .null, .null] [] (zm V J d)).bind (zGor false 136 35 [.ref 0, .int (zi x1)] []) else some (.inl (some (.int (zi (3)))), zm V J d)) := by
  refine (zr_ifeq (off := 5) (a := s0) (t := 30) (by decide +kernel) rfl).trans (zif_ct (fun _ => ?_) (fun _ => ?_))
  · refine (zr_aload_n (n := 0) (x := 0) (by decide +kernel) rfl).trans ?_
    refine (zr_iload_n (n := 1) (x := zi x1) (by decide +kernel) rfl).trans ?_
    exact zr_cV (i := 395) (z := 140) (w := 0) (o := 0) (t := [.int (zi x1)]) (rest := []) (L := [.ref 0, .int (zi x1), .null, .null]) (pc1 := 35) (by decide +kernel) (by decide +kernel) rfl (n := 1) (r := 0) rfl rfl rfl (by decide +kernel) rfl rfl
  · refine (zr_iconst (n := 3) (by decide +kernel)).trans ?_
    exact zr_iret (a := (3)) (by decide +kernel) rfl
theorem ze_136_35 {V : zVt} {J : zJt} {d : Nat → Nat → UInt64} (x1 : Int) (s0 : Int) : zGo false 136 35 [.ref 0, .int (zi x1)] [.int (zi s0)] (zm V J d) =
    (if qw s0 = 0 then (zGo false 141 0 [.ref 0, .int (zi x1), .null] [] (zm V J d)).bind (zGor false 136 45 [.ref 0, .int (zi x1)] []) else some (.inl (some (.int (zi (4)))), zm V J d)) := by
  refine (zr_ifeq (off := 5) (a := s0) (t := 40) (by decide +kernel) rfl).trans (zif_ct (fun _ => ?_) (fun _ => ?_))
  · refine (zr_aload_n (n := 0) (x := 0) (by decide +kernel) rfl).trans ?_
    refine (zr_iload_n (n := 1) (x := zi x1) (by decide +kernel) rfl).trans ?_
    exact zr_cV (i := 398) (z := 141) (w := 0) (o := 0) (t := [.int (zi x1)]) (rest := []) (L := [.ref 0, .int (zi x1), .null]) (pc1 := 45) (by decide +kernel) (by decide +kernel) rfl (n := 1) (r := 0) rfl rfl rfl (by decide +kernel) rfl rfl
  · refine (zr_iconst (n := 4) (by decide +kernel)).trans ?_
    exact zr_iret (a := (4)) (by decide +kernel) rfl
theorem ze_136_45 {V : zVt} {J : zJt} {d : Nat → Nat → UInt64} (x1 : Int) (s0 : Int) : zGo false 136 45 [.ref 0, .int (zi x1)] [.int (zi s0)] (zm V J d) =
    (if qw s0 = 0 then zGo false 136 53 [.ref 0, .int (zi x1)] [.int (zi (5))] (zm V J d) else zGo false 136 53 [.ref 0, .int (zi x1)] [.int (zi (0))] (zm V J d)) := by
  refine (zr_ifeq (off := 7) (a := s0) (t := 52) (by decide +kernel) rfl).trans (zif_ct (fun _ => ?_) (fun _ => ?_))
  · refine (zr_iconst (n := 5) (by decide +kernel)).trans ?_
    rfl
  · refine (zr_iconst (n := 0) (by decide +kernel)).trans ?_
    refine (zr_goto (off := 4) (t := 53) (by decide +kernel) rfl).trans ?_
    rfl
theorem ze_136_53 {V : zVt} {J : zJt} {d : Nat → Nat → UInt64} (x1 : Int) (s0 : Int) : zGo false 136 53 [.ref 0, .int (zi x1)] [.int (zi s0)] (zm V J d) =
    some (.inl (some (.int (zi s0))), zm V J d) := by
  exact zr_iret (a := s0) (by decide +kernel) rfl
/-! PartSongDesk isLentInAllVoices (I)Z -/
theorem ze_137_0 {V : zVt} {J : zJt} {d : Nat → Nat → UInt64} (x1 : Int) : zGo false 137 0 [.ref 0, .int (zi x1), .null, .null] [] (zm V J d) =
    zGo false 137 4 [.ref 0, .int (zi x1), .int (zi (0)), .int (zi (0))] [] (zm V J d) := by
  refine (zr_iconst (n := 0) (by decide +kernel)).trans ?_
  refine (zr_istore_n (n := 2) (l1 := [.ref 0, .int (zi x1), .int (zi (0)), .null]) (by decide +kernel) rfl).trans ?_
  refine (zr_iconst (n := 0) (by decide +kernel)).trans ?_
  refine (zr_istore_n (n := 3) (l1 := [.ref 0, .int (zi x1), .int (zi (0)), .int (zi (0))]) (by decide +kernel) rfl).trans ?_
  rfl
theorem ze_137_4 {V : zVt} {J : zJt} {d : Nat → Nat → UInt64} (x1 : Int) (x2 : Int) (x3 : Int) : zGo false 137 4 [.ref 0, .int (zi x1), .int (zi x2), .int (zi x3)] [] (zm V J d) =
    (if qw (V 0 2) ≤ qw x3 then (if qw x2 ≠ qw (15) then zGo false 137 58 [.ref 0, .int (zi x1), .int (zi x2), .int (zi x3)] [.int (zi (0))] (zm V J d) else zGo false 137 58 [.ref 0, .int (zi x1), .int (zi x2), .int (zi x3)] [.int (zi (1))] (zm V J d)) else zck (0 ≤ qw x3 ∧ qw x3 < 40) ((zGo false 1 0 [.ref (230 + 5 * (qw x3).toNat), .int (zi x1)] [] (zm V J d)).bind (zGor false 137 22 [.ref 0, .int (zi x1), .int (zi x2), .int (zi x3)] []))) := by
  refine (zr_iload_n (n := 3) (x := zi x3) (by decide +kernel) rfl).trans ?_
  refine (zr_aload_n (n := 0) (x := 0) (by decide +kernel) rfl).trans ?_
  refine (zr_getI (i := 171) (c := 11) (k := 2) (by decide +kernel) (by decide +kernel) rfl (by decide +kernel)).trans ?_
  refine (zr_cge (off := 38) (a := x3) (b := (V 0 2)) (t := 47) (by decide +kernel) rfl).trans (zif_ct (fun _ => ?_) (fun _ => ?_))
  · refine (zr_iload_n (n := 2) (x := zi x2) (by decide +kernel) rfl).trans ?_
    refine (zr_bipush (n := 15) (by decide +kernel) rfl).trans ?_
    refine (zr_cne (off := 7) (a := x2) (b := (15)) (t := 57) (by decide +kernel) rfl).trans (zif_ct (fun _ => ?_) (fun _ => ?_))
    · refine (zr_iconst (n := 0) (by decide +kernel)).trans ?_
      rfl
    · refine (zr_iconst (n := 1) (by decide +kernel)).trans ?_
      refine (zr_goto (off := 4) (t := 58) (by decide +kernel) rfl).trans ?_
      rfl
  · refine (zr_aload_n (n := 0) (x := 0) (by decide +kernel) rfl).trans ?_
    refine (zr_getR (i := 17) (c := 11) (k := 1) (r := 2) (by decide +kernel) (by decide +kernel) rfl (by decide +kernel) (zR0_f (o := 0) (c := 11) (n := 0) (k := 1) (j := 2) rfl (by decide) rfl)).trans ?_
    refine (zr_iload_n (n := 3) (x := zi x3) (by decide +kernel) rfl).trans ?_
    refine (zr_copies (e := x3) (by decide +kernel)).trans (zck_ct fun q17 => ?_)
    refine (zr_iload_n (n := 1) (x := zi x1) (by decide +kernel) rfl).trans ?_
    exact zr_cV (i := 312) (z := 1) (w := 0) (o := (230 + 5 * (qw x3).toNat)) (t := [.int (zi x1)]) (rest := []) (L := [.ref (230 + 5 * (qw x3).toNat), .int (zi x1)]) (pc1 := 22) (by decide +kernel) (by decide +kernel) (zb0_0 (zBk_copy (show (qw x3).toNat < 40 by omega))) (n := 1) (r := 0) rfl rfl rfl (by decide +kernel) rfl rfl
theorem ze_137_22 {V : zVt} {J : zJt} {d : Nat → Nat → UInt64} (x1 : Int) (x2 : Int) (x3 : Int) (s0 : Int) : zGo false 137 22 [.ref 0, .int (zi x1), .int (zi x2), .int (zi x3)] [.int (zi s0)] (zm V J d) =
    (if qw s0 = 0 then zGo false 137 41 [.ref 0, .int (zi x1), .int (zi x2), .int (zi x3)] [] (zm V J d) else zck (0 ≤ qw x3 ∧ qw x3 < 40) (zck (qw (4) ≠ 0) (zGo false 137 41 [.ref 0, .int (zi x1), .int (zi (qor x2 (qshl (1) (qrem (V (230 + 5 * (qw x3).toNat) 0) (4))))), .int (zi x3)] [] (zm V J d)))) := by
  refine (zr_ifeq (off := 19) (a := s0) (t := 41) (by decide +kernel) rfl).trans (zif_ct (fun _ => ?_) (fun _ => ?_))
  · rfl
  · refine (zr_iload_n (n := 2) (x := zi x2) (by decide +kernel) rfl).trans ?_
    refine (zr_iconst (n := 1) (by decide +kernel)).trans ?_
    refine (zr_aload_n (n := 0) (x := 0) (by decide +kernel) rfl).trans ?_
    refine (zr_getR (i := 17) (c := 11) (k := 1) (r := 2) (by decide +kernel) (by decide +kernel) rfl (by decide +kernel) (zR0_f (o := 0) (c := 11) (n := 0) (k := 1) (j := 2) rfl (by decide) rfl)).trans ?_
    refine (zr_iload_n (n := 3) (x := zi x3) (by decide +kernel) rfl).trans ?_
    refine (zr_copies (e := x3) (by decide +kernel)).trans (zck_ct fun q32 => ?_)
    refine (zr_getI (i := 176) (c := 0) (k := 0) (by decide +kernel) (by decide +kernel) (zb0_0 (zBk_copy (show (qw x3).toNat < 40 by omega))) (by decide +kernel)).trans ?_
    refine (zr_iconst (n := 4) (by decide +kernel)).trans ?_
    refine (zr_irem (a := (V (230 + 5 * (qw x3).toNat) 0)) (b := (4)) (by decide +kernel)).trans (zck_ct fun _ => ?_)
    refine (zr_ishl (a := (1)) (b := (qrem (V (230 + 5 * (qw x3).toNat) 0) (4))) (by decide +kernel)).trans ?_
    refine (zr_ior (a := x2) (b := (qshl (1) (qrem (V (230 + 5 * (qw x3).toNat) 0) (4)))) (by decide +kernel)).trans ?_
    refine (zr_istore_n (n := 2) (l1 := [.ref 0, .int (zi x1), .int (zi (qor x2 (qshl (1) (qrem (V (230 + 5 * (qw x3).toNat) 0) (4))))), .int (zi x3)]) (by decide +kernel) rfl).trans ?_
    rfl
theorem ze_137_41 {V : zVt} {J : zJt} {d : Nat → Nat → UInt64} (x1 : Int) (x2 : Int) (x3 : Int) : zGo false 137 41 [.ref 0, .int (zi x1), .int (zi x2), .int (zi x3)] [] (zm V J d) =
    zGo false 137 4 [.ref 0, .int (zi x1), .int (zi x2), .int (zi (x3 + 1))] [] (zm V J d) := by
  refine (zr_iinc (n := 3) (k := 1) (x := x3) (l1 := [.ref 0, .int (zi x1), .int (zi x2), .int (zi (x3 + 1))]) (by decide +kernel) rfl rfl).trans ?_
  refine (zr_goto (off := -40) (t := 4) (by decide +kernel) rfl).trans ?_
  rfl
theorem ze_137_58 {V : zVt} {J : zJt} {d : Nat → Nat → UInt64} (x1 : Int) (x2 : Int) (x3 : Int) (s0 : Int) : zGo false 137 58 [.ref 0, .int (zi x1), .int (zi x2), .int (zi x3)] [.int (zi s0)] (zm V J d) =
    zck (qw s0 = 0 ∨ qw s0 = 1) (some (.inl (some (.int (zi s0))), zm V J d)) := by
  exact zr_zret (a := s0) (by decide +kernel) rfl
/-! PartSongDesk hasWrongCopy (I)Z -/
theorem ze_138_0 {V : zVt} {J : zJt} {d : Nat → Nat → UInt64} (x1 : Int) : zGo false 138 0 [.ref 0, .int (zi x1), .null] [] (zm V J d) =
    zGo false 138 2 [.ref 0, .int (zi x1), .int (zi (0))] [] (zm V J d) := by
  refine (zr_iconst (n := 0) (by decide +kernel)).trans ?_
  refine (zr_istore_n (n := 2) (l1 := [.ref 0, .int (zi x1), .int (zi (0))]) (by decide +kernel) rfl).trans ?_
  rfl
theorem ze_138_2 {V : zVt} {J : zJt} {d : Nat → Nat → UInt64} (x1 : Int) (x2 : Int) : zGo false 138 2 [.ref 0, .int (zi x1), .int (zi x2)] [] (zm V J d) =
    (if qw (V 0 2) ≤ qw x2 then zck (qw (0) = 0 ∨ qw (0) = 1) (some (.inl (some (.int (zi (0)))), zm V J d)) else zck (0 ≤ qw x2 ∧ qw x2 < 40) ((zGo false 1 0 [.ref (230 + 5 * (qw x2).toNat), .int (zi x1)] [] (zm V J d)).bind (zGor false 138 20 [.ref 0, .int (zi x1), .int (zi x2)] []))) := by
  refine (zr_iload_n (n := 2) (x := zi x2) (by decide +kernel) rfl).trans ?_
  refine (zr_aload_n (n := 0) (x := 0) (by decide +kernel) rfl).trans ?_
  refine (zr_getI (i := 171) (c := 11) (k := 2) (by decide +kernel) (by decide +kernel) rfl (by decide +kernel)).trans ?_
  refine (zr_cge (off := 39) (a := x2) (b := (V 0 2)) (t := 46) (by decide +kernel) rfl).trans (zif_ct (fun _ => ?_) (fun _ => ?_))
  · refine (zr_iconst (n := 0) (by decide +kernel)).trans ?_
    exact zr_zret (a := (0)) (by decide +kernel) rfl
  · refine (zr_aload_n (n := 0) (x := 0) (by decide +kernel) rfl).trans ?_
    refine (zr_getR (i := 17) (c := 11) (k := 1) (r := 2) (by decide +kernel) (by decide +kernel) rfl (by decide +kernel) (zR0_f (o := 0) (c := 11) (n := 0) (k := 1) (j := 2) rfl (by decide) rfl)).trans ?_
    refine (zr_iload_n (n := 2) (x := zi x2) (by decide +kernel) rfl).trans ?_
    refine (zr_copies (e := x2) (by decide +kernel)).trans (zck_ct fun q15 => ?_)
    refine (zr_iload_n (n := 1) (x := zi x1) (by decide +kernel) rfl).trans ?_
    exact zr_cV (i := 312) (z := 1) (w := 0) (o := (230 + 5 * (qw x2).toNat)) (t := [.int (zi x1)]) (rest := []) (L := [.ref (230 + 5 * (qw x2).toNat), .int (zi x1)]) (pc1 := 20) (by decide +kernel) (by decide +kernel) (zb0_0 (zBk_copy (show (qw x2).toNat < 40 by omega))) (n := 1) (r := 0) rfl rfl rfl (by decide +kernel) rfl rfl
theorem ze_138_20 {V : zVt} {J : zJt} {d : Nat → Nat → UInt64} (x1 : Int) (x2 : Int) (s0 : Int) : zGo false 138 20 [.ref 0, .int (zi x1), .int (zi x2)] [.int (zi s0)] (zm V J d) =
    (if qw s0 = 0 then zGo false 138 40 [.ref 0, .int (zi x1), .int (zi x2)] [] (zm V J d) else zck (0 ≤ qw x2 ∧ qw x2 < 40) ((if qw (V ((230 + 5 * (qw x2).toNat) + 3) 0) = 0 then zGo false 138 40 [.ref 0, .int (zi x1), .int (zi x2)] [] (zm V J d) else zck (qw (1) = 0 ∨ qw (1) = 1) (some (.inl (some (.int (zi (1)))), zm V J d))))) := by
  refine (zr_ifeq (off := 20) (a := s0) (t := 40) (by decide +kernel) rfl).trans (zif_ct (fun _ => ?_) (fun _ => ?_))
  · rfl
  · refine (zr_aload_n (n := 0) (x := 0) (by decide +kernel) rfl).trans ?_
    refine (zr_getR (i := 17) (c := 11) (k := 1) (r := 2) (by decide +kernel) (by decide +kernel) rfl (by decide +kernel) (zR0_f (o := 0) (c := 11) (n := 0) (k := 1) (j := 2) rfl (by decide) rfl)).trans ?_
    refine (zr_iload_n (n := 2) (x := zi x2) (by decide +kernel) rfl).trans ?_
    refine (zr_copies (e := x2) (by decide +kernel)).trans (zck_ct fun q28 => ?_)
    refine (zr_getR (i := 236) (c := 0) (k := 3) (r := ((230 + 5 * (qw x2).toNat) + 3)) (by decide +kernel) (by decide +kernel) (zb0_0 (zBk_copy (show (qw x2).toNat < 40 by omega))) (by decide +kernel) (zR0_f (o := (230 + 5 * (qw x2).toNat)) (c := 0) (n := 0) (k := 3) (j := 3) (zb0_0 (zBk_copy (show (qw x2).toNat < 40 by omega))) (by decide) rfl)).trans ?_
    refine (zr_getI (i := 151) (c := 5) (k := 0) (by decide +kernel) (by decide +kernel) (zb5_0 (zBk_0music (zBk_copy (show (qw x2).toNat < 40 by omega)))) (by decide +kernel)).trans ?_
    refine (zr_ifeq (off := 5) (a := (V ((230 + 5 * (qw x2).toNat) + 3) 0)) (t := 40) (by decide +kernel) rfl).trans (zif_ct (fun _ => ?_) (fun _ => ?_))
    · rfl
    · refine (zr_iconst (n := 1) (by decide +kernel)).trans ?_
      exact zr_zret (a := (1)) (by decide +kernel) rfl
theorem ze_138_40 {V : zVt} {J : zJt} {d : Nat → Nat → UInt64} (x1 : Int) (x2 : Int) : zGo false 138 40 [.ref 0, .int (zi x1), .int (zi x2)] [] (zm V J d) =
    zGo false 138 2 [.ref 0, .int (zi x1), .int (zi (x2 + 1))] [] (zm V J d) := by
  refine (zr_iinc (n := 2) (k := 1) (x := x2) (l1 := [.ref 0, .int (zi x1), .int (zi (x2 + 1))]) (by decide +kernel) rfl rfl).trans ?_
  refine (zr_goto (off := -41) (t := 2) (by decide +kernel) rfl).trans ?_
  rfl
/-! PartSongDesk hasUnlikeCopies (I)Z -/
theorem ze_139_0 {V : zVt} {J : zJt} {d : Nat → Nat → UInt64} (x1 : Int) : zGo false 139 0 [.ref 0, .int (zi x1), .null, .null] [] (zm V J d) =
    zGo false 139 2 [.ref 0, .int (zi x1), .int (zi (0)), .null] [] (zm V J d) := by
  refine (zr_iconst (n := 0) (by decide +kernel)).trans ?_
  refine (zr_istore_n (n := 2) (l1 := [.ref 0, .int (zi x1), .int (zi (0)), .null]) (by decide +kernel) rfl).trans ?_
  rfl
theorem ze_139_2 {V : zVt} {J : zJt} {d : Nat → Nat → UInt64} (x1 : Int) (x2 : Int) (x3 : Value) : zGo false 139 2 [.ref 0, .int (zi x1), .int (zi x2), x3] [] (zm V J d) =
    (if qw (V 0 2) ≤ qw x2 then zck (qw (0) = 0 ∨ qw (0) = 1) (some (.inl (some (.int (zi (0)))), zm V J d)) else zGo false 139 12 [.ref 0, .int (zi x1), .int (zi x2), .int (zi (0))] [] (zm V J d)) := by
  refine (zr_iload_n (n := 2) (x := zi x2) (by decide +kernel) rfl).trans ?_
  refine (zr_aload_n (n := 0) (x := 0) (by decide +kernel) rfl).trans ?_
  refine (zr_getI (i := 171) (c := 11) (k := 2) (by decide +kernel) (by decide +kernel) rfl (by decide +kernel)).trans ?_
  refine (zr_cge (off := 95) (a := x2) (b := (V 0 2)) (t := 102) (by decide +kernel) rfl).trans (zif_ct (fun _ => ?_) (fun _ => ?_))
  · refine (zr_iconst (n := 0) (by decide +kernel)).trans ?_
    exact zr_zret (a := (0)) (by decide +kernel) rfl
  · refine (zr_iconst (n := 0) (by decide +kernel)).trans ?_
    refine (zr_istore_n (n := 3) (l1 := [.ref 0, .int (zi x1), .int (zi x2), .int (zi (0))]) (by decide +kernel) rfl).trans ?_
    rfl
theorem ze_139_12 {V : zVt} {J : zJt} {d : Nat → Nat → UInt64} (x1 : Int) (x2 : Int) (x3 : Int) : zGo false 139 12 [.ref 0, .int (zi x1), .int (zi x2), .int (zi x3)] [] (zm V J d) =
    (if qw x2 ≤ qw x3 then zGo false 139 2 [.ref 0, .int (zi x1), .int (zi (x2 + 1)), .int (zi x3)] [] (zm V J d) else zck (0 ≤ qw x2 ∧ qw x2 < 40) ((zGo false 1 0 [.ref (230 + 5 * (qw x2).toNat), .int (zi x1)] [] (zm V J d)).bind (zGor false 139 27 [.ref 0, .int (zi x1), .int (zi x2), .int (zi x3)] []))) := by
  refine (zr_iload_n (n := 3) (x := zi x3) (by decide +kernel) rfl).trans ?_
  refine (zr_iload_n (n := 2) (x := zi x2) (by decide +kernel) rfl).trans ?_
  refine (zr_cge (off := 82) (a := x3) (b := x2) (t := 96) (by decide +kernel) rfl).trans (zif_ct (fun _ => ?_) (fun _ => ?_))
  · refine (zr_iinc (n := 2) (k := 1) (x := x2) (l1 := [.ref 0, .int (zi x1), .int (zi (x2 + 1)), .int (zi x3)]) (by decide +kernel) rfl rfl).trans ?_
    refine (zr_goto (off := -97) (t := 2) (by decide +kernel) rfl).trans ?_
    rfl
  · refine (zr_aload_n (n := 0) (x := 0) (by decide +kernel) rfl).trans ?_
    refine (zr_getR (i := 17) (c := 11) (k := 1) (r := 2) (by decide +kernel) (by decide +kernel) rfl (by decide +kernel) (zR0_f (o := 0) (c := 11) (n := 0) (k := 1) (j := 2) rfl (by decide) rfl)).trans ?_
    refine (zr_iload_n (n := 2) (x := zi x2) (by decide +kernel) rfl).trans ?_
    refine (zr_copies (e := x2) (by decide +kernel)).trans (zck_ct fun q22 => ?_)
    refine (zr_iload_n (n := 1) (x := zi x1) (by decide +kernel) rfl).trans ?_
    exact zr_cV (i := 312) (z := 1) (w := 0) (o := (230 + 5 * (qw x2).toNat)) (t := [.int (zi x1)]) (rest := []) (L := [.ref (230 + 5 * (qw x2).toNat), .int (zi x1)]) (pc1 := 27) (by decide +kernel) (by decide +kernel) (zb0_0 (zBk_copy (show (qw x2).toNat < 40 by omega))) (n := 1) (r := 0) rfl rfl rfl (by decide +kernel) rfl rfl
theorem ze_139_27 {V : zVt} {J : zJt} {d : Nat → Nat → UInt64} (x1 : Int) (x2 : Int) (x3 : Int) (s0 : Int) : zGo false 139 27 [.ref 0, .int (zi x1), .int (zi x2), .int (zi x3)] [.int (zi s0)] (zm V J d) =
    (if qw s0 = 0 then zGo false 139 90 [.ref 0, .int (zi x1), .int (zi x2), .int (zi x3)] [] (zm V J d) else zck (0 ≤ qw x3 ∧ qw x3 < 40) ((zGo false 1 0 [.ref (230 + 5 * (qw x3).toNat), .int (zi x1)] [] (zm V J d)).bind (zGor false 139 40 [.ref 0, .int (zi x1), .int (zi x2), .int (zi x3)] []))) := by
  refine (zr_ifeq (off := 63) (a := s0) (t := 90) (by decide +kernel) rfl).trans (zif_ct (fun _ => ?_) (fun _ => ?_))
  · rfl
  · refine (zr_aload_n (n := 0) (x := 0) (by decide +kernel) rfl).trans ?_
    refine (zr_getR (i := 17) (c := 11) (k := 1) (r := 2) (by decide +kernel) (by decide +kernel) rfl (by decide +kernel) (zR0_f (o := 0) (c := 11) (n := 0) (k := 1) (j := 2) rfl (by decide) rfl)).trans ?_
    refine (zr_iload_n (n := 3) (x := zi x3) (by decide +kernel) rfl).trans ?_
    refine (zr_copies (e := x3) (by decide +kernel)).trans (zck_ct fun q35 => ?_)
    refine (zr_iload_n (n := 1) (x := zi x1) (by decide +kernel) rfl).trans ?_
    exact zr_cV (i := 312) (z := 1) (w := 0) (o := (230 + 5 * (qw x3).toNat)) (t := [.int (zi x1)]) (rest := []) (L := [.ref (230 + 5 * (qw x3).toNat), .int (zi x1)]) (pc1 := 40) (by decide +kernel) (by decide +kernel) (zb0_0 (zBk_copy (show (qw x3).toNat < 40 by omega))) (n := 1) (r := 0) rfl rfl rfl (by decide +kernel) rfl rfl
theorem ze_139_40 {V : zVt} {J : zJt} {d : Nat → Nat → UInt64} (x1 : Int) (x2 : Int) (x3 : Int) (s0 : Int) : zGo false 139 40 [.ref 0, .int (zi x1), .int (zi x2), .int (zi x3)] [.int (zi s0)] (zm V J d) =
    (if qw s0 = 0 then zGo false 139 90 [.ref 0, .int (zi x1), .int (zi x2), .int (zi x3)] [] (zm V J d) else zck (0 ≤ qw x2 ∧ qw x2 < 40) (zck (0 ≤ qw x3 ∧ qw x3 < 40) ((if qw (V (230 + 5 * (qw x2).toNat) 0) ≠ qw (V (230 + 5 * (qw x3).toNat) 0) then zGo false 139 90 [.ref 0, .int (zi x1), .int (zi x2), .int (zi x3)] [] (zm V J d) else zck (0 ≤ qw x2 ∧ qw x2 < 40) (zck (0 ≤ qw x3 ∧ qw x3 < 40) ((zGo false 39 0 [.ref ((230 + 5 * (qw x2).toNat) + 3), .ref ((230 + 5 * (qw x3).toNat) + 3), .null, .null] [] (zm V J d)).bind (zGor false 139 85 [.ref 0, .int (zi x1), .int (zi x2), .int (zi x3)] []))))))) := by
  refine (zr_ifeq (off := 50) (a := s0) (t := 90) (by decide +kernel) rfl).trans (zif_ct (fun _ => ?_) (fun _ => ?_))
  · rfl
  · refine (zr_aload_n (n := 0) (x := 0) (by decide +kernel) rfl).trans ?_
    refine (zr_getR (i := 17) (c := 11) (k := 1) (r := 2) (by decide +kernel) (by decide +kernel) rfl (by decide +kernel) (zR0_f (o := 0) (c := 11) (n := 0) (k := 1) (j := 2) rfl (by decide) rfl)).trans ?_
    refine (zr_iload_n (n := 2) (x := zi x2) (by decide +kernel) rfl).trans ?_
    refine (zr_copies (e := x2) (by decide +kernel)).trans (zck_ct fun q48 => ?_)
    refine (zr_getI (i := 176) (c := 0) (k := 0) (by decide +kernel) (by decide +kernel) (zb0_0 (zBk_copy (show (qw x2).toNat < 40 by omega))) (by decide +kernel)).trans ?_
    refine (zr_aload_n (n := 0) (x := 0) (by decide +kernel) rfl).trans ?_
    refine (zr_getR (i := 17) (c := 11) (k := 1) (r := 2) (by decide +kernel) (by decide +kernel) rfl (by decide +kernel) (zR0_f (o := 0) (c := 11) (n := 0) (k := 1) (j := 2) rfl (by decide) rfl)).trans ?_
    refine (zr_iload_n (n := 3) (x := zi x3) (by decide +kernel) rfl).trans ?_
    refine (zr_copies (e := x3) (by decide +kernel)).trans (zck_ct fun q57 => ?_)
    refine (zr_getI (i := 176) (c := 0) (k := 0) (by decide +kernel) (by decide +kernel) (zb0_0 (zBk_copy (show (qw x3).toNat < 40 by omega))) (by decide +kernel)).trans ?_
    refine (zr_cne (off := 29) (a := (V (230 + 5 * (qw x2).toNat) 0)) (b := (V (230 + 5 * (qw x3).toNat) 0)) (t := 90) (by decide +kernel) rfl).trans (zif_ct (fun _ => ?_) (fun _ => ?_))
    · rfl
    · refine (zr_aload_n (n := 0) (x := 0) (by decide +kernel) rfl).trans ?_
      refine (zr_getR (i := 17) (c := 11) (k := 1) (r := 2) (by decide +kernel) (by decide +kernel) rfl (by decide +kernel) (zR0_f (o := 0) (c := 11) (n := 0) (k := 1) (j := 2) rfl (by decide) rfl)).trans ?_
      refine (zr_iload_n (n := 2) (x := zi x2) (by decide +kernel) rfl).trans ?_
      refine (zr_copies (e := x2) (by decide +kernel)).trans (zck_ct fun q69 => ?_)
      refine (zr_getR (i := 236) (c := 0) (k := 3) (r := ((230 + 5 * (qw x2).toNat) + 3)) (by decide +kernel) (by decide +kernel) (zb0_0 (zBk_copy (show (qw x2).toNat < 40 by omega))) (by decide +kernel) (zR0_f (o := (230 + 5 * (qw x2).toNat)) (c := 0) (n := 0) (k := 3) (j := 3) (zb0_0 (zBk_copy (show (qw x2).toNat < 40 by omega))) (by decide) rfl)).trans ?_
      refine (zr_aload_n (n := 0) (x := 0) (by decide +kernel) rfl).trans ?_
      refine (zr_getR (i := 17) (c := 11) (k := 1) (r := 2) (by decide +kernel) (by decide +kernel) rfl (by decide +kernel) (zR0_f (o := 0) (c := 11) (n := 0) (k := 1) (j := 2) rfl (by decide) rfl)).trans ?_
      refine (zr_iload_n (n := 3) (x := zi x3) (by decide +kernel) rfl).trans ?_
      refine (zr_copies (e := x3) (by decide +kernel)).trans (zck_ct fun q78 => ?_)
      refine (zr_getR (i := 236) (c := 0) (k := 3) (r := ((230 + 5 * (qw x3).toNat) + 3)) (by decide +kernel) (by decide +kernel) (zb0_0 (zBk_copy (show (qw x3).toNat < 40 by omega))) (by decide +kernel) (zR0_f (o := (230 + 5 * (qw x3).toNat)) (c := 0) (n := 0) (k := 3) (j := 3) (zb0_0 (zBk_copy (show (qw x3).toNat < 40 by omega))) (by decide) rfl)).trans ?_
      exact zr_cV (i := 252) (z := 39) (w := 0) (o := ((230 + 5 * (qw x2).toNat) + 3)) (t := [.ref ((230 + 5 * (qw x3).toNat) + 3)]) (rest := []) (L := [.ref ((230 + 5 * (qw x2).toNat) + 3), .ref ((230 + 5 * (qw x3).toNat) + 3), .null, .null]) (pc1 := 85) (by decide +kernel) (by decide +kernel) (zb5_0 (zBk_0music (zBk_copy (show (qw x2).toNat < 40 by omega)))) (n := 1) (r := 0) rfl rfl rfl (by decide +kernel) rfl rfl
theorem ze_139_85 {V : zVt} {J : zJt} {d : Nat → Nat → UInt64} (x1 : Int) (x2 : Int) (x3 : Int) (s0 : Int) : zGo false 139 85 [.ref 0, .int (zi x1), .int (zi x2), .int (zi x3)] [.int (zi s0)] (zm V J d) =
    (if qw s0 ≤ 0 then zGo false 139 90 [.ref 0, .int (zi x1), .int (zi x2), .int (zi x3)] [] (zm V J d) else zck (qw (1) = 0 ∨ qw (1) = 1) (some (.inl (some (.int (zi (1)))), zm V J d))) := by
  refine (zr_ifle (off := 5) (a := s0) (t := 90) (by decide +kernel) rfl).trans (zif_ct (fun _ => ?_) (fun _ => ?_))
  · rfl
  · refine (zr_iconst (n := 1) (by decide +kernel)).trans ?_
    exact zr_zret (a := (1)) (by decide +kernel) rfl
theorem ze_139_90 {V : zVt} {J : zJt} {d : Nat → Nat → UInt64} (x1 : Int) (x2 : Int) (x3 : Int) : zGo false 139 90 [.ref 0, .int (zi x1), .int (zi x2), .int (zi x3)] [] (zm V J d) =
    zGo false 139 12 [.ref 0, .int (zi x1), .int (zi x2), .int (zi (x3 + 1))] [] (zm V J d) := by
  refine (zr_iinc (n := 3) (k := 1) (x := x3) (l1 := [.ref 0, .int (zi x1), .int (zi x2), .int (zi (x3 + 1))]) (by decide +kernel) rfl rfl).trans ?_
  refine (zr_goto (off := -81) (t := 12) (by decide +kernel) rfl).trans ?_
  rfl
/-! PartSongDesk hasUnevenVoices (I)Z -/
theorem ze_140_0 {V : zVt} {J : zJt} {d : Nat → Nat → UInt64} (x1 : Int) : zGo false 140 0 [.ref 0, .int (zi x1), .null, .null] [] (zm V J d) =
    zGo false 140 2 [.ref 0, .int (zi x1), .int (zi (0)), .null] [] (zm V J d) := by
  refine (zr_iconst (n := 0) (by decide +kernel)).trans ?_
  refine (zr_istore_n (n := 2) (l1 := [.ref 0, .int (zi x1), .int (zi (0)), .null]) (by decide +kernel) rfl).trans ?_
  rfl
theorem ze_140_2 {V : zVt} {J : zJt} {d : Nat → Nat → UInt64} (x1 : Int) (x2 : Int) (x3 : Value) : zGo false 140 2 [.ref 0, .int (zi x1), .int (zi x2), x3] [] (zm V J d) =
    (if qw (V 0 2) ≤ qw x2 then zck (qw (0) = 0 ∨ qw (0) = 1) (some (.inl (some (.int (zi (0)))), zm V J d)) else zGo false 140 12 [.ref 0, .int (zi x1), .int (zi x2), .int (zi (0))] [] (zm V J d)) := by
  refine (zr_iload_n (n := 2) (x := zi x2) (by decide +kernel) rfl).trans ?_
  refine (zr_aload_n (n := 0) (x := 0) (by decide +kernel) rfl).trans ?_
  refine (zr_getI (i := 171) (c := 11) (k := 2) (by decide +kernel) (by decide +kernel) rfl (by decide +kernel)).trans ?_
  refine (zr_cge (off := 74) (a := x2) (b := (V 0 2)) (t := 81) (by decide +kernel) rfl).trans (zif_ct (fun _ => ?_) (fun _ => ?_))
  · refine (zr_iconst (n := 0) (by decide +kernel)).trans ?_
    exact zr_zret (a := (0)) (by decide +kernel) rfl
  · refine (zr_iconst (n := 0) (by decide +kernel)).trans ?_
    refine (zr_istore_n (n := 3) (l1 := [.ref 0, .int (zi x1), .int (zi x2), .int (zi (0))]) (by decide +kernel) rfl).trans ?_
    rfl
theorem ze_140_12 {V : zVt} {J : zJt} {d : Nat → Nat → UInt64} (x1 : Int) (x2 : Int) (x3 : Int) : zGo false 140 12 [.ref 0, .int (zi x1), .int (zi x2), .int (zi x3)] [] (zm V J d) =
    (if qw x2 ≤ qw x3 then zGo false 140 2 [.ref 0, .int (zi x1), .int (zi (x2 + 1)), .int (zi x3)] [] (zm V J d) else zck (0 ≤ qw x2 ∧ qw x2 < 40) ((zGo false 1 0 [.ref (230 + 5 * (qw x2).toNat), .int (zi x1)] [] (zm V J d)).bind (zGor false 140 27 [.ref 0, .int (zi x1), .int (zi x2), .int (zi x3)] []))) := by
  refine (zr_iload_n (n := 3) (x := zi x3) (by decide +kernel) rfl).trans ?_
  refine (zr_iload_n (n := 2) (x := zi x2) (by decide +kernel) rfl).trans ?_
  refine (zr_cge (off := 61) (a := x3) (b := x2) (t := 75) (by decide +kernel) rfl).trans (zif_ct (fun _ => ?_) (fun _ => ?_))
  · refine (zr_iinc (n := 2) (k := 1) (x := x2) (l1 := [.ref 0, .int (zi x1), .int (zi (x2 + 1)), .int (zi x3)]) (by decide +kernel) rfl rfl).trans ?_
    refine (zr_goto (off := -76) (t := 2) (by decide +kernel) rfl).trans ?_
    rfl
  · refine (zr_aload_n (n := 0) (x := 0) (by decide +kernel) rfl).trans ?_
    refine (zr_getR (i := 17) (c := 11) (k := 1) (r := 2) (by decide +kernel) (by decide +kernel) rfl (by decide +kernel) (zR0_f (o := 0) (c := 11) (n := 0) (k := 1) (j := 2) rfl (by decide) rfl)).trans ?_
    refine (zr_iload_n (n := 2) (x := zi x2) (by decide +kernel) rfl).trans ?_
    refine (zr_copies (e := x2) (by decide +kernel)).trans (zck_ct fun q22 => ?_)
    refine (zr_iload_n (n := 1) (x := zi x1) (by decide +kernel) rfl).trans ?_
    exact zr_cV (i := 312) (z := 1) (w := 0) (o := (230 + 5 * (qw x2).toNat)) (t := [.int (zi x1)]) (rest := []) (L := [.ref (230 + 5 * (qw x2).toNat), .int (zi x1)]) (pc1 := 27) (by decide +kernel) (by decide +kernel) (zb0_0 (zBk_copy (show (qw x2).toNat < 40 by omega))) (n := 1) (r := 0) rfl rfl rfl (by decide +kernel) rfl rfl
theorem ze_140_27 {V : zVt} {J : zJt} {d : Nat → Nat → UInt64} (x1 : Int) (x2 : Int) (x3 : Int) (s0 : Int) : zGo false 140 27 [.ref 0, .int (zi x1), .int (zi x2), .int (zi x3)] [.int (zi s0)] (zm V J d) =
    (if qw s0 = 0 then zGo false 140 69 [.ref 0, .int (zi x1), .int (zi x2), .int (zi x3)] [] (zm V J d) else zck (0 ≤ qw x3 ∧ qw x3 < 40) ((zGo false 1 0 [.ref (230 + 5 * (qw x3).toNat), .int (zi x1)] [] (zm V J d)).bind (zGor false 140 40 [.ref 0, .int (zi x1), .int (zi x2), .int (zi x3)] []))) := by
  refine (zr_ifeq (off := 42) (a := s0) (t := 69) (by decide +kernel) rfl).trans (zif_ct (fun _ => ?_) (fun _ => ?_))
  · rfl
  · refine (zr_aload_n (n := 0) (x := 0) (by decide +kernel) rfl).trans ?_
    refine (zr_getR (i := 17) (c := 11) (k := 1) (r := 2) (by decide +kernel) (by decide +kernel) rfl (by decide +kernel) (zR0_f (o := 0) (c := 11) (n := 0) (k := 1) (j := 2) rfl (by decide) rfl)).trans ?_
    refine (zr_iload_n (n := 3) (x := zi x3) (by decide +kernel) rfl).trans ?_
    refine (zr_copies (e := x3) (by decide +kernel)).trans (zck_ct fun q35 => ?_)
    refine (zr_iload_n (n := 1) (x := zi x1) (by decide +kernel) rfl).trans ?_
    exact zr_cV (i := 312) (z := 1) (w := 0) (o := (230 + 5 * (qw x3).toNat)) (t := [.int (zi x1)]) (rest := []) (L := [.ref (230 + 5 * (qw x3).toNat), .int (zi x1)]) (pc1 := 40) (by decide +kernel) (by decide +kernel) (zb0_0 (zBk_copy (show (qw x3).toNat < 40 by omega))) (n := 1) (r := 0) rfl rfl rfl (by decide +kernel) rfl rfl
theorem ze_140_40 {V : zVt} {J : zJt} {d : Nat → Nat → UInt64} (x1 : Int) (x2 : Int) (x3 : Int) (s0 : Int) : zGo false 140 40 [.ref 0, .int (zi x1), .int (zi x2), .int (zi x3)] [.int (zi s0)] (zm V J d) =
    (if qw s0 = 0 then zGo false 140 69 [.ref 0, .int (zi x1), .int (zi x2), .int (zi x3)] [] (zm V J d) else zck (0 ≤ qw x2 ∧ qw x2 < 40) (zck (0 ≤ qw x3 ∧ qw x3 < 40) ((zGo false 42 0 [.ref ((230 + 5 * (qw x2).toNat) + 3), .ref ((230 + 5 * (qw x3).toNat) + 3)] [] (zm V J d)).bind (zGor false 140 64 [.ref 0, .int (zi x1), .int (zi x2), .int (zi x3)] [])))) := by
  refine (zr_ifeq (off := 29) (a := s0) (t := 69) (by decide +kernel) rfl).trans (zif_ct (fun _ => ?_) (fun _ => ?_))
  · rfl
  · refine (zr_aload_n (n := 0) (x := 0) (by decide +kernel) rfl).trans ?_
    refine (zr_getR (i := 17) (c := 11) (k := 1) (r := 2) (by decide +kernel) (by decide +kernel) rfl (by decide +kernel) (zR0_f (o := 0) (c := 11) (n := 0) (k := 1) (j := 2) rfl (by decide) rfl)).trans ?_
    refine (zr_iload_n (n := 2) (x := zi x2) (by decide +kernel) rfl).trans ?_
    refine (zr_copies (e := x2) (by decide +kernel)).trans (zck_ct fun q48 => ?_)
    refine (zr_getR (i := 236) (c := 0) (k := 3) (r := ((230 + 5 * (qw x2).toNat) + 3)) (by decide +kernel) (by decide +kernel) (zb0_0 (zBk_copy (show (qw x2).toNat < 40 by omega))) (by decide +kernel) (zR0_f (o := (230 + 5 * (qw x2).toNat)) (c := 0) (n := 0) (k := 3) (j := 3) (zb0_0 (zBk_copy (show (qw x2).toNat < 40 by omega))) (by decide) rfl)).trans ?_
    refine (zr_aload_n (n := 0) (x := 0) (by decide +kernel) rfl).trans ?_
    refine (zr_getR (i := 17) (c := 11) (k := 1) (r := 2) (by decide +kernel) (by decide +kernel) rfl (by decide +kernel) (zR0_f (o := 0) (c := 11) (n := 0) (k := 1) (j := 2) rfl (by decide) rfl)).trans ?_
    refine (zr_iload_n (n := 3) (x := zi x3) (by decide +kernel) rfl).trans ?_
    refine (zr_copies (e := x3) (by decide +kernel)).trans (zck_ct fun q57 => ?_)
    refine (zr_getR (i := 236) (c := 0) (k := 3) (r := ((230 + 5 * (qw x3).toNat) + 3)) (by decide +kernel) (by decide +kernel) (zb0_0 (zBk_copy (show (qw x3).toNat < 40 by omega))) (by decide +kernel) (zR0_f (o := (230 + 5 * (qw x3).toNat)) (c := 0) (n := 0) (k := 3) (j := 3) (zb0_0 (zBk_copy (show (qw x3).toNat < 40 by omega))) (by decide) rfl)).trans ?_
    exact zr_cV (i := 401) (z := 42) (w := 0) (o := ((230 + 5 * (qw x2).toNat) + 3)) (t := [.ref ((230 + 5 * (qw x3).toNat) + 3)]) (rest := []) (L := [.ref ((230 + 5 * (qw x2).toNat) + 3), .ref ((230 + 5 * (qw x3).toNat) + 3)]) (pc1 := 64) (by decide +kernel) (by decide +kernel) (zb5_0 (zBk_0music (zBk_copy (show (qw x2).toNat < 40 by omega)))) (n := 1) (r := 0) rfl rfl rfl (by decide +kernel) rfl rfl
theorem ze_140_64 {V : zVt} {J : zJt} {d : Nat → Nat → UInt64} (x1 : Int) (x2 : Int) (x3 : Int) (s0 : Int) : zGo false 140 64 [.ref 0, .int (zi x1), .int (zi x2), .int (zi x3)] [.int (zi s0)] (zm V J d) =
    (if qw s0 ≠ 0 then zGo false 140 69 [.ref 0, .int (zi x1), .int (zi x2), .int (zi x3)] [] (zm V J d) else zck (qw (1) = 0 ∨ qw (1) = 1) (some (.inl (some (.int (zi (1)))), zm V J d))) := by
  refine (zr_ifne (off := 5) (a := s0) (t := 69) (by decide +kernel) rfl).trans (zif_ct (fun _ => ?_) (fun _ => ?_))
  · rfl
  · refine (zr_iconst (n := 1) (by decide +kernel)).trans ?_
    exact zr_zret (a := (1)) (by decide +kernel) rfl
theorem ze_140_69 {V : zVt} {J : zJt} {d : Nat → Nat → UInt64} (x1 : Int) (x2 : Int) (x3 : Int) : zGo false 140 69 [.ref 0, .int (zi x1), .int (zi x2), .int (zi x3)] [] (zm V J d) =
    zGo false 140 12 [.ref 0, .int (zi x1), .int (zi x2), .int (zi (x3 + 1))] [] (zm V J d) := by
  refine (zr_iinc (n := 3) (k := 1) (x := x3) (l1 := [.ref 0, .int (zi x1), .int (zi x2), .int (zi (x3 + 1))]) (by decide +kernel) rfl rfl).trans ?_
  refine (zr_goto (off := -60) (t := 12) (by decide +kernel) rfl).trans ?_
  rfl
/-! PartSongDesk isLearned (I)Z -/
theorem ze_141_0 {V : zVt} {J : zJt} {d : Nat → Nat → UInt64} (x1 : Int) : zGo false 141 0 [.ref 0, .int (zi x1), .null] [] (zm V J d) =
    zGo false 141 2 [.ref 0, .int (zi x1), .int (zi (0))] [] (zm V J d) := by
  refine (zr_iconst (n := 0) (by decide +kernel)).trans ?_
  refine (zr_istore_n (n := 2) (l1 := [.ref 0, .int (zi x1), .int (zi (0))]) (by decide +kernel) rfl).trans ?_
  rfl
theorem ze_141_2 {V : zVt} {J : zJt} {d : Nat → Nat → UInt64} (x1 : Int) (x2 : Int) : zGo false 141 2 [.ref 0, .int (zi x1), .int (zi x2)] [] (zm V J d) =
    (if qw (V 0 2) ≤ qw x2 then zck (qw (1) = 0 ∨ qw (1) = 1) (some (.inl (some (.int (zi (1)))), zm V J d)) else zck (0 ≤ qw x2 ∧ qw x2 < 40) ((zGo false 1 0 [.ref (230 + 5 * (qw x2).toNat), .int (zi x1)] [] (zm V J d)).bind (zGor false 141 20 [.ref 0, .int (zi x1), .int (zi x2)] []))) := by
  refine (zr_iload_n (n := 2) (x := zi x2) (by decide +kernel) rfl).trans ?_
  refine (zr_aload_n (n := 0) (x := 0) (by decide +kernel) rfl).trans ?_
  refine (zr_getI (i := 171) (c := 11) (k := 2) (by decide +kernel) (by decide +kernel) rfl (by decide +kernel)).trans ?_
  refine (zr_cge (off := 61) (a := x2) (b := (V 0 2)) (t := 68) (by decide +kernel) rfl).trans (zif_ct (fun _ => ?_) (fun _ => ?_))
  · refine (zr_iconst (n := 1) (by decide +kernel)).trans ?_
    exact zr_zret (a := (1)) (by decide +kernel) rfl
  · refine (zr_aload_n (n := 0) (x := 0) (by decide +kernel) rfl).trans ?_
    refine (zr_getR (i := 17) (c := 11) (k := 1) (r := 2) (by decide +kernel) (by decide +kernel) rfl (by decide +kernel) (zR0_f (o := 0) (c := 11) (n := 0) (k := 1) (j := 2) rfl (by decide) rfl)).trans ?_
    refine (zr_iload_n (n := 2) (x := zi x2) (by decide +kernel) rfl).trans ?_
    refine (zr_copies (e := x2) (by decide +kernel)).trans (zck_ct fun q15 => ?_)
    refine (zr_iload_n (n := 1) (x := zi x1) (by decide +kernel) rfl).trans ?_
    exact zr_cV (i := 312) (z := 1) (w := 0) (o := (230 + 5 * (qw x2).toNat)) (t := [.int (zi x1)]) (rest := []) (L := [.ref (230 + 5 * (qw x2).toNat), .int (zi x1)]) (pc1 := 20) (by decide +kernel) (by decide +kernel) (zb0_0 (zBk_copy (show (qw x2).toNat < 40 by omega))) (n := 1) (r := 0) rfl rfl rfl (by decide +kernel) rfl rfl
theorem ze_141_20 {V : zVt} {J : zJt} {d : Nat → Nat → UInt64} (x1 : Int) (x2 : Int) (s0 : Int) : zGo false 141 20 [.ref 0, .int (zi x1), .int (zi x2)] [.int (zi s0)] (zm V J d) =
    (if qw s0 = 0 then zGo false 141 62 [.ref 0, .int (zi x1), .int (zi x2)] [] (zm V J d) else zck (0 ≤ qw x2 ∧ qw x2 < 40) (zck (0 ≤ qw x2 ∧ qw x2 < 40) (zck (0 ≤ qw x2 ∧ qw x2 < 40) ((zGo false 24 0 [.ref 46, .int (zi (V (230 + 5 * (qw x2).toNat) 1)), .int (zi (V (230 + 5 * (qw x2).toNat) 0)), .ref ((230 + 5 * (qw x2).toNat) + 3), .null] [] (zm V J d)).bind (zGor false 141 57 [.ref 0, .int (zi x1), .int (zi x2)] []))))) := by
  refine (zr_ifeq (off := 42) (a := s0) (t := 62) (by decide +kernel) rfl).trans (zif_ct (fun _ => ?_) (fun _ => ?_))
  · rfl
  · refine (zr_aload_n (n := 0) (x := 0) (by decide +kernel) rfl).trans ?_
    refine (zr_getR (i := 73) (c := 11) (k := 10) (r := 46) (by decide +kernel) (by decide +kernel) rfl (by decide +kernel) (zR0_f (o := 0) (c := 11) (n := 0) (k := 10) (j := 46) rfl (by decide) rfl)).trans ?_
    refine (zr_aload_n (n := 0) (x := 0) (by decide +kernel) rfl).trans ?_
    refine (zr_getR (i := 17) (c := 11) (k := 1) (r := 2) (by decide +kernel) (by decide +kernel) rfl (by decide +kernel) (zR0_f (o := 0) (c := 11) (n := 0) (k := 1) (j := 2) rfl (by decide) rfl)).trans ?_
    refine (zr_iload_n (n := 2) (x := zi x2) (by decide +kernel) rfl).trans ?_
    refine (zr_copies (e := x2) (by decide +kernel)).trans (zck_ct fun q32 => ?_)
    refine (zr_getI (i := 189) (c := 0) (k := 1) (by decide +kernel) (by decide +kernel) (zb0_0 (zBk_copy (show (qw x2).toNat < 40 by omega))) (by decide +kernel)).trans ?_
    refine (zr_aload_n (n := 0) (x := 0) (by decide +kernel) rfl).trans ?_
    refine (zr_getR (i := 17) (c := 11) (k := 1) (r := 2) (by decide +kernel) (by decide +kernel) rfl (by decide +kernel) (zR0_f (o := 0) (c := 11) (n := 0) (k := 1) (j := 2) rfl (by decide) rfl)).trans ?_
    refine (zr_iload_n (n := 2) (x := zi x2) (by decide +kernel) rfl).trans ?_
    refine (zr_copies (e := x2) (by decide +kernel)).trans (zck_ct fun q41 => ?_)
    refine (zr_getI (i := 176) (c := 0) (k := 0) (by decide +kernel) (by decide +kernel) (zb0_0 (zBk_copy (show (qw x2).toNat < 40 by omega))) (by decide +kernel)).trans ?_
    refine (zr_aload_n (n := 0) (x := 0) (by decide +kernel) rfl).trans ?_
    refine (zr_getR (i := 17) (c := 11) (k := 1) (r := 2) (by decide +kernel) (by decide +kernel) rfl (by decide +kernel) (zR0_f (o := 0) (c := 11) (n := 0) (k := 1) (j := 2) rfl (by decide) rfl)).trans ?_
    refine (zr_iload_n (n := 2) (x := zi x2) (by decide +kernel) rfl).trans ?_
    refine (zr_copies (e := x2) (by decide +kernel)).trans (zck_ct fun q50 => ?_)
    refine (zr_getR (i := 236) (c := 0) (k := 3) (r := ((230 + 5 * (qw x2).toNat) + 3)) (by decide +kernel) (by decide +kernel) (zb0_0 (zBk_copy (show (qw x2).toNat < 40 by omega))) (by decide +kernel) (zR0_f (o := (230 + 5 * (qw x2).toNat)) (c := 0) (n := 0) (k := 3) (j := 3) (zb0_0 (zBk_copy (show (qw x2).toNat < 40 by omega))) (by decide) rfl)).trans ?_
    exact zr_cV (i := 405) (z := 24) (w := 0) (o := 46) (t := [.ref ((230 + 5 * (qw x2).toNat) + 3), .int (zi (V (230 + 5 * (qw x2).toNat) 0)), .int (zi (V (230 + 5 * (qw x2).toNat) 1))]) (rest := []) (L := [.ref 46, .int (zi (V (230 + 5 * (qw x2).toNat) 1)), .int (zi (V (230 + 5 * (qw x2).toNat) 0)), .ref ((230 + 5 * (qw x2).toNat) + 3), .null]) (pc1 := 57) (by decide +kernel) (by decide +kernel) rfl (n := 3) (r := 0) rfl rfl rfl (by decide +kernel) rfl rfl
theorem ze_141_57 {V : zVt} {J : zJt} {d : Nat → Nat → UInt64} (x1 : Int) (x2 : Int) (s0 : Int) : zGo false 141 57 [.ref 0, .int (zi x1), .int (zi x2)] [.int (zi s0)] (zm V J d) =
    (if qw s0 ≠ 0 then zGo false 141 62 [.ref 0, .int (zi x1), .int (zi x2)] [] (zm V J d) else zck (qw (0) = 0 ∨ qw (0) = 1) (some (.inl (some (.int (zi (0)))), zm V J d))) := by
  refine (zr_ifne (off := 5) (a := s0) (t := 62) (by decide +kernel) rfl).trans (zif_ct (fun _ => ?_) (fun _ => ?_))
  · rfl
  · refine (zr_iconst (n := 0) (by decide +kernel)).trans ?_
    exact zr_zret (a := (0)) (by decide +kernel) rfl
theorem ze_141_62 {V : zVt} {J : zJt} {d : Nat → Nat → UInt64} (x1 : Int) (x2 : Int) : zGo false 141 62 [.ref 0, .int (zi x1), .int (zi x2)] [] (zm V J d) =
    zGo false 141 2 [.ref 0, .int (zi x1), .int (zi (x2 + 1))] [] (zm V J d) := by
  refine (zr_iinc (n := 2) (k := 1) (x := x2) (l1 := [.ref 0, .int (zi x1), .int (zi (x2 + 1))]) (by decide +kernel) rfl rfl).trans ?_
  refine (zr_goto (off := -63) (t := 2) (by decide +kernel) rfl).trans ?_
  rfl
/-! PartSongDesk concert (I)I -/
theorem ze_142_0 {V : zVt} {J : zJt} {d : Nat → Nat → UInt64} (x1 : Int) : zGo false 142 0 [.ref 0, .int (zi x1), .null, .null] [] (zm V J d) =
    (zGo false 124 0 [.ref 0, .int (zi x1)] [] (zm V J d)).bind (zGor false 142 5 [.ref 0, .int (zi x1), .null, .null] []) := by
  refine (zr_aload_n (n := 0) (x := 0) (by decide +kernel) rfl).trans ?_
  refine (zr_iload_n (n := 1) (x := zi x1) (by decide +kernel) rfl).trans ?_
  exact zr_cV (i := 256) (z := 124) (w := 0) (o := 0) (t := [.int (zi x1)]) (rest := []) (L := [.ref 0, .int (zi x1)]) (pc1 := 5) (by decide +kernel) (by decide +kernel) rfl (n := 1) (r := 0) rfl rfl rfl (by decide +kernel) rfl rfl
theorem ze_142_5 {V : zVt} {J : zJt} {d : Nat → Nat → UInt64} (x1 : Int) : zGo false 142 5 [.ref 0, .int (zi x1), .null, .null] [] (zm V J d) =
    (zGo false 136 0 [.ref 0, .int (zi x1)] [] (zm V J d)).bind (zGor false 142 10 [.ref 0, .int (zi x1), .null, .null] []) := by
  refine (zr_aload_n (n := 0) (x := 0) (by decide +kernel) rfl).trans ?_
  refine (zr_iload_n (n := 1) (x := zi x1) (by decide +kernel) rfl).trans ?_
  exact zr_cV (i := 306) (z := 136) (w := 0) (o := 0) (t := [.int (zi x1)]) (rest := []) (L := [.ref 0, .int (zi x1)]) (pc1 := 10) (by decide +kernel) (by decide +kernel) rfl (n := 1) (r := 0) rfl rfl rfl (by decide +kernel) rfl rfl
theorem ze_142_10 {V : zVt} {J : zJt} {d : Nat → Nat → UInt64} (x1 : Int) (s0 : Int) : zGo false 142 10 [.ref 0, .int (zi x1), .null, .null] [.int (zi s0)] (zm V J d) =
    (if qw s0 = 0 then zGo false 142 28 [.ref 0, .int (zi x1), .int (zi (0)), .int (zi (0))] [] (zm V J d) else some (.inr 2, zm V J d)) := by
  refine (zr_ifeq (off := 14) (a := s0) (t := 24) (by decide +kernel) rfl).trans (zif_ct (fun _ => ?_) (fun _ => ?_))
  · refine (zr_iconst (n := 0) (by decide +kernel)).trans ?_
    refine (zr_istore_n (n := 2) (l1 := [.ref 0, .int (zi x1), .int (zi (0)), .null]) (by decide +kernel) rfl).trans ?_
    refine (zr_iconst (n := 0) (by decide +kernel)).trans ?_
    refine (zr_istore_n (n := 3) (l1 := [.ref 0, .int (zi x1), .int (zi (0)), .int (zi (0))]) (by decide +kernel) rfl).trans ?_
    rfl
  · exact zr_thr (i := 98) (e := 2) (w := 0) (by decide +kernel) (by decide +kernel) (by decide +kernel) (by decide)
theorem ze_142_28 {V : zVt} {J : zJt} {d : Nat → Nat → UInt64} (x1 : Int) (x2 : Int) (x3 : Int) : zGo false 142 28 [.ref 0, .int (zi x1), .int (zi x2), .int (zi x3)] [] (zm V J d) =
    (if qw (V 0 2) ≤ qw x3 then some (.inl (some (.int (zi x2))), zm (vup V 0 11 ((V 0 11) + (1))) J d) else zck (0 ≤ qw x3 ∧ qw x3 < 40) ((zGo false 1 0 [.ref (230 + 5 * (qw x3).toNat), .int (zi x1)] [] (zm V J d)).bind (zGor false 142 46 [.ref 0, .int (zi x1), .int (zi x2), .int (zi x3)] []))) := by
  refine (zr_iload_n (n := 3) (x := zi x3) (by decide +kernel) rfl).trans ?_
  refine (zr_aload_n (n := 0) (x := 0) (by decide +kernel) rfl).trans ?_
  refine (zr_getI (i := 171) (c := 11) (k := 2) (by decide +kernel) (by decide +kernel) rfl (by decide +kernel)).trans ?_
  refine (zr_cge (off := 36) (a := x3) (b := (V 0 2)) (t := 69) (by decide +kernel) rfl).trans (zif_ct (fun _ => ?_) (fun _ => ?_))
  · refine (zr_aload_n (n := 0) (x := 0) (by decide +kernel) rfl).trans ?_
    refine (zr_dup (by decide +kernel) rfl).trans ?_
    refine (zr_getI (i := 315) (c := 11) (k := 11) (by decide +kernel) (by decide +kernel) rfl (by decide +kernel)).trans ?_
    refine (zr_iconst (n := 1) (by decide +kernel)).trans ?_
    refine (zr_iadd (a := (V 0 11)) (b := (1)) (by decide +kernel)).trans ?_
    refine (zr_putI (i := 315) (c := 11) (k := 11) (x := ((V 0 11) + (1))) (by decide +kernel) (by decide +kernel) rfl (by decide +kernel)).trans ?_
    refine (zr_iload_n (n := 2) (x := zi x2) (by decide +kernel) rfl).trans ?_
    exact zr_iret (a := x2) (by decide +kernel) rfl
  · refine (zr_aload_n (n := 0) (x := 0) (by decide +kernel) rfl).trans ?_
    refine (zr_getR (i := 17) (c := 11) (k := 1) (r := 2) (by decide +kernel) (by decide +kernel) rfl (by decide +kernel) (zR0_f (o := 0) (c := 11) (n := 0) (k := 1) (j := 2) rfl (by decide) rfl)).trans ?_
    refine (zr_iload_n (n := 3) (x := zi x3) (by decide +kernel) rfl).trans ?_
    refine (zr_copies (e := x3) (by decide +kernel)).trans (zck_ct fun q41 => ?_)
    refine (zr_iload_n (n := 1) (x := zi x1) (by decide +kernel) rfl).trans ?_
    exact zr_cV (i := 312) (z := 1) (w := 0) (o := (230 + 5 * (qw x3).toNat)) (t := [.int (zi x1)]) (rest := []) (L := [.ref (230 + 5 * (qw x3).toNat), .int (zi x1)]) (pc1 := 46) (by decide +kernel) (by decide +kernel) (zb0_0 (zBk_copy (show (qw x3).toNat < 40 by omega))) (n := 1) (r := 0) rfl rfl rfl (by decide +kernel) rfl rfl
theorem ze_142_46 {V : zVt} {J : zJt} {d : Nat → Nat → UInt64} (x1 : Int) (x2 : Int) (x3 : Int) (s0 : Int) : zGo false 142 46 [.ref 0, .int (zi x1), .int (zi x2), .int (zi x3)] [.int (zi s0)] (zm V J d) =
    (if qw s0 = 0 then zGo false 142 63 [.ref 0, .int (zi x1), .int (zi x2), .int (zi x3)] [] (zm V J d) else zck (0 ≤ qw x3 ∧ qw x3 < 40) ((zGo false 115 0 [.ref 0, .ref (230 + 5 * (qw x3).toNat), .null, .null] [] (zm V J d)).bind (zGor false 142 59 [.ref 0, .int (zi x1), .int (zi x2), .int (zi x3)] []))) := by
  refine (zr_ifeq (off := 17) (a := s0) (t := 63) (by decide +kernel) rfl).trans (zif_ct (fun _ => ?_) (fun _ => ?_))
  · rfl
  · refine (zr_aload_n (n := 0) (x := 0) (by decide +kernel) rfl).trans ?_
    refine (zr_aload_n (n := 0) (x := 0) (by decide +kernel) rfl).trans ?_
    refine (zr_getR (i := 17) (c := 11) (k := 1) (r := 2) (by decide +kernel) (by decide +kernel) rfl (by decide +kernel) (zR0_f (o := 0) (c := 11) (n := 0) (k := 1) (j := 2) rfl (by decide) rfl)).trans ?_
    refine (zr_iload_n (n := 3) (x := zi x3) (by decide +kernel) rfl).trans ?_
    refine (zr_copies (e := x3) (by decide +kernel)).trans (zck_ct fun q55 => ?_)
    exact zr_cV (i := 214) (z := 115) (w := 0) (o := 0) (t := [.ref (230 + 5 * (qw x3).toNat)]) (rest := []) (L := [.ref 0, .ref (230 + 5 * (qw x3).toNat), .null, .null]) (pc1 := 59) (by decide +kernel) (by decide +kernel) rfl (n := 1) (r := 0) rfl rfl rfl (by decide +kernel) rfl rfl
theorem ze_142_59 {V : zVt} {J : zJt} {d : Nat → Nat → UInt64} (x1 : Int) (x2 : Int) (x3 : Int) (s0 : Int) : zGo false 142 59 [.ref 0, .int (zi x1), .int (zi x2), .int (zi x3)] [.int (zi s0)] (zm V J d) =
    zGo false 142 63 [.ref 0, .int (zi x1), .int (zi (x2 + 1)), .int (zi x3)] [] (zm V J d) := by
  refine (zr_pop (by decide +kernel) rfl).trans ?_
  refine (zr_iinc (n := 2) (k := 1) (x := x2) (l1 := [.ref 0, .int (zi x1), .int (zi (x2 + 1)), .int (zi x3)]) (by decide +kernel) rfl rfl).trans ?_
  rfl
theorem ze_142_63 {V : zVt} {J : zJt} {d : Nat → Nat → UInt64} (x1 : Int) (x2 : Int) (x3 : Int) : zGo false 142 63 [.ref 0, .int (zi x1), .int (zi x2), .int (zi x3)] [] (zm V J d) =
    zGo false 142 28 [.ref 0, .int (zi x1), .int (zi x2), .int (zi (x3 + 1))] [] (zm V J d) := by
  refine (zr_iinc (n := 3) (k := 1) (x := x3) (l1 := [.ref 0, .int (zi x1), .int (zi x2), .int (zi (x3 + 1))]) (by decide +kernel) rfl rfl).trans ?_
  refine (zr_goto (off := -38) (t := 28) (by decide +kernel) rfl).trans ?_
  rfl
/-! java/lang/Math max (II)I -/
theorem ze_231_0 {V : zVt} {J : zJt} {d : Nat → Nat → UInt64} (x0 : Int) (x1 : Int) : zGo false 231 0 [.int (zi x0), .int (zi x1)] [] (zm V J d) =
    (if qw x0 < qw x1 then zGo false 231 10 [.int (zi x0), .int (zi x1)] [.int (zi x1)] (zm V J d) else zGo false 231 10 [.int (zi x0), .int (zi x1)] [.int (zi x0)] (zm V J d)) := by
  refine (zr_iload_n (n := 0) (x := zi x0) (by decide +kernel) rfl).trans ?_
  refine (zr_iload_n (n := 1) (x := zi x1) (by decide +kernel) rfl).trans ?_
  refine (zr_clt (off := 7) (a := x0) (b := x1) (t := 9) (by decide +kernel) rfl).trans (zif_ct (fun _ => ?_) (fun _ => ?_))
  · refine (zr_iload_n (n := 1) (x := zi x1) (by decide +kernel) rfl).trans ?_
    rfl
  · refine (zr_iload_n (n := 0) (x := zi x0) (by decide +kernel) rfl).trans ?_
    refine (zr_goto (off := 4) (t := 10) (by decide +kernel) rfl).trans ?_
    rfl
theorem ze_231_10 {V : zVt} {J : zJt} {d : Nat → Nat → UInt64} (x0 : Int) (x1 : Int) (s0 : Int) : zGo false 231 10 [.int (zi x0), .int (zi x1)] [.int (zi s0)] (zm V J d) =
    some (.inl (some (.int (zi s0))), zm V J d) := by
  exact zr_iret (a := s0) (by decide +kernel) rfl
/-! java/lang/Math min (II)I -/
theorem ze_232_0 {V : zVt} {J : zJt} {d : Nat → Nat → UInt64} (x0 : Int) (x1 : Int) : zGo false 232 0 [.int (zi x0), .int (zi x1)] [] (zm V J d) =
    (if qw x1 < qw x0 then zGo false 232 10 [.int (zi x0), .int (zi x1)] [.int (zi x1)] (zm V J d) else zGo false 232 10 [.int (zi x0), .int (zi x1)] [.int (zi x0)] (zm V J d)) := by
  refine (zr_iload_n (n := 0) (x := zi x0) (by decide +kernel) rfl).trans ?_
  refine (zr_iload_n (n := 1) (x := zi x1) (by decide +kernel) rfl).trans ?_
  refine (zr_cgt (off := 7) (a := x0) (b := x1) (t := 9) (by decide +kernel) rfl).trans (zif_ct (fun _ => ?_) (fun _ => ?_))
  · refine (zr_iload_n (n := 1) (x := zi x1) (by decide +kernel) rfl).trans ?_
    rfl
  · refine (zr_iload_n (n := 0) (x := zi x0) (by decide +kernel) rfl).trans ?_
    refine (zr_goto (off := 4) (t := 10) (by decide +kernel) rfl).trans ?_
    rfl
theorem ze_232_10 {V : zVt} {J : zJt} {d : Nat → Nat → UInt64} (x0 : Int) (x1 : Int) (s0 : Int) : zGo false 232 10 [.int (zi x0), .int (zi x1)] [.int (zi s0)] (zm V J d) =
    some (.inl (some (.int (zi s0))), zm V J d) := by
  exact zr_iret (a := s0) (by decide +kernel) rfl
/-! java/lang/Math floorMod (II)I -/
theorem ze_233_0 {V : zVt} {J : zJt} {d : Nat → Nat → UInt64} (x0 : Int) (x1 : Int) : zGo false 233 0 [.int (zi x0), .int (zi x1), .null] [] (zm V J d) =
    zck (qw x1 ≠ 0) ((if 0 ≤ qw (qxor x0 x1) then zGo false 233 18 [.int (zi x0), .int (zi x1), .int (zi (qrem x0 x1))] [] (zm V J d) else (if qw (qrem x0 x1) = 0 then zGo false 233 18 [.int (zi x0), .int (zi x1), .int (zi (qrem x0 x1))] [] (zm V J d) else some (.inl (some (.int (zi ((qrem x0 x1) + x1)))), zm V J d)))) := by
  refine (zr_iload_n (n := 0) (x := zi x0) (by decide +kernel) rfl).trans ?_
  refine (zr_iload_n (n := 1) (x := zi x1) (by decide +kernel) rfl).trans ?_
  refine (zr_irem (a := x0) (b := x1) (by decide +kernel)).trans (zck_ct fun _ => ?_)
  refine (zr_istore_n (n := 2) (l1 := [.int (zi x0), .int (zi x1), .int (zi (qrem x0 x1))]) (by decide +kernel) rfl).trans ?_
  refine (zr_iload_n (n := 0) (x := zi x0) (by decide +kernel) rfl).trans ?_
  refine (zr_iload_n (n := 1) (x := zi x1) (by decide +kernel) rfl).trans ?_
  refine (zr_ixor (a := x0) (b := x1) (by decide +kernel)).trans ?_
  refine (zr_ifge (off := 11) (a := (qxor x0 x1)) (t := 18) (by decide +kernel) rfl).trans (zif_ct (fun _ => ?_) (fun _ => ?_))
  · rfl
  · refine (zr_iload_n (n := 2) (x := zi (qrem x0 x1)) (by decide +kernel) rfl).trans ?_
    refine (zr_ifeq (off := 7) (a := (qrem x0 x1)) (t := 18) (by decide +kernel) rfl).trans (zif_ct (fun _ => ?_) (fun _ => ?_))
    · rfl
    · refine (zr_iload_n (n := 2) (x := zi (qrem x0 x1)) (by decide +kernel) rfl).trans ?_
      refine (zr_iload_n (n := 1) (x := zi x1) (by decide +kernel) rfl).trans ?_
      refine (zr_iadd (a := (qrem x0 x1)) (b := x1) (by decide +kernel)).trans ?_
      exact zr_iret (a := ((qrem x0 x1) + x1)) (by decide +kernel) rfl
theorem ze_233_18 {V : zVt} {J : zJt} {d : Nat → Nat → UInt64} (x0 : Int) (x1 : Int) (x2 : Int) : zGo false 233 18 [.int (zi x0), .int (zi x1), .int (zi x2)] [] (zm V J d) =
    some (.inl (some (.int (zi x2))), zm V J d) := by
  refine (zr_iload_n (n := 2) (x := zi x2) (by decide +kernel) rfl).trans ?_
  exact zr_iret (a := x2) (by decide +kernel) rfl
/-! java/lang/Math abs (I)I -/
theorem ze_234_0 {V : zVt} {J : zJt} {d : Nat → Nat → UInt64} (x0 : Int) : zGo false 234 0 [.int (zi x0)] [] (zm V J d) =
    (if 0 ≤ qw x0 then zGo false 234 10 [.int (zi x0)] [.int (zi x0)] (zm V J d) else zGo false 234 10 [.int (zi x0)] [.int (zi (-x0))] (zm V J d)) := by
  refine (zr_iload_n (n := 0) (x := zi x0) (by decide +kernel) rfl).trans ?_
  refine (zr_ifge (off := 8) (a := x0) (t := 9) (by decide +kernel) rfl).trans (zif_ct (fun _ => ?_) (fun _ => ?_))
  · refine (zr_iload_n (n := 0) (x := zi x0) (by decide +kernel) rfl).trans ?_
    rfl
  · refine (zr_iload_n (n := 0) (x := zi x0) (by decide +kernel) rfl).trans ?_
    refine (zr_ineg (a := x0) (by decide +kernel)).trans ?_
    refine (zr_goto (off := 4) (t := 10) (by decide +kernel) rfl).trans ?_
    rfl
theorem ze_234_10 {V : zVt} {J : zJt} {d : Nat → Nat → UInt64} (x0 : Int) (s0 : Int) : zGo false 234 10 [.int (zi x0)] [.int (zi s0)] (zm V J d) =
    some (.inl (some (.int (zi s0))), zm V J d) := by
  exact zr_iret (a := s0) (by decide +kernel) rfl
/-! java/lang/Integer bitCount (I)I -/
theorem ze_235_0 {V : zVt} {J : zJt} {d : Nat → Nat → UInt64} (x0 : Int) : zGo false 235 0 [.int (zi x0)] [] (zm V J d) =
    some (.inl (some (.int (zi (qand (((qand (((qand (x0 - (qand (qushr x0 (1)) (1431655765 : Nat))) (858993459 : Nat)) + (qand (qushr (x0 - (qand (qushr x0 (1)) (1431655765 : Nat))) (2)) (858993459 : Nat))) + (qushr ((qand (x0 - (qand (qushr x0 (1)) (1431655765 : Nat))) (858993459 : Nat)) + (qand (qushr (x0 - (qand (qushr x0 (1)) (1431655765 : Nat))) (2)) (858993459 : Nat))) (4))) (252645135 : Nat)) + (qushr (qand (((qand (x0 - (qand (qushr x0 (1)) (1431655765 : Nat))) (858993459 : Nat)) + (qand (qushr (x0 - (qand (qushr x0 (1)) (1431655765 : Nat))) (2)) (858993459 : Nat))) + (qushr ((qand (x0 - (qand (qushr x0 (1)) (1431655765 : Nat))) (858993459 : Nat)) + (qand (qushr (x0 - (qand (qushr x0 (1)) (1431655765 : Nat))) (2)) (858993459 : Nat))) (4))) (252645135 : Nat)) (8))) + (qushr ((qand (((qand (x0 - (qand (qushr x0 (1)) (1431655765 : Nat))) (858993459 : Nat)) + (qand (qushr (x0 - (qand (qushr x0 (1)) (1431655765 : Nat))) (2)) (858993459 : Nat))) + (qushr ((qand (x0 - (qand (qushr x0 (1)) (1431655765 : Nat))) (858993459 : Nat)) + (qand (qushr (x0 - (qand (qushr x0 (1)) (1431655765 : Nat))) (2)) (858993459 : Nat))) (4))) (252645135 : Nat)) + (qushr (qand (((qand (x0 - (qand (qushr x0 (1)) (1431655765 : Nat))) (858993459 : Nat)) + (qand (qushr (x0 - (qand (qushr x0 (1)) (1431655765 : Nat))) (2)) (858993459 : Nat))) + (qushr ((qand (x0 - (qand (qushr x0 (1)) (1431655765 : Nat))) (858993459 : Nat)) + (qand (qushr (x0 - (qand (qushr x0 (1)) (1431655765 : Nat))) (2)) (858993459 : Nat))) (4))) (252645135 : Nat)) (8))) (16))) (63))))), zm V J d) := by
  refine (zr_iload_n (n := 0) (x := zi x0) (by decide +kernel) rfl).trans ?_
  refine (zr_iload_n (n := 0) (x := zi x0) (by decide +kernel) rfl).trans ?_
  refine (zr_iconst (n := 1) (by decide +kernel)).trans ?_
  refine (zr_iushr (a := x0) (b := (1)) (by decide +kernel)).trans ?_
  refine (zr_ldcwI (i := 265) (v := 1431655765) (w := 0) (by decide +kernel) (by decide +kernel)).trans ?_
  refine (zr_iand (a := (qushr x0 (1))) (b := (1431655765 : Nat)) (by decide +kernel)).trans ?_
  refine (zr_isub (a := x0) (b := (qand (qushr x0 (1)) (1431655765 : Nat))) (by decide +kernel)).trans ?_
  refine (zr_istore_n (n := 0) (l1 := [.int (zi (x0 - (qand (qushr x0 (1)) (1431655765 : Nat))))]) (by decide +kernel) rfl).trans ?_
  refine (zr_iload_n (n := 0) (x := zi (x0 - (qand (qushr x0 (1)) (1431655765 : Nat)))) (by decide +kernel) rfl).trans ?_
  refine (zr_ldcwI (i := 266) (v := 858993459) (w := 0) (by decide +kernel) (by decide +kernel)).trans ?_
  refine (zr_iand (a := (x0 - (qand (qushr x0 (1)) (1431655765 : Nat)))) (b := (858993459 : Nat)) (by decide +kernel)).trans ?_
  refine (zr_iload_n (n := 0) (x := zi (x0 - (qand (qushr x0 (1)) (1431655765 : Nat)))) (by decide +kernel) rfl).trans ?_
  refine (zr_iconst (n := 2) (by decide +kernel)).trans ?_
  refine (zr_iushr (a := (x0 - (qand (qushr x0 (1)) (1431655765 : Nat)))) (b := (2)) (by decide +kernel)).trans ?_
  refine (zr_ldcwI (i := 266) (v := 858993459) (w := 0) (by decide +kernel) (by decide +kernel)).trans ?_
  refine (zr_iand (a := (qushr (x0 - (qand (qushr x0 (1)) (1431655765 : Nat))) (2))) (b := (858993459 : Nat)) (by decide +kernel)).trans ?_
  refine (zr_iadd (a := (qand (x0 - (qand (qushr x0 (1)) (1431655765 : Nat))) (858993459 : Nat))) (b := (qand (qushr (x0 - (qand (qushr x0 (1)) (1431655765 : Nat))) (2)) (858993459 : Nat))) (by decide +kernel)).trans ?_
  refine (zr_istore_n (n := 0) (l1 := [.int (zi ((qand (x0 - (qand (qushr x0 (1)) (1431655765 : Nat))) (858993459 : Nat)) + (qand (qushr (x0 - (qand (qushr x0 (1)) (1431655765 : Nat))) (2)) (858993459 : Nat))))]) (by decide +kernel) rfl).trans ?_
  refine (zr_iload_n (n := 0) (x := zi ((qand (x0 - (qand (qushr x0 (1)) (1431655765 : Nat))) (858993459 : Nat)) + (qand (qushr (x0 - (qand (qushr x0 (1)) (1431655765 : Nat))) (2)) (858993459 : Nat)))) (by decide +kernel) rfl).trans ?_
  refine (zr_iload_n (n := 0) (x := zi ((qand (x0 - (qand (qushr x0 (1)) (1431655765 : Nat))) (858993459 : Nat)) + (qand (qushr (x0 - (qand (qushr x0 (1)) (1431655765 : Nat))) (2)) (858993459 : Nat)))) (by decide +kernel) rfl).trans ?_
  refine (zr_iconst (n := 4) (by decide +kernel)).trans ?_
  refine (zr_iushr (a := ((qand (x0 - (qand (qushr x0 (1)) (1431655765 : Nat))) (858993459 : Nat)) + (qand (qushr (x0 - (qand (qushr x0 (1)) (1431655765 : Nat))) (2)) (858993459 : Nat)))) (b := (4)) (by decide +kernel)).trans ?_
  refine (zr_iadd (a := ((qand (x0 - (qand (qushr x0 (1)) (1431655765 : Nat))) (858993459 : Nat)) + (qand (qushr (x0 - (qand (qushr x0 (1)) (1431655765 : Nat))) (2)) (858993459 : Nat)))) (b := (qushr ((qand (x0 - (qand (qushr x0 (1)) (1431655765 : Nat))) (858993459 : Nat)) + (qand (qushr (x0 - (qand (qushr x0 (1)) (1431655765 : Nat))) (2)) (858993459 : Nat))) (4))) (by decide +kernel)).trans ?_
  refine (zr_ldcwI (i := 267) (v := 252645135) (w := 0) (by decide +kernel) (by decide +kernel)).trans ?_
  refine (zr_iand (a := (((qand (x0 - (qand (qushr x0 (1)) (1431655765 : Nat))) (858993459 : Nat)) + (qand (qushr (x0 - (qand (qushr x0 (1)) (1431655765 : Nat))) (2)) (858993459 : Nat))) + (qushr ((qand (x0 - (qand (qushr x0 (1)) (1431655765 : Nat))) (858993459 : Nat)) + (qand (qushr (x0 - (qand (qushr x0 (1)) (1431655765 : Nat))) (2)) (858993459 : Nat))) (4)))) (b := (252645135 : Nat)) (by decide +kernel)).trans ?_
  refine (zr_istore_n (n := 0) (l1 := [.int (zi (qand (((qand (x0 - (qand (qushr x0 (1)) (1431655765 : Nat))) (858993459 : Nat)) + (qand (qushr (x0 - (qand (qushr x0 (1)) (1431655765 : Nat))) (2)) (858993459 : Nat))) + (qushr ((qand (x0 - (qand (qushr x0 (1)) (1431655765 : Nat))) (858993459 : Nat)) + (qand (qushr (x0 - (qand (qushr x0 (1)) (1431655765 : Nat))) (2)) (858993459 : Nat))) (4))) (252645135 : Nat)))]) (by decide +kernel) rfl).trans ?_
  refine (zr_iload_n (n := 0) (x := zi (qand (((qand (x0 - (qand (qushr x0 (1)) (1431655765 : Nat))) (858993459 : Nat)) + (qand (qushr (x0 - (qand (qushr x0 (1)) (1431655765 : Nat))) (2)) (858993459 : Nat))) + (qushr ((qand (x0 - (qand (qushr x0 (1)) (1431655765 : Nat))) (858993459 : Nat)) + (qand (qushr (x0 - (qand (qushr x0 (1)) (1431655765 : Nat))) (2)) (858993459 : Nat))) (4))) (252645135 : Nat))) (by decide +kernel) rfl).trans ?_
  refine (zr_iload_n (n := 0) (x := zi (qand (((qand (x0 - (qand (qushr x0 (1)) (1431655765 : Nat))) (858993459 : Nat)) + (qand (qushr (x0 - (qand (qushr x0 (1)) (1431655765 : Nat))) (2)) (858993459 : Nat))) + (qushr ((qand (x0 - (qand (qushr x0 (1)) (1431655765 : Nat))) (858993459 : Nat)) + (qand (qushr (x0 - (qand (qushr x0 (1)) (1431655765 : Nat))) (2)) (858993459 : Nat))) (4))) (252645135 : Nat))) (by decide +kernel) rfl).trans ?_
  refine (zr_bipush (n := 8) (by decide +kernel) rfl).trans ?_
  refine (zr_iushr (a := (qand (((qand (x0 - (qand (qushr x0 (1)) (1431655765 : Nat))) (858993459 : Nat)) + (qand (qushr (x0 - (qand (qushr x0 (1)) (1431655765 : Nat))) (2)) (858993459 : Nat))) + (qushr ((qand (x0 - (qand (qushr x0 (1)) (1431655765 : Nat))) (858993459 : Nat)) + (qand (qushr (x0 - (qand (qushr x0 (1)) (1431655765 : Nat))) (2)) (858993459 : Nat))) (4))) (252645135 : Nat))) (b := (8)) (by decide +kernel)).trans ?_
  refine (zr_iadd (a := (qand (((qand (x0 - (qand (qushr x0 (1)) (1431655765 : Nat))) (858993459 : Nat)) + (qand (qushr (x0 - (qand (qushr x0 (1)) (1431655765 : Nat))) (2)) (858993459 : Nat))) + (qushr ((qand (x0 - (qand (qushr x0 (1)) (1431655765 : Nat))) (858993459 : Nat)) + (qand (qushr (x0 - (qand (qushr x0 (1)) (1431655765 : Nat))) (2)) (858993459 : Nat))) (4))) (252645135 : Nat))) (b := (qushr (qand (((qand (x0 - (qand (qushr x0 (1)) (1431655765 : Nat))) (858993459 : Nat)) + (qand (qushr (x0 - (qand (qushr x0 (1)) (1431655765 : Nat))) (2)) (858993459 : Nat))) + (qushr ((qand (x0 - (qand (qushr x0 (1)) (1431655765 : Nat))) (858993459 : Nat)) + (qand (qushr (x0 - (qand (qushr x0 (1)) (1431655765 : Nat))) (2)) (858993459 : Nat))) (4))) (252645135 : Nat)) (8))) (by decide +kernel)).trans ?_
  refine (zr_istore_n (n := 0) (l1 := [.int (zi ((qand (((qand (x0 - (qand (qushr x0 (1)) (1431655765 : Nat))) (858993459 : Nat)) + (qand (qushr (x0 - (qand (qushr x0 (1)) (1431655765 : Nat))) (2)) (858993459 : Nat))) + (qushr ((qand (x0 - (qand (qushr x0 (1)) (1431655765 : Nat))) (858993459 : Nat)) + (qand (qushr (x0 - (qand (qushr x0 (1)) (1431655765 : Nat))) (2)) (858993459 : Nat))) (4))) (252645135 : Nat)) + (qushr (qand (((qand (x0 - (qand (qushr x0 (1)) (1431655765 : Nat))) (858993459 : Nat)) + (qand (qushr (x0 - (qand (qushr x0 (1)) (1431655765 : Nat))) (2)) (858993459 : Nat))) + (qushr ((qand (x0 - (qand (qushr x0 (1)) (1431655765 : Nat))) (858993459 : Nat)) + (qand (qushr (x0 - (qand (qushr x0 (1)) (1431655765 : Nat))) (2)) (858993459 : Nat))) (4))) (252645135 : Nat)) (8))))]) (by decide +kernel) rfl).trans ?_
  refine (zr_iload_n (n := 0) (x := zi ((qand (((qand (x0 - (qand (qushr x0 (1)) (1431655765 : Nat))) (858993459 : Nat)) + (qand (qushr (x0 - (qand (qushr x0 (1)) (1431655765 : Nat))) (2)) (858993459 : Nat))) + (qushr ((qand (x0 - (qand (qushr x0 (1)) (1431655765 : Nat))) (858993459 : Nat)) + (qand (qushr (x0 - (qand (qushr x0 (1)) (1431655765 : Nat))) (2)) (858993459 : Nat))) (4))) (252645135 : Nat)) + (qushr (qand (((qand (x0 - (qand (qushr x0 (1)) (1431655765 : Nat))) (858993459 : Nat)) + (qand (qushr (x0 - (qand (qushr x0 (1)) (1431655765 : Nat))) (2)) (858993459 : Nat))) + (qushr ((qand (x0 - (qand (qushr x0 (1)) (1431655765 : Nat))) (858993459 : Nat)) + (qand (qushr (x0 - (qand (qushr x0 (1)) (1431655765 : Nat))) (2)) (858993459 : Nat))) (4))) (252645135 : Nat)) (8)))) (by decide +kernel) rfl).trans ?_
  refine (zr_iload_n (n := 0) (x := zi ((qand (((qand (x0 - (qand (qushr x0 (1)) (1431655765 : Nat))) (858993459 : Nat)) + (qand (qushr (x0 - (qand (qushr x0 (1)) (1431655765 : Nat))) (2)) (858993459 : Nat))) + (qushr ((qand (x0 - (qand (qushr x0 (1)) (1431655765 : Nat))) (858993459 : Nat)) + (qand (qushr (x0 - (qand (qushr x0 (1)) (1431655765 : Nat))) (2)) (858993459 : Nat))) (4))) (252645135 : Nat)) + (qushr (qand (((qand (x0 - (qand (qushr x0 (1)) (1431655765 : Nat))) (858993459 : Nat)) + (qand (qushr (x0 - (qand (qushr x0 (1)) (1431655765 : Nat))) (2)) (858993459 : Nat))) + (qushr ((qand (x0 - (qand (qushr x0 (1)) (1431655765 : Nat))) (858993459 : Nat)) + (qand (qushr (x0 - (qand (qushr x0 (1)) (1431655765 : Nat))) (2)) (858993459 : Nat))) (4))) (252645135 : Nat)) (8)))) (by decide +kernel) rfl).trans ?_
  refine (zr_bipush (n := 16) (by decide +kernel) rfl).trans ?_
  refine (zr_iushr (a := ((qand (((qand (x0 - (qand (qushr x0 (1)) (1431655765 : Nat))) (858993459 : Nat)) + (qand (qushr (x0 - (qand (qushr x0 (1)) (1431655765 : Nat))) (2)) (858993459 : Nat))) + (qushr ((qand (x0 - (qand (qushr x0 (1)) (1431655765 : Nat))) (858993459 : Nat)) + (qand (qushr (x0 - (qand (qushr x0 (1)) (1431655765 : Nat))) (2)) (858993459 : Nat))) (4))) (252645135 : Nat)) + (qushr (qand (((qand (x0 - (qand (qushr x0 (1)) (1431655765 : Nat))) (858993459 : Nat)) + (qand (qushr (x0 - (qand (qushr x0 (1)) (1431655765 : Nat))) (2)) (858993459 : Nat))) + (qushr ((qand (x0 - (qand (qushr x0 (1)) (1431655765 : Nat))) (858993459 : Nat)) + (qand (qushr (x0 - (qand (qushr x0 (1)) (1431655765 : Nat))) (2)) (858993459 : Nat))) (4))) (252645135 : Nat)) (8)))) (b := (16)) (by decide +kernel)).trans ?_
  refine (zr_iadd (a := ((qand (((qand (x0 - (qand (qushr x0 (1)) (1431655765 : Nat))) (858993459 : Nat)) + (qand (qushr (x0 - (qand (qushr x0 (1)) (1431655765 : Nat))) (2)) (858993459 : Nat))) + (qushr ((qand (x0 - (qand (qushr x0 (1)) (1431655765 : Nat))) (858993459 : Nat)) + (qand (qushr (x0 - (qand (qushr x0 (1)) (1431655765 : Nat))) (2)) (858993459 : Nat))) (4))) (252645135 : Nat)) + (qushr (qand (((qand (x0 - (qand (qushr x0 (1)) (1431655765 : Nat))) (858993459 : Nat)) + (qand (qushr (x0 - (qand (qushr x0 (1)) (1431655765 : Nat))) (2)) (858993459 : Nat))) + (qushr ((qand (x0 - (qand (qushr x0 (1)) (1431655765 : Nat))) (858993459 : Nat)) + (qand (qushr (x0 - (qand (qushr x0 (1)) (1431655765 : Nat))) (2)) (858993459 : Nat))) (4))) (252645135 : Nat)) (8)))) (b := (qushr ((qand (((qand (x0 - (qand (qushr x0 (1)) (1431655765 : Nat))) (858993459 : Nat)) + (qand (qushr (x0 - (qand (qushr x0 (1)) (1431655765 : Nat))) (2)) (858993459 : Nat))) + (qushr ((qand (x0 - (qand (qushr x0 (1)) (1431655765 : Nat))) (858993459 : Nat)) + (qand (qushr (x0 - (qand (qushr x0 (1)) (1431655765 : Nat))) (2)) (858993459 : Nat))) (4))) (252645135 : Nat)) + (qushr (qand (((qand (x0 - (qand (qushr x0 (1)) (1431655765 : Nat))) (858993459 : Nat)) + (qand (qushr (x0 - (qand (qushr x0 (1)) (1431655765 : Nat))) (2)) (858993459 : Nat))) + (qushr ((qand (x0 - (qand (qushr x0 (1)) (1431655765 : Nat))) (858993459 : Nat)) + (qand (qushr (x0 - (qand (qushr x0 (1)) (1431655765 : Nat))) (2)) (858993459 : Nat))) (4))) (252645135 : Nat)) (8))) (16))) (by decide +kernel)).trans ?_
  refine (zr_istore_n (n := 0) (l1 := [.int (zi (((qand (((qand (x0 - (qand (qushr x0 (1)) (1431655765 : Nat))) (858993459 : Nat)) + (qand (qushr (x0 - (qand (qushr x0 (1)) (1431655765 : Nat))) (2)) (858993459 : Nat))) + (qushr ((qand (x0 - (qand (qushr x0 (1)) (1431655765 : Nat))) (858993459 : Nat)) + (qand (qushr (x0 - (qand (qushr x0 (1)) (1431655765 : Nat))) (2)) (858993459 : Nat))) (4))) (252645135 : Nat)) + (qushr (qand (((qand (x0 - (qand (qushr x0 (1)) (1431655765 : Nat))) (858993459 : Nat)) + (qand (qushr (x0 - (qand (qushr x0 (1)) (1431655765 : Nat))) (2)) (858993459 : Nat))) + (qushr ((qand (x0 - (qand (qushr x0 (1)) (1431655765 : Nat))) (858993459 : Nat)) + (qand (qushr (x0 - (qand (qushr x0 (1)) (1431655765 : Nat))) (2)) (858993459 : Nat))) (4))) (252645135 : Nat)) (8))) + (qushr ((qand (((qand (x0 - (qand (qushr x0 (1)) (1431655765 : Nat))) (858993459 : Nat)) + (qand (qushr (x0 - (qand (qushr x0 (1)) (1431655765 : Nat))) (2)) (858993459 : Nat))) + (qushr ((qand (x0 - (qand (qushr x0 (1)) (1431655765 : Nat))) (858993459 : Nat)) + (qand (qushr (x0 - (qand (qushr x0 (1)) (1431655765 : Nat))) (2)) (858993459 : Nat))) (4))) (252645135 : Nat)) + (qushr (qand (((qand (x0 - (qand (qushr x0 (1)) (1431655765 : Nat))) (858993459 : Nat)) + (qand (qushr (x0 - (qand (qushr x0 (1)) (1431655765 : Nat))) (2)) (858993459 : Nat))) + (qushr ((qand (x0 - (qand (qushr x0 (1)) (1431655765 : Nat))) (858993459 : Nat)) + (qand (qushr (x0 - (qand (qushr x0 (1)) (1431655765 : Nat))) (2)) (858993459 : Nat))) (4))) (252645135 : Nat)) (8))) (16))))]) (by decide +kernel) rfl).trans ?_
  refine (zr_iload_n (n := 0) (x := zi (((qand (((qand (x0 - (qand (qushr x0 (1)) (1431655765 : Nat))) (858993459 : Nat)) + (qand (qushr (x0 - (qand (qushr x0 (1)) (1431655765 : Nat))) (2)) (858993459 : Nat))) + (qushr ((qand (x0 - (qand (qushr x0 (1)) (1431655765 : Nat))) (858993459 : Nat)) + (qand (qushr (x0 - (qand (qushr x0 (1)) (1431655765 : Nat))) (2)) (858993459 : Nat))) (4))) (252645135 : Nat)) + (qushr (qand (((qand (x0 - (qand (qushr x0 (1)) (1431655765 : Nat))) (858993459 : Nat)) + (qand (qushr (x0 - (qand (qushr x0 (1)) (1431655765 : Nat))) (2)) (858993459 : Nat))) + (qushr ((qand (x0 - (qand (qushr x0 (1)) (1431655765 : Nat))) (858993459 : Nat)) + (qand (qushr (x0 - (qand (qushr x0 (1)) (1431655765 : Nat))) (2)) (858993459 : Nat))) (4))) (252645135 : Nat)) (8))) + (qushr ((qand (((qand (x0 - (qand (qushr x0 (1)) (1431655765 : Nat))) (858993459 : Nat)) + (qand (qushr (x0 - (qand (qushr x0 (1)) (1431655765 : Nat))) (2)) (858993459 : Nat))) + (qushr ((qand (x0 - (qand (qushr x0 (1)) (1431655765 : Nat))) (858993459 : Nat)) + (qand (qushr (x0 - (qand (qushr x0 (1)) (1431655765 : Nat))) (2)) (858993459 : Nat))) (4))) (252645135 : Nat)) + (qushr (qand (((qand (x0 - (qand (qushr x0 (1)) (1431655765 : Nat))) (858993459 : Nat)) + (qand (qushr (x0 - (qand (qushr x0 (1)) (1431655765 : Nat))) (2)) (858993459 : Nat))) + (qushr ((qand (x0 - (qand (qushr x0 (1)) (1431655765 : Nat))) (858993459 : Nat)) + (qand (qushr (x0 - (qand (qushr x0 (1)) (1431655765 : Nat))) (2)) (858993459 : Nat))) (4))) (252645135 : Nat)) (8))) (16)))) (by decide +kernel) rfl).trans ?_
  refine (zr_bipush (n := 63) (by decide +kernel) rfl).trans ?_
  refine (zr_iand (a := (((qand (((qand (x0 - (qand (qushr x0 (1)) (1431655765 : Nat))) (858993459 : Nat)) + (qand (qushr (x0 - (qand (qushr x0 (1)) (1431655765 : Nat))) (2)) (858993459 : Nat))) + (qushr ((qand (x0 - (qand (qushr x0 (1)) (1431655765 : Nat))) (858993459 : Nat)) + (qand (qushr (x0 - (qand (qushr x0 (1)) (1431655765 : Nat))) (2)) (858993459 : Nat))) (4))) (252645135 : Nat)) + (qushr (qand (((qand (x0 - (qand (qushr x0 (1)) (1431655765 : Nat))) (858993459 : Nat)) + (qand (qushr (x0 - (qand (qushr x0 (1)) (1431655765 : Nat))) (2)) (858993459 : Nat))) + (qushr ((qand (x0 - (qand (qushr x0 (1)) (1431655765 : Nat))) (858993459 : Nat)) + (qand (qushr (x0 - (qand (qushr x0 (1)) (1431655765 : Nat))) (2)) (858993459 : Nat))) (4))) (252645135 : Nat)) (8))) + (qushr ((qand (((qand (x0 - (qand (qushr x0 (1)) (1431655765 : Nat))) (858993459 : Nat)) + (qand (qushr (x0 - (qand (qushr x0 (1)) (1431655765 : Nat))) (2)) (858993459 : Nat))) + (qushr ((qand (x0 - (qand (qushr x0 (1)) (1431655765 : Nat))) (858993459 : Nat)) + (qand (qushr (x0 - (qand (qushr x0 (1)) (1431655765 : Nat))) (2)) (858993459 : Nat))) (4))) (252645135 : Nat)) + (qushr (qand (((qand (x0 - (qand (qushr x0 (1)) (1431655765 : Nat))) (858993459 : Nat)) + (qand (qushr (x0 - (qand (qushr x0 (1)) (1431655765 : Nat))) (2)) (858993459 : Nat))) + (qushr ((qand (x0 - (qand (qushr x0 (1)) (1431655765 : Nat))) (858993459 : Nat)) + (qand (qushr (x0 - (qand (qushr x0 (1)) (1431655765 : Nat))) (2)) (858993459 : Nat))) (4))) (252645135 : Nat)) (8))) (16)))) (b := (63)) (by decide +kernel)).trans ?_
  exact zr_iret (a := (qand (((qand (((qand (x0 - (qand (qushr x0 (1)) (1431655765 : Nat))) (858993459 : Nat)) + (qand (qushr (x0 - (qand (qushr x0 (1)) (1431655765 : Nat))) (2)) (858993459 : Nat))) + (qushr ((qand (x0 - (qand (qushr x0 (1)) (1431655765 : Nat))) (858993459 : Nat)) + (qand (qushr (x0 - (qand (qushr x0 (1)) (1431655765 : Nat))) (2)) (858993459 : Nat))) (4))) (252645135 : Nat)) + (qushr (qand (((qand (x0 - (qand (qushr x0 (1)) (1431655765 : Nat))) (858993459 : Nat)) + (qand (qushr (x0 - (qand (qushr x0 (1)) (1431655765 : Nat))) (2)) (858993459 : Nat))) + (qushr ((qand (x0 - (qand (qushr x0 (1)) (1431655765 : Nat))) (858993459 : Nat)) + (qand (qushr (x0 - (qand (qushr x0 (1)) (1431655765 : Nat))) (2)) (858993459 : Nat))) (4))) (252645135 : Nat)) (8))) + (qushr ((qand (((qand (x0 - (qand (qushr x0 (1)) (1431655765 : Nat))) (858993459 : Nat)) + (qand (qushr (x0 - (qand (qushr x0 (1)) (1431655765 : Nat))) (2)) (858993459 : Nat))) + (qushr ((qand (x0 - (qand (qushr x0 (1)) (1431655765 : Nat))) (858993459 : Nat)) + (qand (qushr (x0 - (qand (qushr x0 (1)) (1431655765 : Nat))) (2)) (858993459 : Nat))) (4))) (252645135 : Nat)) + (qushr (qand (((qand (x0 - (qand (qushr x0 (1)) (1431655765 : Nat))) (858993459 : Nat)) + (qand (qushr (x0 - (qand (qushr x0 (1)) (1431655765 : Nat))) (2)) (858993459 : Nat))) + (qushr ((qand (x0 - (qand (qushr x0 (1)) (1431655765 : Nat))) (858993459 : Nat)) + (qand (qushr (x0 - (qand (qushr x0 (1)) (1431655765 : Nat))) (2)) (858993459 : Nat))) (4))) (252645135 : Nat)) (8))) (16))) (63))) (by decide +kernel) rfl
/-! java/util/Arrays fill ([II)V -/
theorem ze_236_0 {V : zVt} {J : zJt} {d : Nat → Nat → UInt64} (x1 : Int) : zGo false 236 0 [.ref 23, .int (zi x1), .null, .null] [] (zm V J d) =
    zGo false 236 5 [.ref 23, .int (zi x1), .int (zi (0)), .int (zi (50 : Nat))] [] (zm V J d) := by
  refine (zr_iconst (n := 0) (by decide +kernel)).trans ?_
  refine (zr_istore_n (n := 2) (l1 := [.ref 23, .int (zi x1), .int (zi (0)), .null]) (by decide +kernel) rfl).trans ?_
  refine (zr_aload_n (n := 0) (x := 23) (by decide +kernel) rfl).trans ?_
  refine (zr_alen (by decide +kernel) rfl (by decide)).trans ?_
  refine (zr_istore_n (n := 3) (l1 := [.ref 23, .int (zi x1), .int (zi (0)), .int (zi (50 : Nat))]) (by decide +kernel) rfl).trans ?_
  rfl
theorem ze_236_5 {V : zVt} {J : zJt} {d : Nat → Nat → UInt64} (x1 : Int) (x2 : Int) (x3 : Int) : zGo false 236 5 [.ref 23, .int (zi x1), .int (zi x2), .int (zi x3)] [] (zm V J d) =
    (if qw x3 ≤ qw x2 then some (.inl none, zm V J d) else zck (0 ≤ qw x2 ∧ qw x2 < (50 : Nat)) (zGo false 236 5 [.ref 23, .int (zi x1), .int (zi (x2 + 1)), .int (zi x3)] [] (zm (vup V 23 (qw x2) x1) J d))) := by
  refine (zr_iload_n (n := 2) (x := zi x2) (by decide +kernel) rfl).trans ?_
  refine (zr_iload_n (n := 3) (x := zi x3) (by decide +kernel) rfl).trans ?_
  refine (zr_cge (off := 13) (a := x2) (b := x3) (t := 20) (by decide +kernel) rfl).trans (zif_ct (fun _ => ?_) (fun _ => ?_))
  · exact zr_vret (by decide +kernel) rfl
  · refine (zr_aload_n (n := 0) (x := 23) (by decide +kernel) rfl).trans ?_
    refine (zr_iload_n (n := 2) (x := zi x2) (by decide +kernel) rfl).trans ?_
    refine (zr_iload_n (n := 1) (x := zi x1) (by decide +kernel) rfl).trans ?_
    refine (zr_iast (n := 50) (e := x2) (x := x1) (by decide +kernel) rfl).trans (zck_ct fun _ => ?_)
    refine (zr_iinc (n := 2) (k := 1) (x := x2) (l1 := [.ref 23, .int (zi x1), .int (zi (x2 + 1)), .int (zi x3)]) (by decide +kernel) rfl rfl).trans ?_
    refine (zr_goto (off := -12) (t := 5) (by decide +kernel) rfl).trans ?_
    rfl
