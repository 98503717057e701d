/-! part 27: methods as equations; printed by program (wip/whole/gen/gen_tree.py, gen_trees_all.py) -/
/-! PartSongDeskModel music (III)I -/
theorem ze_153_0 {V : zVt} {J : zJt} {d : Nat → Nat → UInt64} (x1 : Int) (x2 : Int) (x3 : Int) : zGo false 153 0 [.ref 430, .int (zi x1), .int (zi x2), .int (zi x3)] [] (zm V J d) =
    (zGo false 154 0 [.ref 430, .int (zi x2), .null, .null] [] (zm V J d)).bind (zGor false 153 5 [.ref 430, .int (zi x1), .int (zi x2), .int (zi x3)] []) := by
  refine (zr_aload_n (n := 0) (x := 430) (by decide +kernel) rfl).trans ?_
  refine (zr_iload_n (n := 2) (x := zi x2) (by decide +kernel) rfl).trans ?_
  exact zr_cV (i := 263) (z := 154) (w := 0) (o := 430) (t := [.int (zi x2)]) (rest := []) (L := [.ref 430, .int (zi x2), .null, .null]) (pc1 := 5) (by decide +kernel) (by decide +kernel) rfl (n := 1) (r := 0) rfl rfl rfl (by decide +kernel) rfl rfl
theorem ze_153_5 {V : zVt} {J : zJt} {d : Nat → Nat → UInt64} (x1 : Int) (x2 : Int) (x3 : Int) : zGo false 153 5 [.ref 430, .int (zi x1), .int (zi x2), .int (zi x3)] [] (zm V J d) =
    (zGo false 163 0 [.ref 430, .null] [] (zm V J d)).bind (zGor false 153 9 [.ref 430, .int (zi x1), .int (zi x2), .int (zi x3)] []) := by
  refine (zr_aload_n (n := 0) (x := 430) (by decide +kernel) rfl).trans ?_
  exact zr_cV (i := 266) (z := 163) (w := 0) (o := 430) (t := []) (rest := []) (L := [.ref 430, .null]) (pc1 := 9) (by decide +kernel) (by decide +kernel) rfl (n := 0) (r := 0) rfl rfl rfl (by decide +kernel) rfl rfl
theorem ze_153_9 {V : zVt} {J : zJt} {d : Nat → Nat → UInt64} (x1 : Int) (x2 : Int) (x3 : Int) : zGo false 153 9 [.ref 430, .int (zi x1), .int (zi x2), .int (zi x3)] [] (zm V J d) =
    (if qw (V 430 13) ≠ 0 then zGo false 153 26 [.ref 430, .int (zi x1), .int (zi x2), .int (zi x3)] [] (zm V J d) else (zGo false 166 0 [.ref 430, .int (zi x3), .null, .null, .null, .null, .null, .null, .null] [] (zm V J d)).bind (zGor false 153 21 [.ref 430, .int (zi x1), .int (zi x2), .int (zi x3)] [])) := by
  refine (zr_aload_n (n := 0) (x := 430) (by decide +kernel) rfl).trans ?_
  refine (zr_getI (i := 191) (c := 12) (k := 13) (by decide +kernel) (by decide +kernel) rfl (by decide +kernel)).trans ?_
  refine (zr_ifne (off := 13) (a := (V 430 13)) (t := 26) (by decide +kernel) rfl).trans (zif_ct (fun _ => ?_) (fun _ => ?_))
  · rfl
  · refine (zr_aload_n (n := 0) (x := 430) (by decide +kernel) rfl).trans ?_
    refine (zr_iload_n (n := 3) (x := zi x3) (by decide +kernel) rfl).trans ?_
    exact zr_cV (i := 269) (z := 166) (w := 0) (o := 430) (t := [.int (zi x3)]) (rest := []) (L := [.ref 430, .int (zi x3), .null, .null, .null, .null, .null, .null, .null]) (pc1 := 21) (by decide +kernel) (by decide +kernel) rfl (n := 1) (r := 0) rfl rfl rfl (by decide +kernel) rfl rfl
theorem ze_153_21 {V : zVt} {J : zJt} {d : Nat → Nat → UInt64} (x1 : Int) (x2 : Int) (x3 : Int) : zGo false 153 21 [.ref 430, .int (zi x1), .int (zi x2), .int (zi x3)] [] (zm V J d) =
    (zGo false 167 0 [.ref 430, .int (zi x1), .null] [] (zm V J d)).bind (zGor false 153 26 [.ref 430, .int (zi x1), .int (zi x2), .int (zi x3)] []) := by
  refine (zr_aload_n (n := 0) (x := 430) (by decide +kernel) rfl).trans ?_
  refine (zr_iload_n (n := 1) (x := zi x1) (by decide +kernel) rfl).trans ?_
  exact zr_cV (i := 272) (z := 167) (w := 0) (o := 430) (t := [.int (zi x1)]) (rest := []) (L := [.ref 430, .int (zi x1), .null]) (pc1 := 26) (by decide +kernel) (by decide +kernel) rfl (n := 1) (r := 0) rfl rfl rfl (by decide +kernel) rfl rfl
theorem ze_153_26 {V : zVt} {J : zJt} {d : Nat → Nat → UInt64} (x1 : Int) (x2 : Int) (x3 : Int) : zGo false 153 26 [.ref 430, .int (zi x1), .int (zi x2), .int (zi x3)] [] (zm V J d) =
    zck (0 ≤ qw x1 ∧ qw x1 < (5 : Nat)) ((if qw ((vup V 448 (qw x1) (V 430 13)) 430 13) ≠ 0 then zGo false 153 56 [.ref 430, .int (zi x1), .int (zi x2), .int (zi x3)] [.int (zi (0)), .int (zi x1), .ref 449] (zm (vup V 448 (qw x1) (V 430 13)) J d) else zGo false 153 56 [.ref 430, .int (zi x1), .int (zi x2), .int (zi x3)] [.int (zi ((vup V 448 (qw x1) (V 430 13)) 430 25)), .int (zi x1), .ref 449] (zm (vup V 448 (qw x1) (V 430 13)) J d))) := by
  refine (zr_aload_n (n := 0) (x := 430) (by decide +kernel) rfl).trans ?_
  refine (zr_getR (i := 62) (c := 12) (k := 29) (r := 448) (by decide +kernel) (by decide +kernel) rfl (by decide +kernel) (zR0_f (o := 430) (c := 12) (n := 0) (k := 29) (j := 18) rfl (by decide) rfl)).trans ?_
  refine (zr_iload_n (n := 1) (x := zi x1) (by decide +kernel) rfl).trans ?_
  refine (zr_aload_n (n := 0) (x := 430) (by decide +kernel) rfl).trans ?_
  refine (zr_getI (i := 191) (c := 12) (k := 13) (by decide +kernel) (by decide +kernel) rfl (by decide +kernel)).trans ?_
  refine (zr_iast (n := 5) (e := x1) (x := (V 430 13)) (by decide +kernel) rfl).trans (zck_ct fun _ => ?_)
  refine (zr_aload_n (n := 0) (x := 430) (by decide +kernel) rfl).trans ?_
  refine (zr_getR (i := 65) (c := 12) (k := 30) (r := 449) (by decide +kernel) (by decide +kernel) rfl (by decide +kernel) (zR0_f (o := 430) (c := 12) (n := 0) (k := 30) (j := 19) rfl (by decide) rfl)).trans ?_
  refine (zr_iload_n (n := 1) (x := zi x1) (by decide +kernel) rfl).trans ?_
  refine (zr_aload_n (n := 0) (x := 430) (by decide +kernel) rfl).trans ?_
  refine (zr_getI (i := 191) (c := 12) (k := 13) (by decide +kernel) (by decide +kernel) rfl (by decide +kernel)).trans ?_
  refine (zr_ifne (off := 10) (a := ((vup V 448 (qw x1) (V 430 13)) 430 13)) (t := 55) (by decide +kernel) rfl).trans (zif_ct (fun _ => ?_) (fun _ => ?_))
  · refine (zr_iconst (n := 0) (by decide +kernel)).trans ?_
    rfl
  · refine (zr_aload_n (n := 0) (x := 430) (by decide +kernel) rfl).trans ?_
    refine (zr_getI (i := 214) (c := 12) (k := 25) (by decide +kernel) (by decide +kernel) rfl (by decide +kernel)).trans ?_
    refine (zr_goto (off := 4) (t := 56) (by decide +kernel) rfl).trans ?_
    rfl
theorem ze_153_56 {V : zVt} {J : zJt} {d : Nat → Nat → UInt64} (x1 : Int) (x2 : Int) (x3 : Int) (s1 : Int) (s2 : Int) : zGo false 153 56 [.ref 430, .int (zi x1), .int (zi x2), .int (zi x3)] [.int (zi s2), .int (zi s1), .ref 449] (zm V J d) =
    zck (0 ≤ qw s1 ∧ qw s1 < (5 : Nat)) (zck (0 ≤ qw x1 ∧ qw x1 < (5 : Nat)) (some (.inl (some (.int (zi ((vup (vup V 449 (qw s1) s2) 450 (qw x1) ((vup V 449 (qw s1) s2) 430 23)) 430 13)))), zm (vup (vup V 449 (qw s1) s2) 450 (qw x1) ((vup V 449 (qw s1) s2) 430 23)) J d))) := by
  refine (zr_iast (n := 5) (e := s1) (x := s2) (by decide +kernel) rfl).trans (zck_ct fun _ => ?_)
  refine (zr_aload_n (n := 0) (x := 430) (by decide +kernel) rfl).trans ?_
  refine (zr_getR (i := 68) (c := 12) (k := 31) (r := 450) (by decide +kernel) (by decide +kernel) rfl (by decide +kernel) (zR0_f (o := 430) (c := 12) (n := 0) (k := 31) (j := 20) rfl (by decide) rfl)).trans ?_
  refine (zr_iload_n (n := 1) (x := zi x1) (by decide +kernel) rfl).trans ?_
  refine (zr_aload_n (n := 0) (x := 430) (by decide +kernel) rfl).trans ?_
  refine (zr_getI (i := 208) (c := 12) (k := 23) (by decide +kernel) (by decide +kernel) rfl (by decide +kernel)).trans ?_
  refine (zr_iast (n := 5) (e := x1) (x := ((vup V 449 (qw s1) s2) 430 23)) (by decide +kernel) rfl).trans (zck_ct fun _ => ?_)
  refine (zr_aload_n (n := 0) (x := 430) (by decide +kernel) rfl).trans ?_
  refine (zr_getI (i := 191) (c := 12) (k := 13) (by decide +kernel) (by decide +kernel) rfl (by decide +kernel)).trans ?_
  exact zr_iret (a := ((vup (vup V 449 (qw s1) s2) 450 (qw x1) ((vup V 449 (qw s1) s2) 430 23)) 430 13)) (by decide +kernel) rfl
/-! PartSongDeskModel lex (I)V -/
theorem ze_154_0 {V : zVt} {J : zJt} {d : Nat → Nat → UInt64} (x1 : Int) : zGo false 154 0 [.ref 430, .int (zi x1), .null, .null] [] (zm V J d) =
    zGo false 154 12 [.ref 430, .int (zi x1), .int (zi (0)), .null] [] (zm (vup (vup V 430 10 (0)) 430 11 (-1)) J d) := by
  refine (zr_aload_n (n := 0) (x := 430) (by decide +kernel) rfl).trans ?_
  refine (zr_iconst (n := 0) (by decide +kernel)).trans ?_
  refine (zr_putI (i := 149) (c := 12) (k := 10) (x := (0)) (by decide +kernel) (by decide +kernel) rfl (by decide +kernel)).trans ?_
  refine (zr_aload_n (n := 0) (x := 430) (by decide +kernel) rfl).trans ?_
  refine (zr_iconst (n := -1) (by decide +kernel)).trans ?_
  refine (zr_putI (i := 182) (c := 12) (k := 11) (x := (-1)) (by decide +kernel) (by decide +kernel) rfl (by decide +kernel)).trans ?_
  refine (zr_iconst (n := 0) (by decide +kernel)).trans ?_
  refine (zr_istore_n (n := 2) (l1 := [.ref 430, .int (zi x1), .int (zi (0)), .null]) (by decide +kernel) rfl).trans ?_
  rfl
theorem ze_154_12 {V : zVt} {J : zJt} {d : Nat → Nat → UInt64} (x1 : Int) (x2 : Int) (x3 : Value) : zGo false 154 12 [.ref 430, .int (zi x1), .int (zi x2), x3] [] (zm V J d) =
    zck (0 ≤ qw x1 ∧ qw x1 < (12 : Nat)) ((if qw (V 432 (qw x1)) ≤ qw x2 then zGo false 154 128 [.ref 430, .int (zi x1), .int (zi x2), x3] [] (zm V J d) else (if qw (V 430 11) ≠ qw (-1) then zGo false 154 128 [.ref 430, .int (zi x1), .int (zi x2), x3] [] (zm V J d) else (zGo false 155 0 [.ref 430, .int (zi x1), .int (zi x2)] [] (zm V J d)).bind (zGor false 154 36 [.ref 430, .int (zi x1), .int (zi x2), x3] [])))) := by
  refine (zr_iload_n (n := 2) (x := zi x2) (by decide +kernel) rfl).trans ?_
  refine (zr_aload_n (n := 0) (x := 430) (by decide +kernel) rfl).trans ?_
  refine (zr_getR (i := 13) (c := 12) (k := 1) (r := 432) (by decide +kernel) (by decide +kernel) rfl (by decide +kernel) (zR0_f (o := 430) (c := 12) (n := 0) (k := 1) (j := 2) rfl (by decide) rfl)).trans ?_
  refine (zr_iload_n (n := 1) (x := zi x1) (by decide +kernel) rfl).trans ?_
  refine (zr_iald (n := 12) (e := x1) (by decide +kernel) rfl).trans (zck_ct fun _ => ?_)
  refine (zr_cge (off := 109) (a := x2) (b := (V 432 (qw x1))) (t := 128) (by decide +kernel) rfl).trans (zif_ct (fun _ => ?_) (fun _ => ?_))
  · rfl
  · refine (zr_aload_n (n := 0) (x := 430) (by decide +kernel) rfl).trans ?_
    refine (zr_getI (i := 182) (c := 12) (k := 11) (by decide +kernel) (by decide +kernel) rfl (by decide +kernel)).trans ?_
    refine (zr_iconst (n := -1) (by decide +kernel)).trans ?_
    refine (zr_cne (off := 101) (a := (V 430 11)) (b := (-1)) (t := 128) (by decide +kernel) rfl).trans (zif_ct (fun _ => ?_) (fun _ => ?_))
    · rfl
    · refine (zr_aload_n (n := 0) (x := 430) (by decide +kernel) rfl).trans ?_
      refine (zr_iload_n (n := 1) (x := zi x1) (by decide +kernel) rfl).trans ?_
      refine (zr_iload_n (n := 2) (x := zi x2) (by decide +kernel) rfl).trans ?_
      exact zr_cV (i := 152) (z := 155) (w := 0) (o := 430) (t := [.int (zi x2), .int (zi x1)]) (rest := []) (L := [.ref 430, .int (zi x1), .int (zi x2)]) (pc1 := 36) (by decide +kernel) (by decide +kernel) rfl (n := 2) (r := 0) rfl rfl rfl (by decide +kernel) rfl rfl
theorem ze_154_36 {V : zVt} {J : zJt} {d : Nat → Nat → UInt64} (x1 : Int) (x2 : Int) (x3 : Value) (s0 : Int) : zGo false 154 36 [.ref 430, .int (zi x1), .int (zi x2), x3] [.int (zi s0)] (zm V J d) =
    (if qw s0 ≠ qw (32) then (if qw (V 430 10) ≠ qw (60) then zck (0 ≤ qw (V 430 10) ∧ qw (V 430 10) < (60 : Nat)) ((zGo false 156 0 [.ref 430, .int (zi x1), .int (zi x2), .null, .null] [] (zm (vup V 434 (qw (V 430 10)) x2) J d)).bind (zGor false 154 80 [.ref 430, .int (zi x1), .int (zi x2), x3] [])) else zGo false 154 12 [.ref 430, .int (zi x1), .int (zi x2), x3] [] (zm (vup V 430 11 x2) J d)) else zGo false 154 12 [.ref 430, .int (zi x1), .int (zi (x2 + 1)), x3] [] (zm V J d)) := by
  refine (zr_bipush (n := 32) (by decide +kernel) rfl).trans ?_
  refine (zr_cne (off := 9) (a := s0) (b := (32)) (t := 47) (by decide +kernel) rfl).trans (zif_ct (fun _ => ?_) (fun _ => ?_))
  · refine (zr_aload_n (n := 0) (x := 430) (by decide +kernel) rfl).trans ?_
    refine (zr_getI (i := 149) (c := 12) (k := 10) (by decide +kernel) (by decide +kernel) rfl (by decide +kernel)).trans ?_
    refine (zr_bipush (n := 60) (by decide +kernel) rfl).trans ?_
    refine (zr_cne (off := 11) (a := (V 430 10)) (b := (60)) (t := 64) (by decide +kernel) rfl).trans (zif_ct (fun _ => ?_) (fun _ => ?_))
    · refine (zr_aload_n (n := 0) (x := 430) (by decide +kernel) rfl).trans ?_
      refine (zr_getR (i := 19) (c := 12) (k := 3) (r := 434) (by decide +kernel) (by decide +kernel) rfl (by decide +kernel) (zR0_f (o := 430) (c := 12) (n := 0) (k := 3) (j := 4) rfl (by decide) rfl)).trans ?_
      refine (zr_aload_n (n := 0) (x := 430) (by decide +kernel) rfl).trans ?_
      refine (zr_getI (i := 149) (c := 12) (k := 10) (by decide +kernel) (by decide +kernel) rfl (by decide +kernel)).trans ?_
      refine (zr_iload_n (n := 2) (x := zi x2) (by decide +kernel) rfl).trans ?_
      refine (zr_iast (n := 60) (e := (V 430 10)) (x := x2) (by decide +kernel) rfl).trans (zck_ct fun _ => ?_)
      refine (zr_aload_n (n := 0) (x := 430) (by decide +kernel) rfl).trans ?_
      refine (zr_iload_n (n := 1) (x := zi x1) (by decide +kernel) rfl).trans ?_
      refine (zr_iload_n (n := 2) (x := zi x2) (by decide +kernel) rfl).trans ?_
      exact zr_cV (i := 185) (z := 156) (w := 0) (o := 430) (t := [.int (zi x2), .int (zi x1)]) (rest := []) (L := [.ref 430, .int (zi x1), .int (zi x2), .null, .null]) (pc1 := 80) (by decide +kernel) (by decide +kernel) rfl (n := 2) (r := 0) rfl rfl rfl (by decide +kernel) rfl rfl
    · refine (zr_aload_n (n := 0) (x := 430) (by decide +kernel) rfl).trans ?_
      refine (zr_iload_n (n := 2) (x := zi x2) (by decide +kernel) rfl).trans ?_
      refine (zr_putI (i := 182) (c := 12) (k := 11) (x := x2) (by decide +kernel) (by decide +kernel) rfl (by decide +kernel)).trans ?_
      refine (zr_goto (off := -49) (t := 12) (by decide +kernel) rfl).trans ?_
      rfl
  · refine (zr_iinc (n := 2) (k := 1) (x := x2) (l1 := [.ref 430, .int (zi x1), .int (zi (x2 + 1)), x3]) (by decide +kernel) rfl rfl).trans ?_
    refine (zr_goto (off := -32) (t := 12) (by decide +kernel) rfl).trans ?_
    rfl
theorem ze_154_80 {V : zVt} {J : zJt} {d : Nat → Nat → UInt64} (x1 : Int) (x2 : Int) (x3 : Value) (s0 : Int) : zGo false 154 80 [.ref 430, .int (zi x1), .int (zi x2), x3] [.int (zi s0)] (zm V J d) =
    (if qw s0 ≠ qw (-1) then zGo false 154 92 [.ref 430, .int (zi x1), .int (zi x2), .int (zi s0)] [.int (zi (-1)), .ref 430] (zm V J d) else zGo false 154 92 [.ref 430, .int (zi x1), .int (zi x2), .int (zi s0)] [.int (zi x2), .ref 430] (zm V J d)) := by
  refine (zr_istore_n (n := 3) (l1 := [.ref 430, .int (zi x1), .int (zi x2), .int (zi s0)]) (by decide +kernel) rfl).trans ?_
  refine (zr_aload_n (n := 0) (x := 430) (by decide +kernel) rfl).trans ?_
  refine (zr_iload_n (n := 3) (x := zi s0) (by decide +kernel) rfl).trans ?_
  refine (zr_iconst (n := -1) (by decide +kernel)).trans ?_
  refine (zr_cne (off := 7) (a := s0) (b := (-1)) (t := 91) (by decide +kernel) rfl).trans (zif_ct (fun _ => ?_) (fun _ => ?_))
  · refine (zr_iconst (n := -1) (by decide +kernel)).trans ?_
    rfl
  · refine (zr_iload_n (n := 2) (x := zi x2) (by decide +kernel) rfl).trans ?_
    refine (zr_goto (off := 4) (t := 92) (by decide +kernel) rfl).trans ?_
    rfl
theorem ze_154_92 {V : zVt} {J : zJt} {d : Nat → Nat → UInt64} (x1 : Int) (x2 : Int) (x3 : Int) (s1 : Int) : zGo false 154 92 [.ref 430, .int (zi x1), .int (zi x2), .int (zi x3)] [.int (zi s1), .ref 430] (zm V J d) =
    (if qw x3 ≠ qw (-1) then zGo false 154 110 [.ref 430, .int (zi x1), .int (zi x2), .int (zi x3)] [.int (zi (1)), .int (zi ((vup V 430 11 s1) 430 10)), .ref 430] (zm (vup V 430 11 s1) J d) else zGo false 154 110 [.ref 430, .int (zi x1), .int (zi x2), .int (zi x3)] [.int (zi (0)), .int (zi ((vup V 430 11 s1) 430 10)), .ref 430] (zm (vup V 430 11 s1) J d)) := by
  refine (zr_putI (i := 182) (c := 12) (k := 11) (x := s1) (by decide +kernel) (by decide +kernel) rfl (by decide +kernel)).trans ?_
  refine (zr_aload_n (n := 0) (x := 430) (by decide +kernel) rfl).trans ?_
  refine (zr_dup (by decide +kernel) rfl).trans ?_
  refine (zr_getI (i := 149) (c := 12) (k := 10) (by decide +kernel) (by decide +kernel) rfl (by decide +kernel)).trans ?_
  refine (zr_iload_n (n := 3) (x := zi x3) (by decide +kernel) rfl).trans ?_
  refine (zr_iconst (n := -1) (by decide +kernel)).trans ?_
  refine (zr_cne (off := 7) (a := x3) (b := (-1)) (t := 109) (by decide +kernel) rfl).trans (zif_ct (fun _ => ?_) (fun _ => ?_))
  · refine (zr_iconst (n := 1) (by decide +kernel)).trans ?_
    rfl
  · refine (zr_iconst (n := 0) (by decide +kernel)).trans ?_
    refine (zr_goto (off := 4) (t := 110) (by decide +kernel) rfl).trans ?_
    rfl
theorem ze_154_110 {V : zVt} {J : zJt} {d : Nat → Nat → UInt64} (x1 : Int) (x2 : Int) (x3 : Int) (s1 : Int) (s2 : Int) : zGo false 154 110 [.ref 430, .int (zi x1), .int (zi x2), .int (zi x3)] [.int (zi s2), .int (zi s1), .ref 430] (zm V J d) =
    (if qw x3 ≠ qw (-1) then zGo false 154 124 [.ref 430, .int (zi x1), .int (zi x2), .int (zi x3)] [.int (zi x3)] (zm (vup V 430 10 (s1 + s2)) J d) else zGo false 154 124 [.ref 430, .int (zi x1), .int (zi x2), .int (zi x3)] [.int (zi x2)] (zm (vup V 430 10 (s1 + s2)) J d)) := by
  refine (zr_iadd (a := s1) (b := s2) (by decide +kernel)).trans ?_
  refine (zr_putI (i := 149) (c := 12) (k := 10) (x := (s1 + s2)) (by decide +kernel) (by decide +kernel) rfl (by decide +kernel)).trans ?_
  refine (zr_iload_n (n := 3) (x := zi x3) (by decide +kernel) rfl).trans ?_
  refine (zr_iconst (n := -1) (by decide +kernel)).trans ?_
  refine (zr_cne (off := 7) (a := x3) (b := (-1)) (t := 123) (by decide +kernel) rfl).trans (zif_ct (fun _ => ?_) (fun _ => ?_))
  · refine (zr_iload_n (n := 3) (x := zi x3) (by decide +kernel) rfl).trans ?_
    rfl
  · refine (zr_iload_n (n := 2) (x := zi x2) (by decide +kernel) rfl).trans ?_
    refine (zr_goto (off := 4) (t := 124) (by decide +kernel) rfl).trans ?_
    rfl
theorem ze_154_124 {V : zVt} {J : zJt} {d : Nat → Nat → UInt64} (x1 : Int) (x2 : Int) (x3 : Int) (s0 : Int) : zGo false 154 124 [.ref 430, .int (zi x1), .int (zi x2), .int (zi x3)] [.int (zi s0)] (zm V J d) =
    zGo false 154 12 [.ref 430, .int (zi x1), .int (zi s0), .int (zi x3)] [] (zm V J d) := by
  refine (zr_istore_n (n := 2) (l1 := [.ref 430, .int (zi x1), .int (zi s0), .int (zi x3)]) (by decide +kernel) rfl).trans ?_
  refine (zr_goto (off := -113) (t := 12) (by decide +kernel) rfl).trans ?_
  rfl
theorem ze_154_128 {V : zVt} {J : zJt} {d : Nat → Nat → UInt64} (x1 : Int) (x2 : Int) (x3 : Value) : zGo false 154 128 [.ref 430, .int (zi x1), .int (zi x2), x3] [] (zm V J d) =
    some (.inl none, zm V J d) := by
  exact zr_vret (by decide +kernel) rfl
/-! PartSongDeskModel at (II)I -/
theorem ze_155_0 {V : zVt} {J : zJt} {d : Nat → Nat → UInt64} (x1 : Int) (x2 : Int) : zGo false 155 0 [.ref 430, .int (zi x1), .int (zi x2)] [] (zm V J d) =
    zck (0 ≤ qw x1 ∧ qw x1 < (12 : Nat)) ((if qw (V 432 (qw x1)) ≤ qw x2 then zGo false 155 26 [.ref 430, .int (zi x1), .int (zi x2)] [.int (zi (0))] (zm V J d) else zck (0 ≤ qw (((160) * x1) + x2) ∧ qw (((160) * x1) + x2) < (1920 : Nat)) (zGo false 155 26 [.ref 430, .int (zi x1), .int (zi x2)] [.int (zi (V 431 (qw (((160) * x1) + x2))))] (zm V J d)))) := by
  refine (zr_iload_n (n := 2) (x := zi x2) (by decide +kernel) rfl).trans ?_
  refine (zr_aload_n (n := 0) (x := 430) (by decide +kernel) rfl).trans ?_
  refine (zr_getR (i := 13) (c := 12) (k := 1) (r := 432) (by decide +kernel) (by decide +kernel) rfl (by decide +kernel) (zR0_f (o := 430) (c := 12) (n := 0) (k := 1) (j := 2) rfl (by decide) rfl)).trans ?_
  refine (zr_iload_n (n := 1) (x := zi x1) (by decide +kernel) rfl).trans ?_
  refine (zr_iald (n := 12) (e := x1) (by decide +kernel) rfl).trans (zck_ct fun _ => ?_)
  refine (zr_cge (off := 18) (a := x2) (b := (V 432 (qw x1))) (t := 25) (by decide +kernel) rfl).trans (zif_ct (fun _ => ?_) (fun _ => ?_))
  · refine (zr_iconst (n := 0) (by decide +kernel)).trans ?_
    rfl
  · refine (zr_aload_n (n := 0) (x := 430) (by decide +kernel) rfl).trans ?_
    refine (zr_getR (i := 7) (c := 12) (k := 0) (r := 431) (by decide +kernel) (by decide +kernel) rfl (by decide +kernel) (zR0_f (o := 430) (c := 12) (n := 0) (k := 0) (j := 1) rfl (by decide) rfl)).trans ?_
    refine (zr_sipush (n := 160) (by decide +kernel) rfl).trans ?_
    refine (zr_iload_n (n := 1) (x := zi x1) (by decide +kernel) rfl).trans ?_
    refine (zr_imul (a := (160)) (b := x1) (by decide +kernel)).trans ?_
    refine (zr_iload_n (n := 2) (x := zi x2) (by decide +kernel) rfl).trans ?_
    refine (zr_iadd (a := ((160) * x1)) (b := x2) (by decide +kernel)).trans ?_
    refine (zr_iald (n := 1920) (e := (((160) * x1) + x2)) (by decide +kernel) rfl).trans (zck_ct fun _ => ?_)
    refine (zr_goto (off := 4) (t := 26) (by decide +kernel) rfl).trans ?_
    rfl
theorem ze_155_26 {V : zVt} {J : zJt} {d : Nat → Nat → UInt64} (x1 : Int) (x2 : Int) (s0 : Int) : zGo false 155 26 [.ref 430, .int (zi x1), .int (zi x2)] [.int (zi s0)] (zm V J d) =
    some (.inl (some (.int (zi s0))), zm V J d) := by
  exact zr_iret (a := s0) (by decide +kernel) rfl
/-! PartSongDeskModel readToken (II)I -/
theorem ze_156_0 {V : zVt} {J : zJt} {d : Nat → Nat → UInt64} (x1 : Int) (x2 : Int) : zGo false 156 0 [.ref 430, .int (zi x1), .int (zi x2), .null, .null] [] (zm V J d) =
    (zGo false 155 0 [.ref 430, .int (zi x1), .int (zi x2)] [] (zm V J d)).bind (zGor false 156 6 [.ref 430, .int (zi x1), .int (zi x2), .null, .null] []) := by
  refine (zr_aload_n (n := 0) (x := 430) (by decide +kernel) rfl).trans ?_
  refine (zr_iload_n (n := 1) (x := zi x1) (by decide +kernel) rfl).trans ?_
  refine (zr_iload_n (n := 2) (x := zi x2) (by decide +kernel) rfl).trans ?_
  exact zr_cV (i := 152) (z := 155) (w := 0) (o := 430) (t := [.int (zi x2), .int (zi x1)]) (rest := []) (L := [.ref 430, .int (zi x1), .int (zi x2)]) (pc1 := 6) (by decide +kernel) (by decide +kernel) rfl (n := 2) (r := 0) rfl rfl rfl (by decide +kernel) rfl rfl
theorem ze_156_6 {V : zVt} {J : zJt} {d : Nat → Nat → UInt64} (x1 : Int) (x2 : Int) (s0 : Int) : zGo false 156 6 [.ref 430, .int (zi x1), .int (zi x2), .null, .null] [.int (zi s0)] (zm V J d) =
    (zGo false 155 0 [.ref 430, .int (zi x1), .int (zi (x2 + (1)))] [] (zm V J d)).bind (zGor false 156 15 [.ref 430, .int (zi x1), .int (zi x2), .int (zi s0), .null] []) := by
  refine (zr_istore_n (n := 3) (l1 := [.ref 430, .int (zi x1), .int (zi x2), .int (zi s0), .null]) (by decide +kernel) rfl).trans ?_
  refine (zr_aload_n (n := 0) (x := 430) (by decide +kernel) rfl).trans ?_
  refine (zr_iload_n (n := 1) (x := zi x1) (by decide +kernel) rfl).trans ?_
  refine (zr_iload_n (n := 2) (x := zi x2) (by decide +kernel) rfl).trans ?_
  refine (zr_iconst (n := 1) (by decide +kernel)).trans ?_
  refine (zr_iadd (a := x2) (b := (1)) (by decide +kernel)).trans ?_
  exact zr_cV (i := 152) (z := 155) (w := 0) (o := 430) (t := [.int (zi (x2 + (1))), .int (zi x1)]) (rest := []) (L := [.ref 430, .int (zi x1), .int (zi (x2 + (1)))]) (pc1 := 15) (by decide +kernel) (by decide +kernel) rfl (n := 2) (r := 0) rfl rfl rfl (by decide +kernel) rfl rfl
theorem ze_156_15 {V : zVt} {J : zJt} {d : Nat → Nat → UInt64} (x1 : Int) (x2 : Int) (x3 : Int) (s0 : Int) : zGo false 156 15 [.ref 430, .int (zi x1), .int (zi x2), .int (zi x3), .null] [.int (zi s0)] (zm V J d) =
    (if qw x3 ≠ qw (64) then (if qw x3 = qw (35) then zGo false 156 94 [.ref 430, .int (zi x1), .int (zi x2), .int (zi x3), .int (zi s0)] [] (zm V J d) else (if qw x3 ≠ qw (98) then (if qw x3 = qw (124) then zGo false 156 155 [.ref 430, .int (zi x1), .int (zi x2), .int (zi x3), .int (zi s0)] [] (zm V J d) else (if qw x3 = qw (91) then zGo false 156 155 [.ref 430, .int (zi x1), .int (zi x2), .int (zi x3), .int (zi s0)] [] (zm V J d) else (if qw x3 ≠ qw (41) then (if qw x3 ≠ qw (93) then (if qw x3 ≠ qw (40) then (if qw x3 ≠ qw (77) then (if qw x3 ≠ qw (114) then (zGo false 162 0 [.ref 430, .int (zi x1), .int (zi x2), .null, .null, .null, .null, .null, .null, .null] [] (zm V J d)).bind (zGor false 156 306 [.ref 430, .int (zi x1), .int (zi x2), .int (zi x3), .int (zi s0)] []) else (zGo false 160 0 [.ref 430, .int (zi x1), .int (zi x2), .null] [] (zm V J d)).bind (zGor false 156 297 [.ref 430, .int (zi x1), .int (zi x2), .int (zi x3), .int (zi s0)] [])) else (zGo false 159 0 [.ref 430, .int (zi x1), .int (zi x2), .null, .null, .null, .null] [] (zm V J d)).bind (zGor false 156 282 [.ref 430, .int (zi x1), .int (zi x2), .int (zi x3), .int (zi s0)] [])) else (zGo false 158 0 [.int (zi s0), .int (zi (1)), .int (zi (4))] [] (zm V J d)).bind (zGor false 156 235 [.ref 430, .int (zi x1), .int (zi x2), .int (zi x3), .int (zi s0)] [])) else (zGo false 158 0 [.int (zi s0), .int (zi (2)), .int (zi (4))] [] (zm V J d)).bind (zGor false 156 200 [.ref 430, .int (zi x1), .int (zi x2), .int (zi x3), .int (zi s0)] [])) else zGo false 156 155 [.ref 430, .int (zi x1), .int (zi x2), .int (zi x3), .int (zi s0)] [] (zm V J d)))) else zGo false 156 94 [.ref 430, .int (zi x1), .int (zi x2), .int (zi x3), .int (zi s0)] [] (zm V J d))) else (if qw s0 ≠ qw (71) then (if qw s0 ≠ qw (70) then (if qw s0 ≠ qw (67) then zGo false 156 81 [.ref 430, .int (zi x1), .int (zi x2), .int (zi x3), .int (zi s0)] [.int (zi (-1))] (zm V J d) else (zGo false 157 0 [.ref 430, .int (zi (0)), .int (zi (2)), .int (zi (x2 + (2)))] [] (zm V J d)).bind (zGor false 156 77 [.ref 430, .int (zi x1), .int (zi x2), .int (zi x3), .int (zi s0)] [])) else (zGo false 157 0 [.ref 430, .int (zi (0)), .int (zi (1)), .int (zi (x2 + (2)))] [] (zm V J d)).bind (zGor false 156 58 [.ref 430, .int (zi x1), .int (zi x2), .int (zi x3), .int (zi s0)] [])) else (zGo false 157 0 [.ref 430, .int (zi (0)), .int (zi (0)), .int (zi (x2 + (2)))] [] (zm V J d)).bind (zGor false 156 39 [.ref 430, .int (zi x1), .int (zi x2), .int (zi x3), .int (zi s0)] []))) := by
  refine (zr_istore (n := 4) (l1 := [.ref 430, .int (zi x1), .int (zi x2), .int (zi x3), .int (zi s0)]) (by decide +kernel) rfl).trans ?_
  refine (zr_iload_n (n := 3) (x := zi x3) (by decide +kernel) rfl).trans ?_
  refine (zr_bipush (n := 64) (by decide +kernel) rfl).trans ?_
  refine (zr_cne (off := 62) (a := x3) (b := (64)) (t := 82) (by decide +kernel) rfl).trans (zif_ct (fun _ => ?_) (fun _ => ?_))
  · refine (zr_iload_n (n := 3) (x := zi x3) (by decide +kernel) rfl).trans ?_
    refine (zr_bipush (n := 35) (by decide +kernel) rfl).trans ?_
    refine (zr_ceq (off := 9) (a := x3) (b := (35)) (t := 94) (by decide +kernel) rfl).trans (zif_ct (fun _ => ?_) (fun _ => ?_))
    · rfl
    · refine (zr_iload_n (n := 3) (x := zi x3) (by decide +kernel) rfl).trans ?_
      refine (zr_bipush (n := 98) (by decide +kernel) rfl).trans ?_
      refine (zr_cne (off := 46) (a := x3) (b := (98)) (t := 137) (by decide +kernel) rfl).trans (zif_ct (fun _ => ?_) (fun _ => ?_))
      · refine (zr_iload_n (n := 3) (x := zi x3) (by decide +kernel) rfl).trans ?_
        refine (zr_bipush (n := 124) (by decide +kernel) rfl).trans ?_
        refine (zr_ceq (off := 15) (a := x3) (b := (124)) (t := 155) (by decide +kernel) rfl).trans (zif_ct (fun _ => ?_) (fun _ => ?_))
        · rfl
        · refine (zr_iload_n (n := 3) (x := zi x3) (by decide +kernel) rfl).trans ?_
          refine (zr_bipush (n := 91) (by decide +kernel) rfl).trans ?_
          refine (zr_ceq (off := 9) (a := x3) (b := (91)) (t := 155) (by decide +kernel) rfl).trans (zif_ct (fun _ => ?_) (fun _ => ?_))
          · rfl
          · refine (zr_iload_n (n := 3) (x := zi x3) (by decide +kernel) rfl).trans ?_
            refine (zr_bipush (n := 41) (by decide +kernel) rfl).trans ?_
            refine (zr_cne (off := 35) (a := x3) (b := (41)) (t := 187) (by decide +kernel) rfl).trans (zif_ct (fun _ => ?_) (fun _ => ?_))
            · refine (zr_iload_n (n := 3) (x := zi x3) (by decide +kernel) rfl).trans ?_
              refine (zr_bipush (n := 93) (by decide +kernel) rfl).trans ?_
              refine (zr_cne (off := 32) (a := x3) (b := (93)) (t := 222) (by decide +kernel) rfl).trans (zif_ct (fun _ => ?_) (fun _ => ?_))
              · refine (zr_iload_n (n := 3) (x := zi x3) (by decide +kernel) rfl).trans ?_
                refine (zr_bipush (n := 40) (by decide +kernel) rfl).trans ?_
                refine (zr_cne (off := 45) (a := x3) (b := (40)) (t := 270) (by decide +kernel) rfl).trans (zif_ct (fun _ => ?_) (fun _ => ?_))
                · refine (zr_iload_n (n := 3) (x := zi x3) (by decide +kernel) rfl).trans ?_
                  refine (zr_bipush (n := 77) (by decide +kernel) rfl).trans ?_
                  refine (zr_cne (off := 12) (a := x3) (b := (77)) (t := 285) (by decide +kernel) rfl).trans (zif_ct (fun _ => ?_) (fun _ => ?_))
                  · refine (zr_iload_n (n := 3) (x := zi x3) (by decide +kernel) rfl).trans ?_
                    refine (zr_bipush (n := 114) (by decide +kernel) rfl).trans ?_
                    refine (zr_cne (off := 12) (a := x3) (b := (114)) (t := 300) (by decide +kernel) rfl).trans (zif_ct (fun _ => ?_) (fun _ => ?_))
                    · refine (zr_aload_n (n := 0) (x := 430) (by decide +kernel) rfl).trans ?_
                      refine (zr_iload_n (n := 1) (x := zi x1) (by decide +kernel) rfl).trans ?_
                      refine (zr_iload_n (n := 2) (x := zi x2) (by decide +kernel) rfl).trans ?_
                      exact zr_cV (i := 179) (z := 162) (w := 0) (o := 430) (t := [.int (zi x2), .int (zi x1)]) (rest := []) (L := [.ref 430, .int (zi x1), .int (zi x2), .null, .null, .null, .null, .null, .null, .null]) (pc1 := 306) (by decide +kernel) (by decide +kernel) rfl (n := 2) (r := 0) rfl rfl rfl (by decide +kernel) rfl rfl
                    · refine (zr_aload_n (n := 0) (x := 430) (by decide +kernel) rfl).trans ?_
                      refine (zr_iload_n (n := 1) (x := zi x1) (by decide +kernel) rfl).trans ?_
                      refine (zr_iload_n (n := 2) (x := zi x2) (by decide +kernel) rfl).trans ?_
                      exact zr_cV (i := 176) (z := 160) (w := 0) (o := 430) (t := [.int (zi x2), .int (zi x1)]) (rest := []) (L := [.ref 430, .int (zi x1), .int (zi x2), .null]) (pc1 := 297) (by decide +kernel) (by decide +kernel) rfl (n := 2) (r := 0) rfl rfl rfl (by decide +kernel) rfl rfl
                  · refine (zr_aload_n (n := 0) (x := 430) (by decide +kernel) rfl).trans ?_
                    refine (zr_iload_n (n := 1) (x := zi x1) (by decide +kernel) rfl).trans ?_
                    refine (zr_iload_n (n := 2) (x := zi x2) (by decide +kernel) rfl).trans ?_
                    exact zr_cV (i := 173) (z := 159) (w := 0) (o := 430) (t := [.int (zi x2), .int (zi x1)]) (rest := []) (L := [.ref 430, .int (zi x1), .int (zi x2), .null, .null, .null, .null]) (pc1 := 282) (by decide +kernel) (by decide +kernel) rfl (n := 2) (r := 0) rfl rfl rfl (by decide +kernel) rfl rfl
                · refine (zr_iload (n := 4) (x := zi s0) (by decide +kernel) rfl).trans ?_
                  refine (zr_iconst (n := 1) (by decide +kernel)).trans ?_
                  refine (zr_iconst (n := 4) (by decide +kernel)).trans ?_
                  exact zr_cS (i := 166) (z := 158) (w := 0) (t := [.int (zi (4)), .int (zi (1)), .int (zi s0)]) (rest := []) (L := [.int (zi s0), .int (zi (1)), .int (zi (4))]) (pc1 := 235) (by decide +kernel) (by decide +kernel) (n := 3) (r := 0) rfl rfl rfl (by decide +kernel) rfl rfl
              · refine (zr_iload (n := 4) (x := zi s0) (by decide +kernel) rfl).trans ?_
                refine (zr_iconst (n := 2) (by decide +kernel)).trans ?_
                refine (zr_iconst (n := 4) (by decide +kernel)).trans ?_
                exact zr_cS (i := 166) (z := 158) (w := 0) (t := [.int (zi (4)), .int (zi (2)), .int (zi s0)]) (rest := []) (L := [.int (zi s0), .int (zi (2)), .int (zi (4))]) (pc1 := 200) (by decide +kernel) (by decide +kernel) (n := 3) (r := 0) rfl rfl rfl (by decide +kernel) rfl rfl
            · rfl
      · rfl
  · refine (zr_iload (n := 4) (x := zi s0) (by decide +kernel) rfl).trans ?_
    refine (zr_bipush (n := 71) (by decide +kernel) rfl).trans ?_
    refine (zr_cne (off := 15) (a := s0) (b := (71)) (t := 42) (by decide +kernel) rfl).trans (zif_ct (fun _ => ?_) (fun _ => ?_))
    · refine (zr_iload (n := 4) (x := zi s0) (by decide +kernel) rfl).trans ?_
      refine (zr_bipush (n := 70) (by decide +kernel) rfl).trans ?_
      refine (zr_cne (off := 15) (a := s0) (b := (70)) (t := 61) (by decide +kernel) rfl).trans (zif_ct (fun _ => ?_) (fun _ => ?_))
      · refine (zr_iload (n := 4) (x := zi s0) (by decide +kernel) rfl).trans ?_
        refine (zr_bipush (n := 67) (by decide +kernel) rfl).trans ?_
        refine (zr_cne (off := 15) (a := s0) (b := (67)) (t := 80) (by decide +kernel) rfl).trans (zif_ct (fun _ => ?_) (fun _ => ?_))
        · refine (zr_iconst (n := -1) (by decide +kernel)).trans ?_
          rfl
        · refine (zr_aload_n (n := 0) (x := 430) (by decide +kernel) rfl).trans ?_
          refine (zr_iconst (n := 0) (by decide +kernel)).trans ?_
          refine (zr_iconst (n := 2) (by decide +kernel)).trans ?_
          refine (zr_iload_n (n := 2) (x := zi x2) (by decide +kernel) rfl).trans ?_
          refine (zr_iconst (n := 2) (by decide +kernel)).trans ?_
          refine (zr_iadd (a := x2) (b := (2)) (by decide +kernel)).trans ?_
          exact zr_cV (i := 162) (z := 157) (w := 0) (o := 430) (t := [.int (zi (x2 + (2))), .int (zi (2)), .int (zi (0))]) (rest := []) (L := [.ref 430, .int (zi (0)), .int (zi (2)), .int (zi (x2 + (2)))]) (pc1 := 77) (by decide +kernel) (by decide +kernel) rfl (n := 3) (r := 0) rfl rfl rfl (by decide +kernel) rfl rfl
      · refine (zr_aload_n (n := 0) (x := 430) (by decide +kernel) rfl).trans ?_
        refine (zr_iconst (n := 0) (by decide +kernel)).trans ?_
        refine (zr_iconst (n := 1) (by decide +kernel)).trans ?_
        refine (zr_iload_n (n := 2) (x := zi x2) (by decide +kernel) rfl).trans ?_
        refine (zr_iconst (n := 2) (by decide +kernel)).trans ?_
        refine (zr_iadd (a := x2) (b := (2)) (by decide +kernel)).trans ?_
        exact zr_cV (i := 162) (z := 157) (w := 0) (o := 430) (t := [.int (zi (x2 + (2))), .int (zi (1)), .int (zi (0))]) (rest := []) (L := [.ref 430, .int (zi (0)), .int (zi (1)), .int (zi (x2 + (2)))]) (pc1 := 58) (by decide +kernel) (by decide +kernel) rfl (n := 3) (r := 0) rfl rfl rfl (by decide +kernel) rfl rfl
    · refine (zr_aload_n (n := 0) (x := 430) (by decide +kernel) rfl).trans ?_
      refine (zr_iconst (n := 0) (by decide +kernel)).trans ?_
      refine (zr_iconst (n := 0) (by decide +kernel)).trans ?_
      refine (zr_iload_n (n := 2) (x := zi x2) (by decide +kernel) rfl).trans ?_
      refine (zr_iconst (n := 2) (by decide +kernel)).trans ?_
      refine (zr_iadd (a := x2) (b := (2)) (by decide +kernel)).trans ?_
      exact zr_cV (i := 162) (z := 157) (w := 0) (o := 430) (t := [.int (zi (x2 + (2))), .int (zi (0)), .int (zi (0))]) (rest := []) (L := [.ref 430, .int (zi (0)), .int (zi (0)), .int (zi (x2 + (2)))]) (pc1 := 39) (by decide +kernel) (by decide +kernel) rfl (n := 3) (r := 0) rfl rfl rfl (by decide +kernel) rfl rfl
theorem ze_156_39 {V : zVt} {J : zJt} {d : Nat → Nat → UInt64} (x1 : Int) (x2 : Int) (x3 : Int) (x4 : Int) (s0 : Int) : zGo false 156 39 [.ref 430, .int (zi x1), .int (zi x2), .int (zi x3), .int (zi x4)] [.int (zi s0)] (zm V J d) =
    zGo false 156 81 [.ref 430, .int (zi x1), .int (zi x2), .int (zi x3), .int (zi x4)] [.int (zi s0)] (zm V J d) := by
  refine (zr_goto (off := 42) (t := 81) (by decide +kernel) rfl).trans ?_
  rfl
theorem ze_156_58 {V : zVt} {J : zJt} {d : Nat → Nat → UInt64} (x1 : Int) (x2 : Int) (x3 : Int) (x4 : Int) (s0 : Int) : zGo false 156 58 [.ref 430, .int (zi x1), .int (zi x2), .int (zi x3), .int (zi x4)] [.int (zi s0)] (zm V J d) =
    zGo false 156 81 [.ref 430, .int (zi x1), .int (zi x2), .int (zi x3), .int (zi x4)] [.int (zi s0)] (zm V J d) := by
  refine (zr_goto (off := 23) (t := 81) (by decide +kernel) rfl).trans ?_
  rfl
theorem ze_156_77 {V : zVt} {J : zJt} {d : Nat → Nat → UInt64} (x1 : Int) (x2 : Int) (x3 : Int) (x4 : Int) (s0 : Int) : zGo false 156 77 [.ref 430, .int (zi x1), .int (zi x2), .int (zi x3), .int (zi x4)] [.int (zi s0)] (zm V J d) =
    zGo false 156 81 [.ref 430, .int (zi x1), .int (zi x2), .int (zi x3), .int (zi x4)] [.int (zi s0)] (zm V J d) := by
  refine (zr_goto (off := 4) (t := 81) (by decide +kernel) rfl).trans ?_
  rfl
theorem ze_156_81 {V : zVt} {J : zJt} {d : Nat → Nat → UInt64} (x1 : Int) (x2 : Int) (x3 : Int) (x4 : Int) (s0 : Int) : zGo false 156 81 [.ref 430, .int (zi x1), .int (zi x2), .int (zi x3), .int (zi x4)] [.int (zi s0)] (zm V J d) =
    some (.inl (some (.int (zi s0))), zm V J d) := by
  exact zr_iret (a := s0) (by decide +kernel) rfl
theorem ze_156_94 {V : zVt} {J : zJt} {d : Nat → Nat → UInt64} (x1 : Int) (x2 : Int) (x3 : Int) (x4 : Int) : zGo false 156 94 [.ref 430, .int (zi x1), .int (zi x2), .int (zi x3), .int (zi x4)] [] (zm V J d) =
    (zGo false 158 0 [.int (zi x4), .int (zi (0)), .int (zi (7))] [] (zm V J d)).bind (zGor false 156 102 [.ref 430, .int (zi x1), .int (zi x2), .int (zi x3), .int (zi x4)] []) := by
  refine (zr_iload (n := 4) (x := zi x4) (by decide +kernel) rfl).trans ?_
  refine (zr_iconst (n := 0) (by decide +kernel)).trans ?_
  refine (zr_bipush (n := 7) (by decide +kernel) rfl).trans ?_
  exact zr_cS (i := 166) (z := 158) (w := 0) (t := [.int (zi (7)), .int (zi (0)), .int (zi x4)]) (rest := []) (L := [.int (zi x4), .int (zi (0)), .int (zi (7))]) (pc1 := 102) (by decide +kernel) (by decide +kernel) (n := 3) (r := 0) rfl rfl rfl (by decide +kernel) rfl rfl
theorem ze_156_102 {V : zVt} {J : zJt} {d : Nat → Nat → UInt64} (x1 : Int) (x2 : Int) (x3 : Int) (x4 : Int) (s0 : Int) : zGo false 156 102 [.ref 430, .int (zi x1), .int (zi x2), .int (zi x3), .int (zi x4)] [.int (zi s0)] (zm V J d) =
    (if qw s0 = 0 then zGo false 156 136 [.ref 430, .int (zi x1), .int (zi x2), .int (zi x3), .int (zi x4)] [.int (zi (-1))] (zm V J d) else (if qw x3 ≠ qw (35) then zGo false 156 126 [.ref 430, .int (zi x1), .int (zi x2), .int (zi x3), .int (zi x4)] [.int (zi ((48) - x4)), .int (zi (1)), .ref 430] (zm V J d) else zGo false 156 126 [.ref 430, .int (zi x1), .int (zi x2), .int (zi x3), .int (zi x4)] [.int (zi (x4 - (48))), .int (zi (1)), .ref 430] (zm V J d))) := by
  refine (zr_ifeq (off := 33) (a := s0) (t := 135) (by decide +kernel) rfl).trans (zif_ct (fun _ => ?_) (fun _ => ?_))
  · refine (zr_iconst (n := -1) (by decide +kernel)).trans ?_
    rfl
  · refine (zr_aload_n (n := 0) (x := 430) (by decide +kernel) rfl).trans ?_
    refine (zr_iconst (n := 1) (by decide +kernel)).trans ?_
    refine (zr_iload_n (n := 3) (x := zi x3) (by decide +kernel) rfl).trans ?_
    refine (zr_bipush (n := 35) (by decide +kernel) rfl).trans ?_
    refine (zr_cne (off := 11) (a := x3) (b := (35)) (t := 121) (by decide +kernel) rfl).trans (zif_ct (fun _ => ?_) (fun _ => ?_))
    · refine (zr_bipush (n := 48) (by decide +kernel) rfl).trans ?_
      refine (zr_iload (n := 4) (x := zi x4) (by decide +kernel) rfl).trans ?_
      refine (zr_isub (a := (48)) (b := x4) (by decide +kernel)).trans ?_
      rfl
    · refine (zr_iload (n := 4) (x := zi x4) (by decide +kernel) rfl).trans ?_
      refine (zr_bipush (n := 48) (by decide +kernel) rfl).trans ?_
      refine (zr_isub (a := x4) (b := (48)) (by decide +kernel)).trans ?_
      refine (zr_goto (off := 8) (t := 126) (by decide +kernel) rfl).trans ?_
      rfl
theorem ze_156_126 {V : zVt} {J : zJt} {d : Nat → Nat → UInt64} (x1 : Int) (x2 : Int) (x3 : Int) (x4 : Int) (s1 : Int) (s2 : Int) : zGo false 156 126 [.ref 430, .int (zi x1), .int (zi x2), .int (zi x3), .int (zi x4)] [.int (zi s2), .int (zi s1), .ref 430] (zm V J d) =
    (zGo false 157 0 [.ref 430, .int (zi s1), .int (zi s2), .int (zi (x2 + (2)))] [] (zm V J d)).bind (zGor false 156 132 [.ref 430, .int (zi x1), .int (zi x2), .int (zi x3), .int (zi x4)] []) := by
  refine (zr_iload_n (n := 2) (x := zi x2) (by decide +kernel) rfl).trans ?_
  refine (zr_iconst (n := 2) (by decide +kernel)).trans ?_
  refine (zr_iadd (a := x2) (b := (2)) (by decide +kernel)).trans ?_
  exact zr_cV (i := 162) (z := 157) (w := 0) (o := 430) (t := [.int (zi (x2 + (2))), .int (zi s2), .int (zi s1)]) (rest := []) (L := [.ref 430, .int (zi s1), .int (zi s2), .int (zi (x2 + (2)))]) (pc1 := 132) (by decide +kernel) (by decide +kernel) rfl (n := 3) (r := 0) rfl rfl rfl (by decide +kernel) rfl rfl
theorem ze_156_132 {V : zVt} {J : zJt} {d : Nat → Nat → UInt64} (x1 : Int) (x2 : Int) (x3 : Int) (x4 : Int) (s0 : Int) : zGo false 156 132 [.ref 430, .int (zi x1), .int (zi x2), .int (zi x3), .int (zi x4)] [.int (zi s0)] (zm V J d) =
    zGo false 156 136 [.ref 430, .int (zi x1), .int (zi x2), .int (zi x3), .int (zi x4)] [.int (zi s0)] (zm V J d) := by
  refine (zr_goto (off := 4) (t := 136) (by decide +kernel) rfl).trans ?_
  rfl
theorem ze_156_136 {V : zVt} {J : zJt} {d : Nat → Nat → UInt64} (x1 : Int) (x2 : Int) (x3 : Int) (x4 : Int) (s0 : Int) : zGo false 156 136 [.ref 430, .int (zi x1), .int (zi x2), .int (zi x3), .int (zi x4)] [.int (zi s0)] (zm V J d) =
    some (.inl (some (.int (zi s0))), zm V J d) := by
  exact zr_iret (a := s0) (by decide +kernel) rfl
theorem ze_156_155 {V : zVt} {J : zJt} {d : Nat → Nat → UInt64} (x1 : Int) (x2 : Int) (x3 : Int) (x4 : Int) : zGo false 156 155 [.ref 430, .int (zi x1), .int (zi x2), .int (zi x3), .int (zi x4)] [] (zm V J d) =
    (if qw x3 ≠ qw (124) then (if qw x3 ≠ qw (91) then zGo false 156 179 [.ref 430, .int (zi x1), .int (zi x2), .int (zi x3), .int (zi x4)] [.int (zi (9)), .ref 430] (zm V J d) else zGo false 156 179 [.ref 430, .int (zi x1), .int (zi x2), .int (zi x3), .int (zi x4)] [.int (zi (6)), .ref 430] (zm V J d)) else zGo false 156 179 [.ref 430, .int (zi x1), .int (zi x2), .int (zi x3), .int (zi x4)] [.int (zi (5)), .ref 430] (zm V J d)) := by
  refine (zr_aload_n (n := 0) (x := 430) (by decide +kernel) rfl).trans ?_
  refine (zr_iload_n (n := 3) (x := zi x3) (by decide +kernel) rfl).trans ?_
  refine (zr_bipush (n := 124) (by decide +kernel) rfl).trans ?_
  refine (zr_cne (off := 7) (a := x3) (b := (124)) (t := 166) (by decide +kernel) rfl).trans (zif_ct (fun _ => ?_) (fun _ => ?_))
  · refine (zr_iload_n (n := 3) (x := zi x3) (by decide +kernel) rfl).trans ?_
    refine (zr_bipush (n := 91) (by decide +kernel) rfl).trans ?_
    refine (zr_cne (off := 8) (a := x3) (b := (91)) (t := 177) (by decide +kernel) rfl).trans (zif_ct (fun _ => ?_) (fun _ => ?_))
    · refine (zr_bipush (n := 9) (by decide +kernel) rfl).trans ?_
      rfl
    · refine (zr_bipush (n := 6) (by decide +kernel) rfl).trans ?_
      refine (zr_goto (off := 5) (t := 179) (by decide +kernel) rfl).trans ?_
      rfl
  · refine (zr_iconst (n := 5) (by decide +kernel)).trans ?_
    refine (zr_goto (off := 16) (t := 179) (by decide +kernel) rfl).trans ?_
    rfl
theorem ze_156_179 {V : zVt} {J : zJt} {d : Nat → Nat → UInt64} (x1 : Int) (x2 : Int) (x3 : Int) (x4 : Int) (s1 : Int) : zGo false 156 179 [.ref 430, .int (zi x1), .int (zi x2), .int (zi x3), .int (zi x4)] [.int (zi s1), .ref 430] (zm V J d) =
    (zGo false 157 0 [.ref 430, .int (zi s1), .int (zi (0)), .int (zi (x2 + (1)))] [] (zm V J d)).bind (zGor false 156 186 [.ref 430, .int (zi x1), .int (zi x2), .int (zi x3), .int (zi x4)] []) := by
  refine (zr_iconst (n := 0) (by decide +kernel)).trans ?_
  refine (zr_iload_n (n := 2) (x := zi x2) (by decide +kernel) rfl).trans ?_
  refine (zr_iconst (n := 1) (by decide +kernel)).trans ?_
  refine (zr_iadd (a := x2) (b := (1)) (by decide +kernel)).trans ?_
  exact zr_cV (i := 162) (z := 157) (w := 0) (o := 430) (t := [.int (zi (x2 + (1))), .int (zi (0)), .int (zi s1)]) (rest := []) (L := [.ref 430, .int (zi s1), .int (zi (0)), .int (zi (x2 + (1)))]) (pc1 := 186) (by decide +kernel) (by decide +kernel) rfl (n := 3) (r := 0) rfl rfl rfl (by decide +kernel) rfl rfl
theorem ze_156_186 {V : zVt} {J : zJt} {d : Nat → Nat → UInt64} (x1 : Int) (x2 : Int) (x3 : Int) (x4 : Int) (s0 : Int) : zGo false 156 186 [.ref 430, .int (zi x1), .int (zi x2), .int (zi x3), .int (zi x4)] [.int (zi s0)] (zm V J d) =
    some (.inl (some (.int (zi s0))), zm V J d) := by
  exact zr_iret (a := s0) (by decide +kernel) rfl
theorem ze_156_200 {V : zVt} {J : zJt} {d : Nat → Nat → UInt64} (x1 : Int) (x2 : Int) (x3 : Int) (x4 : Int) (s0 : Int) : zGo false 156 200 [.ref 430, .int (zi x1), .int (zi x2), .int (zi x3), .int (zi x4)] [.int (zi s0)] (zm V J d) =
    (if qw s0 = 0 then zGo false 156 221 [.ref 430, .int (zi x1), .int (zi x2), .int (zi x3), .int (zi x4)] [.int (zi (-1))] (zm V J d) else (zGo false 157 0 [.ref 430, .int (zi (7)), .int (zi (x4 - (48))), .int (zi (x2 + (2)))] [] (zm V J d)).bind (zGor false 156 217 [.ref 430, .int (zi x1), .int (zi x2), .int (zi x3), .int (zi x4)] [])) := by
  refine (zr_ifeq (off := 20) (a := s0) (t := 220) (by decide +kernel) rfl).trans (zif_ct (fun _ => ?_) (fun _ => ?_))
  · refine (zr_iconst (n := -1) (by decide +kernel)).trans ?_
    rfl
  · refine (zr_aload_n (n := 0) (x := 430) (by decide +kernel) rfl).trans ?_
    refine (zr_bipush (n := 7) (by decide +kernel) rfl).trans ?_
    refine (zr_iload (n := 4) (x := zi x4) (by decide +kernel) rfl).trans ?_
    refine (zr_bipush (n := 48) (by decide +kernel) rfl).trans ?_
    refine (zr_isub (a := x4) (b := (48)) (by decide +kernel)).trans ?_
    refine (zr_iload_n (n := 2) (x := zi x2) (by decide +kernel) rfl).trans ?_
    refine (zr_iconst (n := 2) (by decide +kernel)).trans ?_
    refine (zr_iadd (a := x2) (b := (2)) (by decide +kernel)).trans ?_
    exact zr_cV (i := 162) (z := 157) (w := 0) (o := 430) (t := [.int (zi (x2 + (2))), .int (zi (x4 - (48))), .int (zi (7))]) (rest := []) (L := [.ref 430, .int (zi (7)), .int (zi (x4 - (48))), .int (zi (x2 + (2)))]) (pc1 := 217) (by decide +kernel) (by decide +kernel) rfl (n := 3) (r := 0) rfl rfl rfl (by decide +kernel) rfl rfl
theorem ze_156_217 {V : zVt} {J : zJt} {d : Nat → Nat → UInt64} (x1 : Int) (x2 : Int) (x3 : Int) (x4 : Int) (s0 : Int) : zGo false 156 217 [.ref 430, .int (zi x1), .int (zi x2), .int (zi x3), .int (zi x4)] [.int (zi s0)] (zm V J d) =
    zGo false 156 221 [.ref 430, .int (zi x1), .int (zi x2), .int (zi x3), .int (zi x4)] [.int (zi s0)] (zm V J d) := by
  refine (zr_goto (off := 4) (t := 221) (by decide +kernel) rfl).trans ?_
  rfl
theorem ze_156_221 {V : zVt} {J : zJt} {d : Nat → Nat → UInt64} (x1 : Int) (x2 : Int) (x3 : Int) (x4 : Int) (s0 : Int) : zGo false 156 221 [.ref 430, .int (zi x1), .int (zi x2), .int (zi x3), .int (zi x4)] [.int (zi s0)] (zm V J d) =
    some (.inl (some (.int (zi s0))), zm V J d) := by
  exact zr_iret (a := s0) (by decide +kernel) rfl
theorem ze_156_235 {V : zVt} {J : zJt} {d : Nat → Nat → UInt64} (x1 : Int) (x2 : Int) (x3 : Int) (x4 : Int) (s0 : Int) : zGo false 156 235 [.ref 430, .int (zi x1), .int (zi x2), .int (zi x3), .int (zi x4)] [.int (zi s0)] (zm V J d) =
    (if qw s0 = 0 then zGo false 156 268 [.ref 430, .int (zi x1), .int (zi x2), .int (zi x3), .int (zi x4)] [] (zm V J d) else (zGo false 155 0 [.ref 430, .int (zi x1), .int (zi (x2 + (2)))] [] (zm V J d)).bind (zGor false 156 246 [.ref 430, .int (zi x1), .int (zi x2), .int (zi x3), .int (zi x4)] [])) := by
  refine (zr_ifeq (off := 33) (a := s0) (t := 268) (by decide +kernel) rfl).trans (zif_ct (fun _ => ?_) (fun _ => ?_))
  · rfl
  · refine (zr_aload_n (n := 0) (x := 430) (by decide +kernel) rfl).trans ?_
    refine (zr_iload_n (n := 1) (x := zi x1) (by decide +kernel) rfl).trans ?_
    refine (zr_iload_n (n := 2) (x := zi x2) (by decide +kernel) rfl).trans ?_
    refine (zr_iconst (n := 2) (by decide +kernel)).trans ?_
    refine (zr_iadd (a := x2) (b := (2)) (by decide +kernel)).trans ?_
    exact zr_cV (i := 152) (z := 155) (w := 0) (o := 430) (t := [.int (zi (x2 + (2))), .int (zi x1)]) (rest := []) (L := [.ref 430, .int (zi x1), .int (zi (x2 + (2)))]) (pc1 := 246) (by decide +kernel) (by decide +kernel) rfl (n := 2) (r := 0) rfl rfl rfl (by decide +kernel) rfl rfl
theorem ze_156_246 {V : zVt} {J : zJt} {d : Nat → Nat → UInt64} (x1 : Int) (x2 : Int) (x3 : Int) (x4 : Int) (s0 : Int) : zGo false 156 246 [.ref 430, .int (zi x1), .int (zi x2), .int (zi x3), .int (zi x4)] [.int (zi s0)] (zm V J d) =
    (if qw s0 ≠ qw (58) then zGo false 156 268 [.ref 430, .int (zi x1), .int (zi x2), .int (zi x3), .int (zi x4)] [] (zm V J d) else (zGo false 157 0 [.ref 430, .int (zi (8)), .int (zi (x4 - (48))), .int (zi (x2 + (3)))] [] (zm V J d)).bind (zGor false 156 265 [.ref 430, .int (zi x1), .int (zi x2), .int (zi x3), .int (zi x4)] [])) := by
  refine (zr_bipush (n := 58) (by decide +kernel) rfl).trans ?_
  refine (zr_cne (off := 20) (a := s0) (b := (58)) (t := 268) (by decide +kernel) rfl).trans (zif_ct (fun _ => ?_) (fun _ => ?_))
  · rfl
  · refine (zr_aload_n (n := 0) (x := 430) (by decide +kernel) rfl).trans ?_
    refine (zr_bipush (n := 8) (by decide +kernel) rfl).trans ?_
    refine (zr_iload (n := 4) (x := zi x4) (by decide +kernel) rfl).trans ?_
    refine (zr_bipush (n := 48) (by decide +kernel) rfl).trans ?_
    refine (zr_isub (a := x4) (b := (48)) (by decide +kernel)).trans ?_
    refine (zr_iload_n (n := 2) (x := zi x2) (by decide +kernel) rfl).trans ?_
    refine (zr_iconst (n := 3) (by decide +kernel)).trans ?_
    refine (zr_iadd (a := x2) (b := (3)) (by decide +kernel)).trans ?_
    exact zr_cV (i := 162) (z := 157) (w := 0) (o := 430) (t := [.int (zi (x2 + (3))), .int (zi (x4 - (48))), .int (zi (8))]) (rest := []) (L := [.ref 430, .int (zi (8)), .int (zi (x4 - (48))), .int (zi (x2 + (3)))]) (pc1 := 265) (by decide +kernel) (by decide +kernel) rfl (n := 3) (r := 0) rfl rfl rfl (by decide +kernel) rfl rfl
theorem ze_156_265 {V : zVt} {J : zJt} {d : Nat → Nat → UInt64} (x1 : Int) (x2 : Int) (x3 : Int) (x4 : Int) (s0 : Int) : zGo false 156 265 [.ref 430, .int (zi x1), .int (zi x2), .int (zi x3), .int (zi x4)] [.int (zi s0)] (zm V J d) =
    zGo false 156 269 [.ref 430, .int (zi x1), .int (zi x2), .int (zi x3), .int (zi x4)] [.int (zi s0)] (zm V J d) := by
  refine (zr_goto (off := 4) (t := 269) (by decide +kernel) rfl).trans ?_
  rfl
theorem ze_156_268 {V : zVt} {J : zJt} {d : Nat → Nat → UInt64} (x1 : Int) (x2 : Int) (x3 : Int) (x4 : Int) : zGo false 156 268 [.ref 430, .int (zi x1), .int (zi x2), .int (zi x3), .int (zi x4)] [] (zm V J d) =
    zGo false 156 269 [.ref 430, .int (zi x1), .int (zi x2), .int (zi x3), .int (zi x4)] [.int (zi (-1))] (zm V J d) := by
  refine (zr_iconst (n := -1) (by decide +kernel)).trans ?_
  rfl
theorem ze_156_269 {V : zVt} {J : zJt} {d : Nat → Nat → UInt64} (x1 : Int) (x2 : Int) (x3 : Int) (x4 : Int) (s0 : Int) : zGo false 156 269 [.ref 430, .int (zi x1), .int (zi x2), .int (zi x3), .int (zi x4)] [.int (zi s0)] (zm V J d) =
    some (.inl (some (.int (zi s0))), zm V J d) := by
  exact zr_iret (a := s0) (by decide +kernel) rfl
theorem ze_156_282 {V : zVt} {J : zJt} {d : Nat → Nat → UInt64} (x1 : Int) (x2 : Int) (x3 : Int) (x4 : Int) (s0 : Int) : zGo false 156 282 [.ref 430, .int (zi x1), .int (zi x2), .int (zi x3), .int (zi x4)] [.int (zi s0)] (zm V J d) =
    zGo false 156 306 [.ref 430, .int (zi x1), .int (zi x2), .int (zi x3), .int (zi x4)] [.int (zi s0)] (zm V J d) := by
  refine (zr_goto (off := 24) (t := 306) (by decide +kernel) rfl).trans ?_
  rfl
theorem ze_156_297 {V : zVt} {J : zJt} {d : Nat → Nat → UInt64} (x1 : Int) (x2 : Int) (x3 : Int) (x4 : Int) (s0 : Int) : zGo false 156 297 [.ref 430, .int (zi x1), .int (zi x2), .int (zi x3), .int (zi x4)] [.int (zi s0)] (zm V J d) =
    zGo false 156 306 [.ref 430, .int (zi x1), .int (zi x2), .int (zi x3), .int (zi x4)] [.int (zi s0)] (zm V J d) := by
  refine (zr_goto (off := 9) (t := 306) (by decide +kernel) rfl).trans ?_
  rfl
theorem ze_156_306 {V : zVt} {J : zJt} {d : Nat → Nat → UInt64} (x1 : Int) (x2 : Int) (x3 : Int) (x4 : Int) (s0 : Int) : zGo false 156 306 [.ref 430, .int (zi x1), .int (zi x2), .int (zi x3), .int (zi x4)] [.int (zi s0)] (zm V J d) =
    some (.inl (some (.int (zi s0))), zm V J d) := by
  exact zr_iret (a := s0) (by decide +kernel) rfl
/-! PartSongDeskModel is (III)I -/
theorem ze_157_0 {V : zVt} {J : zJt} {d : Nat → Nat → UInt64} (x1 : Int) (x2 : Int) (x3 : Int) : zGo false 157 0 [.ref 430, .int (zi x1), .int (zi x2), .int (zi x3)] [] (zm V J d) =
    zck (0 ≤ qw (V 430 10) ∧ qw (V 430 10) < (60 : Nat)) (zck (0 ≤ qw ((vup V 433 (qw (V 430 10)) x1) 430 10) ∧ qw ((vup V 433 (qw (V 430 10)) x1) 430 10) < (60 : Nat)) (zck (0 ≤ qw ((vup (vup V 433 (qw (V 430 10)) x1) 435 (qw ((vup V 433 (qw (V 430 10)) x1) 430 10)) x2) 430 10) ∧ qw ((vup (vup V 433 (qw (V 430 10)) x1) 435 (qw ((vup V 433 (qw (V 430 10)) x1) 430 10)) x2) 430 10) < (60 : Nat)) (zck (0 ≤ qw ((vup (vup (vup V 433 (qw (V 430 10)) x1) 435 (qw ((vup V 433 (qw (V 430 10)) x1) 430 10)) x2) 436 (qw ((vup (vup V 433 (qw (V 430 10)) x1) 435 (qw ((vup V 433 (qw (V 430 10)) x1) 430 10)) x2) 430 10)) (0)) 430 10) ∧ qw ((vup (vup (vup V 433 (qw (V 430 10)) x1) 435 (qw ((vup V 433 (qw (V 430 10)) x1) 430 10)) x2) 436 (qw ((vup (vup V 433 (qw (V 430 10)) x1) 435 (qw ((vup V 433 (qw (V 430 10)) x1) 430 10)) x2) 430 10)) (0)) 430 10) < (60 : Nat)) (zck ((0 ≤ qw ((vup (vup (vup (vup V 433 (qw (V 430 10)) x1) 435 (qw ((vup V 433 (qw (V 430 10)) x1) 430 10)) x2) 436 (qw ((vup (vup V 433 (qw (V 430 10)) x1) 435 (qw ((vup V 433 (qw (V 430 10)) x1) 430 10)) x2) 430 10)) (0)) 437 (qw ((vup (vup (vup V 433 (qw (V 430 10)) x1) 435 (qw ((vup V 433 (qw (V 430 10)) x1) 430 10)) x2) 436 (qw ((vup (vup V 433 (qw (V 430 10)) x1) 435 (qw ((vup V 433 (qw (V 430 10)) x1) 430 10)) x2) 430 10)) (0)) 430 10)) (0)) 430 10) ∧ qw ((vup (vup (vup (vup V 433 (qw (V 430 10)) x1) 435 (qw ((vup V 433 (qw (V 430 10)) x1) 430 10)) x2) 436 (qw ((vup (vup V 433 (qw (V 430 10)) x1) 435 (qw ((vup V 433 (qw (V 430 10)) x1) 430 10)) x2) 430 10)) (0)) 437 (qw ((vup (vup (vup V 433 (qw (V 430 10)) x1) 435 (qw ((vup V 433 (qw (V 430 10)) x1) 430 10)) x2) 436 (qw ((vup (vup V 433 (qw (V 430 10)) x1) 435 (qw ((vup V 433 (qw (V 430 10)) x1) 430 10)) x2) 430 10)) (0)) 430 10)) (0)) 430 10) < (60 : Nat)) ∧ (qw (0) = 0 ∨ qw (0) = 1)) (some (.inl (some (.int (zi x3))), zm (vup (vup (vup (vup (vup V 433 (qw (V 430 10)) x1) 435 (qw ((vup V 433 (qw (V 430 10)) x1) 430 10)) x2) 436 (qw ((vup (vup V 433 (qw (V 430 10)) x1) 435 (qw ((vup V 433 (qw (V 430 10)) x1) 430 10)) x2) 430 10)) (0)) 437 (qw ((vup (vup (vup V 433 (qw (V 430 10)) x1) 435 (qw ((vup V 433 (qw (V 430 10)) x1) 430 10)) x2) 436 (qw ((vup (vup V 433 (qw (V 430 10)) x1) 435 (qw ((vup V 433 (qw (V 430 10)) x1) 430 10)) x2) 430 10)) (0)) 430 10)) (0)) 438 (qw ((vup (vup (vup (vup V 433 (qw (V 430 10)) x1) 435 (qw ((vup V 433 (qw (V 430 10)) x1) 430 10)) x2) 436 (qw ((vup (vup V 433 (qw (V 430 10)) x1) 435 (qw ((vup V 433 (qw (V 430 10)) x1) 430 10)) x2) 430 10)) (0)) 437 (qw ((vup (vup (vup V 433 (qw (V 430 10)) x1) 435 (qw ((vup V 433 (qw (V 430 10)) x1) 430 10)) x2) 436 (qw ((vup (vup V 433 (qw (V 430 10)) x1) 435 (qw ((vup V 433 (qw (V 430 10)) x1) 430 10)) x2) 430 10)) (0)) 430 10)) (0)) 430 10)) (0)) J d)))))) := by
  refine (zr_aload_n (n := 0) (x := 430) (by decide +kernel) rfl).trans ?_
  refine (zr_getR (i := 16) (c := 12) (k := 2) (r := 433) (by decide +kernel) (by decide +kernel) rfl (by decide +kernel) (zR0_f (o := 430) (c := 12) (n := 0) (k := 2) (j := 3) rfl (by decide) rfl)).trans ?_
  refine (zr_aload_n (n := 0) (x := 430) (by decide +kernel) rfl).trans ?_
  refine (zr_getI (i := 149) (c := 12) (k := 10) (by decide +kernel) (by decide +kernel) rfl (by decide +kernel)).trans ?_
  refine (zr_iload_n (n := 1) (x := zi x1) (by decide +kernel) rfl).trans ?_
  refine (zr_iast (n := 60) (e := (V 430 10)) (x := x1) (by decide +kernel) rfl).trans (zck_ct fun _ => ?_)
  refine (zr_aload_n (n := 0) (x := 430) (by decide +kernel) rfl).trans ?_
  refine (zr_getR (i := 22) (c := 12) (k := 4) (r := 435) (by decide +kernel) (by decide +kernel) rfl (by decide +kernel) (zR0_f (o := 430) (c := 12) (n := 0) (k := 4) (j := 5) rfl (by decide) rfl)).trans ?_
  refine (zr_aload_n (n := 0) (x := 430) (by decide +kernel) rfl).trans ?_
  refine (zr_getI (i := 149) (c := 12) (k := 10) (by decide +kernel) (by decide +kernel) rfl (by decide +kernel)).trans ?_
  refine (zr_iload_n (n := 2) (x := zi x2) (by decide +kernel) rfl).trans ?_
  refine (zr_iast (n := 60) (e := ((vup V 433 (qw (V 430 10)) x1) 430 10)) (x := x2) (by decide +kernel) rfl).trans (zck_ct fun _ => ?_)
  refine (zr_aload_n (n := 0) (x := 430) (by decide +kernel) rfl).trans ?_
  refine (zr_getR (i := 25) (c := 12) (k := 5) (r := 436) (by decide +kernel) (by decide +kernel) rfl (by decide +kernel) (zR0_f (o := 430) (c := 12) (n := 0) (k := 5) (j := 6) rfl (by decide) rfl)).trans ?_
  refine (zr_aload_n (n := 0) (x := 430) (by decide +kernel) rfl).trans ?_
  refine (zr_getI (i := 149) (c := 12) (k := 10) (by decide +kernel) (by decide +kernel) rfl (by decide +kernel)).trans ?_
  refine (zr_iconst (n := 0) (by decide +kernel)).trans ?_
  refine (zr_iast (n := 60) (e := ((vup (vup V 433 (qw (V 430 10)) x1) 435 (qw ((vup V 433 (qw (V 430 10)) x1) 430 10)) x2) 430 10)) (x := (0)) (by decide +kernel) rfl).trans (zck_ct fun _ => ?_)
  refine (zr_aload_n (n := 0) (x := 430) (by decide +kernel) rfl).trans ?_
  refine (zr_getR (i := 28) (c := 12) (k := 6) (r := 437) (by decide +kernel) (by decide +kernel) rfl (by decide +kernel) (zR0_f (o := 430) (c := 12) (n := 0) (k := 6) (j := 7) rfl (by decide) rfl)).trans ?_
  refine (zr_aload_n (n := 0) (x := 430) (by decide +kernel) rfl).trans ?_
  refine (zr_getI (i := 149) (c := 12) (k := 10) (by decide +kernel) (by decide +kernel) rfl (by decide +kernel)).trans ?_
  refine (zr_iconst (n := 0) (by decide +kernel)).trans ?_
  refine (zr_iast (n := 60) (e := ((vup (vup (vup V 433 (qw (V 430 10)) x1) 435 (qw ((vup V 433 (qw (V 430 10)) x1) 430 10)) x2) 436 (qw ((vup (vup V 433 (qw (V 430 10)) x1) 435 (qw ((vup V 433 (qw (V 430 10)) x1) 430 10)) x2) 430 10)) (0)) 430 10)) (x := (0)) (by decide +kernel) rfl).trans (zck_ct fun _ => ?_)
  refine (zr_aload_n (n := 0) (x := 430) (by decide +kernel) rfl).trans ?_
  refine (zr_getR (i := 31) (c := 12) (k := 7) (r := 438) (by decide +kernel) (by decide +kernel) rfl (by decide +kernel) (zR0_f (o := 430) (c := 12) (n := 0) (k := 7) (j := 8) rfl (by decide) rfl)).trans ?_
  refine (zr_aload_n (n := 0) (x := 430) (by decide +kernel) rfl).trans ?_
  refine (zr_getI (i := 149) (c := 12) (k := 10) (by decide +kernel) (by decide +kernel) rfl (by decide +kernel)).trans ?_
  refine (zr_iconst (n := 0) (by decide +kernel)).trans ?_
  refine (zr_zast (n := 60) (e := ((vup (vup (vup (vup V 433 (qw (V 430 10)) x1) 435 (qw ((vup V 433 (qw (V 430 10)) x1) 430 10)) x2) 436 (qw ((vup (vup V 433 (qw (V 430 10)) x1) 435 (qw ((vup V 433 (qw (V 430 10)) x1) 430 10)) x2) 430 10)) (0)) 437 (qw ((vup (vup (vup V 433 (qw (V 430 10)) x1) 435 (qw ((vup V 433 (qw (V 430 10)) x1) 430 10)) x2) 436 (qw ((vup (vup V 433 (qw (V 430 10)) x1) 435 (qw ((vup V 433 (qw (V 430 10)) x1) 430 10)) x2) 430 10)) (0)) 430 10)) (0)) 430 10)) (x := (0)) (by decide +kernel) rfl).trans (zck_ct fun _ => ?_)
  refine (zr_iload_n (n := 3) (x := zi x3) (by decide +kernel) rfl).trans ?_
  exact zr_iret (a := x3) (by decide +kernel) rfl
/-! PartSongDeskModel isFigure (III)Z -/
theorem ze_158_0 {V : zVt} {J : zJt} {d : Nat → Nat → UInt64} (x0 : Int) (x1 : Int) (x2 : Int) : zGo false 158 0 [.int (zi x0), .int (zi x1), .int (zi x2)] [] (zm V J d) =
    (if qw x0 < qw ((48) + x1) then zGo false 158 20 [.int (zi x0), .int (zi x1), .int (zi x2)] [] (zm V J d) else (if qw ((48) + x2) < qw x0 then zGo false 158 20 [.int (zi x0), .int (zi x1), .int (zi x2)] [] (zm V J d) else zGo false 158 21 [.int (zi x0), .int (zi x1), .int (zi x2)] [.int (zi (1))] (zm V J d))) := by
  refine (zr_iload_n (n := 0) (x := zi x0) (by decide +kernel) rfl).trans ?_
  refine (zr_bipush (n := 48) (by decide +kernel) rfl).trans ?_
  refine (zr_iload_n (n := 1) (x := zi x1) (by decide +kernel) rfl).trans ?_
  refine (zr_iadd (a := (48)) (b := x1) (by decide +kernel)).trans ?_
  refine (zr_clt (off := 15) (a := x0) (b := ((48) + x1)) (t := 20) (by decide +kernel) rfl).trans (zif_ct (fun _ => ?_) (fun _ => ?_))
  · rfl
  · refine (zr_iload_n (n := 0) (x := zi x0) (by decide +kernel) rfl).trans ?_
    refine (zr_bipush (n := 48) (by decide +kernel) rfl).trans ?_
    refine (zr_iload_n (n := 2) (x := zi x2) (by decide +kernel) rfl).trans ?_
    refine (zr_iadd (a := (48)) (b := x2) (by decide +kernel)).trans ?_
    refine (zr_cgt (off := 7) (a := x0) (b := ((48) + x2)) (t := 20) (by decide +kernel) rfl).trans (zif_ct (fun _ => ?_) (fun _ => ?_))
    · rfl
    · refine (zr_iconst (n := 1) (by decide +kernel)).trans ?_
      refine (zr_goto (off := 4) (t := 21) (by decide +kernel) rfl).trans ?_
      rfl
theorem ze_158_20 {V : zVt} {J : zJt} {d : Nat → Nat → UInt64} (x0 : Int) (x1 : Int) (x2 : Int) : zGo false 158 20 [.int (zi x0), .int (zi x1), .int (zi x2)] [] (zm V J d) =
    zGo false 158 21 [.int (zi x0), .int (zi x1), .int (zi x2)] [.int (zi (0))] (zm V J d) := by
  refine (zr_iconst (n := 0) (by decide +kernel)).trans ?_
  rfl
theorem ze_158_21 {V : zVt} {J : zJt} {d : Nat → Nat → UInt64} (x0 : Int) (x1 : Int) (x2 : Int) (s0 : Int) : zGo false 158 21 [.int (zi x0), .int (zi x1), .int (zi x2)] [.int (zi s0)] (zm V J d) =
    zck (qw s0 = 0 ∨ qw s0 = 1) (some (.inl (some (.int (zi s0))), zm V J d)) := by
  exact zr_zret (a := s0) (by decide +kernel) rfl
/-! PartSongDeskModel readMeter (II)I -/
theorem ze_159_0 {V : zVt} {J : zJt} {d : Nat → Nat → UInt64} (x1 : Int) (x2 : Int) : zGo false 159 0 [.ref 430, .int (zi x1), .int (zi x2), .null, .null, .null, .null] [] (zm V J d) =
    (zGo false 155 0 [.ref 430, .int (zi x1), .int (zi (x2 + (1)))] [] (zm V J d)).bind (zGor false 159 8 [.ref 430, .int (zi x1), .int (zi x2), .null, .null, .null, .null] []) := by
  refine (zr_aload_n (n := 0) (x := 430) (by decide +kernel) rfl).trans ?_
  refine (zr_iload_n (n := 1) (x := zi x1) (by decide +kernel) rfl).trans ?_
  refine (zr_iload_n (n := 2) (x := zi x2) (by decide +kernel) rfl).trans ?_
  refine (zr_iconst (n := 1) (by decide +kernel)).trans ?_
  refine (zr_iadd (a := x2) (b := (1)) (by decide +kernel)).trans ?_
  exact zr_cV (i := 152) (z := 155) (w := 0) (o := 430) (t := [.int (zi (x2 + (1))), .int (zi x1)]) (rest := []) (L := [.ref 430, .int (zi x1), .int (zi (x2 + (1)))]) (pc1 := 8) (by decide +kernel) (by decide +kernel) rfl (n := 2) (r := 0) rfl rfl rfl (by decide +kernel) rfl rfl
theorem ze_159_8 {V : zVt} {J : zJt} {d : Nat → Nat → UInt64} (x1 : Int) (x2 : Int) (s0 : Int) : zGo false 159 8 [.ref 430, .int (zi x1), .int (zi x2), .null, .null, .null, .null] [.int (zi s0)] (zm V J d) =
    (zGo false 155 0 [.ref 430, .int (zi x1), .int (zi (x2 + (3)))] [] (zm V J d)).bind (zGor false 159 20 [.ref 430, .int (zi x1), .int (zi x2), .int (zi (s0 - (48))), .null, .null, .null] []) := by
  refine (zr_bipush (n := 48) (by decide +kernel) rfl).trans ?_
  refine (zr_isub (a := s0) (b := (48)) (by decide +kernel)).trans ?_
  refine (zr_istore_n (n := 3) (l1 := [.ref 430, .int (zi x1), .int (zi x2), .int (zi (s0 - (48))), .null, .null, .null]) (by decide +kernel) rfl).trans ?_
  refine (zr_aload_n (n := 0) (x := 430) (by decide +kernel) rfl).trans ?_
  refine (zr_iload_n (n := 1) (x := zi x1) (by decide +kernel) rfl).trans ?_
  refine (zr_iload_n (n := 2) (x := zi x2) (by decide +kernel) rfl).trans ?_
  refine (zr_iconst (n := 3) (by decide +kernel)).trans ?_
  refine (zr_iadd (a := x2) (b := (3)) (by decide +kernel)).trans ?_
  exact zr_cV (i := 152) (z := 155) (w := 0) (o := 430) (t := [.int (zi (x2 + (3))), .int (zi x1)]) (rest := []) (L := [.ref 430, .int (zi x1), .int (zi (x2 + (3)))]) (pc1 := 20) (by decide +kernel) (by decide +kernel) rfl (n := 2) (r := 0) rfl rfl rfl (by decide +kernel) rfl rfl
theorem ze_159_20 {V : zVt} {J : zJt} {d : Nat → Nat → UInt64} (x1 : Int) (x2 : Int) (x3 : Int) (s0 : Int) : zGo false 159 20 [.ref 430, .int (zi x1), .int (zi x2), .int (zi x3), .null, .null, .null] [.int (zi s0)] (zm V J d) =
    (if qw s0 ≠ qw (52) then zGo false 159 38 [.ref 430, .int (zi x1), .int (zi x2), .int (zi x3), .int (zi s0), .null, .null] [.int (zi ((2) * x3))] (zm V J d) else zGo false 159 38 [.ref 430, .int (zi x1), .int (zi x2), .int (zi x3), .int (zi s0), .null, .null] [.int (zi ((4) * x3))] (zm V J d)) := by
  refine (zr_istore (n := 4) (l1 := [.ref 430, .int (zi x1), .int (zi x2), .int (zi x3), .int (zi s0), .null, .null]) (by decide +kernel) rfl).trans ?_
  refine (zr_iload (n := 4) (x := zi s0) (by decide +kernel) rfl).trans ?_
  refine (zr_bipush (n := 52) (by decide +kernel) rfl).trans ?_
  refine (zr_cne (off := 9) (a := s0) (b := (52)) (t := 35) (by decide +kernel) rfl).trans (zif_ct (fun _ => ?_) (fun _ => ?_))
  · refine (zr_iconst (n := 2) (by decide +kernel)).trans ?_
    refine (zr_iload_n (n := 3) (x := zi x3) (by decide +kernel) rfl).trans ?_
    refine (zr_imul (a := (2)) (b := x3) (by decide +kernel)).trans ?_
    rfl
  · refine (zr_iconst (n := 4) (by decide +kernel)).trans ?_
    refine (zr_iload_n (n := 3) (x := zi x3) (by decide +kernel) rfl).trans ?_
    refine (zr_imul (a := (4)) (b := x3) (by decide +kernel)).trans ?_
    refine (zr_goto (off := 6) (t := 38) (by decide +kernel) rfl).trans ?_
    rfl
theorem ze_159_38 {V : zVt} {J : zJt} {d : Nat → Nat → UInt64} (x1 : Int) (x2 : Int) (x3 : Int) (x4 : Int) (s0 : Int) : zGo false 159 38 [.ref 430, .int (zi x1), .int (zi x2), .int (zi x3), .int (zi x4), .null, .null] [.int (zi s0)] (zm V J d) =
    (zGo false 148 0 [.int (zi x3), .int (zi (1)), .int (zi (9))] [] (zm V J d)).bind (zGor false 159 47 [.ref 430, .int (zi x1), .int (zi x2), .int (zi x3), .int (zi x4), .int (zi s0), .null] []) := by
  refine (zr_istore (n := 5) (l1 := [.ref 430, .int (zi x1), .int (zi x2), .int (zi x3), .int (zi x4), .int (zi s0), .null]) (by decide +kernel) rfl).trans ?_
  refine (zr_iload_n (n := 3) (x := zi x3) (by decide +kernel) rfl).trans ?_
  refine (zr_iconst (n := 1) (by decide +kernel)).trans ?_
  refine (zr_bipush (n := 9) (by decide +kernel) rfl).trans ?_
  exact zr_cS (i := 170) (z := 148) (w := 0) (t := [.int (zi (9)), .int (zi (1)), .int (zi x3)]) (rest := []) (L := [.int (zi x3), .int (zi (1)), .int (zi (9))]) (pc1 := 47) (by decide +kernel) (by decide +kernel) (n := 3) (r := 0) rfl rfl rfl (by decide +kernel) rfl rfl
theorem ze_159_47 {V : zVt} {J : zJt} {d : Nat → Nat → UInt64} (x1 : Int) (x2 : Int) (x3 : Int) (x4 : Int) (x5 : Int) (s0 : Int) : zGo false 159 47 [.ref 430, .int (zi x1), .int (zi x2), .int (zi x3), .int (zi x4), .int (zi x5), .null] [.int (zi s0)] (zm V J d) =
    (if qw s0 = 0 then zGo false 159 92 [.ref 430, .int (zi x1), .int (zi x2), .int (zi x3), .int (zi x4), .int (zi x5), .null] [] (zm V J d) else (zGo false 155 0 [.ref 430, .int (zi x1), .int (zi (x2 + (2)))] [] (zm V J d)).bind (zGor false 159 58 [.ref 430, .int (zi x1), .int (zi x2), .int (zi x3), .int (zi x4), .int (zi x5), .null] [])) := by
  refine (zr_ifeq (off := 45) (a := s0) (t := 92) (by decide +kernel) rfl).trans (zif_ct (fun _ => ?_) (fun _ => ?_))
  · rfl
  · refine (zr_aload_n (n := 0) (x := 430) (by decide +kernel) rfl).trans ?_
    refine (zr_iload_n (n := 1) (x := zi x1) (by decide +kernel) rfl).trans ?_
    refine (zr_iload_n (n := 2) (x := zi x2) (by decide +kernel) rfl).trans ?_
    refine (zr_iconst (n := 2) (by decide +kernel)).trans ?_
    refine (zr_iadd (a := x2) (b := (2)) (by decide +kernel)).trans ?_
    exact zr_cV (i := 152) (z := 155) (w := 0) (o := 430) (t := [.int (zi (x2 + (2))), .int (zi x1)]) (rest := []) (L := [.ref 430, .int (zi x1), .int (zi (x2 + (2)))]) (pc1 := 58) (by decide +kernel) (by decide +kernel) rfl (n := 2) (r := 0) rfl rfl rfl (by decide +kernel) rfl rfl
theorem ze_159_58 {V : zVt} {J : zJt} {d : Nat → Nat → UInt64} (x1 : Int) (x2 : Int) (x3 : Int) (x4 : Int) (x5 : Int) (s0 : Int) : zGo false 159 58 [.ref 430, .int (zi x1), .int (zi x2), .int (zi x3), .int (zi x4), .int (zi x5), .null] [.int (zi s0)] (zm V J d) =
    (if qw s0 ≠ qw (47) then zGo false 159 92 [.ref 430, .int (zi x1), .int (zi x2), .int (zi x3), .int (zi x4), .int (zi x5), .null] [] (zm V J d) else (if qw x4 = qw (52) then zGo false 159 77 [.ref 430, .int (zi x1), .int (zi x2), .int (zi x3), .int (zi x4), .int (zi x5), .null] [] (zm V J d) else (if qw x4 ≠ qw (56) then zGo false 159 92 [.ref 430, .int (zi x1), .int (zi x2), .int (zi x3), .int (zi x4), .int (zi x5), .null] [] (zm V J d) else zGo false 159 77 [.ref 430, .int (zi x1), .int (zi x2), .int (zi x3), .int (zi x4), .int (zi x5), .null] [] (zm V J d)))) := by
  refine (zr_bipush (n := 47) (by decide +kernel) rfl).trans ?_
  refine (zr_cne (off := 32) (a := s0) (b := (47)) (t := 92) (by decide +kernel) rfl).trans (zif_ct (fun _ => ?_) (fun _ => ?_))
  · rfl
  · refine (zr_iload (n := 4) (x := zi x4) (by decide +kernel) rfl).trans ?_
    refine (zr_bipush (n := 52) (by decide +kernel) rfl).trans ?_
    refine (zr_ceq (off := 10) (a := x4) (b := (52)) (t := 77) (by decide +kernel) rfl).trans (zif_ct (fun _ => ?_) (fun _ => ?_))
    · rfl
    · refine (zr_iload (n := 4) (x := zi x4) (by decide +kernel) rfl).trans ?_
      refine (zr_bipush (n := 56) (by decide +kernel) rfl).trans ?_
      refine (zr_cne (off := 18) (a := x4) (b := (56)) (t := 92) (by decide +kernel) rfl).trans (zif_ct (fun _ => ?_) (fun _ => ?_))
      · rfl
      · rfl
theorem ze_159_77 {V : zVt} {J : zJt} {d : Nat → Nat → UInt64} (x1 : Int) (x2 : Int) (x3 : Int) (x4 : Int) (x5 : Int) : zGo false 159 77 [.ref 430, .int (zi x1), .int (zi x2), .int (zi x3), .int (zi x4), .int (zi x5), .null] [] (zm V J d) =
    (zGo false 148 0 [.int (zi x5), .int (zi (2)), .int (zi (16))] [] (zm V J d)).bind (zGor false 159 85 [.ref 430, .int (zi x1), .int (zi x2), .int (zi x3), .int (zi x4), .int (zi x5), .null] []) := by
  refine (zr_iload (n := 5) (x := zi x5) (by decide +kernel) rfl).trans ?_
  refine (zr_iconst (n := 2) (by decide +kernel)).trans ?_
  refine (zr_bipush (n := 16) (by decide +kernel) rfl).trans ?_
  exact zr_cS (i := 170) (z := 148) (w := 0) (t := [.int (zi (16)), .int (zi (2)), .int (zi x5)]) (rest := []) (L := [.int (zi x5), .int (zi (2)), .int (zi (16))]) (pc1 := 85) (by decide +kernel) (by decide +kernel) (n := 3) (r := 0) rfl rfl rfl (by decide +kernel) rfl rfl
theorem ze_159_85 {V : zVt} {J : zJt} {d : Nat → Nat → UInt64} (x1 : Int) (x2 : Int) (x3 : Int) (x4 : Int) (x5 : Int) (s0 : Int) : zGo false 159 85 [.ref 430, .int (zi x1), .int (zi x2), .int (zi x3), .int (zi x4), .int (zi x5), .null] [.int (zi s0)] (zm V J d) =
    (if qw s0 = 0 then zGo false 159 92 [.ref 430, .int (zi x1), .int (zi x2), .int (zi x3), .int (zi x4), .int (zi x5), .null] [] (zm V J d) else zGo false 159 93 [.ref 430, .int (zi x1), .int (zi x2), .int (zi x3), .int (zi x4), .int (zi x5), .null] [.int (zi (1))] (zm V J d)) := by
  refine (zr_ifeq (off := 7) (a := s0) (t := 92) (by decide +kernel) rfl).trans (zif_ct (fun _ => ?_) (fun _ => ?_))
  · rfl
  · refine (zr_iconst (n := 1) (by decide +kernel)).trans ?_
    refine (zr_goto (off := 4) (t := 93) (by decide +kernel) rfl).trans ?_
    rfl
theorem ze_159_92 {V : zVt} {J : zJt} {d : Nat → Nat → UInt64} (x1 : Int) (x2 : Int) (x3 : Int) (x4 : Int) (x5 : Int) : zGo false 159 92 [.ref 430, .int (zi x1), .int (zi x2), .int (zi x3), .int (zi x4), .int (zi x5), .null] [] (zm V J d) =
    zGo false 159 93 [.ref 430, .int (zi x1), .int (zi x2), .int (zi x3), .int (zi x4), .int (zi x5), .null] [.int (zi (0))] (zm V J d) := by
  refine (zr_iconst (n := 0) (by decide +kernel)).trans ?_
  rfl
theorem ze_159_93 {V : zVt} {J : zJt} {d : Nat → Nat → UInt64} (x1 : Int) (x2 : Int) (x3 : Int) (x4 : Int) (x5 : Int) (s0 : Int) : zGo false 159 93 [.ref 430, .int (zi x1), .int (zi x2), .int (zi x3), .int (zi x4), .int (zi x5), .null] [.int (zi s0)] (zm V J d) =
    (if qw s0 = 0 then zGo false 159 114 [.ref 430, .int (zi x1), .int (zi x2), .int (zi x3), .int (zi x4), .int (zi x5), .int (zi s0)] [.int (zi (-1))] (zm V J d) else (zGo false 157 0 [.ref 430, .int (zi (2)), .int (zi x5), .int (zi (x2 + (4)))] [] (zm V J d)).bind (zGor false 159 110 [.ref 430, .int (zi x1), .int (zi x2), .int (zi x3), .int (zi x4), .int (zi x5), .int (zi s0)] [])) := by
  refine (zr_istore (n := 6) (l1 := [.ref 430, .int (zi x1), .int (zi x2), .int (zi x3), .int (zi x4), .int (zi x5), .int (zi s0)]) (by decide +kernel) rfl).trans ?_
  refine (zr_iload (n := 6) (x := zi s0) (by decide +kernel) rfl).trans ?_
  refine (zr_ifeq (off := 16) (a := s0) (t := 113) (by decide +kernel) rfl).trans (zif_ct (fun _ => ?_) (fun _ => ?_))
  · refine (zr_iconst (n := -1) (by decide +kernel)).trans ?_
    rfl
  · refine (zr_aload_n (n := 0) (x := 430) (by decide +kernel) rfl).trans ?_
    refine (zr_iconst (n := 2) (by decide +kernel)).trans ?_
    refine (zr_iload (n := 5) (x := zi x5) (by decide +kernel) rfl).trans ?_
    refine (zr_iload_n (n := 2) (x := zi x2) (by decide +kernel) rfl).trans ?_
    refine (zr_iconst (n := 4) (by decide +kernel)).trans ?_
    refine (zr_iadd (a := x2) (b := (4)) (by decide +kernel)).trans ?_
    exact zr_cV (i := 162) (z := 157) (w := 0) (o := 430) (t := [.int (zi (x2 + (4))), .int (zi x5), .int (zi (2))]) (rest := []) (L := [.ref 430, .int (zi (2)), .int (zi x5), .int (zi (x2 + (4)))]) (pc1 := 110) (by decide +kernel) (by decide +kernel) rfl (n := 3) (r := 0) rfl rfl rfl (by decide +kernel) rfl rfl
theorem ze_159_110 {V : zVt} {J : zJt} {d : Nat → Nat → UInt64} (x1 : Int) (x2 : Int) (x3 : Int) (x4 : Int) (x5 : Int) (x6 : Int) (s0 : Int) : zGo false 159 110 [.ref 430, .int (zi x1), .int (zi x2), .int (zi x3), .int (zi x4), .int (zi x5), .int (zi x6)] [.int (zi s0)] (zm V J d) =
    zGo false 159 114 [.ref 430, .int (zi x1), .int (zi x2), .int (zi x3), .int (zi x4), .int (zi x5), .int (zi x6)] [.int (zi s0)] (zm V J d) := by
  refine (zr_goto (off := 4) (t := 114) (by decide +kernel) rfl).trans ?_
  rfl
theorem ze_159_114 {V : zVt} {J : zJt} {d : Nat → Nat → UInt64} (x1 : Int) (x2 : Int) (x3 : Int) (x4 : Int) (x5 : Int) (x6 : Int) (s0 : Int) : zGo false 159 114 [.ref 430, .int (zi x1), .int (zi x2), .int (zi x3), .int (zi x4), .int (zi x5), .int (zi x6)] [.int (zi s0)] (zm V J d) =
    some (.inl (some (.int (zi s0))), zm V J d) := by
  exact zr_iret (a := s0) (by decide +kernel) rfl
/-! PartSongDeskModel readRest (II)I -/
theorem ze_160_0 {V : zVt} {J : zJt} {d : Nat → Nat → UInt64} (x1 : Int) (x2 : Int) : zGo false 160 0 [.ref 430, .int (zi x1), .int (zi x2), .null] [] (zm V J d) =
    (zGo false 161 0 [.ref 430, .int (zi x1), .int (zi (x2 + (1))), .null] [] (zm V J d)).bind (zGor false 160 8 [.ref 430, .int (zi x1), .int (zi x2), .null] []) := by
  refine (zr_aload_n (n := 0) (x := 430) (by decide +kernel) rfl).trans ?_
  refine (zr_iload_n (n := 1) (x := zi x1) (by decide +kernel) rfl).trans ?_
  refine (zr_iload_n (n := 2) (x := zi x2) (by decide +kernel) rfl).trans ?_
  refine (zr_iconst (n := 1) (by decide +kernel)).trans ?_
  refine (zr_iadd (a := x2) (b := (1)) (by decide +kernel)).trans ?_
  exact zr_cV (i := 159) (z := 161) (w := 0) (o := 430) (t := [.int (zi (x2 + (1))), .int (zi x1)]) (rest := []) (L := [.ref 430, .int (zi x1), .int (zi (x2 + (1))), .null]) (pc1 := 8) (by decide +kernel) (by decide +kernel) rfl (n := 2) (r := 0) rfl rfl rfl (by decide +kernel) rfl rfl
theorem ze_160_8 {V : zVt} {J : zJt} {d : Nat → Nat → UInt64} (x1 : Int) (x2 : Int) (s0 : Int) : zGo false 160 8 [.ref 430, .int (zi x1), .int (zi x2), .null] [.int (zi s0)] (zm V J d) =
    (if qw s0 ≠ qw (-1) then (zGo false 157 0 [.ref 430, .int (zi (4)), .int (zi (0)), .int (zi s0)] [] (zm V J d)).bind (zGor false 160 23 [.ref 430, .int (zi x1), .int (zi x2), .int (zi s0)] []) else some (.inl (some (.int (zi (-1)))), zm V J d)) := by
  refine (zr_istore_n (n := 3) (l1 := [.ref 430, .int (zi x1), .int (zi x2), .int (zi s0)]) (by decide +kernel) rfl).trans ?_
  refine (zr_iload_n (n := 3) (x := zi s0) (by decide +kernel) rfl).trans ?_
  refine (zr_iconst (n := -1) (by decide +kernel)).trans ?_
  refine (zr_cne (off := 5) (a := s0) (b := (-1)) (t := 16) (by decide +kernel) rfl).trans (zif_ct (fun _ => ?_) (fun _ => ?_))
  · refine (zr_aload_n (n := 0) (x := 430) (by decide +kernel) rfl).trans ?_
    refine (zr_iconst (n := 4) (by decide +kernel)).trans ?_
    refine (zr_iconst (n := 0) (by decide +kernel)).trans ?_
    refine (zr_iload_n (n := 3) (x := zi s0) (by decide +kernel) rfl).trans ?_
    exact zr_cV (i := 162) (z := 157) (w := 0) (o := 430) (t := [.int (zi s0), .int (zi (0)), .int (zi (4))]) (rest := []) (L := [.ref 430, .int (zi (4)), .int (zi (0)), .int (zi s0)]) (pc1 := 23) (by decide +kernel) (by decide +kernel) rfl (n := 3) (r := 0) rfl rfl rfl (by decide +kernel) rfl rfl
  · refine (zr_iconst (n := -1) (by decide +kernel)).trans ?_
    exact zr_iret (a := (-1)) (by decide +kernel) rfl
theorem ze_160_23 {V : zVt} {J : zJt} {d : Nat → Nat → UInt64} (x1 : Int) (x2 : Int) (x3 : Int) (s0 : Int) : zGo false 160 23 [.ref 430, .int (zi x1), .int (zi x2), .int (zi x3)] [.int (zi s0)] (zm V J d) =
    zck (0 ≤ qw (V 430 10) ∧ qw (V 430 10) < (60 : Nat)) (some (.inl (some (.int (zi x3))), zm (vup V 437 (qw (V 430 10)) (V 430 12)) J d)) := by
  refine (zr_pop (by decide +kernel) rfl).trans ?_
  refine (zr_aload_n (n := 0) (x := 430) (by decide +kernel) rfl).trans ?_
  refine (zr_getR (i := 28) (c := 12) (k := 6) (r := 437) (by decide +kernel) (by decide +kernel) rfl (by decide +kernel) (zR0_f (o := 430) (c := 12) (n := 0) (k := 6) (j := 7) rfl (by decide) rfl)).trans ?_
  refine (zr_aload_n (n := 0) (x := 430) (by decide +kernel) rfl).trans ?_
  refine (zr_getI (i := 149) (c := 12) (k := 10) (by decide +kernel) (by decide +kernel) rfl (by decide +kernel)).trans ?_
  refine (zr_aload_n (n := 0) (x := 430) (by decide +kernel) rfl).trans ?_
  refine (zr_getI (i := 156) (c := 12) (k := 12) (by decide +kernel) (by decide +kernel) rfl (by decide +kernel)).trans ?_
  refine (zr_iast (n := 60) (e := (V 430 10)) (x := (V 430 12)) (by decide +kernel) rfl).trans (zck_ct fun _ => ?_)
  refine (zr_iload_n (n := 3) (x := zi x3) (by decide +kernel) rfl).trans ?_
  exact zr_iret (a := x3) (by decide +kernel) rfl
/-! PartSongDeskModel readLength (II)I -/
theorem ze_161_0 {V : zVt} {J : zJt} {d : Nat → Nat → UInt64} (x1 : Int) (x2 : Int) : zGo false 161 0 [.ref 430, .int (zi x1), .int (zi x2), .null] [] (zm V J d) =
    (zGo false 155 0 [.ref 430, .int (zi x1), .int (zi x2)] [] (zm V J d)).bind (zGor false 161 6 [.ref 430, .int (zi x1), .int (zi x2), .null] []) := by
  refine (zr_aload_n (n := 0) (x := 430) (by decide +kernel) rfl).trans ?_
  refine (zr_iload_n (n := 1) (x := zi x1) (by decide +kernel) rfl).trans ?_
  refine (zr_iload_n (n := 2) (x := zi x2) (by decide +kernel) rfl).trans ?_
  exact zr_cV (i := 152) (z := 155) (w := 0) (o := 430) (t := [.int (zi x2), .int (zi x1)]) (rest := []) (L := [.ref 430, .int (zi x1), .int (zi x2)]) (pc1 := 6) (by decide +kernel) (by decide +kernel) rfl (n := 2) (r := 0) rfl rfl rfl (by decide +kernel) rfl rfl
theorem ze_161_6 {V : zVt} {J : zJt} {d : Nat → Nat → UInt64} (x1 : Int) (x2 : Int) (s0 : Int) : zGo false 161 6 [.ref 430, .int (zi x1), .int (zi x2), .null] [.int (zi s0)] (zm V J d) =
    (if qw s0 ≠ qw (119) then (if qw s0 ≠ qw (104) then (if qw s0 ≠ qw (113) then (if qw s0 ≠ qw (101) then (if qw s0 ≠ qw (115) then zGo false 161 61 [.ref 430, .int (zi x1), .int (zi x2), .int (zi s0)] [.int (zi (0)), .ref 430] (zm V J d) else zGo false 161 61 [.ref 430, .int (zi x1), .int (zi x2), .int (zi s0)] [.int (zi (1)), .ref 430] (zm V J d)) else zGo false 161 61 [.ref 430, .int (zi x1), .int (zi x2), .int (zi s0)] [.int (zi (2)), .ref 430] (zm V J d)) else zGo false 161 61 [.ref 430, .int (zi x1), .int (zi x2), .int (zi s0)] [.int (zi (4)), .ref 430] (zm V J d)) else zGo false 161 61 [.ref 430, .int (zi x1), .int (zi x2), .int (zi s0)] [.int (zi (8)), .ref 430] (zm V J d)) else zGo false 161 61 [.ref 430, .int (zi x1), .int (zi x2), .int (zi s0)] [.int (zi (16)), .ref 430] (zm V J d)) := by
  refine (zr_istore_n (n := 3) (l1 := [.ref 430, .int (zi x1), .int (zi x2), .int (zi s0)]) (by decide +kernel) rfl).trans ?_
  refine (zr_aload_n (n := 0) (x := 430) (by decide +kernel) rfl).trans ?_
  refine (zr_iload_n (n := 3) (x := zi s0) (by decide +kernel) rfl).trans ?_
  refine (zr_bipush (n := 119) (by decide +kernel) rfl).trans ?_
  refine (zr_cne (off := 8) (a := s0) (b := (119)) (t := 19) (by decide +kernel) rfl).trans (zif_ct (fun _ => ?_) (fun _ => ?_))
  · refine (zr_iload_n (n := 3) (x := zi s0) (by decide +kernel) rfl).trans ?_
    refine (zr_bipush (n := 104) (by decide +kernel) rfl).trans ?_
    refine (zr_cne (off := 8) (a := s0) (b := (104)) (t := 30) (by decide +kernel) rfl).trans (zif_ct (fun _ => ?_) (fun _ => ?_))
    · refine (zr_iload_n (n := 3) (x := zi s0) (by decide +kernel) rfl).trans ?_
      refine (zr_bipush (n := 113) (by decide +kernel) rfl).trans ?_
      refine (zr_cne (off := 7) (a := s0) (b := (113)) (t := 40) (by decide +kernel) rfl).trans (zif_ct (fun _ => ?_) (fun _ => ?_))
      · refine (zr_iload_n (n := 3) (x := zi s0) (by decide +kernel) rfl).trans ?_
        refine (zr_bipush (n := 101) (by decide +kernel) rfl).trans ?_
        refine (zr_cne (off := 7) (a := s0) (b := (101)) (t := 50) (by decide +kernel) rfl).trans (zif_ct (fun _ => ?_) (fun _ => ?_))
        · refine (zr_iload_n (n := 3) (x := zi s0) (by decide +kernel) rfl).trans ?_
          refine (zr_bipush (n := 115) (by decide +kernel) rfl).trans ?_
          refine (zr_cne (off := 7) (a := s0) (b := (115)) (t := 60) (by decide +kernel) rfl).trans (zif_ct (fun _ => ?_) (fun _ => ?_))
          · refine (zr_iconst (n := 0) (by decide +kernel)).trans ?_
            rfl
          · refine (zr_iconst (n := 1) (by decide +kernel)).trans ?_
            refine (zr_goto (off := 4) (t := 61) (by decide +kernel) rfl).trans ?_
            rfl
        · refine (zr_iconst (n := 2) (by decide +kernel)).trans ?_
          refine (zr_goto (off := 14) (t := 61) (by decide +kernel) rfl).trans ?_
          rfl
      · refine (zr_iconst (n := 4) (by decide +kernel)).trans ?_
        refine (zr_goto (off := 24) (t := 61) (by decide +kernel) rfl).trans ?_
        rfl
    · refine (zr_bipush (n := 8) (by decide +kernel) rfl).trans ?_
      refine (zr_goto (off := 34) (t := 61) (by decide +kernel) rfl).trans ?_
      rfl
  · refine (zr_bipush (n := 16) (by decide +kernel) rfl).trans ?_
    refine (zr_goto (off := 45) (t := 61) (by decide +kernel) rfl).trans ?_
    rfl
theorem ze_161_61 {V : zVt} {J : zJt} {d : Nat → Nat → UInt64} (x1 : Int) (x2 : Int) (x3 : Int) (s1 : Int) : zGo false 161 61 [.ref 430, .int (zi x1), .int (zi x2), .int (zi x3)] [.int (zi s1), .ref 430] (zm V J d) =
    (if qw ((vup V 430 12 s1) 430 12) ≤ qw (1) then zGo false 161 104 [.ref 430, .int (zi x1), .int (zi x2), .int (zi x3)] [] (zm (vup V 430 12 s1) J d) else (zGo false 155 0 [.ref 430, .int (zi x1), .int (zi (x2 + (1)))] [] (zm (vup V 430 12 s1) J d)).bind (zGor false 161 80 [.ref 430, .int (zi x1), .int (zi x2), .int (zi x3)] [])) := by
  refine (zr_putI (i := 156) (c := 12) (k := 12) (x := s1) (by decide +kernel) (by decide +kernel) rfl (by decide +kernel)).trans ?_
  refine (zr_aload_n (n := 0) (x := 430) (by decide +kernel) rfl).trans ?_
  refine (zr_getI (i := 156) (c := 12) (k := 12) (by decide +kernel) (by decide +kernel) rfl (by decide +kernel)).trans ?_
  refine (zr_iconst (n := 1) (by decide +kernel)).trans ?_
  refine (zr_cle (off := 35) (a := ((vup V 430 12 s1) 430 12)) (b := (1)) (t := 104) (by decide +kernel) rfl).trans (zif_ct (fun _ => ?_) (fun _ => ?_))
  · rfl
  · refine (zr_aload_n (n := 0) (x := 430) (by decide +kernel) rfl).trans ?_
    refine (zr_iload_n (n := 1) (x := zi x1) (by decide +kernel) rfl).trans ?_
    refine (zr_iload_n (n := 2) (x := zi x2) (by decide +kernel) rfl).trans ?_
    refine (zr_iconst (n := 1) (by decide +kernel)).trans ?_
    refine (zr_iadd (a := x2) (b := (1)) (by decide +kernel)).trans ?_
    exact zr_cV (i := 152) (z := 155) (w := 0) (o := 430) (t := [.int (zi (x2 + (1))), .int (zi x1)]) (rest := []) (L := [.ref 430, .int (zi x1), .int (zi (x2 + (1)))]) (pc1 := 80) (by decide +kernel) (by decide +kernel) rfl (n := 2) (r := 0) rfl rfl rfl (by decide +kernel) rfl rfl
theorem ze_161_80 {V : zVt} {J : zJt} {d : Nat → Nat → UInt64} (x1 : Int) (x2 : Int) (x3 : Int) (s0 : Int) : zGo false 161 80 [.ref 430, .int (zi x1), .int (zi x2), .int (zi x3)] [.int (zi s0)] (zm V J d) =
    (if qw s0 ≠ qw (46) then zGo false 161 104 [.ref 430, .int (zi x1), .int (zi x2), .int (zi x3)] [] (zm V J d) else zck (qw (2) ≠ 0) (some (.inl (some (.int (zi (x2 + (2))))), zm (vup V 430 12 ((V 430 12) + (qdiv (V 430 12) (2)))) J d))) := by
  refine (zr_bipush (n := 46) (by decide +kernel) rfl).trans ?_
  refine (zr_cne (off := 22) (a := s0) (b := (46)) (t := 104) (by decide +kernel) rfl).trans (zif_ct (fun _ => ?_) (fun _ => ?_))
  · rfl
  · refine (zr_aload_n (n := 0) (x := 430) (by decide +kernel) rfl).trans ?_
    refine (zr_dup (by decide +kernel) rfl).trans ?_
    refine (zr_getI (i := 156) (c := 12) (k := 12) (by decide +kernel) (by decide +kernel) rfl (by decide +kernel)).trans ?_
    refine (zr_aload_n (n := 0) (x := 430) (by decide +kernel) rfl).trans ?_
    refine (zr_getI (i := 156) (c := 12) (k := 12) (by decide +kernel) (by decide +kernel) rfl (by decide +kernel)).trans ?_
    refine (zr_iconst (n := 2) (by decide +kernel)).trans ?_
    refine (zr_idiv (a := (V 430 12)) (b := (2)) (by decide +kernel)).trans (zck_ct fun _ => ?_)
    refine (zr_iadd (a := (V 430 12)) (b := (qdiv (V 430 12) (2))) (by decide +kernel)).trans ?_
    refine (zr_putI (i := 156) (c := 12) (k := 12) (x := ((V 430 12) + (qdiv (V 430 12) (2)))) (by decide +kernel) (by decide +kernel) rfl (by decide +kernel)).trans ?_
    refine (zr_iload_n (n := 2) (x := zi x2) (by decide +kernel) rfl).trans ?_
    refine (zr_iconst (n := 2) (by decide +kernel)).trans ?_
    refine (zr_iadd (a := x2) (b := (2)) (by decide +kernel)).trans ?_
    exact zr_iret (a := (x2 + (2))) (by decide +kernel) rfl
theorem ze_161_104 {V : zVt} {J : zJt} {d : Nat → Nat → UInt64} (x1 : Int) (x2 : Int) (x3 : Int) : zGo false 161 104 [.ref 430, .int (zi x1), .int (zi x2), .int (zi x3)] [] (zm V J d) =
    (if qw (V 430 12) ≠ 0 then zGo false 161 118 [.ref 430, .int (zi x1), .int (zi x2), .int (zi x3)] [.int (zi (x2 + (1)))] (zm V J d) else zGo false 161 118 [.ref 430, .int (zi x1), .int (zi x2), .int (zi x3)] [.int (zi (-1))] (zm V J d)) := by
  refine (zr_aload_n (n := 0) (x := 430) (by decide +kernel) rfl).trans ?_
  refine (zr_getI (i := 156) (c := 12) (k := 12) (by decide +kernel) (by decide +kernel) rfl (by decide +kernel)).trans ?_
  refine (zr_ifne (off := 7) (a := (V 430 12)) (t := 115) (by decide +kernel) rfl).trans (zif_ct (fun _ => ?_) (fun _ => ?_))
  · refine (zr_iload_n (n := 2) (x := zi x2) (by decide +kernel) rfl).trans ?_
    refine (zr_iconst (n := 1) (by decide +kernel)).trans ?_
    refine (zr_iadd (a := x2) (b := (1)) (by decide +kernel)).trans ?_
    rfl
  · refine (zr_iconst (n := -1) (by decide +kernel)).trans ?_
    refine (zr_goto (off := 6) (t := 118) (by decide +kernel) rfl).trans ?_
    rfl
theorem ze_161_118 {V : zVt} {J : zJt} {d : Nat → Nat → UInt64} (x1 : Int) (x2 : Int) (x3 : Int) (s0 : Int) : zGo false 161 118 [.ref 430, .int (zi x1), .int (zi x2), .int (zi x3)] [.int (zi s0)] (zm V J d) =
    some (.inl (some (.int (zi s0))), zm V J d) := by
  exact zr_iret (a := s0) (by decide +kernel) rfl
/-! PartSongDeskModel readNote (II)I -/
theorem ze_162_0 {V : zVt} {J : zJt} {d : Nat → Nat → UInt64} (x1 : Int) (x2 : Int) : zGo false 162 0 [.ref 430, .int (zi x1), .int (zi x2), .null, .null, .null, .null, .null, .null, .null] [] (zm V J d) =
    (zGo false 155 0 [.ref 430, .int (zi x1), .int (zi x2)] [] (zm V J d)).bind (zGor false 162 8 [.ref 430, .int (zi x1), .int (zi x2), .int (zi x2), .null, .null, .null, .null, .null, .null] []) := by
  refine (zr_iload_n (n := 2) (x := zi x2) (by decide +kernel) rfl).trans ?_
  refine (zr_istore_n (n := 3) (l1 := [.ref 430, .int (zi x1), .int (zi x2), .int (zi x2), .null, .null, .null, .null, .null, .null]) (by decide +kernel) rfl).trans ?_
  refine (zr_aload_n (n := 0) (x := 430) (by decide +kernel) rfl).trans ?_
  refine (zr_iload_n (n := 1) (x := zi x1) (by decide +kernel) rfl).trans ?_
  refine (zr_iload_n (n := 3) (x := zi x2) (by decide +kernel) rfl).trans ?_
  exact zr_cV (i := 152) (z := 155) (w := 0) (o := 430) (t := [.int (zi x2), .int (zi x1)]) (rest := []) (L := [.ref 430, .int (zi x1), .int (zi x2)]) (pc1 := 8) (by decide +kernel) (by decide +kernel) rfl (n := 2) (r := 0) rfl rfl rfl (by decide +kernel) rfl rfl
theorem ze_162_8 {V : zVt} {J : zJt} {d : Nat → Nat → UInt64} (x1 : Int) (x2 : Int) (x3 : Int) (s0 : Int) : zGo false 162 8 [.ref 430, .int (zi x1), .int (zi x2), .int (zi x3), .null, .null, .null, .null, .null, .null] [.int (zi s0)] (zm V J d) =
    (if qw s0 ≠ qw (94) then (if qw s0 ≠ qw (95) then (if qw s0 ≠ qw (61) then zGo false 162 44 [.ref 430, .int (zi x1), .int (zi x2), .int (zi x3), .int (zi s0), .null, .null, .null, .null, .null] [.int (zi (0))] (zm V J d) else zGo false 162 44 [.ref 430, .int (zi x1), .int (zi x2), .int (zi x3), .int (zi s0), .null, .null, .null, .null, .null] [.int (zi (3))] (zm V J d)) else zGo false 162 44 [.ref 430, .int (zi x1), .int (zi x2), .int (zi x3), .int (zi s0), .null, .null, .null, .null, .null] [.int (zi (2))] (zm V J d)) else zGo false 162 44 [.ref 430, .int (zi x1), .int (zi x2), .int (zi x3), .int (zi s0), .null, .null, .null, .null, .null] [.int (zi (1))] (zm V J d)) := by
  refine (zr_istore (n := 4) (l1 := [.ref 430, .int (zi x1), .int (zi x2), .int (zi x3), .int (zi s0), .null, .null, .null, .null, .null]) (by decide +kernel) rfl).trans ?_
  refine (zr_iload (n := 4) (x := zi s0) (by decide +kernel) rfl).trans ?_
  refine (zr_bipush (n := 94) (by decide +kernel) rfl).trans ?_
  refine (zr_cne (off := 7) (a := s0) (b := (94)) (t := 21) (by decide +kernel) rfl).trans (zif_ct (fun _ => ?_) (fun _ => ?_))
  · refine (zr_iload (n := 4) (x := zi s0) (by decide +kernel) rfl).trans ?_
    refine (zr_bipush (n := 95) (by decide +kernel) rfl).trans ?_
    refine (zr_cne (off := 7) (a := s0) (b := (95)) (t := 32) (by decide +kernel) rfl).trans (zif_ct (fun _ => ?_) (fun _ => ?_))
    · refine (zr_iload (n := 4) (x := zi s0) (by decide +kernel) rfl).trans ?_
      refine (zr_bipush (n := 61) (by decide +kernel) rfl).trans ?_
      refine (zr_cne (off := 7) (a := s0) (b := (61)) (t := 43) (by decide +kernel) rfl).trans (zif_ct (fun _ => ?_) (fun _ => ?_))
      · refine (zr_iconst (n := 0) (by decide +kernel)).trans ?_
        rfl
      · refine (zr_iconst (n := 3) (by decide +kernel)).trans ?_
        refine (zr_goto (off := 4) (t := 44) (by decide +kernel) rfl).trans ?_
        rfl
    · refine (zr_iconst (n := 2) (by decide +kernel)).trans ?_
      refine (zr_goto (off := 15) (t := 44) (by decide +kernel) rfl).trans ?_
      rfl
  · refine (zr_iconst (n := 1) (by decide +kernel)).trans ?_
    refine (zr_goto (off := 26) (t := 44) (by decide +kernel) rfl).trans ?_
    rfl
theorem ze_162_44 {V : zVt} {J : zJt} {d : Nat → Nat → UInt64} (x1 : Int) (x2 : Int) (x3 : Int) (x4 : Int) (s0 : Int) : zGo false 162 44 [.ref 430, .int (zi x1), .int (zi x2), .int (zi x3), .int (zi x4), .null, .null, .null, .null, .null] [.int (zi s0)] (zm V J d) =
    (if qw s0 ≤ 0 then zGo false 162 57 [.ref 430, .int (zi x1), .int (zi x2), .int (zi x3), .int (zi x4), .int (zi s0), .null, .null, .null, .null] [.int (zi (0)), .int (zi x3)] (zm V J d) else zGo false 162 57 [.ref 430, .int (zi x1), .int (zi x2), .int (zi x3), .int (zi x4), .int (zi s0), .null, .null, .null, .null] [.int (zi (1)), .int (zi x3)] (zm V J d)) := by
  refine (zr_istore (n := 5) (l1 := [.ref 430, .int (zi x1), .int (zi x2), .int (zi x3), .int (zi x4), .int (zi s0), .null, .null, .null, .null]) (by decide +kernel) rfl).trans ?_
  refine (zr_iload_n (n := 3) (x := zi x3) (by decide +kernel) rfl).trans ?_
  refine (zr_iload (n := 5) (x := zi s0) (by decide +kernel) rfl).trans ?_
  refine (zr_ifle (off := 7) (a := s0) (t := 56) (by decide +kernel) rfl).trans (zif_ct (fun _ => ?_) (fun _ => ?_))
  · refine (zr_iconst (n := 0) (by decide +kernel)).trans ?_
    rfl
  · refine (zr_iconst (n := 1) (by decide +kernel)).trans ?_
    refine (zr_goto (off := 4) (t := 57) (by decide +kernel) rfl).trans ?_
    rfl
theorem ze_162_57 {V : zVt} {J : zJt} {d : Nat → Nat → UInt64} (x1 : Int) (x2 : Int) (x3 : Int) (x4 : Int) (x5 : Int) (s0 : Int) (s1 : Int) : zGo false 162 57 [.ref 430, .int (zi x1), .int (zi x2), .int (zi x3), .int (zi x4), .int (zi x5), .null, .null, .null, .null] [.int (zi s1), .int (zi s0)] (zm V J d) =
    (zGo false 155 0 [.ref 430, .int (zi x1), .int (zi (s0 + s1))] [] (zm V J d)).bind (zGor false 162 65 [.ref 430, .int (zi x1), .int (zi x2), .int (zi (s0 + s1)), .int (zi x4), .int (zi x5), .null, .null, .null, .null] []) := by
  refine (zr_iadd (a := s0) (b := s1) (by decide +kernel)).trans ?_
  refine (zr_istore_n (n := 3) (l1 := [.ref 430, .int (zi x1), .int (zi x2), .int (zi (s0 + s1)), .int (zi x4), .int (zi x5), .null, .null, .null, .null]) (by decide +kernel) rfl).trans ?_
  refine (zr_aload_n (n := 0) (x := 430) (by decide +kernel) rfl).trans ?_
  refine (zr_iload_n (n := 1) (x := zi x1) (by decide +kernel) rfl).trans ?_
  refine (zr_iload_n (n := 3) (x := zi (s0 + s1)) (by decide +kernel) rfl).trans ?_
  exact zr_cV (i := 152) (z := 155) (w := 0) (o := 430) (t := [.int (zi (s0 + s1)), .int (zi x1)]) (rest := []) (L := [.ref 430, .int (zi x1), .int (zi (s0 + s1))]) (pc1 := 65) (by decide +kernel) (by decide +kernel) rfl (n := 2) (r := 0) rfl rfl rfl (by decide +kernel) rfl rfl
theorem ze_162_65 {V : zVt} {J : zJt} {d : Nat → Nat → UInt64} (x1 : Int) (x2 : Int) (x3 : Int) (x4 : Int) (x5 : Int) (s0 : Int) : zGo false 162 65 [.ref 430, .int (zi x1), .int (zi x2), .int (zi x3), .int (zi x4), .int (zi x5), .null, .null, .null, .null] [.int (zi s0)] (zm V J d) =
    (if qw s0 ≠ qw (45) then zGo false 162 75 [.ref 430, .int (zi x1), .int (zi x2), .int (zi x3), .int (zi x4), .int (zi x5), .null, .null, .null, .null] [.int (zi (0))] (zm V J d) else zGo false 162 75 [.ref 430, .int (zi x1), .int (zi x2), .int (zi x3), .int (zi x4), .int (zi x5), .null, .null, .null, .null] [.int (zi (1))] (zm V J d)) := by
  refine (zr_bipush (n := 45) (by decide +kernel) rfl).trans ?_
  refine (zr_cne (off := 7) (a := s0) (b := (45)) (t := 74) (by decide +kernel) rfl).trans (zif_ct (fun _ => ?_) (fun _ => ?_))
  · refine (zr_iconst (n := 0) (by decide +kernel)).trans ?_
    rfl
  · refine (zr_iconst (n := 1) (by decide +kernel)).trans ?_
    refine (zr_goto (off := 4) (t := 75) (by decide +kernel) rfl).trans ?_
    rfl
theorem ze_162_75 {V : zVt} {J : zJt} {d : Nat → Nat → UInt64} (x1 : Int) (x2 : Int) (x3 : Int) (x4 : Int) (x5 : Int) (s0 : Int) : zGo false 162 75 [.ref 430, .int (zi x1), .int (zi x2), .int (zi x3), .int (zi x4), .int (zi x5), .null, .null, .null, .null] [.int (zi s0)] (zm V J d) =
    (if qw s0 = 0 then zGo false 162 88 [.ref 430, .int (zi x1), .int (zi x2), .int (zi x3), .int (zi x4), .int (zi x5), .int (zi s0), .null, .null, .null] [.int (zi (0)), .int (zi x3)] (zm V J d) else zGo false 162 88 [.ref 430, .int (zi x1), .int (zi x2), .int (zi x3), .int (zi x4), .int (zi x5), .int (zi s0), .null, .null, .null] [.int (zi (1)), .int (zi x3)] (zm V J d)) := by
  refine (zr_istore (n := 6) (l1 := [.ref 430, .int (zi x1), .int (zi x2), .int (zi x3), .int (zi x4), .int (zi x5), .int (zi s0), .null, .null, .null]) (by decide +kernel) rfl).trans ?_
  refine (zr_iload_n (n := 3) (x := zi x3) (by decide +kernel) rfl).trans ?_
  refine (zr_iload (n := 6) (x := zi s0) (by decide +kernel) rfl).trans ?_
  refine (zr_ifeq (off := 7) (a := s0) (t := 87) (by decide +kernel) rfl).trans (zif_ct (fun _ => ?_) (fun _ => ?_))
  · refine (zr_iconst (n := 0) (by decide +kernel)).trans ?_
    rfl
  · refine (zr_iconst (n := 1) (by decide +kernel)).trans ?_
    refine (zr_goto (off := 4) (t := 88) (by decide +kernel) rfl).trans ?_
    rfl
theorem ze_162_88 {V : zVt} {J : zJt} {d : Nat → Nat → UInt64} (x1 : Int) (x2 : Int) (x3 : Int) (x4 : Int) (x5 : Int) (x6 : Int) (s0 : Int) (s1 : Int) : zGo false 162 88 [.ref 430, .int (zi x1), .int (zi x2), .int (zi x3), .int (zi x4), .int (zi x5), .int (zi x6), .null, .null, .null] [.int (zi s1), .int (zi s0)] (zm V J d) =
    zGo false 162 96 [.ref 430, .int (zi x1), .int (zi x2), .int (zi (s0 + s1)), .int (zi x4), .int (zi x5), .int (zi x6), .int (zi (s0 + s1)), .int (zi (0)), .null] [] (zm V J d) := by
  refine (zr_iadd (a := s0) (b := s1) (by decide +kernel)).trans ?_
  refine (zr_istore_n (n := 3) (l1 := [.ref 430, .int (zi x1), .int (zi x2), .int (zi (s0 + s1)), .int (zi x4), .int (zi x5), .int (zi x6), .null, .null, .null]) (by decide +kernel) rfl).trans ?_
  refine (zr_iload_n (n := 3) (x := zi (s0 + s1)) (by decide +kernel) rfl).trans ?_
  refine (zr_istore (n := 7) (l1 := [.ref 430, .int (zi x1), .int (zi x2), .int (zi (s0 + s1)), .int (zi x4), .int (zi x5), .int (zi x6), .int (zi (s0 + s1)), .null, .null]) (by decide +kernel) rfl).trans ?_
  refine (zr_iconst (n := 0) (by decide +kernel)).trans ?_
  refine (zr_istore (n := 8) (l1 := [.ref 430, .int (zi x1), .int (zi x2), .int (zi (s0 + s1)), .int (zi x4), .int (zi x5), .int (zi x6), .int (zi (s0 + s1)), .int (zi (0)), .null]) (by decide +kernel) rfl).trans ?_
  rfl
theorem ze_162_96 {V : zVt} {J : zJt} {d : Nat → Nat → UInt64} (x1 : Int) (x2 : Int) (x3 : Int) (x4 : Int) (x5 : Int) (x6 : Int) (x7 : Int) (x8 : Int) : zGo false 162 96 [.ref 430, .int (zi x1), .int (zi x2), .int (zi x3), .int (zi x4), .int (zi x5), .int (zi x6), .int (zi x7), .int (zi x8), .null] [] (zm V J d) =
    (if qw (x7 + (2)) ≤ qw x3 then zGo false 162 142 [.ref 430, .int (zi x1), .int (zi x2), .int (zi x3), .int (zi x4), .int (zi x5), .int (zi x6), .int (zi x7), .int (zi x8), .null] [] (zm V J d) else (zGo false 155 0 [.ref 430, .int (zi x1), .int (zi x3)] [] (zm V J d)).bind (zGor false 162 110 [.ref 430, .int (zi x1), .int (zi x2), .int (zi x3), .int (zi x4), .int (zi x5), .int (zi x6), .int (zi x7), .int (zi x8), .null] [])) := by
  refine (zr_iload_n (n := 3) (x := zi x3) (by decide +kernel) rfl).trans ?_
  refine (zr_iload (n := 7) (x := zi x7) (by decide +kernel) rfl).trans ?_
  refine (zr_iconst (n := 2) (by decide +kernel)).trans ?_
  refine (zr_iadd (a := x7) (b := (2)) (by decide +kernel)).trans ?_
  refine (zr_cge (off := 41) (a := x3) (b := (x7 + (2))) (t := 142) (by decide +kernel) rfl).trans (zif_ct (fun _ => ?_) (fun _ => ?_))
  · rfl
  · refine (zr_aload_n (n := 0) (x := 430) (by decide +kernel) rfl).trans ?_
    refine (zr_iload_n (n := 1) (x := zi x1) (by decide +kernel) rfl).trans ?_
    refine (zr_iload_n (n := 3) (x := zi x3) (by decide +kernel) rfl).trans ?_
    exact zr_cV (i := 152) (z := 155) (w := 0) (o := 430) (t := [.int (zi x3), .int (zi x1)]) (rest := []) (L := [.ref 430, .int (zi x1), .int (zi x3)]) (pc1 := 110) (by decide +kernel) (by decide +kernel) rfl (n := 2) (r := 0) rfl rfl rfl (by decide +kernel) rfl rfl
theorem ze_162_110 {V : zVt} {J : zJt} {d : Nat → Nat → UInt64} (x1 : Int) (x2 : Int) (x3 : Int) (x4 : Int) (x5 : Int) (x6 : Int) (x7 : Int) (x8 : Int) (s0 : Int) : zGo false 162 110 [.ref 430, .int (zi x1), .int (zi x2), .int (zi x3), .int (zi x4), .int (zi x5), .int (zi x6), .int (zi x7), .int (zi x8), .null] [.int (zi s0)] (zm V J d) =
    (zGo false 158 0 [.int (zi s0), .int (zi (0)), .int (zi (9))] [] (zm V J d)).bind (zGor false 162 116 [.ref 430, .int (zi x1), .int (zi x2), .int (zi x3), .int (zi x4), .int (zi x5), .int (zi x6), .int (zi x7), .int (zi x8), .null] []) := by
  refine (zr_iconst (n := 0) (by decide +kernel)).trans ?_
  refine (zr_bipush (n := 9) (by decide +kernel) rfl).trans ?_
  exact zr_cS (i := 166) (z := 158) (w := 0) (t := [.int (zi (9)), .int (zi (0)), .int (zi s0)]) (rest := []) (L := [.int (zi s0), .int (zi (0)), .int (zi (9))]) (pc1 := 116) (by decide +kernel) (by decide +kernel) (n := 3) (r := 0) rfl rfl rfl (by decide +kernel) rfl rfl
theorem ze_162_116 {V : zVt} {J : zJt} {d : Nat → Nat → UInt64} (x1 : Int) (x2 : Int) (x3 : Int) (x4 : Int) (x5 : Int) (x6 : Int) (x7 : Int) (x8 : Int) (s0 : Int) : zGo false 162 116 [.ref 430, .int (zi x1), .int (zi x2), .int (zi x3), .int (zi x4), .int (zi x5), .int (zi x6), .int (zi x7), .int (zi x8), .null] [.int (zi s0)] (zm V J d) =
    (if qw s0 = 0 then zGo false 162 142 [.ref 430, .int (zi x1), .int (zi x2), .int (zi x3), .int (zi x4), .int (zi x5), .int (zi x6), .int (zi x7), .int (zi x8), .null] [] (zm V J d) else (zGo false 155 0 [.ref 430, .int (zi x1), .int (zi x3)] [] (zm V J d)).bind (zGor false 162 130 [.ref 430, .int (zi x1), .int (zi x2), .int (zi x3), .int (zi x4), .int (zi x5), .int (zi x6), .int (zi x7), .int (zi x8), .null] [.int (zi ((10) * x8))])) := by
  refine (zr_ifeq (off := 26) (a := s0) (t := 142) (by decide +kernel) rfl).trans (zif_ct (fun _ => ?_) (fun _ => ?_))
  · rfl
  · refine (zr_bipush (n := 10) (by decide +kernel) rfl).trans ?_
    refine (zr_iload (n := 8) (x := zi x8) (by decide +kernel) rfl).trans ?_
    refine (zr_imul (a := (10)) (b := x8) (by decide +kernel)).trans ?_
    refine (zr_aload_n (n := 0) (x := 430) (by decide +kernel) rfl).trans ?_
    refine (zr_iload_n (n := 1) (x := zi x1) (by decide +kernel) rfl).trans ?_
    refine (zr_iload_n (n := 3) (x := zi x3) (by decide +kernel) rfl).trans ?_
    exact zr_cV (i := 152) (z := 155) (w := 0) (o := 430) (t := [.int (zi x3), .int (zi x1)]) (rest := [.int (zi ((10) * x8))]) (L := [.ref 430, .int (zi x1), .int (zi x3)]) (pc1 := 130) (by decide +kernel) (by decide +kernel) rfl (n := 2) (r := 1) rfl rfl rfl (by decide +kernel) rfl rfl
theorem ze_162_130 {V : zVt} {J : zJt} {d : Nat → Nat → UInt64} (x1 : Int) (x2 : Int) (x3 : Int) (x4 : Int) (x5 : Int) (x6 : Int) (x7 : Int) (x8 : Int) (s0 : Int) (s1 : Int) : zGo false 162 130 [.ref 430, .int (zi x1), .int (zi x2), .int (zi x3), .int (zi x4), .int (zi x5), .int (zi x6), .int (zi x7), .int (zi x8), .null] [.int (zi s1), .int (zi s0)] (zm V J d) =
    zGo false 162 96 [.ref 430, .int (zi x1), .int (zi x2), .int (zi (x3 + 1)), .int (zi x4), .int (zi x5), .int (zi x6), .int (zi x7), .int (zi ((s0 + s1) - (48))), .null] [] (zm V J d) := by
  refine (zr_iadd (a := s0) (b := s1) (by decide +kernel)).trans ?_
  refine (zr_bipush (n := 48) (by decide +kernel) rfl).trans ?_
  refine (zr_isub (a := (s0 + s1)) (b := (48)) (by decide +kernel)).trans ?_
  refine (zr_istore (n := 8) (l1 := [.ref 430, .int (zi x1), .int (zi x2), .int (zi x3), .int (zi x4), .int (zi x5), .int (zi x6), .int (zi x7), .int (zi ((s0 + s1) - (48))), .null]) (by decide +kernel) rfl).trans ?_
  refine (zr_iinc (n := 3) (k := 1) (x := x3) (l1 := [.ref 430, .int (zi x1), .int (zi x2), .int (zi (x3 + 1)), .int (zi x4), .int (zi x5), .int (zi x6), .int (zi x7), .int (zi ((s0 + s1) - (48))), .null]) (by decide +kernel) rfl rfl).trans ?_
  refine (zr_goto (off := -43) (t := 96) (by decide +kernel) rfl).trans ?_
  rfl
theorem ze_162_142 {V : zVt} {J : zJt} {d : Nat → Nat → UInt64} (x1 : Int) (x2 : Int) (x3 : Int) (x4 : Int) (x5 : Int) (x6 : Int) (x7 : Int) (x8 : Int) : zGo false 162 142 [.ref 430, .int (zi x1), .int (zi x2), .int (zi x3), .int (zi x4), .int (zi x5), .int (zi x6), .int (zi x7), .int (zi x8), .null] [] (zm V J d) =
    (if qw x6 = 0 then zGo false 162 155 [.ref 430, .int (zi x1), .int (zi x2), .int (zi x3), .int (zi x4), .int (zi x5), .int (zi x6), .int (zi x7), .int (zi x8), .null] [.int (zi x8)] (zm V J d) else zGo false 162 155 [.ref 430, .int (zi x1), .int (zi x2), .int (zi x3), .int (zi x4), .int (zi x5), .int (zi x6), .int (zi x7), .int (zi x8), .null] [.int (zi (-x8))] (zm V J d)) := by
  refine (zr_iload (n := 6) (x := zi x6) (by decide +kernel) rfl).trans ?_
  refine (zr_ifeq (off := 9) (a := x6) (t := 153) (by decide +kernel) rfl).trans (zif_ct (fun _ => ?_) (fun _ => ?_))
  · refine (zr_iload (n := 8) (x := zi x8) (by decide +kernel) rfl).trans ?_
    rfl
  · refine (zr_iload (n := 8) (x := zi x8) (by decide +kernel) rfl).trans ?_
    refine (zr_ineg (a := x8) (by decide +kernel)).trans ?_
    refine (zr_goto (off := 5) (t := 155) (by decide +kernel) rfl).trans ?_
    rfl
theorem ze_162_155 {V : zVt} {J : zJt} {d : Nat → Nat → UInt64} (x1 : Int) (x2 : Int) (x3 : Int) (x4 : Int) (x5 : Int) (x6 : Int) (x7 : Int) (x8 : Int) (s0 : Int) : zGo false 162 155 [.ref 430, .int (zi x1), .int (zi x2), .int (zi x3), .int (zi x4), .int (zi x5), .int (zi x6), .int (zi x7), .int (zi x8), .null] [.int (zi s0)] (zm V J d) =
    (if qw x3 = qw x7 then zGo false 162 175 [.ref 430, .int (zi x1), .int (zi x2), .int (zi x3), .int (zi x4), .int (zi x5), .int (zi x6), .int (zi x7), .int (zi s0), .null] [] (zm V J d) else (zGo false 148 0 [.int (zi s0), .int (zi (-9)), .int (zi (19))] [] (zm V J d)).bind (zGor false 162 172 [.ref 430, .int (zi x1), .int (zi x2), .int (zi x3), .int (zi x4), .int (zi x5), .int (zi x6), .int (zi x7), .int (zi s0), .null] [])) := by
  refine (zr_istore (n := 8) (l1 := [.ref 430, .int (zi x1), .int (zi x2), .int (zi x3), .int (zi x4), .int (zi x5), .int (zi x6), .int (zi x7), .int (zi s0), .null]) (by decide +kernel) rfl).trans ?_
  refine (zr_iload_n (n := 3) (x := zi x3) (by decide +kernel) rfl).trans ?_
  refine (zr_iload (n := 7) (x := zi x7) (by decide +kernel) rfl).trans ?_
  refine (zr_ceq (off := 15) (a := x3) (b := x7) (t := 175) (by decide +kernel) rfl).trans (zif_ct (fun _ => ?_) (fun _ => ?_))
  · rfl
  · refine (zr_iload (n := 8) (x := zi s0) (by decide +kernel) rfl).trans ?_
    refine (zr_bipush (n := -9) (by decide +kernel) rfl).trans ?_
    refine (zr_bipush (n := 19) (by decide +kernel) rfl).trans ?_
    exact zr_cS (i := 170) (z := 148) (w := 0) (t := [.int (zi (19)), .int (zi (-9)), .int (zi s0)]) (rest := []) (L := [.int (zi s0), .int (zi (-9)), .int (zi (19))]) (pc1 := 172) (by decide +kernel) (by decide +kernel) (n := 3) (r := 0) rfl rfl rfl (by decide +kernel) rfl rfl
theorem ze_162_172 {V : zVt} {J : zJt} {d : Nat → Nat → UInt64} (x1 : Int) (x2 : Int) (x3 : Int) (x4 : Int) (x5 : Int) (x6 : Int) (x7 : Int) (x8 : Int) (s0 : Int) : zGo false 162 172 [.ref 430, .int (zi x1), .int (zi x2), .int (zi x3), .int (zi x4), .int (zi x5), .int (zi x6), .int (zi x7), .int (zi x8), .null] [.int (zi s0)] (zm V J d) =
    (if qw s0 ≠ 0 then (zGo false 161 0 [.ref 430, .int (zi x1), .int (zi x3), .null] [] (zm V J d)).bind (zGor false 162 185 [.ref 430, .int (zi x1), .int (zi x2), .int (zi x3), .int (zi x4), .int (zi x5), .int (zi x6), .int (zi x7), .int (zi x8), .null] []) else zGo false 162 175 [.ref 430, .int (zi x1), .int (zi x2), .int (zi x3), .int (zi x4), .int (zi x5), .int (zi x6), .int (zi x7), .int (zi x8), .null] [] (zm V J d)) := by
  refine (zr_ifne (off := 7) (a := s0) (t := 179) (by decide +kernel) rfl).trans (zif_ct (fun _ => ?_) (fun _ => ?_))
  · refine (zr_aload_n (n := 0) (x := 430) (by decide +kernel) rfl).trans ?_
    refine (zr_iload_n (n := 1) (x := zi x1) (by decide +kernel) rfl).trans ?_
    refine (zr_iload_n (n := 3) (x := zi x3) (by decide +kernel) rfl).trans ?_
    exact zr_cV (i := 159) (z := 161) (w := 0) (o := 430) (t := [.int (zi x3), .int (zi x1)]) (rest := []) (L := [.ref 430, .int (zi x1), .int (zi x3), .null]) (pc1 := 185) (by decide +kernel) (by decide +kernel) rfl (n := 2) (r := 0) rfl rfl rfl (by decide +kernel) rfl rfl
  · rfl
theorem ze_162_175 {V : zVt} {J : zJt} {d : Nat → Nat → UInt64} (x1 : Int) (x2 : Int) (x3 : Int) (x4 : Int) (x5 : Int) (x6 : Int) (x7 : Int) (x8 : Int) : zGo false 162 175 [.ref 430, .int (zi x1), .int (zi x2), .int (zi x3), .int (zi x4), .int (zi x5), .int (zi x6), .int (zi x7), .int (zi x8), .null] [] (zm V J d) =
    zGo false 162 185 [.ref 430, .int (zi x1), .int (zi x2), .int (zi x3), .int (zi x4), .int (zi x5), .int (zi x6), .int (zi x7), .int (zi x8), .null] [.int (zi (-1))] (zm V J d) := by
  refine (zr_iconst (n := -1) (by decide +kernel)).trans ?_
  refine (zr_goto (off := 9) (t := 185) (by decide +kernel) rfl).trans ?_
  rfl
theorem ze_162_185 {V : zVt} {J : zJt} {d : Nat → Nat → UInt64} (x1 : Int) (x2 : Int) (x3 : Int) (x4 : Int) (x5 : Int) (x6 : Int) (x7 : Int) (x8 : Int) (s0 : Int) : zGo false 162 185 [.ref 430, .int (zi x1), .int (zi x2), .int (zi x3), .int (zi x4), .int (zi x5), .int (zi x6), .int (zi x7), .int (zi x8), .null] [.int (zi s0)] (zm V J d) =
    (if qw s0 ≠ qw (-1) then (zGo false 157 0 [.ref 430, .int (zi (3)), .int (zi x8), .int (zi s0)] [] (zm V J d)).bind (zGor false 162 204 [.ref 430, .int (zi x1), .int (zi x2), .int (zi x3), .int (zi x4), .int (zi x5), .int (zi x6), .int (zi x7), .int (zi x8), .int (zi s0)] []) else some (.inl (some (.int (zi (-1)))), zm V J d)) := by
  refine (zr_istore (n := 9) (l1 := [.ref 430, .int (zi x1), .int (zi x2), .int (zi x3), .int (zi x4), .int (zi x5), .int (zi x6), .int (zi x7), .int (zi x8), .int (zi s0)]) (by decide +kernel) rfl).trans ?_
  refine (zr_iload (n := 9) (x := zi s0) (by decide +kernel) rfl).trans ?_
  refine (zr_iconst (n := -1) (by decide +kernel)).trans ?_
  refine (zr_cne (off := 5) (a := s0) (b := (-1)) (t := 195) (by decide +kernel) rfl).trans (zif_ct (fun _ => ?_) (fun _ => ?_))
  · refine (zr_aload_n (n := 0) (x := 430) (by decide +kernel) rfl).trans ?_
    refine (zr_iconst (n := 3) (by decide +kernel)).trans ?_
    refine (zr_iload (n := 8) (x := zi x8) (by decide +kernel) rfl).trans ?_
    refine (zr_iload (n := 9) (x := zi s0) (by decide +kernel) rfl).trans ?_
    exact zr_cV (i := 162) (z := 157) (w := 0) (o := 430) (t := [.int (zi s0), .int (zi x8), .int (zi (3))]) (rest := []) (L := [.ref 430, .int (zi (3)), .int (zi x8), .int (zi s0)]) (pc1 := 204) (by decide +kernel) (by decide +kernel) rfl (n := 3) (r := 0) rfl rfl rfl (by decide +kernel) rfl rfl
  · refine (zr_iconst (n := -1) (by decide +kernel)).trans ?_
    exact zr_iret (a := (-1)) (by decide +kernel) rfl
theorem ze_162_204 {V : zVt} {J : zJt} {d : Nat → Nat → UInt64} (x1 : Int) (x2 : Int) (x3 : Int) (x4 : Int) (x5 : Int) (x6 : Int) (x7 : Int) (x8 : Int) (x9 : Int) (s0 : Int) : zGo false 162 204 [.ref 430, .int (zi x1), .int (zi x2), .int (zi x3), .int (zi x4), .int (zi x5), .int (zi x6), .int (zi x7), .int (zi x8), .int (zi x9)] [.int (zi s0)] (zm V J d) =
    zck (0 ≤ qw (V 430 10) ∧ qw (V 430 10) < (60 : Nat)) (zck (0 ≤ qw ((vup V 436 (qw (V 430 10)) x5) 430 10) ∧ qw ((vup V 436 (qw (V 430 10)) x5) 430 10) < (60 : Nat)) ((zGo false 155 0 [.ref 430, .int (zi x1), .int (zi x9)] [] (zm (vup (vup V 436 (qw (V 430 10)) x5) 437 (qw ((vup V 436 (qw (V 430 10)) x5) 430 10)) ((vup V 436 (qw (V 430 10)) x5) 430 12)) J d)).bind (zGor false 162 244 [.ref 430, .int (zi x1), .int (zi x2), .int (zi x3), .int (zi x4), .int (zi x5), .int (zi x6), .int (zi x7), .int (zi x8), .int (zi x9)] [.int (zi ((vup (vup V 436 (qw (V 430 10)) x5) 437 (qw ((vup V 436 (qw (V 430 10)) x5) 430 10)) ((vup V 436 (qw (V 430 10)) x5) 430 12)) 430 10)), .ref 438]))) := by
  refine (zr_pop (by decide +kernel) rfl).trans ?_
  refine (zr_aload_n (n := 0) (x := 430) (by decide +kernel) rfl).trans ?_
  refine (zr_getR (i := 25) (c := 12) (k := 5) (r := 436) (by decide +kernel) (by decide +kernel) rfl (by decide +kernel) (zR0_f (o := 430) (c := 12) (n := 0) (k := 5) (j := 6) rfl (by decide) rfl)).trans ?_
  refine (zr_aload_n (n := 0) (x := 430) (by decide +kernel) rfl).trans ?_
  refine (zr_getI (i := 149) (c := 12) (k := 10) (by decide +kernel) (by decide +kernel) rfl (by decide +kernel)).trans ?_
  refine (zr_iload (n := 5) (x := zi x5) (by decide +kernel) rfl).trans ?_
  refine (zr_iast (n := 60) (e := (V 430 10)) (x := x5) (by decide +kernel) rfl).trans (zck_ct fun _ => ?_)
  refine (zr_aload_n (n := 0) (x := 430) (by decide +kernel) rfl).trans ?_
  refine (zr_getR (i := 28) (c := 12) (k := 6) (r := 437) (by decide +kernel) (by decide +kernel) rfl (by decide +kernel) (zR0_f (o := 430) (c := 12) (n := 0) (k := 6) (j := 7) rfl (by decide) rfl)).trans ?_
  refine (zr_aload_n (n := 0) (x := 430) (by decide +kernel) rfl).trans ?_
  refine (zr_getI (i := 149) (c := 12) (k := 10) (by decide +kernel) (by decide +kernel) rfl (by decide +kernel)).trans ?_
  refine (zr_aload_n (n := 0) (x := 430) (by decide +kernel) rfl).trans ?_
  refine (zr_getI (i := 156) (c := 12) (k := 12) (by decide +kernel) (by decide +kernel) rfl (by decide +kernel)).trans ?_
  refine (zr_iast (n := 60) (e := ((vup V 436 (qw (V 430 10)) x5) 430 10)) (x := ((vup V 436 (qw (V 430 10)) x5) 430 12)) (by decide +kernel) rfl).trans (zck_ct fun _ => ?_)
  refine (zr_aload_n (n := 0) (x := 430) (by decide +kernel) rfl).trans ?_
  refine (zr_getR (i := 31) (c := 12) (k := 7) (r := 438) (by decide +kernel) (by decide +kernel) rfl (by decide +kernel) (zR0_f (o := 430) (c := 12) (n := 0) (k := 7) (j := 8) rfl (by decide) rfl)).trans ?_
  refine (zr_aload_n (n := 0) (x := 430) (by decide +kernel) rfl).trans ?_
  refine (zr_getI (i := 149) (c := 12) (k := 10) (by decide +kernel) (by decide +kernel) rfl (by decide +kernel)).trans ?_
  refine (zr_aload_n (n := 0) (x := 430) (by decide +kernel) rfl).trans ?_
  refine (zr_iload_n (n := 1) (x := zi x1) (by decide +kernel) rfl).trans ?_
  refine (zr_iload (n := 9) (x := zi x9) (by decide +kernel) rfl).trans ?_
  exact zr_cV (i := 152) (z := 155) (w := 0) (o := 430) (t := [.int (zi x9), .int (zi x1)]) (rest := [.int (zi ((vup (vup V 436 (qw (V 430 10)) x5) 437 (qw ((vup V 436 (qw (V 430 10)) x5) 430 10)) ((vup V 436 (qw (V 430 10)) x5) 430 12)) 430 10)), .ref 438]) (L := [.ref 430, .int (zi x1), .int (zi x9)]) (pc1 := 244) (by decide +kernel) (by decide +kernel) rfl (n := 2) (r := 2) rfl rfl rfl (by decide +kernel) rfl rfl
theorem ze_162_244 {V : zVt} {J : zJt} {d : Nat → Nat → UInt64} (x1 : Int) (x2 : Int) (x3 : Int) (x4 : Int) (x5 : Int) (x6 : Int) (x7 : Int) (x8 : Int) (x9 : Int) (s1 : Int) (s2 : Int) : zGo false 162 244 [.ref 430, .int (zi x1), .int (zi x2), .int (zi x3), .int (zi x4), .int (zi x5), .int (zi x6), .int (zi x7), .int (zi x8), .int (zi x9)] [.int (zi s2), .int (zi s1), .ref 438] (zm V J d) =
    (if qw s2 ≠ qw (126) then zGo false 162 254 [.ref 430, .int (zi x1), .int (zi x2), .int (zi x3), .int (zi x4), .int (zi x5), .int (zi x6), .int (zi x7), .int (zi x8), .int (zi x9)] [.int (zi (0)), .int (zi s1), .ref 438] (zm V J d) else zGo false 162 254 [.ref 430, .int (zi x1), .int (zi x2), .int (zi x3), .int (zi x4), .int (zi x5), .int (zi x6), .int (zi x7), .int (zi x8), .int (zi x9)] [.int (zi (1)), .int (zi s1), .ref 438] (zm V J d)) := by
  refine (zr_bipush (n := 126) (by decide +kernel) rfl).trans ?_
  refine (zr_cne (off := 7) (a := s2) (b := (126)) (t := 253) (by decide +kernel) rfl).trans (zif_ct (fun _ => ?_) (fun _ => ?_))
  · refine (zr_iconst (n := 0) (by decide +kernel)).trans ?_
    rfl
  · refine (zr_iconst (n := 1) (by decide +kernel)).trans ?_
    refine (zr_goto (off := 4) (t := 254) (by decide +kernel) rfl).trans ?_
    rfl
theorem ze_162_254 {V : zVt} {J : zJt} {d : Nat → Nat → UInt64} (x1 : Int) (x2 : Int) (x3 : Int) (x4 : Int) (x5 : Int) (x6 : Int) (x7 : Int) (x8 : Int) (x9 : Int) (s1 : Int) (s2 : Int) : zGo false 162 254 [.ref 430, .int (zi x1), .int (zi x2), .int (zi x3), .int (zi x4), .int (zi x5), .int (zi x6), .int (zi x7), .int (zi x8), .int (zi x9)] [.int (zi s2), .int (zi s1), .ref 438] (zm V J d) =
    zck ((0 ≤ qw s1 ∧ qw s1 < (60 : Nat)) ∧ (qw s2 = 0 ∨ qw s2 = 1)) (zck (0 ≤ qw ((vup V 438 (qw s1) s2) 430 10) ∧ qw ((vup V 438 (qw s1) s2) 430 10) < (60 : Nat)) ((if qw ((vup V 438 (qw s1) s2) 438 (qw ((vup V 438 (qw s1) s2) 430 10))) = 0 then zGo false 162 276 [.ref 430, .int (zi x1), .int (zi x2), .int (zi x3), .int (zi x4), .int (zi x5), .int (zi x6), .int (zi x7), .int (zi x8), .int (zi x9)] [.int (zi x9)] (zm (vup V 438 (qw s1) s2) J d) else zGo false 162 276 [.ref 430, .int (zi x1), .int (zi x2), .int (zi x3), .int (zi x4), .int (zi x5), .int (zi x6), .int (zi x7), .int (zi x8), .int (zi x9)] [.int (zi (x9 + (1)))] (zm (vup V 438 (qw s1) s2) J d)))) := by
  refine (zr_zast (n := 60) (e := s1) (x := s2) (by decide +kernel) rfl).trans (zck_ct fun _ => ?_)
  refine (zr_aload_n (n := 0) (x := 430) (by decide +kernel) rfl).trans ?_
  refine (zr_getR (i := 31) (c := 12) (k := 7) (r := 438) (by decide +kernel) (by decide +kernel) rfl (by decide +kernel) (zR0_f (o := 430) (c := 12) (n := 0) (k := 7) (j := 8) rfl (by decide) rfl)).trans ?_
  refine (zr_aload_n (n := 0) (x := 430) (by decide +kernel) rfl).trans ?_
  refine (zr_getI (i := 149) (c := 12) (k := 10) (by decide +kernel) (by decide +kernel) rfl (by decide +kernel)).trans ?_
  refine (zr_zald (n := 60) (e := ((vup V 438 (qw s1) s2) 430 10)) (by decide +kernel) rfl).trans (zck_ct fun _ => ?_)
  refine (zr_ifeq (off := 10) (a := ((vup V 438 (qw s1) s2) 438 (qw ((vup V 438 (qw s1) s2) 430 10)))) (t := 274) (by decide +kernel) rfl).trans (zif_ct (fun _ => ?_) (fun _ => ?_))
  · refine (zr_iload (n := 9) (x := zi x9) (by decide +kernel) rfl).trans ?_
    rfl
  · refine (zr_iload (n := 9) (x := zi x9) (by decide +kernel) rfl).trans ?_
    refine (zr_iconst (n := 1) (by decide +kernel)).trans ?_
    refine (zr_iadd (a := x9) (b := (1)) (by decide +kernel)).trans ?_
    refine (zr_goto (off := 5) (t := 276) (by decide +kernel) rfl).trans ?_
    rfl
theorem ze_162_276 {V : zVt} {J : zJt} {d : Nat → Nat → UInt64} (x1 : Int) (x2 : Int) (x3 : Int) (x4 : Int) (x5 : Int) (x6 : Int) (x7 : Int) (x8 : Int) (x9 : Int) (s0 : Int) : zGo false 162 276 [.ref 430, .int (zi x1), .int (zi x2), .int (zi x3), .int (zi x4), .int (zi x5), .int (zi x6), .int (zi x7), .int (zi x8), .int (zi x9)] [.int (zi s0)] (zm V J d) =
    some (.inl (some (.int (zi s0))), zm V J d) := by
  exact zr_iret (a := s0) (by decide +kernel) rfl
/-! PartSongDeskModel parse ()V -/
theorem ze_163_0 {V : zVt} {J : zJt} {d : Nat → Nat → UInt64} : zGo false 163 0 [.ref 430, .null] [] (zm V J d) =
    (if qw (V 430 11) ≠ qw (-1) then zGo false 163 14 [.ref 430, .null] [.int (zi (1)), .ref 430] (zm V J d) else zGo false 163 14 [.ref 430, .null] [.int (zi (0)), .ref 430] (zm V J d)) := by
  refine (zr_aload_n (n := 0) (x := 430) (by decide +kernel) rfl).trans ?_
  refine (zr_aload_n (n := 0) (x := 430) (by decide +kernel) rfl).trans ?_
  refine (zr_getI (i := 182) (c := 12) (k := 11) (by decide +kernel) (by decide +kernel) rfl (by decide +kernel)).trans ?_
  refine (zr_iconst (n := -1) (by decide +kernel)).trans ?_
  refine (zr_cne (off := 7) (a := (V 430 11)) (b := (-1)) (t := 13) (by decide +kernel) rfl).trans (zif_ct (fun _ => ?_) (fun _ => ?_))
  · refine (zr_iconst (n := 1) (by decide +kernel)).trans ?_
    rfl
  · refine (zr_iconst (n := 0) (by decide +kernel)).trans ?_
    refine (zr_goto (off := 4) (t := 14) (by decide +kernel) rfl).trans ?_
    rfl
theorem ze_163_14 {V : zVt} {J : zJt} {d : Nat → Nat → UInt64} (s1 : Int) : zGo false 163 14 [.ref 430, .null] [.int (zi s1), .ref 430] (zm V J d) =
    zGo false 163 29 [.ref 430, .int (zi (0))] [] (zm (vup (vup (vup V 430 13 s1) 430 14 (-1)) 430 19 (0)) J d) := by
  refine (zr_putI (i := 191) (c := 12) (k := 13) (x := s1) (by decide +kernel) (by decide +kernel) rfl (by decide +kernel)).trans ?_
  refine (zr_aload_n (n := 0) (x := 430) (by decide +kernel) rfl).trans ?_
  refine (zr_iconst (n := -1) (by decide +kernel)).trans ?_
  refine (zr_putI (i := 194) (c := 12) (k := 14) (x := (-1)) (by decide +kernel) (by decide +kernel) rfl (by decide +kernel)).trans ?_
  refine (zr_aload_n (n := 0) (x := 430) (by decide +kernel) rfl).trans ?_
  refine (zr_iconst (n := 0) (by decide +kernel)).trans ?_
  refine (zr_putI (i := 188) (c := 12) (k := 19) (x := (0)) (by decide +kernel) (by decide +kernel) rfl (by decide +kernel)).trans ?_
  refine (zr_iconst (n := 0) (by decide +kernel)).trans ?_
  refine (zr_istore_n (n := 1) (l1 := [.ref 430, .int (zi (0))]) (by decide +kernel) rfl).trans ?_
  rfl
theorem ze_163_29 {V : zVt} {J : zJt} {d : Nat → Nat → UInt64} (x1 : Int) : zGo false 163 29 [.ref 430, .int (zi x1)] [] (zm V J d) =
    (if qw (V 430 10) ≤ qw x1 then zGo false 163 115 [.ref 430, .int (zi x1)] [] (zm V J d) else (if qw (V 430 13) ≠ 0 then zGo false 163 115 [.ref 430, .int (zi x1)] [] (zm V J d) else (if qw (3) ≤ qw x1 then (zGo false 164 0 [.ref 430, .int (zi x1), .null, .null, .null, .null] [] (zm V J d)).bind (zGor false 163 73 [.ref 430, .int (zi x1)] [.ref 430]) else zck (0 ≤ qw x1 ∧ qw x1 < (60 : Nat)) ((if qw (V 433 (qw x1)) ≠ qw x1 then zGo false 163 73 [.ref 430, .int (zi x1)] [.int (zi (2)), .ref 430] (zm V J d) else zGo false 163 73 [.ref 430, .int (zi x1)] [.int (zi (0)), .ref 430] (zm V J d)))))) := by
  refine (zr_iload_n (n := 1) (x := zi x1) (by decide +kernel) rfl).trans ?_
  refine (zr_aload_n (n := 0) (x := 430) (by decide +kernel) rfl).trans ?_
  refine (zr_getI (i := 149) (c := 12) (k := 10) (by decide +kernel) (by decide +kernel) rfl (by decide +kernel)).trans ?_
  refine (zr_cge (off := 81) (a := x1) (b := (V 430 10)) (t := 115) (by decide +kernel) rfl).trans (zif_ct (fun _ => ?_) (fun _ => ?_))
  · rfl
  · refine (zr_aload_n (n := 0) (x := 430) (by decide +kernel) rfl).trans ?_
    refine (zr_getI (i := 191) (c := 12) (k := 13) (by decide +kernel) (by decide +kernel) rfl (by decide +kernel)).trans ?_
    refine (zr_ifne (off := 74) (a := (V 430 13)) (t := 115) (by decide +kernel) rfl).trans (zif_ct (fun _ => ?_) (fun _ => ?_))
    · rfl
    · refine (zr_aload_n (n := 0) (x := 430) (by decide +kernel) rfl).trans ?_
      refine (zr_iload_n (n := 1) (x := zi x1) (by decide +kernel) rfl).trans ?_
      refine (zr_iconst (n := 3) (by decide +kernel)).trans ?_
      refine (zr_cge (off := 21) (a := x1) (b := (3)) (t := 68) (by decide +kernel) rfl).trans (zif_ct (fun _ => ?_) (fun _ => ?_))
      · refine (zr_aload_n (n := 0) (x := 430) (by decide +kernel) rfl).trans ?_
        refine (zr_iload_n (n := 1) (x := zi x1) (by decide +kernel) rfl).trans ?_
        exact zr_cV (i := 197) (z := 164) (w := 0) (o := 430) (t := [.int (zi x1)]) (rest := [.ref 430]) (L := [.ref 430, .int (zi x1), .null, .null, .null, .null]) (pc1 := 73) (by decide +kernel) (by decide +kernel) rfl (n := 1) (r := 1) rfl rfl rfl (by decide +kernel) rfl rfl
      · refine (zr_aload_n (n := 0) (x := 430) (by decide +kernel) rfl).trans ?_
        refine (zr_getR (i := 16) (c := 12) (k := 2) (r := 433) (by decide +kernel) (by decide +kernel) rfl (by decide +kernel) (zR0_f (o := 430) (c := 12) (n := 0) (k := 2) (j := 3) rfl (by decide) rfl)).trans ?_
        refine (zr_iload_n (n := 1) (x := zi x1) (by decide +kernel) rfl).trans ?_
        refine (zr_iald (n := 60) (e := x1) (by decide +kernel) rfl).trans (zck_ct fun _ => ?_)
        refine (zr_iload_n (n := 1) (x := zi x1) (by decide +kernel) rfl).trans ?_
        refine (zr_cne (off := 7) (a := (V 433 (qw x1))) (b := x1) (t := 64) (by decide +kernel) rfl).trans (zif_ct (fun _ => ?_) (fun _ => ?_))
        · refine (zr_iconst (n := 2) (by decide +kernel)).trans ?_
          refine (zr_goto (off := 8) (t := 73) (by decide +kernel) rfl).trans ?_
          rfl
        · refine (zr_iconst (n := 0) (by decide +kernel)).trans ?_
          refine (zr_goto (off := 12) (t := 73) (by decide +kernel) rfl).trans ?_
          rfl
theorem ze_163_73 {V : zVt} {J : zJt} {d : Nat → Nat → UInt64} (x1 : Int) (s1 : Int) : zGo false 163 73 [.ref 430, .int (zi x1)] [.int (zi s1), .ref 430] (zm V J d) =
    (if qw ((vup V 430 13 s1) 430 13) ≠ 0 then zGo false 163 89 [.ref 430, .int (zi x1)] [.int (zi x1), .ref 430] (zm (vup V 430 13 s1) J d) else zGo false 163 89 [.ref 430, .int (zi x1)] [.int (zi (-1)), .ref 430] (zm (vup V 430 13 s1) J d)) := by
  refine (zr_putI (i := 191) (c := 12) (k := 13) (x := s1) (by decide +kernel) (by decide +kernel) rfl (by decide +kernel)).trans ?_
  refine (zr_aload_n (n := 0) (x := 430) (by decide +kernel) rfl).trans ?_
  refine (zr_aload_n (n := 0) (x := 430) (by decide +kernel) rfl).trans ?_
  refine (zr_getI (i := 191) (c := 12) (k := 13) (by decide +kernel) (by decide +kernel) rfl (by decide +kernel)).trans ?_
  refine (zr_ifne (off := 7) (a := ((vup V 430 13 s1) 430 13)) (t := 88) (by decide +kernel) rfl).trans (zif_ct (fun _ => ?_) (fun _ => ?_))
  · refine (zr_iload_n (n := 1) (x := zi x1) (by decide +kernel) rfl).trans ?_
    rfl
  · refine (zr_iconst (n := -1) (by decide +kernel)).trans ?_
    refine (zr_goto (off := 4) (t := 89) (by decide +kernel) rfl).trans ?_
    rfl
theorem ze_163_89 {V : zVt} {J : zJt} {d : Nat → Nat → UInt64} (x1 : Int) (s1 : Int) : zGo false 163 89 [.ref 430, .int (zi x1)] [.int (zi s1), .ref 430] (zm V J d) =
    (if qw ((vup V 430 14 s1) 430 13) ≠ 0 then zGo false 163 109 [.ref 430, .int (zi x1)] [] (zm (vup V 430 14 s1) J d) else (if qw x1 ≤ qw (2) then zGo false 163 109 [.ref 430, .int (zi x1)] [] (zm (vup V 430 14 s1) J d) else (zGo false 165 0 [.ref 430, .int (zi x1), .null] [] (zm (vup V 430 14 s1) J d)).bind (zGor false 163 109 [.ref 430, .int (zi x1)] []))) := by
  refine (zr_putI (i := 194) (c := 12) (k := 14) (x := s1) (by decide +kernel) (by decide +kernel) rfl (by decide +kernel)).trans ?_
  refine (zr_aload_n (n := 0) (x := 430) (by decide +kernel) rfl).trans ?_
  refine (zr_getI (i := 191) (c := 12) (k := 13) (by decide +kernel) (by decide +kernel) rfl (by decide +kernel)).trans ?_
  refine (zr_ifne (off := 13) (a := ((vup V 430 14 s1) 430 13)) (t := 109) (by decide +kernel) rfl).trans (zif_ct (fun _ => ?_) (fun _ => ?_))
  · rfl
  · refine (zr_iload_n (n := 1) (x := zi x1) (by decide +kernel) rfl).trans ?_
    refine (zr_iconst (n := 2) (by decide +kernel)).trans ?_
    refine (zr_cle (off := 8) (a := x1) (b := (2)) (t := 109) (by decide +kernel) rfl).trans (zif_ct (fun _ => ?_) (fun _ => ?_))
    · rfl
    · refine (zr_aload_n (n := 0) (x := 430) (by decide +kernel) rfl).trans ?_
      refine (zr_iload_n (n := 1) (x := zi x1) (by decide +kernel) rfl).trans ?_
      exact zr_cV (i := 201) (z := 165) (w := 0) (o := 430) (t := [.int (zi x1)]) (rest := []) (L := [.ref 430, .int (zi x1), .null]) (pc1 := 109) (by decide +kernel) (by decide +kernel) rfl (n := 1) (r := 0) rfl rfl rfl (by decide +kernel) rfl rfl
theorem ze_163_109 {V : zVt} {J : zJt} {d : Nat → Nat → UInt64} (x1 : Int) : zGo false 163 109 [.ref 430, .int (zi x1)] [] (zm V J d) =
    zGo false 163 29 [.ref 430, .int (zi (x1 + 1))] [] (zm V J d) := by
  refine (zr_iinc (n := 1) (k := 1) (x := x1) (l1 := [.ref 430, .int (zi (x1 + 1))]) (by decide +kernel) rfl rfl).trans ?_
  refine (zr_goto (off := -83) (t := 29) (by decide +kernel) rfl).trans ?_
  rfl
theorem ze_163_115 {V : zVt} {J : zJt} {d : Nat → Nat → UInt64} (x1 : Int) : zGo false 163 115 [.ref 430, .int (zi x1)] [] (zm V J d) =
    (if qw (V 430 13) ≠ 0 then zGo false 163 155 [.ref 430, .int (zi x1)] [] (zm V J d) else (if qw (V 430 10) < qw (3) then zGo false 163 137 [.ref 430, .int (zi x1)] [] (zm V J d) else (if qw (V 430 19) ≤ 0 then zGo false 163 155 [.ref 430, .int (zi x1)] [] (zm V J d) else zGo false 163 137 [.ref 430, .int (zi x1)] [] (zm V J d)))) := by
  refine (zr_aload_n (n := 0) (x := 430) (by decide +kernel) rfl).trans ?_
  refine (zr_getI (i := 191) (c := 12) (k := 13) (by decide +kernel) (by decide +kernel) rfl (by decide +kernel)).trans ?_
  refine (zr_ifne (off := 36) (a := (V 430 13)) (t := 155) (by decide +kernel) rfl).trans (zif_ct (fun _ => ?_) (fun _ => ?_))
  · rfl
  · refine (zr_aload_n (n := 0) (x := 430) (by decide +kernel) rfl).trans ?_
    refine (zr_getI (i := 149) (c := 12) (k := 10) (by decide +kernel) (by decide +kernel) rfl (by decide +kernel)).trans ?_
    refine (zr_iconst (n := 3) (by decide +kernel)).trans ?_
    refine (zr_clt (off := 10) (a := (V 430 10)) (b := (3)) (t := 137) (by decide +kernel) rfl).trans (zif_ct (fun _ => ?_) (fun _ => ?_))
    · rfl
    · refine (zr_aload_n (n := 0) (x := 430) (by decide +kernel) rfl).trans ?_
      refine (zr_getI (i := 188) (c := 12) (k := 19) (by decide +kernel) (by decide +kernel) rfl (by decide +kernel)).trans ?_
      refine (zr_ifle (off := 21) (a := (V 430 19)) (t := 155) (by decide +kernel) rfl).trans (zif_ct (fun _ => ?_) (fun _ => ?_))
      · rfl
      · rfl
theorem ze_163_137 {V : zVt} {J : zJt} {d : Nat → Nat → UInt64} (x1 : Int) : zGo false 163 137 [.ref 430, .int (zi x1)] [] (zm V J d) =
    (if qw (3) ≤ qw (V 430 10) then zGo false 163 152 [.ref 430, .int (zi x1)] [.int (zi (6)), .ref 430] (zm V J d) else zGo false 163 152 [.ref 430, .int (zi x1)] [.int (zi (2)), .ref 430] (zm V J d)) := by
  refine (zr_aload_n (n := 0) (x := 430) (by decide +kernel) rfl).trans ?_
  refine (zr_aload_n (n := 0) (x := 430) (by decide +kernel) rfl).trans ?_
  refine (zr_getI (i := 149) (c := 12) (k := 10) (by decide +kernel) (by decide +kernel) rfl (by decide +kernel)).trans ?_
  refine (zr_iconst (n := 3) (by decide +kernel)).trans ?_
  refine (zr_cge (off := 7) (a := (V 430 10)) (b := (3)) (t := 150) (by decide +kernel) rfl).trans (zif_ct (fun _ => ?_) (fun _ => ?_))
  · refine (zr_bipush (n := 6) (by decide +kernel) rfl).trans ?_
    rfl
  · refine (zr_iconst (n := 2) (by decide +kernel)).trans ?_
    refine (zr_goto (off := 5) (t := 152) (by decide +kernel) rfl).trans ?_
    rfl
theorem ze_163_152 {V : zVt} {J : zJt} {d : Nat → Nat → UInt64} (x1 : Int) (s1 : Int) : zGo false 163 152 [.ref 430, .int (zi x1)] [.int (zi s1), .ref 430] (zm V J d) =
    zGo false 163 155 [.ref 430, .int (zi x1)] [] (zm (vup V 430 13 s1) J d) := by
  refine (zr_putI (i := 191) (c := 12) (k := 13) (x := s1) (by decide +kernel) (by decide +kernel) rfl (by decide +kernel)).trans ?_
  rfl
theorem ze_163_155 {V : zVt} {J : zJt} {d : Nat → Nat → UInt64} (x1 : Int) : zGo false 163 155 [.ref 430, .int (zi x1)] [] (zm V J d) =
    some (.inl none, zm V J d) := by
  exact zr_vret (by decide +kernel) rfl
/-! PartSongDeskModel faultOf (I)I -/
theorem ze_164_0 {V : zVt} {J : zJt} {d : Nat → Nat → UInt64} (x1 : Int) : zGo false 164 0 [.ref 430, .int (zi x1), .null, .null, .null, .null] [] (zm V J d) =
    zck (0 ≤ qw x1 ∧ qw x1 < (60 : Nat)) ((if qw (V 430 19) ≤ 0 then zGo false 164 35 [.ref 430, .int (zi x1), .int (zi (V 433 (qw x1))), .int (zi ((V 430 19) - (1))), .null, .null] [] (zm V J d) else zck (0 ≤ qw ((V 430 19) - (1)) ∧ qw ((V 430 19) - (1)) < (3 : Nat)) ((if qw (V 444 (qw ((V 430 19) - (1)))) ≠ qw (2) then zGo false 164 35 [.ref 430, .int (zi x1), .int (zi (V 433 (qw x1))), .int (zi ((V 430 19) - (1))), .null, .null] [] (zm V J d) else zGo false 164 36 [.ref 430, .int (zi x1), .int (zi (V 433 (qw x1))), .int (zi ((V 430 19) - (1))), .null, .null] [.int (zi (1))] (zm V J d))))) := by
  refine (zr_aload_n (n := 0) (x := 430) (by decide +kernel) rfl).trans ?_
  refine (zr_getR (i := 16) (c := 12) (k := 2) (r := 433) (by decide +kernel) (by decide +kernel) rfl (by decide +kernel) (zR0_f (o := 430) (c := 12) (n := 0) (k := 2) (j := 3) rfl (by decide) rfl)).trans ?_
  refine (zr_iload_n (n := 1) (x := zi x1) (by decide +kernel) rfl).trans ?_
  refine (zr_iald (n := 60) (e := x1) (by decide +kernel) rfl).trans (zck_ct fun _ => ?_)
  refine (zr_istore_n (n := 2) (l1 := [.ref 430, .int (zi x1), .int (zi (V 433 (qw x1))), .null, .null, .null]) (by decide +kernel) rfl).trans ?_
  refine (zr_aload_n (n := 0) (x := 430) (by decide +kernel) rfl).trans ?_
  refine (zr_getI (i := 188) (c := 12) (k := 19) (by decide +kernel) (by decide +kernel) rfl (by decide +kernel)).trans ?_
  refine (zr_iconst (n := 1) (by decide +kernel)).trans ?_
  refine (zr_isub (a := (V 430 19)) (b := (1)) (by decide +kernel)).trans ?_
  refine (zr_istore_n (n := 3) (l1 := [.ref 430, .int (zi x1), .int (zi (V 433 (qw x1))), .int (zi ((V 430 19) - (1))), .null, .null]) (by decide +kernel) rfl).trans ?_
  refine (zr_aload_n (n := 0) (x := 430) (by decide +kernel) rfl).trans ?_
  refine (zr_getI (i := 188) (c := 12) (k := 19) (by decide +kernel) (by decide +kernel) rfl (by decide +kernel)).trans ?_
  refine (zr_ifle (off := 17) (a := (V 430 19)) (t := 35) (by decide +kernel) rfl).trans (zif_ct (fun _ => ?_) (fun _ => ?_))
  · rfl
  · refine (zr_aload_n (n := 0) (x := 430) (by decide +kernel) rfl).trans ?_
    refine (zr_getR (i := 50) (c := 12) (k := 18) (r := 444) (by decide +kernel) (by decide +kernel) rfl (by decide +kernel) (zR0_f (o := 430) (c := 12) (n := 0) (k := 18) (j := 14) rfl (by decide) rfl)).trans ?_
    refine (zr_iload_n (n := 3) (x := zi ((V 430 19) - (1))) (by decide +kernel) rfl).trans ?_
    refine (zr_iald (n := 3) (e := ((V 430 19) - (1))) (by decide +kernel) rfl).trans (zck_ct fun _ => ?_)
    refine (zr_iconst (n := 2) (by decide +kernel)).trans ?_
    refine (zr_cne (off := 7) (a := (V 444 (qw ((V 430 19) - (1))))) (b := (2)) (t := 35) (by decide +kernel) rfl).trans (zif_ct (fun _ => ?_) (fun _ => ?_))
    · rfl
    · refine (zr_iconst (n := 1) (by decide +kernel)).trans ?_
      refine (zr_goto (off := 4) (t := 36) (by decide +kernel) rfl).trans ?_
      rfl
theorem ze_164_35 {V : zVt} {J : zJt} {d : Nat → Nat → UInt64} (x1 : Int) (x2 : Int) (x3 : Int) : zGo false 164 35 [.ref 430, .int (zi x1), .int (zi x2), .int (zi x3), .null, .null] [] (zm V J d) =
    zGo false 164 36 [.ref 430, .int (zi x1), .int (zi x2), .int (zi x3), .null, .null] [.int (zi (0))] (zm V J d) := by
  refine (zr_iconst (n := 0) (by decide +kernel)).trans ?_
  rfl
theorem ze_164_36 {V : zVt} {J : zJt} {d : Nat → Nat → UInt64} (x1 : Int) (x2 : Int) (x3 : Int) (s0 : Int) : zGo false 164 36 [.ref 430, .int (zi x1), .int (zi x2), .int (zi x3), .null, .null] [.int (zi s0)] (zm V J d) =
    (if qw (V 430 19) ≤ 0 then zGo false 164 59 [.ref 430, .int (zi x1), .int (zi x2), .int (zi x3), .int (zi s0), .null] [] (zm V J d) else zck (0 ≤ qw x3 ∧ qw x3 < (3 : Nat)) ((if qw (V 444 (qw x3)) ≠ qw (1) then zGo false 164 59 [.ref 430, .int (zi x1), .int (zi x2), .int (zi x3), .int (zi s0), .null] [] (zm V J d) else zGo false 164 60 [.ref 430, .int (zi x1), .int (zi x2), .int (zi x3), .int (zi s0), .null] [.int (zi (1))] (zm V J d)))) := by
  refine (zr_istore (n := 4) (l1 := [.ref 430, .int (zi x1), .int (zi x2), .int (zi x3), .int (zi s0), .null]) (by decide +kernel) rfl).trans ?_
  refine (zr_aload_n (n := 0) (x := 430) (by decide +kernel) rfl).trans ?_
  refine (zr_getI (i := 188) (c := 12) (k := 19) (by decide +kernel) (by decide +kernel) rfl (by decide +kernel)).trans ?_
  refine (zr_ifle (off := 17) (a := (V 430 19)) (t := 59) (by decide +kernel) rfl).trans (zif_ct (fun _ => ?_) (fun _ => ?_))
  · rfl
  · refine (zr_aload_n (n := 0) (x := 430) (by decide +kernel) rfl).trans ?_
    refine (zr_getR (i := 50) (c := 12) (k := 18) (r := 444) (by decide +kernel) (by decide +kernel) rfl (by decide +kernel) (zR0_f (o := 430) (c := 12) (n := 0) (k := 18) (j := 14) rfl (by decide) rfl)).trans ?_
    refine (zr_iload_n (n := 3) (x := zi x3) (by decide +kernel) rfl).trans ?_
    refine (zr_iald (n := 3) (e := x3) (by decide +kernel) rfl).trans (zck_ct fun _ => ?_)
    refine (zr_iconst (n := 1) (by decide +kernel)).trans ?_
    refine (zr_cne (off := 7) (a := (V 444 (qw x3))) (b := (1)) (t := 59) (by decide +kernel) rfl).trans (zif_ct (fun _ => ?_) (fun _ => ?_))
    · rfl
    · refine (zr_iconst (n := 1) (by decide +kernel)).trans ?_
      refine (zr_goto (off := 4) (t := 60) (by decide +kernel) rfl).trans ?_
      rfl
theorem ze_164_59 {V : zVt} {J : zJt} {d : Nat → Nat → UInt64} (x1 : Int) (x2 : Int) (x3 : Int) (x4 : Int) : zGo false 164 59 [.ref 430, .int (zi x1), .int (zi x2), .int (zi x3), .int (zi x4), .null] [] (zm V J d) =
    zGo false 164 60 [.ref 430, .int (zi x1), .int (zi x2), .int (zi x3), .int (zi x4), .null] [.int (zi (0))] (zm V J d) := by
  refine (zr_iconst (n := 0) (by decide +kernel)).trans ?_
  rfl
theorem ze_164_60 {V : zVt} {J : zJt} {d : Nat → Nat → UInt64} (x1 : Int) (x2 : Int) (x3 : Int) (x4 : Int) (s0 : Int) : zGo false 164 60 [.ref 430, .int (zi x1), .int (zi x2), .int (zi x3), .int (zi x4), .null] [.int (zi s0)] (zm V J d) =
    (if qw x2 = qw (1) then zGo false 164 89 [.ref 430, .int (zi x1), .int (zi x2), .int (zi x3), .int (zi x4), .int (zi s0)] [] (zm V J d) else (if qw x2 = qw (2) then zGo false 164 89 [.ref 430, .int (zi x1), .int (zi x2), .int (zi x3), .int (zi x4), .int (zi s0)] [] (zm V J d) else (if qw x4 = 0 then zGo false 164 91 [.ref 430, .int (zi x1), .int (zi x2), .int (zi x3), .int (zi x4), .int (zi s0)] [] (zm V J d) else (if qw x2 = qw (8) then zGo false 164 91 [.ref 430, .int (zi x1), .int (zi x2), .int (zi x3), .int (zi x4), .int (zi s0)] [] (zm V J d) else (if qw x2 = qw (7) then zGo false 164 91 [.ref 430, .int (zi x1), .int (zi x2), .int (zi x3), .int (zi x4), .int (zi s0)] [] (zm V J d) else zGo false 164 89 [.ref 430, .int (zi x1), .int (zi x2), .int (zi x3), .int (zi x4), .int (zi s0)] [] (zm V J d)))))) := by
  refine (zr_istore (n := 5) (l1 := [.ref 430, .int (zi x1), .int (zi x2), .int (zi x3), .int (zi x4), .int (zi s0)]) (by decide +kernel) rfl).trans ?_
  refine (zr_iload_n (n := 2) (x := zi x2) (by decide +kernel) rfl).trans ?_
  refine (zr_iconst (n := 1) (by decide +kernel)).trans ?_
  refine (zr_ceq (off := 25) (a := x2) (b := (1)) (t := 89) (by decide +kernel) rfl).trans (zif_ct (fun _ => ?_) (fun _ => ?_))
  · rfl
  · refine (zr_iload_n (n := 2) (x := zi x2) (by decide +kernel) rfl).trans ?_
    refine (zr_iconst (n := 2) (by decide +kernel)).trans ?_
    refine (zr_ceq (off := 20) (a := x2) (b := (2)) (t := 89) (by decide +kernel) rfl).trans (zif_ct (fun _ => ?_) (fun _ => ?_))
    · rfl
    · refine (zr_iload (n := 4) (x := zi x4) (by decide +kernel) rfl).trans ?_
      refine (zr_ifeq (off := 17) (a := x4) (t := 91) (by decide +kernel) rfl).trans (zif_ct (fun _ => ?_) (fun _ => ?_))
      · rfl
      · refine (zr_iload_n (n := 2) (x := zi x2) (by decide +kernel) rfl).trans ?_
        refine (zr_bipush (n := 8) (by decide +kernel) rfl).trans ?_
        refine (zr_ceq (off := 11) (a := x2) (b := (8)) (t := 91) (by decide +kernel) rfl).trans (zif_ct (fun _ => ?_) (fun _ => ?_))
        · rfl
        · refine (zr_iload_n (n := 2) (x := zi x2) (by decide +kernel) rfl).trans ?_
          refine (zr_bipush (n := 7) (by decide +kernel) rfl).trans ?_
          refine (zr_ceq (off := 5) (a := x2) (b := (7)) (t := 91) (by decide +kernel) rfl).trans (zif_ct (fun _ => ?_) (fun _ => ?_))
          · rfl
          · rfl
theorem ze_164_89 {V : zVt} {J : zJt} {d : Nat → Nat → UInt64} (x1 : Int) (x2 : Int) (x3 : Int) (x4 : Int) (x5 : Int) : zGo false 164 89 [.ref 430, .int (zi x1), .int (zi x2), .int (zi x3), .int (zi x4), .int (zi x5)] [] (zm V J d) =
    some (.inl (some (.int (zi (3)))), zm V J d) := by
  refine (zr_iconst (n := 3) (by decide +kernel)).trans ?_
  exact zr_iret (a := (3)) (by decide +kernel) rfl
theorem ze_164_91 {V : zVt} {J : zJt} {d : Nat → Nat → UInt64} (x1 : Int) (x2 : Int) (x3 : Int) (x4 : Int) (x5 : Int) : zGo false 164 91 [.ref 430, .int (zi x1), .int (zi x2), .int (zi x3), .int (zi x4), .int (zi x5)] [] (zm V J d) =
    (if qw x2 ≠ qw (7) then (if qw x2 ≠ qw (9) then (if qw x2 ≠ qw (8) then (if qw x2 = qw (6) then (if qw x5 = 0 then (if qw (V 430 19) ≠ qw (3) then zGo false 164 237 [.ref 430, .int (zi x1), .int (zi x2), .int (zi x3), .int (zi x4), .int (zi x5)] [.int (zi (0))] (zm V J d) else zGo false 164 237 [.ref 430, .int (zi x1), .int (zi x2), .int (zi x3), .int (zi x4), .int (zi x5)] [.int (zi (4))] (zm V J d)) else zGo false 164 237 [.ref 430, .int (zi x1), .int (zi x2), .int (zi x3), .int (zi x4), .int (zi x5)] [.int (zi (3))] (zm V J d)) else zGo false 164 237 [.ref 430, .int (zi x1), .int (zi x2), .int (zi x3), .int (zi x4), .int (zi x5)] [.int (zi (0))] (zm V J d)) else (if qw (V 430 19) = 0 then zGo false 164 178 [.ref 430, .int (zi x1), .int (zi x2), .int (zi x3), .int (zi x4), .int (zi x5)] [] (zm V J d) else (if qw x5 = 0 then zck (0 ≤ qw x1 ∧ qw x1 < (60 : Nat)) (zck (0 ≤ qw x3 ∧ qw x3 < (3 : Nat)) ((if qw (V 435 (qw x1)) = qw ((V 443 (qw x3)) + (1)) then zGo false 164 204 [.ref 430, .int (zi x1), .int (zi x2), .int (zi x3), .int (zi x4), .int (zi x5)] [.int (zi (0))] (zm V J d) else zGo false 164 204 [.ref 430, .int (zi x1), .int (zi x2), .int (zi x3), .int (zi x4), .int (zi x5)] [.int (zi (5))] (zm V J d)))) else zGo false 164 178 [.ref 430, .int (zi x1), .int (zi x2), .int (zi x3), .int (zi x4), .int (zi x5)] [] (zm V J d)))) else (if qw x5 = 0 then zGo false 164 159 [.ref 430, .int (zi x1), .int (zi x2), .int (zi x3), .int (zi x4), .int (zi x5)] [.int (zi (3))] (zm V J d) else zGo false 164 159 [.ref 430, .int (zi x1), .int (zi x2), .int (zi x3), .int (zi x4), .int (zi x5)] [.int (zi (0))] (zm V J d))) else (if qw (V 430 19) = 0 then zGo false 164 109 [.ref 430, .int (zi x1), .int (zi x2), .int (zi x3), .int (zi x4), .int (zi x5)] [] (zm V J d) else (if qw x5 = 0 then zck (0 ≤ qw x3 ∧ qw x3 < (3 : Nat)) ((if qw (V 443 (qw x3)) ≤ 0 then zGo false 164 141 [.ref 430, .int (zi x1), .int (zi x2), .int (zi x3), .int (zi x4), .int (zi x5)] [] (zm V J d) else zck (0 ≤ qw x3 ∧ qw x3 < (3 : Nat)) (zck (0 ≤ qw x1 ∧ qw x1 < (60 : Nat)) ((if qw (V 443 (qw x3)) = qw (V 435 (qw x1)) then zGo false 164 141 [.ref 430, .int (zi x1), .int (zi x2), .int (zi x3), .int (zi x4), .int (zi x5)] [] (zm V J d) else zGo false 164 142 [.ref 430, .int (zi x1), .int (zi x2), .int (zi x3), .int (zi x4), .int (zi x5)] [.int (zi (5))] (zm V J d)))))) else zGo false 164 109 [.ref 430, .int (zi x1), .int (zi x2), .int (zi x3), .int (zi x4), .int (zi x5)] [] (zm V J d)))) := by
  refine (zr_iload_n (n := 2) (x := zi x2) (by decide +kernel) rfl).trans ?_
  refine (zr_bipush (n := 7) (by decide +kernel) rfl).trans ?_
  refine (zr_cne (off := 49) (a := x2) (b := (7)) (t := 143) (by decide +kernel) rfl).trans (zif_ct (fun _ => ?_) (fun _ => ?_))
  · refine (zr_iload_n (n := 2) (x := zi x2) (by decide +kernel) rfl).trans ?_
    refine (zr_bipush (n := 9) (by decide +kernel) rfl).trans ?_
    refine (zr_cne (off := 14) (a := x2) (b := (9)) (t := 160) (by decide +kernel) rfl).trans (zif_ct (fun _ => ?_) (fun _ => ?_))
    · refine (zr_iload_n (n := 2) (x := zi x2) (by decide +kernel) rfl).trans ?_
      refine (zr_bipush (n := 8) (by decide +kernel) rfl).trans ?_
      refine (zr_cne (off := 42) (a := x2) (b := (8)) (t := 205) (by decide +kernel) rfl).trans (zif_ct (fun _ => ?_) (fun _ => ?_))
      · refine (zr_iload_n (n := 2) (x := zi x2) (by decide +kernel) rfl).trans ?_
        refine (zr_bipush (n := 6) (by decide +kernel) rfl).trans ?_
        refine (zr_ceq (off := 7) (a := x2) (b := (6)) (t := 215) (by decide +kernel) rfl).trans (zif_ct (fun _ => ?_) (fun _ => ?_))
        · refine (zr_iload (n := 5) (x := zi x5) (by decide +kernel) rfl).trans ?_
          refine (zr_ifeq (off := 7) (a := x5) (t := 224) (by decide +kernel) rfl).trans (zif_ct (fun _ => ?_) (fun _ => ?_))
          · refine (zr_aload_n (n := 0) (x := 430) (by decide +kernel) rfl).trans ?_
            refine (zr_getI (i := 188) (c := 12) (k := 19) (by decide +kernel) (by decide +kernel) rfl (by decide +kernel)).trans ?_
            refine (zr_iconst (n := 3) (by decide +kernel)).trans ?_
            refine (zr_cne (off := 7) (a := (V 430 19)) (b := (3)) (t := 236) (by decide +kernel) rfl).trans (zif_ct (fun _ => ?_) (fun _ => ?_))
            · refine (zr_iconst (n := 0) (by decide +kernel)).trans ?_
              rfl
            · refine (zr_iconst (n := 4) (by decide +kernel)).trans ?_
              refine (zr_goto (off := 4) (t := 237) (by decide +kernel) rfl).trans ?_
              rfl
          · refine (zr_iconst (n := 3) (by decide +kernel)).trans ?_
            refine (zr_goto (off := 16) (t := 237) (by decide +kernel) rfl).trans ?_
            rfl
        · refine (zr_iconst (n := 0) (by decide +kernel)).trans ?_
          refine (zr_goto (off := 25) (t := 237) (by decide +kernel) rfl).trans ?_
          rfl
      · refine (zr_aload_n (n := 0) (x := 430) (by decide +kernel) rfl).trans ?_
        refine (zr_getI (i := 188) (c := 12) (k := 19) (by decide +kernel) (by decide +kernel) rfl (by decide +kernel)).trans ?_
        refine (zr_ifeq (off := 8) (a := (V 430 19)) (t := 178) (by decide +kernel) rfl).trans (zif_ct (fun _ => ?_) (fun _ => ?_))
        · rfl
        · refine (zr_iload (n := 5) (x := zi x5) (by decide +kernel) rfl).trans ?_
          refine (zr_ifeq (off := 7) (a := x5) (t := 182) (by decide +kernel) rfl).trans (zif_ct (fun _ => ?_) (fun _ => ?_))
          · refine (zr_aload_n (n := 0) (x := 430) (by decide +kernel) rfl).trans ?_
            refine (zr_getR (i := 22) (c := 12) (k := 4) (r := 435) (by decide +kernel) (by decide +kernel) rfl (by decide +kernel) (zR0_f (o := 430) (c := 12) (n := 0) (k := 4) (j := 5) rfl (by decide) rfl)).trans ?_
            refine (zr_iload_n (n := 1) (x := zi x1) (by decide +kernel) rfl).trans ?_
            refine (zr_iald (n := 60) (e := x1) (by decide +kernel) rfl).trans (zck_ct fun _ => ?_)
            refine (zr_aload_n (n := 0) (x := 430) (by decide +kernel) rfl).trans ?_
            refine (zr_getR (i := 47) (c := 12) (k := 17) (r := 443) (by decide +kernel) (by decide +kernel) rfl (by decide +kernel) (zR0_f (o := 430) (c := 12) (n := 0) (k := 17) (j := 13) rfl (by decide) rfl)).trans ?_
            refine (zr_iload_n (n := 3) (x := zi x3) (by decide +kernel) rfl).trans ?_
            refine (zr_iald (n := 3) (e := x3) (by decide +kernel) rfl).trans (zck_ct fun _ => ?_)
            refine (zr_iconst (n := 1) (by decide +kernel)).trans ?_
            refine (zr_iadd (a := (V 443 (qw x3))) (b := (1)) (by decide +kernel)).trans ?_
            refine (zr_ceq (off := 7) (a := (V 435 (qw x1))) (b := ((V 443 (qw x3)) + (1))) (t := 203) (by decide +kernel) rfl).trans (zif_ct (fun _ => ?_) (fun _ => ?_))
            · refine (zr_iconst (n := 0) (by decide +kernel)).trans ?_
              rfl
            · refine (zr_iconst (n := 5) (by decide +kernel)).trans ?_
              refine (zr_goto (off := 4) (t := 204) (by decide +kernel) rfl).trans ?_
              rfl
          · rfl
    · refine (zr_iload (n := 5) (x := zi x5) (by decide +kernel) rfl).trans ?_
      refine (zr_ifeq (off := 7) (a := x5) (t := 158) (by decide +kernel) rfl).trans (zif_ct (fun _ => ?_) (fun _ => ?_))
      · refine (zr_iconst (n := 3) (by decide +kernel)).trans ?_
        rfl
      · refine (zr_iconst (n := 0) (by decide +kernel)).trans ?_
        refine (zr_goto (off := 4) (t := 159) (by decide +kernel) rfl).trans ?_
        rfl
  · refine (zr_aload_n (n := 0) (x := 430) (by decide +kernel) rfl).trans ?_
    refine (zr_getI (i := 188) (c := 12) (k := 19) (by decide +kernel) (by decide +kernel) rfl (by decide +kernel)).trans ?_
    refine (zr_ifeq (off := 8) (a := (V 430 19)) (t := 109) (by decide +kernel) rfl).trans (zif_ct (fun _ => ?_) (fun _ => ?_))
    · rfl
    · refine (zr_iload (n := 5) (x := zi x5) (by decide +kernel) rfl).trans ?_
      refine (zr_ifeq (off := 7) (a := x5) (t := 113) (by decide +kernel) rfl).trans (zif_ct (fun _ => ?_) (fun _ => ?_))
      · refine (zr_aload_n (n := 0) (x := 430) (by decide +kernel) rfl).trans ?_
        refine (zr_getR (i := 47) (c := 12) (k := 17) (r := 443) (by decide +kernel) (by decide +kernel) rfl (by decide +kernel) (zR0_f (o := 430) (c := 12) (n := 0) (k := 17) (j := 13) rfl (by decide) rfl)).trans ?_
        refine (zr_iload_n (n := 3) (x := zi x3) (by decide +kernel) rfl).trans ?_
        refine (zr_iald (n := 3) (e := x3) (by decide +kernel) rfl).trans (zck_ct fun _ => ?_)
        refine (zr_ifle (off := 22) (a := (V 443 (qw x3))) (t := 141) (by decide +kernel) rfl).trans (zif_ct (fun _ => ?_) (fun _ => ?_))
        · rfl
        · refine (zr_aload_n (n := 0) (x := 430) (by decide +kernel) rfl).trans ?_
          refine (zr_getR (i := 47) (c := 12) (k := 17) (r := 443) (by decide +kernel) (by decide +kernel) rfl (by decide +kernel) (zR0_f (o := 430) (c := 12) (n := 0) (k := 17) (j := 13) rfl (by decide) rfl)).trans ?_
          refine (zr_iload_n (n := 3) (x := zi x3) (by decide +kernel) rfl).trans ?_
          refine (zr_iald (n := 3) (e := x3) (by decide +kernel) rfl).trans (zck_ct fun _ => ?_)
          refine (zr_aload_n (n := 0) (x := 430) (by decide +kernel) rfl).trans ?_
          refine (zr_getR (i := 22) (c := 12) (k := 4) (r := 435) (by decide +kernel) (by decide +kernel) rfl (by decide +kernel) (zR0_f (o := 430) (c := 12) (n := 0) (k := 4) (j := 5) rfl (by decide) rfl)).trans ?_
          refine (zr_iload_n (n := 1) (x := zi x1) (by decide +kernel) rfl).trans ?_
          refine (zr_iald (n := 60) (e := x1) (by decide +kernel) rfl).trans (zck_ct fun _ => ?_)
          refine (zr_ceq (off := 7) (a := (V 443 (qw x3))) (b := (V 435 (qw x1))) (t := 141) (by decide +kernel) rfl).trans (zif_ct (fun _ => ?_) (fun _ => ?_))
          · rfl
          · refine (zr_iconst (n := 5) (by decide +kernel)).trans ?_
            refine (zr_goto (off := 4) (t := 142) (by decide +kernel) rfl).trans ?_
            rfl
      · rfl
theorem ze_164_109 {V : zVt} {J : zJt} {d : Nat → Nat → UInt64} (x1 : Int) (x2 : Int) (x3 : Int) (x4 : Int) (x5 : Int) : zGo false 164 109 [.ref 430, .int (zi x1), .int (zi x2), .int (zi x3), .int (zi x4), .int (zi x5)] [] (zm V J d) =
    zGo false 164 142 [.ref 430, .int (zi x1), .int (zi x2), .int (zi x3), .int (zi x4), .int (zi x5)] [.int (zi (3))] (zm V J d) := by
  refine (zr_iconst (n := 3) (by decide +kernel)).trans ?_
  refine (zr_goto (off := 32) (t := 142) (by decide +kernel) rfl).trans ?_
  rfl
theorem ze_164_141 {V : zVt} {J : zJt} {d : Nat → Nat → UInt64} (x1 : Int) (x2 : Int) (x3 : Int) (x4 : Int) (x5 : Int) : zGo false 164 141 [.ref 430, .int (zi x1), .int (zi x2), .int (zi x3), .int (zi x4), .int (zi x5)] [] (zm V J d) =
    zGo false 164 142 [.ref 430, .int (zi x1), .int (zi x2), .int (zi x3), .int (zi x4), .int (zi x5)] [.int (zi (0))] (zm V J d) := by
  refine (zr_iconst (n := 0) (by decide +kernel)).trans ?_
  rfl
theorem ze_164_142 {V : zVt} {J : zJt} {d : Nat → Nat → UInt64} (x1 : Int) (x2 : Int) (x3 : Int) (x4 : Int) (x5 : Int) (s0 : Int) : zGo false 164 142 [.ref 430, .int (zi x1), .int (zi x2), .int (zi x3), .int (zi x4), .int (zi x5)] [.int (zi s0)] (zm V J d) =
    some (.inl (some (.int (zi s0))), zm V J d) := by
  exact zr_iret (a := s0) (by decide +kernel) rfl
theorem ze_164_159 {V : zVt} {J : zJt} {d : Nat → Nat → UInt64} (x1 : Int) (x2 : Int) (x3 : Int) (x4 : Int) (x5 : Int) (s0 : Int) : zGo false 164 159 [.ref 430, .int (zi x1), .int (zi x2), .int (zi x3), .int (zi x4), .int (zi x5)] [.int (zi s0)] (zm V J d) =
    some (.inl (some (.int (zi s0))), zm V J d) := by
  exact zr_iret (a := s0) (by decide +kernel) rfl
theorem ze_164_178 {V : zVt} {J : zJt} {d : Nat → Nat → UInt64} (x1 : Int) (x2 : Int) (x3 : Int) (x4 : Int) (x5 : Int) : zGo false 164 178 [.ref 430, .int (zi x1), .int (zi x2), .int (zi x3), .int (zi x4), .int (zi x5)] [] (zm V J d) =
    zGo false 164 204 [.ref 430, .int (zi x1), .int (zi x2), .int (zi x3), .int (zi x4), .int (zi x5)] [.int (zi (3))] (zm V J d) := by
  refine (zr_iconst (n := 3) (by decide +kernel)).trans ?_
  refine (zr_goto (off := 25) (t := 204) (by decide +kernel) rfl).trans ?_
  rfl
theorem ze_164_204 {V : zVt} {J : zJt} {d : Nat → Nat → UInt64} (x1 : Int) (x2 : Int) (x3 : Int) (x4 : Int) (x5 : Int) (s0 : Int) : zGo false 164 204 [.ref 430, .int (zi x1), .int (zi x2), .int (zi x3), .int (zi x4), .int (zi x5)] [.int (zi s0)] (zm V J d) =
    some (.inl (some (.int (zi s0))), zm V J d) := by
  exact zr_iret (a := s0) (by decide +kernel) rfl
theorem ze_164_237 {V : zVt} {J : zJt} {d : Nat → Nat → UInt64} (x1 : Int) (x2 : Int) (x3 : Int) (x4 : Int) (x5 : Int) (s0 : Int) : zGo false 164 237 [.ref 430, .int (zi x1), .int (zi x2), .int (zi x3), .int (zi x4), .int (zi x5)] [.int (zi s0)] (zm V J d) =
    some (.inl (some (.int (zi s0))), zm V J d) := by
  exact zr_iret (a := s0) (by decide +kernel) rfl
/-! PartSongDeskModel follows (I)V -/
theorem ze_165_0 {V : zVt} {J : zJt} {d : Nat → Nat → UInt64} (x1 : Int) : zGo false 165 0 [.ref 430, .int (zi x1), .null] [] (zm V J d) =
    zck (0 ≤ qw x1 ∧ qw x1 < (60 : Nat)) ((if qw (V 433 (qw x1)) ≠ qw (6) then (if qw (V 433 (qw x1)) ≠ qw (7) then (if qw (V 433 (qw x1)) ≠ qw (8) then (if qw (V 433 (qw x1)) ≠ qw (9) then zGo false 165 175 [.ref 430, .int (zi x1), .int (zi (V 433 (qw x1)))] [] (zm V J d) else zck (0 ≤ qw ((V 430 19) - (1)) ∧ qw ((V 430 19) - (1)) < (3 : Nat)) (zck (0 ≤ qw (((vup V 444 (qw ((V 430 19) - (1))) (2)) 430 19) - (1)) ∧ qw (((vup V 444 (qw ((V 430 19) - (1))) (2)) 430 19) - (1)) < (3 : Nat)) (zck (0 ≤ qw ((vup V 444 (qw ((V 430 19) - (1))) (2)) 442 (qw (((vup V 444 (qw ((V 430 19) - (1))) (2)) 430 19) - (1)))) ∧ qw ((vup V 444 (qw ((V 430 19) - (1))) (2)) 442 (qw (((vup V 444 (qw ((V 430 19) - (1))) (2)) 430 19) - (1)))) < (60 : Nat)) (zGo false 165 175 [.ref 430, .int (zi x1), .int (zi (V 433 (qw x1)))] [] (zm (vup (vup V 444 (qw ((V 430 19) - (1))) (2)) 440 (qw ((vup V 444 (qw ((V 430 19) - (1))) (2)) 442 (qw (((vup V 444 (qw ((V 430 19) - (1))) (2)) 430 19) - (1))))) x1) J d))))) else zck (0 ≤ qw x1 ∧ qw x1 < (60 : Nat)) (zck (0 ≤ qw ((V 430 19) - (1)) ∧ qw ((V 430 19) - (1)) < (3 : Nat)) (zck (0 ≤ qw (((vup V 443 (qw ((V 430 19) - (1))) (V 435 (qw x1))) 430 19) - (1)) ∧ qw (((vup V 443 (qw ((V 430 19) - (1))) (V 435 (qw x1))) 430 19) - (1)) < (3 : Nat)) (zck (0 ≤ qw (((vup (vup V 443 (qw ((V 430 19) - (1))) (V 435 (qw x1))) 444 (qw (((vup V 443 (qw ((V 430 19) - (1))) (V 435 (qw x1))) 430 19) - (1))) (1)) 430 19) - (1)) ∧ qw (((vup (vup V 443 (qw ((V 430 19) - (1))) (V 435 (qw x1))) 444 (qw (((vup V 443 (qw ((V 430 19) - (1))) (V 435 (qw x1))) 430 19) - (1))) (1)) 430 19) - (1)) < (3 : Nat)) (zGo false 165 175 [.ref 430, .int (zi x1), .int (zi (V 433 (qw x1)))] [] (zm (vup (vup (vup V 443 (qw ((V 430 19) - (1))) (V 435 (qw x1))) 444 (qw (((vup V 443 (qw ((V 430 19) - (1))) (V 435 (qw x1))) 430 19) - (1))) (1)) 442 (qw (((vup (vup V 443 (qw ((V 430 19) - (1))) (V 435 (qw x1))) 444 (qw (((vup V 443 (qw ((V 430 19) - (1))) (V 435 (qw x1))) 430 19) - (1))) (1)) 430 19) - (1))) x1) J d)))))) else zck (0 ≤ qw ((vup V 430 19 ((V 430 19) - (1))) 430 19) ∧ qw ((vup V 430 19 ((V 430 19) - (1))) 430 19) < (3 : Nat)) (zck (0 ≤ qw ((vup V 430 19 ((V 430 19) - (1))) 441 (qw ((vup V 430 19 ((V 430 19) - (1))) 430 19))) ∧ qw ((vup V 430 19 ((V 430 19) - (1))) 441 (qw ((vup V 430 19 ((V 430 19) - (1))) 430 19))) < (60 : Nat)) (zGo false 165 175 [.ref 430, .int (zi x1), .int (zi (V 433 (qw x1)))] [] (zm (vup (vup V 430 19 ((V 430 19) - (1))) 440 (qw ((vup V 430 19 ((V 430 19) - (1))) 441 (qw ((vup V 430 19 ((V 430 19) - (1))) 430 19)))) x1) J d)))) else zck (0 ≤ qw (V 430 19) ∧ qw (V 430 19) < (3 : Nat)) (zck (0 ≤ qw ((vup V 441 (qw (V 430 19)) x1) 430 19) ∧ qw ((vup V 441 (qw (V 430 19)) x1) 430 19) < (3 : Nat)) (zck (0 ≤ qw ((vup (vup V 441 (qw (V 430 19)) x1) 443 (qw ((vup V 441 (qw (V 430 19)) x1) 430 19)) (0)) 430 19) ∧ qw ((vup (vup V 441 (qw (V 430 19)) x1) 443 (qw ((vup V 441 (qw (V 430 19)) x1) 430 19)) (0)) 430 19) < (3 : Nat)) (zGo false 165 175 [.ref 430, .int (zi x1), .int (zi (V 433 (qw x1)))] [] (zm (vup (vup (vup (vup V 441 (qw (V 430 19)) x1) 443 (qw ((vup V 441 (qw (V 430 19)) x1) 430 19)) (0)) 444 (qw ((vup (vup V 441 (qw (V 430 19)) x1) 443 (qw ((vup V 441 (qw (V 430 19)) x1) 430 19)) (0)) 430 19)) (0)) 430 19 (((vup (vup (vup V 441 (qw (V 430 19)) x1) 443 (qw ((vup V 441 (qw (V 430 19)) x1) 430 19)) (0)) 444 (qw ((vup (vup V 441 (qw (V 430 19)) x1) 443 (qw ((vup V 441 (qw (V 430 19)) x1) 430 19)) (0)) 430 19)) (0)) 430 19) + (1))) J d)))))) := by
  refine (zr_aload_n (n := 0) (x := 430) (by decide +kernel) rfl).trans ?_
  refine (zr_getR (i := 16) (c := 12) (k := 2) (r := 433) (by decide +kernel) (by decide +kernel) rfl (by decide +kernel) (zR0_f (o := 430) (c := 12) (n := 0) (k := 2) (j := 3) rfl (by decide) rfl)).trans ?_
  refine (zr_iload_n (n := 1) (x := zi x1) (by decide +kernel) rfl).trans ?_
  refine (zr_iald (n := 60) (e := x1) (by decide +kernel) rfl).trans (zck_ct fun _ => ?_)
  refine (zr_istore_n (n := 2) (l1 := [.ref 430, .int (zi x1), .int (zi (V 433 (qw x1)))]) (by decide +kernel) rfl).trans ?_
  refine (zr_iload_n (n := 2) (x := zi (V 433 (qw x1))) (by decide +kernel) rfl).trans ?_
  refine (zr_bipush (n := 6) (by decide +kernel) rfl).trans ?_
  refine (zr_cne (off := 46) (a := (V 433 (qw x1))) (b := (6)) (t := 56) (by decide +kernel) rfl).trans (zif_ct (fun _ => ?_) (fun _ => ?_))
  · refine (zr_iload_n (n := 2) (x := zi (V 433 (qw x1))) (by decide +kernel) rfl).trans ?_
    refine (zr_bipush (n := 7) (by decide +kernel) rfl).trans ?_
    refine (zr_cne (off := 31) (a := (V 433 (qw x1))) (b := (7)) (t := 90) (by decide +kernel) rfl).trans (zif_ct (fun _ => ?_) (fun _ => ?_))
    · refine (zr_iload_n (n := 2) (x := zi (V 433 (qw x1))) (by decide +kernel) rfl).trans ?_
      refine (zr_bipush (n := 8) (by decide +kernel) rfl).trans ?_
      refine (zr_cne (off := 47) (a := (V 433 (qw x1))) (b := (8)) (t := 140) (by decide +kernel) rfl).trans (zif_ct (fun _ => ?_) (fun _ => ?_))
      · refine (zr_iload_n (n := 2) (x := zi (V 433 (qw x1))) (by decide +kernel) rfl).trans ?_
        refine (zr_bipush (n := 9) (by decide +kernel) rfl).trans ?_
        refine (zr_cne (off := 32) (a := (V 433 (qw x1))) (b := (9)) (t := 175) (by decide +kernel) rfl).trans (zif_ct (fun _ => ?_) (fun _ => ?_))
        · rfl
        · refine (zr_aload_n (n := 0) (x := 430) (by decide +kernel) rfl).trans ?_
          refine (zr_getR (i := 50) (c := 12) (k := 18) (r := 444) (by decide +kernel) (by decide +kernel) rfl (by decide +kernel) (zR0_f (o := 430) (c := 12) (n := 0) (k := 18) (j := 14) rfl (by decide) rfl)).trans ?_
          refine (zr_aload_n (n := 0) (x := 430) (by decide +kernel) rfl).trans ?_
          refine (zr_getI (i := 188) (c := 12) (k := 19) (by decide +kernel) (by decide +kernel) rfl (by decide +kernel)).trans ?_
          refine (zr_iconst (n := 1) (by decide +kernel)).trans ?_
          refine (zr_isub (a := (V 430 19)) (b := (1)) (by decide +kernel)).trans ?_
          refine (zr_iconst (n := 2) (by decide +kernel)).trans ?_
          refine (zr_iast (n := 3) (e := ((V 430 19) - (1))) (x := (2)) (by decide +kernel) rfl).trans (zck_ct fun _ => ?_)
          refine (zr_aload_n (n := 0) (x := 430) (by decide +kernel) rfl).trans ?_
          refine (zr_getR (i := 38) (c := 12) (k := 9) (r := 440) (by decide +kernel) (by decide +kernel) rfl (by decide +kernel) (zR0_f (o := 430) (c := 12) (n := 0) (k := 9) (j := 10) rfl (by decide) rfl)).trans ?_
          refine (zr_aload_n (n := 0) (x := 430) (by decide +kernel) rfl).trans ?_
          refine (zr_getR (i := 44) (c := 12) (k := 16) (r := 442) (by decide +kernel) (by decide +kernel) rfl (by decide +kernel) (zR0_f (o := 430) (c := 12) (n := 0) (k := 16) (j := 12) rfl (by decide) rfl)).trans ?_
          refine (zr_aload_n (n := 0) (x := 430) (by decide +kernel) rfl).trans ?_
          refine (zr_getI (i := 188) (c := 12) (k := 19) (by decide +kernel) (by decide +kernel) rfl (by decide +kernel)).trans ?_
          refine (zr_iconst (n := 1) (by decide +kernel)).trans ?_
          refine (zr_isub (a := ((vup V 444 (qw ((V 430 19) - (1))) (2)) 430 19)) (b := (1)) (by decide +kernel)).trans ?_
          refine (zr_iald (n := 3) (e := (((vup V 444 (qw ((V 430 19) - (1))) (2)) 430 19) - (1))) (by decide +kernel) rfl).trans (zck_ct fun _ => ?_)
          refine (zr_iload_n (n := 1) (x := zi x1) (by decide +kernel) rfl).trans ?_
          refine (zr_iast (n := 60) (e := ((vup V 444 (qw ((V 430 19) - (1))) (2)) 442 (qw (((vup V 444 (qw ((V 430 19) - (1))) (2)) 430 19) - (1))))) (x := x1) (by decide +kernel) rfl).trans (zck_ct fun _ => ?_)
          rfl
      · refine (zr_aload_n (n := 0) (x := 430) (by decide +kernel) rfl).trans ?_
        refine (zr_getR (i := 47) (c := 12) (k := 17) (r := 443) (by decide +kernel) (by decide +kernel) rfl (by decide +kernel) (zR0_f (o := 430) (c := 12) (n := 0) (k := 17) (j := 13) rfl (by decide) rfl)).trans ?_
        refine (zr_aload_n (n := 0) (x := 430) (by decide +kernel) rfl).trans ?_
        refine (zr_getI (i := 188) (c := 12) (k := 19) (by decide +kernel) (by decide +kernel) rfl (by decide +kernel)).trans ?_
        refine (zr_iconst (n := 1) (by decide +kernel)).trans ?_
        refine (zr_isub (a := (V 430 19)) (b := (1)) (by decide +kernel)).trans ?_
        refine (zr_aload_n (n := 0) (x := 430) (by decide +kernel) rfl).trans ?_
        refine (zr_getR (i := 22) (c := 12) (k := 4) (r := 435) (by decide +kernel) (by decide +kernel) rfl (by decide +kernel) (zR0_f (o := 430) (c := 12) (n := 0) (k := 4) (j := 5) rfl (by decide) rfl)).trans ?_
        refine (zr_iload_n (n := 1) (x := zi x1) (by decide +kernel) rfl).trans ?_
        refine (zr_iald (n := 60) (e := x1) (by decide +kernel) rfl).trans (zck_ct fun _ => ?_)
        refine (zr_iast (n := 3) (e := ((V 430 19) - (1))) (x := (V 435 (qw x1))) (by decide +kernel) rfl).trans (zck_ct fun _ => ?_)
        refine (zr_aload_n (n := 0) (x := 430) (by decide +kernel) rfl).trans ?_
        refine (zr_getR (i := 50) (c := 12) (k := 18) (r := 444) (by decide +kernel) (by decide +kernel) rfl (by decide +kernel) (zR0_f (o := 430) (c := 12) (n := 0) (k := 18) (j := 14) rfl (by decide) rfl)).trans ?_
        refine (zr_aload_n (n := 0) (x := 430) (by decide +kernel) rfl).trans ?_
        refine (zr_getI (i := 188) (c := 12) (k := 19) (by decide +kernel) (by decide +kernel) rfl (by decide +kernel)).trans ?_
        refine (zr_iconst (n := 1) (by decide +kernel)).trans ?_
        refine (zr_isub (a := ((vup V 443 (qw ((V 430 19) - (1))) (V 435 (qw x1))) 430 19)) (b := (1)) (by decide +kernel)).trans ?_
        refine (zr_iconst (n := 1) (by decide +kernel)).trans ?_
        refine (zr_iast (n := 3) (e := (((vup V 443 (qw ((V 430 19) - (1))) (V 435 (qw x1))) 430 19) - (1))) (x := (1)) (by decide +kernel) rfl).trans (zck_ct fun _ => ?_)
        refine (zr_aload_n (n := 0) (x := 430) (by decide +kernel) rfl).trans ?_
        refine (zr_getR (i := 44) (c := 12) (k := 16) (r := 442) (by decide +kernel) (by decide +kernel) rfl (by decide +kernel) (zR0_f (o := 430) (c := 12) (n := 0) (k := 16) (j := 12) rfl (by decide) rfl)).trans ?_
        refine (zr_aload_n (n := 0) (x := 430) (by decide +kernel) rfl).trans ?_
        refine (zr_getI (i := 188) (c := 12) (k := 19) (by decide +kernel) (by decide +kernel) rfl (by decide +kernel)).trans ?_
        refine (zr_iconst (n := 1) (by decide +kernel)).trans ?_
        refine (zr_isub (a := ((vup (vup V 443 (qw ((V 430 19) - (1))) (V 435 (qw x1))) 444 (qw (((vup V 443 (qw ((V 430 19) - (1))) (V 435 (qw x1))) 430 19) - (1))) (1)) 430 19)) (b := (1)) (by decide +kernel)).trans ?_
        refine (zr_iload_n (n := 1) (x := zi x1) (by decide +kernel) rfl).trans ?_
        refine (zr_iast (n := 3) (e := (((vup (vup V 443 (qw ((V 430 19) - (1))) (V 435 (qw x1))) 444 (qw (((vup V 443 (qw ((V 430 19) - (1))) (V 435 (qw x1))) 430 19) - (1))) (1)) 430 19) - (1))) (x := x1) (by decide +kernel) rfl).trans (zck_ct fun _ => ?_)
        refine (zr_goto (off := 38) (t := 175) (by decide +kernel) rfl).trans ?_
        rfl
    · refine (zr_aload_n (n := 0) (x := 430) (by decide +kernel) rfl).trans ?_
      refine (zr_dup (by decide +kernel) rfl).trans ?_
      refine (zr_getI (i := 188) (c := 12) (k := 19) (by decide +kernel) (by decide +kernel) rfl (by decide +kernel)).trans ?_
      refine (zr_iconst (n := 1) (by decide +kernel)).trans ?_
      refine (zr_isub (a := (V 430 19)) (b := (1)) (by decide +kernel)).trans ?_
      refine (zr_putI (i := 188) (c := 12) (k := 19) (x := ((V 430 19) - (1))) (by decide +kernel) (by decide +kernel) rfl (by decide +kernel)).trans ?_
      refine (zr_aload_n (n := 0) (x := 430) (by decide +kernel) rfl).trans ?_
      refine (zr_getR (i := 38) (c := 12) (k := 9) (r := 440) (by decide +kernel) (by decide +kernel) rfl (by decide +kernel) (zR0_f (o := 430) (c := 12) (n := 0) (k := 9) (j := 10) rfl (by decide) rfl)).trans ?_
      refine (zr_aload_n (n := 0) (x := 430) (by decide +kernel) rfl).trans ?_
      refine (zr_getR (i := 41) (c := 12) (k := 15) (r := 441) (by decide +kernel) (by decide +kernel) rfl (by decide +kernel) (zR0_f (o := 430) (c := 12) (n := 0) (k := 15) (j := 11) rfl (by decide) rfl)).trans ?_
      refine (zr_aload_n (n := 0) (x := 430) (by decide +kernel) rfl).trans ?_
      refine (zr_getI (i := 188) (c := 12) (k := 19) (by decide +kernel) (by decide +kernel) rfl (by decide +kernel)).trans ?_
      refine (zr_iald (n := 3) (e := ((vup V 430 19 ((V 430 19) - (1))) 430 19)) (by decide +kernel) rfl).trans (zck_ct fun _ => ?_)
      refine (zr_iload_n (n := 1) (x := zi x1) (by decide +kernel) rfl).trans ?_
      refine (zr_iast (n := 60) (e := ((vup V 430 19 ((V 430 19) - (1))) 441 (qw ((vup V 430 19 ((V 430 19) - (1))) 430 19)))) (x := x1) (by decide +kernel) rfl).trans (zck_ct fun _ => ?_)
      refine (zr_goto (off := 88) (t := 175) (by decide +kernel) rfl).trans ?_
      rfl
  · refine (zr_aload_n (n := 0) (x := 430) (by decide +kernel) rfl).trans ?_
    refine (zr_getR (i := 41) (c := 12) (k := 15) (r := 441) (by decide +kernel) (by decide +kernel) rfl (by decide +kernel) (zR0_f (o := 430) (c := 12) (n := 0) (k := 15) (j := 11) rfl (by decide) rfl)).trans ?_
    refine (zr_aload_n (n := 0) (x := 430) (by decide +kernel) rfl).trans ?_
    refine (zr_getI (i := 188) (c := 12) (k := 19) (by decide +kernel) (by decide +kernel) rfl (by decide +kernel)).trans ?_
    refine (zr_iload_n (n := 1) (x := zi x1) (by decide +kernel) rfl).trans ?_
    refine (zr_iast (n := 3) (e := (V 430 19)) (x := x1) (by decide +kernel) rfl).trans (zck_ct fun _ => ?_)
    refine (zr_aload_n (n := 0) (x := 430) (by decide +kernel) rfl).trans ?_
    refine (zr_getR (i := 47) (c := 12) (k := 17) (r := 443) (by decide +kernel) (by decide +kernel) rfl (by decide +kernel) (zR0_f (o := 430) (c := 12) (n := 0) (k := 17) (j := 13) rfl (by decide) rfl)).trans ?_
    refine (zr_aload_n (n := 0) (x := 430) (by decide +kernel) rfl).trans ?_
    refine (zr_getI (i := 188) (c := 12) (k := 19) (by decide +kernel) (by decide +kernel) rfl (by decide +kernel)).trans ?_
    refine (zr_iconst (n := 0) (by decide +kernel)).trans ?_
    refine (zr_iast (n := 3) (e := ((vup V 441 (qw (V 430 19)) x1) 430 19)) (x := (0)) (by decide +kernel) rfl).trans (zck_ct fun _ => ?_)
    refine (zr_aload_n (n := 0) (x := 430) (by decide +kernel) rfl).trans ?_
    refine (zr_getR (i := 50) (c := 12) (k := 18) (r := 444) (by decide +kernel) (by decide +kernel) rfl (by decide +kernel) (zR0_f (o := 430) (c := 12) (n := 0) (k := 18) (j := 14) rfl (by decide) rfl)).trans ?_
    refine (zr_aload_n (n := 0) (x := 430) (by decide +kernel) rfl).trans ?_
    refine (zr_getI (i := 188) (c := 12) (k := 19) (by decide +kernel) (by decide +kernel) rfl (by decide +kernel)).trans ?_
    refine (zr_iconst (n := 0) (by decide +kernel)).trans ?_
    refine (zr_iast (n := 3) (e := ((vup (vup V 441 (qw (V 430 19)) x1) 443 (qw ((vup V 441 (qw (V 430 19)) x1) 430 19)) (0)) 430 19)) (x := (0)) (by decide +kernel) rfl).trans (zck_ct fun _ => ?_)
    refine (zr_aload_n (n := 0) (x := 430) (by decide +kernel) rfl).trans ?_
    refine (zr_dup (by decide +kernel) rfl).trans ?_
    refine (zr_getI (i := 188) (c := 12) (k := 19) (by decide +kernel) (by decide +kernel) rfl (by decide +kernel)).trans ?_
    refine (zr_iconst (n := 1) (by decide +kernel)).trans ?_
    refine (zr_iadd (a := ((vup (vup (vup V 441 (qw (V 430 19)) x1) 443 (qw ((vup V 441 (qw (V 430 19)) x1) 430 19)) (0)) 444 (qw ((vup (vup V 441 (qw (V 430 19)) x1) 443 (qw ((vup V 441 (qw (V 430 19)) x1) 430 19)) (0)) 430 19)) (0)) 430 19)) (b := (1)) (by decide +kernel)).trans ?_
    refine (zr_putI (i := 188) (c := 12) (k := 19) (x := (((vup (vup (vup V 441 (qw (V 430 19)) x1) 443 (qw ((vup V 441 (qw (V 430 19)) x1) 430 19)) (0)) 444 (qw ((vup (vup V 441 (qw (V 430 19)) x1) 443 (qw ((vup V 441 (qw (V 430 19)) x1) 430 19)) (0)) 430 19)) (0)) 430 19) + (1))) (by decide +kernel) (by decide +kernel) rfl (by decide +kernel)).trans ?_
    refine (zr_goto (off := 122) (t := 175) (by decide +kernel) rfl).trans ?_
    rfl
theorem ze_165_175 {V : zVt} {J : zJt} {d : Nat → Nat → UInt64} (x1 : Int) (x2 : Int) : zGo false 165 175 [.ref 430, .int (zi x1), .int (zi x2)] [] (zm V J d) =
    some (.inl none, zm V J d) := by
  exact zr_vret (by decide +kernel) rfl
