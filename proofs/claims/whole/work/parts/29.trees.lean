/-! part 29: methods as equations; printed by program (wip/whole/gen/gen_tree.py, gen_trees_all.py) -/
/-! PartSongDeskModel seconds (III)F -/
theorem ze_186_0 {V : zVt} {J : zJt} {d : Nat → Nat → UInt64} (x1 : Int) (x2 : Int) (x3 : Int) : zGo false 186 0 [.ref 430, .int (zi x1), .int (zi x2), .int (zi x3)] [] (zm V J d) =
    (zGo false 146 0 [.int (zi x1), .int (zi x2)] [] (zm V J d)).bind (zGor false 186 6 [.ref 430, .int (zi x1), .int (zi x2), .int (zi x3)] [.ref 430]) := by
  refine (zr_aload_n (n := 0) (x := 430) (by decide +kernel) rfl).trans ?_
  refine (zr_iload_n (n := 1) (x := zi x1) (by decide +kernel) rfl).trans ?_
  refine (zr_iload_n (n := 2) (x := zi x2) (by decide +kernel) rfl).trans ?_
  exact zr_cS (i := 282) (z := 146) (w := 0) (t := [.int (zi x2), .int (zi x1)]) (rest := [.ref 430]) (L := [.int (zi x1), .int (zi x2)]) (pc1 := 6) (by decide +kernel) (by decide +kernel) (n := 2) (r := 1) rfl rfl rfl (by decide +kernel) rfl rfl
theorem ze_186_6 {V : zVt} {J : zJt} {d : Nat → Nat → UInt64} (x1 : Int) (x2 : Int) (x3 : Int) (s1 : Int) : zGo false 186 6 [.ref 430, .int (zi x1), .int (zi x2), .int (zi x3)] [.int (zi s1), .ref 430] (zm V J d) =
    (zGo false 148 0 [.int (zi x3), .int (zi (20)), .int (zi (300))] [] (zm V J d)).bind (zGor false 186 15 [.ref 430, .int (zi x1), .int (zi x2), .int (zi x3)] [.int (zi s1), .ref 430]) := by
  refine (zr_iload_n (n := 3) (x := zi x3) (by decide +kernel) rfl).trans ?_
  refine (zr_bipush (n := 20) (by decide +kernel) rfl).trans ?_
  refine (zr_sipush (n := 300) (by decide +kernel) rfl).trans ?_
  exact zr_cS (i := 170) (z := 148) (w := 0) (t := [.int (zi (300)), .int (zi (20)), .int (zi x3)]) (rest := [.int (zi s1), .ref 430]) (L := [.int (zi x3), .int (zi (20)), .int (zi (300))]) (pc1 := 15) (by decide +kernel) (by decide +kernel) (n := 3) (r := 2) rfl rfl rfl (by decide +kernel) rfl rfl
theorem ze_186_15 {V : zVt} {J : zJt} {d : Nat → Nat → UInt64} (x1 : Int) (x2 : Int) (x3 : Int) (s1 : Int) (s2 : Int) : zGo false 186 15 [.ref 430, .int (zi x1), .int (zi x2), .int (zi x3)] [.int (zi s2), .int (zi s1), .ref 430] (zm V J d) =
    (zGo false 150 0 [.ref 430, .int (zi s1), .int (zi s2), .int (zi (1))] [] (zm V J d)).bind (zGor false 186 19 [.ref 430, .int (zi x1), .int (zi x2), .int (zi x3)] []) := by
  refine (zr_iconst (n := 1) (by decide +kernel)).trans ?_
  exact zr_cV (i := 289) (z := 150) (w := 0) (o := 430) (t := [.int (zi (1)), .int (zi s2), .int (zi s1)]) (rest := []) (L := [.ref 430, .int (zi s1), .int (zi s2), .int (zi (1))]) (pc1 := 19) (by decide +kernel) (by decide +kernel) rfl (n := 3) (r := 0) rfl rfl rfl (by decide +kernel) rfl rfl
theorem ze_186_19 {V : zVt} {J : zJt} {d : Nat → Nat → UInt64} (x1 : Int) (x2 : Int) (x3 : Int) (s0 : Int) : zGo false 186 19 [.ref 430, .int (zi x1), .int (zi x2), .int (zi x3)] [.int (zi s0)] (zm V J d) =
    (if qw s0 ≠ 0 then (zGo false 183 0 [.ref 430, .int (zi (0)), .int (zi (((4) * x1) + x2))] [] (zm V J d)).bind (zGor false 186 34 [.ref 430, .int (zi x1), .int (zi x2), .int (zi x3)] []) else some (.inl (some (.float FP.fconst0)), zm V J d)) := by
  refine (zr_ifne (off := 5) (a := s0) (t := 24) (by decide +kernel) rfl).trans (zif_ct (fun _ => ?_) (fun _ => ?_))
  · refine (zr_aload_n (n := 0) (x := 430) (by decide +kernel) rfl).trans ?_
    refine (zr_iconst (n := 0) (by decide +kernel)).trans ?_
    refine (zr_iconst (n := 4) (by decide +kernel)).trans ?_
    refine (zr_iload_n (n := 1) (x := zi x1) (by decide +kernel) rfl).trans ?_
    refine (zr_imul (a := (4)) (b := x1) (by decide +kernel)).trans ?_
    refine (zr_iload_n (n := 2) (x := zi x2) (by decide +kernel) rfl).trans ?_
    refine (zr_iadd (a := ((4) * x1)) (b := x2) (by decide +kernel)).trans ?_
    exact zr_cV (i := 293) (z := 183) (w := 0) (o := 430) (t := [.int (zi (((4) * x1) + x2)), .int (zi (0))]) (rest := []) (L := [.ref 430, .int (zi (0)), .int (zi (((4) * x1) + x2))]) (pc1 := 34) (by decide +kernel) (by decide +kernel) rfl (n := 2) (r := 0) rfl rfl rfl (by decide +kernel) rfl rfl
  · refine (zr_fconst0 (by decide +kernel)).trans ?_
    exact zr_fret (by decide +kernel) rfl
theorem ze_186_34 {V : zVt} {J : zJt} {d : Nat → Nat → UInt64} (x1 : Int) (x2 : Int) (x3 : Int) (s0 : Int) : zGo false 186 34 [.ref 430, .int (zi x1), .int (zi x2), .int (zi x3)] [.int (zi s0)] (zm V J d) =
    (if qw s0 = 0 then zck (0 ≤ qw (0) ∧ qw (0) < (5 : Nat)) (zck (0 ≤ qw (0) ∧ qw (0) < (5 : Nat)) (zck (FP.fmul (FP.i2f (zi ((V 449 (qw (0))) * (V 450 (qw (0)))))) (UInt32.ofNat 1097859072) &&& 0x7fffffff ≤ 0x7f800000) (zck (FP.fdiv (FP.fmul (FP.i2f (zi ((V 449 (qw (0))) * (V 450 (qw (0)))))) (UInt32.ofNat 1097859072)) (FP.i2f (zi x3)) &&& 0x7fffffff ≤ 0x7f800000) (some (.inl (some (.float (FP.fdiv (FP.fmul (FP.i2f (zi ((V 449 (qw (0))) * (V 450 (qw (0)))))) (UInt32.ofNat 1097859072)) (FP.i2f (zi x3))))), zm V J d))))) else some (.inl (some (.float (UInt32.ofNat 3212836864))), zm V J d)) := by
  refine (zr_ifeq (off := 7) (a := s0) (t := 41) (by decide +kernel) rfl).trans (zif_ct (fun _ => ?_) (fun _ => ?_))
  · refine (zr_aload_n (n := 0) (x := 430) (by decide +kernel) rfl).trans ?_
    refine (zr_getR (i := 65) (c := 12) (k := 30) (r := 449) (by decide +kernel) (by decide +kernel) rfl (by decide +kernel) (zR0_f (o := 430) (c := 12) (n := 0) (k := 30) (j := 19) rfl (by decide) rfl)).trans ?_
    refine (zr_iconst (n := 0) (by decide +kernel)).trans ?_
    refine (zr_iald (n := 5) (e := (0)) (by decide +kernel) rfl).trans (zck_ct fun _ => ?_)
    refine (zr_aload_n (n := 0) (x := 430) (by decide +kernel) rfl).trans ?_
    refine (zr_getR (i := 68) (c := 12) (k := 31) (r := 450) (by decide +kernel) (by decide +kernel) rfl (by decide +kernel) (zR0_f (o := 430) (c := 12) (n := 0) (k := 31) (j := 20) rfl (by decide) rfl)).trans ?_
    refine (zr_iconst (n := 0) (by decide +kernel)).trans ?_
    refine (zr_iald (n := 5) (e := (0)) (by decide +kernel) rfl).trans (zck_ct fun _ => ?_)
    refine (zr_imul (a := (V 449 (qw (0)))) (b := (V 450 (qw (0)))) (by decide +kernel)).trans ?_
    refine (zr_i2f (a := ((V 449 (qw (0))) * (V 450 (qw (0))))) (by decide +kernel)).trans ?_
    refine (zr_ldcwF (i := 300) (v := 1097859072) (w := 0) (by decide +kernel) (by decide +kernel)).trans ?_
    refine (zr_fmul (by decide +kernel)).trans (zck_ct fun _ => ?_)
    refine (zr_iload_n (n := 3) (x := zi x3) (by decide +kernel) rfl).trans ?_
    refine (zr_i2f (a := x3) (by decide +kernel)).trans ?_
    refine (zr_fdiv (by decide +kernel)).trans (zck_ct fun _ => ?_)
    exact zr_fret (by decide +kernel) rfl
  · refine (zr_ldcwF (i := 299) (v := 3212836864) (w := 0) (by decide +kernel) (by decide +kernel)).trans ?_
    exact zr_fret (by decide +kernel) rfl
/-! PartSongDeskModel print (II)I -/
theorem ze_187_0 {V : zVt} {J : zJt} {d : Nat → Nat → UInt64} (x1 : Int) (x2 : Int) : zGo false 187 0 [.ref 430, .int (zi x1), .int (zi x2), .null, .null] [] (zm V J d) =
    (zGo false 146 0 [.int (zi x1), .int (zi x2)] [] (zm V J d)).bind (zGor false 187 5 [.ref 430, .int (zi x1), .int (zi x2), .null, .null] []) := by
  refine (zr_iload_n (n := 1) (x := zi x1) (by decide +kernel) rfl).trans ?_
  refine (zr_iload_n (n := 2) (x := zi x2) (by decide +kernel) rfl).trans ?_
  exact zr_cS (i := 282) (z := 146) (w := 0) (t := [.int (zi x2), .int (zi x1)]) (rest := []) (L := [.int (zi x1), .int (zi x2)]) (pc1 := 5) (by decide +kernel) (by decide +kernel) (n := 2) (r := 0) rfl rfl rfl (by decide +kernel) rfl rfl
theorem ze_187_5 {V : zVt} {J : zJt} {d : Nat → Nat → UInt64} (x1 : Int) (x2 : Int) (s0 : Int) : zGo false 187 5 [.ref 430, .int (zi x1), .int (zi x2), .null, .null] [.int (zi s0)] (zm V J d) =
    (if qw s0 = 0 then zGo false 187 43 [.ref 430, .int (zi x1), .int (zi x2), .int (zi s0), .int (zi (((4) * x1) + x2))] [.int (zi s0), .ref 430] (zm V J d) else (zGo false 153 0 [.ref 430, .int (zi (0)), .int (zi (((4) * x1) + x2)), .int (zi (-1))] [] (zm V J d)).bind (zGor false 187 27 [.ref 430, .int (zi x1), .int (zi x2), .int (zi s0), .int (zi (((4) * x1) + x2))] [.int (zi s0), .ref 430])) := by
  refine (zr_istore_n (n := 3) (l1 := [.ref 430, .int (zi x1), .int (zi x2), .int (zi s0), .null]) (by decide +kernel) rfl).trans ?_
  refine (zr_iconst (n := 4) (by decide +kernel)).trans ?_
  refine (zr_iload_n (n := 1) (x := zi x1) (by decide +kernel) rfl).trans ?_
  refine (zr_imul (a := (4)) (b := x1) (by decide +kernel)).trans ?_
  refine (zr_iload_n (n := 2) (x := zi x2) (by decide +kernel) rfl).trans ?_
  refine (zr_iadd (a := ((4) * x1)) (b := x2) (by decide +kernel)).trans ?_
  refine (zr_istore (n := 4) (l1 := [.ref 430, .int (zi x1), .int (zi x2), .int (zi s0), .int (zi (((4) * x1) + x2))]) (by decide +kernel) rfl).trans ?_
  refine (zr_aload_n (n := 0) (x := 430) (by decide +kernel) rfl).trans ?_
  refine (zr_iload_n (n := 3) (x := zi s0) (by decide +kernel) rfl).trans ?_
  refine (zr_iload_n (n := 3) (x := zi s0) (by decide +kernel) rfl).trans ?_
  refine (zr_ifeq (off := 27) (a := s0) (t := 43) (by decide +kernel) rfl).trans (zif_ct (fun _ => ?_) (fun _ => ?_))
  · rfl
  · refine (zr_aload_n (n := 0) (x := 430) (by decide +kernel) rfl).trans ?_
    refine (zr_iconst (n := 0) (by decide +kernel)).trans ?_
    refine (zr_iload (n := 4) (x := zi (((4) * x1) + x2)) (by decide +kernel) rfl).trans ?_
    refine (zr_iconst (n := -1) (by decide +kernel)).trans ?_
    exact zr_cV (i := 274) (z := 153) (w := 0) (o := 430) (t := [.int (zi (-1)), .int (zi (((4) * x1) + x2)), .int (zi (0))]) (rest := [.int (zi s0), .ref 430]) (L := [.ref 430, .int (zi (0)), .int (zi (((4) * x1) + x2)), .int (zi (-1))]) (pc1 := 27) (by decide +kernel) (by decide +kernel) rfl (n := 3) (r := 2) rfl rfl rfl (by decide +kernel) rfl rfl
theorem ze_187_27 {V : zVt} {J : zJt} {d : Nat → Nat → UInt64} (x1 : Int) (x2 : Int) (x3 : Int) (x4 : Int) (s1 : Int) (s2 : Int) : zGo false 187 27 [.ref 430, .int (zi x1), .int (zi x2), .int (zi x3), .int (zi x4)] [.int (zi s2), .int (zi s1), .ref 430] (zm V J d) =
    (if qw s2 ≠ 0 then zGo false 187 43 [.ref 430, .int (zi x1), .int (zi x2), .int (zi x3), .int (zi x4)] [.int (zi s1), .ref 430] (zm V J d) else (if qw (40) ≤ qw (V 430 37) then zGo false 187 43 [.ref 430, .int (zi x1), .int (zi x2), .int (zi x3), .int (zi x4)] [.int (zi s1), .ref 430] (zm V J d) else zGo false 187 44 [.ref 430, .int (zi x1), .int (zi x2), .int (zi x3), .int (zi x4)] [.int (zi (1)), .int (zi s1), .ref 430] (zm V J d))) := by
  refine (zr_ifne (off := 16) (a := s2) (t := 43) (by decide +kernel) rfl).trans (zif_ct (fun _ => ?_) (fun _ => ?_))
  · rfl
  · refine (zr_aload_n (n := 0) (x := 430) (by decide +kernel) rfl).trans ?_
    refine (zr_getI (i := 279) (c := 12) (k := 37) (by decide +kernel) (by decide +kernel) rfl (by decide +kernel)).trans ?_
    refine (zr_bipush (n := 40) (by decide +kernel) rfl).trans ?_
    refine (zr_cge (off := 7) (a := (V 430 37)) (b := (40)) (t := 43) (by decide +kernel) rfl).trans (zif_ct (fun _ => ?_) (fun _ => ?_))
    · rfl
    · refine (zr_iconst (n := 1) (by decide +kernel)).trans ?_
      refine (zr_goto (off := 4) (t := 44) (by decide +kernel) rfl).trans ?_
      rfl
theorem ze_187_43 {V : zVt} {J : zJt} {d : Nat → Nat → UInt64} (x1 : Int) (x2 : Int) (x3 : Int) (x4 : Int) (s1 : Int) : zGo false 187 43 [.ref 430, .int (zi x1), .int (zi x2), .int (zi x3), .int (zi x4)] [.int (zi s1), .ref 430] (zm V J d) =
    zGo false 187 44 [.ref 430, .int (zi x1), .int (zi x2), .int (zi x3), .int (zi x4)] [.int (zi (0)), .int (zi s1), .ref 430] (zm V J d) := by
  refine (zr_iconst (n := 0) (by decide +kernel)).trans ?_
  rfl
theorem ze_187_44 {V : zVt} {J : zJt} {d : Nat → Nat → UInt64} (x1 : Int) (x2 : Int) (x3 : Int) (x4 : Int) (s1 : Int) (s2 : Int) : zGo false 187 44 [.ref 430, .int (zi x1), .int (zi x2), .int (zi x3), .int (zi x4)] [.int (zi s2), .int (zi s1), .ref 430] (zm V J d) =
    (zGo false 150 0 [.ref 430, .int (zi s1), .int (zi s2), .int (zi (1))] [] (zm V J d)).bind (zGor false 187 48 [.ref 430, .int (zi x1), .int (zi x2), .int (zi x3), .int (zi x4)] []) := by
  refine (zr_iconst (n := 1) (by decide +kernel)).trans ?_
  exact zr_cV (i := 289) (z := 150) (w := 0) (o := 430) (t := [.int (zi (1)), .int (zi s2), .int (zi s1)]) (rest := []) (L := [.ref 430, .int (zi s1), .int (zi s2), .int (zi (1))]) (pc1 := 48) (by decide +kernel) (by decide +kernel) rfl (n := 3) (r := 0) rfl rfl rfl (by decide +kernel) rfl rfl
theorem ze_187_48 {V : zVt} {J : zJt} {d : Nat → Nat → UInt64} (x1 : Int) (x2 : Int) (x3 : Int) (x4 : Int) (s0 : Int) : zGo false 187 48 [.ref 430, .int (zi x1), .int (zi x2), .int (zi x3), .int (zi x4)] [.int (zi s0)] (zm V J d) =
    (if qw s0 ≠ 0 then zck (0 ≤ qw (V 430 37) ∧ qw (V 430 37) < (40 : Nat)) (zck (0 ≤ qw ((vup V 454 (qw (V 430 37)) x4) 430 37) ∧ qw ((vup V 454 (qw (V 430 37)) x4) 430 37) < (40 : Nat)) (some (.inl (some (.int (zi (((vup (vup (vup V 454 (qw (V 430 37)) x4) 455 (qw ((vup V 454 (qw (V 430 37)) x4) 430 37)) (-1)) 430 37 (((vup (vup V 454 (qw (V 430 37)) x4) 455 (qw ((vup V 454 (qw (V 430 37)) x4) 430 37)) (-1)) 430 37) + (1))) 430 37) - (1))))), zm (vup (vup (vup V 454 (qw (V 430 37)) x4) 455 (qw ((vup V 454 (qw (V 430 37)) x4) 430 37)) (-1)) 430 37 (((vup (vup V 454 (qw (V 430 37)) x4) 455 (qw ((vup V 454 (qw (V 430 37)) x4) 430 37)) (-1)) 430 37) + (1))) J d))) else some (.inl (some (.int (zi (0)))), zm V J d)) := by
  refine (zr_ifne (off := 5) (a := s0) (t := 53) (by decide +kernel) rfl).trans (zif_ct (fun _ => ?_) (fun _ => ?_))
  · refine (zr_aload_n (n := 0) (x := 430) (by decide +kernel) rfl).trans ?_
    refine (zr_getR (i := 81) (c := 12) (k := 35) (r := 454) (by decide +kernel) (by decide +kernel) rfl (by decide +kernel) (zR0_f (o := 430) (c := 12) (n := 0) (k := 35) (j := 24) rfl (by decide) rfl)).trans ?_
    refine (zr_aload_n (n := 0) (x := 430) (by decide +kernel) rfl).trans ?_
    refine (zr_getI (i := 279) (c := 12) (k := 37) (by decide +kernel) (by decide +kernel) rfl (by decide +kernel)).trans ?_
    refine (zr_iload (n := 4) (x := zi x4) (by decide +kernel) rfl).trans ?_
    refine (zr_iast (n := 40) (e := (V 430 37)) (x := x4) (by decide +kernel) rfl).trans (zck_ct fun _ => ?_)
    refine (zr_aload_n (n := 0) (x := 430) (by decide +kernel) rfl).trans ?_
    refine (zr_getR (i := 84) (c := 12) (k := 36) (r := 455) (by decide +kernel) (by decide +kernel) rfl (by decide +kernel) (zR0_f (o := 430) (c := 12) (n := 0) (k := 36) (j := 25) rfl (by decide) rfl)).trans ?_
    refine (zr_aload_n (n := 0) (x := 430) (by decide +kernel) rfl).trans ?_
    refine (zr_getI (i := 279) (c := 12) (k := 37) (by decide +kernel) (by decide +kernel) rfl (by decide +kernel)).trans ?_
    refine (zr_iconst (n := -1) (by decide +kernel)).trans ?_
    refine (zr_iast (n := 40) (e := ((vup V 454 (qw (V 430 37)) x4) 430 37)) (x := (-1)) (by decide +kernel) rfl).trans (zck_ct fun _ => ?_)
    refine (zr_aload_n (n := 0) (x := 430) (by decide +kernel) rfl).trans ?_
    refine (zr_dup (by decide +kernel) rfl).trans ?_
    refine (zr_getI (i := 279) (c := 12) (k := 37) (by decide +kernel) (by decide +kernel) rfl (by decide +kernel)).trans ?_
    refine (zr_iconst (n := 1) (by decide +kernel)).trans ?_
    refine (zr_iadd (a := ((vup (vup V 454 (qw (V 430 37)) x4) 455 (qw ((vup V 454 (qw (V 430 37)) x4) 430 37)) (-1)) 430 37)) (b := (1)) (by decide +kernel)).trans ?_
    refine (zr_putI (i := 279) (c := 12) (k := 37) (x := (((vup (vup V 454 (qw (V 430 37)) x4) 455 (qw ((vup V 454 (qw (V 430 37)) x4) 430 37)) (-1)) 430 37) + (1))) (by decide +kernel) (by decide +kernel) rfl (by decide +kernel)).trans ?_
    refine (zr_aload_n (n := 0) (x := 430) (by decide +kernel) rfl).trans ?_
    refine (zr_getI (i := 279) (c := 12) (k := 37) (by decide +kernel) (by decide +kernel) rfl (by decide +kernel)).trans ?_
    refine (zr_iconst (n := 1) (by decide +kernel)).trans ?_
    refine (zr_isub (a := ((vup (vup (vup V 454 (qw (V 430 37)) x4) 455 (qw ((vup V 454 (qw (V 430 37)) x4) 430 37)) (-1)) 430 37 (((vup (vup V 454 (qw (V 430 37)) x4) 455 (qw ((vup V 454 (qw (V 430 37)) x4) 430 37)) (-1)) 430 37) + (1))) 430 37)) (b := (1)) (by decide +kernel)).trans ?_
    exact zr_iret (a := (((vup (vup (vup V 454 (qw (V 430 37)) x4) 455 (qw ((vup V 454 (qw (V 430 37)) x4) 430 37)) (-1)) 430 37 (((vup (vup V 454 (qw (V 430 37)) x4) 455 (qw ((vup V 454 (qw (V 430 37)) x4) 430 37)) (-1)) 430 37) + (1))) 430 37) - (1))) (by decide +kernel) rfl
  · refine (zr_iconst (n := 0) (by decide +kernel)).trans ?_
    exact zr_iret (a := (0)) (by decide +kernel) rfl
/-! PartSongDeskModel lend (II)I -/
theorem ze_188_0 {V : zVt} {J : zJt} {d : Nat → Nat → UInt64} (x1 : Int) (x2 : Int) : zGo false 188 0 [.ref 430, .int (zi x1), .int (zi x2), .null, .null, .null] [] (zm V J d) =
    (zGo false 189 0 [.ref 430, .int (zi x1)] [] (zm V J d)).bind (zGor false 188 5 [.ref 430, .int (zi x1), .int (zi x2), .null, .null, .null] []) := by
  refine (zr_aload_n (n := 0) (x := 430) (by decide +kernel) rfl).trans ?_
  refine (zr_iload_n (n := 1) (x := zi x1) (by decide +kernel) rfl).trans ?_
  exact zr_cV (i := 304) (z := 189) (w := 0) (o := 430) (t := [.int (zi x1)]) (rest := []) (L := [.ref 430, .int (zi x1)]) (pc1 := 5) (by decide +kernel) (by decide +kernel) rfl (n := 1) (r := 0) rfl rfl rfl (by decide +kernel) rfl rfl
theorem ze_188_5 {V : zVt} {J : zJt} {d : Nat → Nat → UInt64} (x1 : Int) (x2 : Int) (s0 : Int) : zGo false 188 5 [.ref 430, .int (zi x1), .int (zi x2), .null, .null, .null] [.int (zi s0)] (zm V J d) =
    (if qw s0 = 0 then zGo false 188 21 [.ref 430, .int (zi x1), .int (zi x2), .null, .null, .null] [] (zm V J d) else (zGo false 147 0 [.int (zi x2), .int (zi (12))] [] (zm V J d)).bind (zGor false 188 14 [.ref 430, .int (zi x1), .int (zi x2), .null, .null, .null] [])) := by
  refine (zr_ifeq (off := 16) (a := s0) (t := 21) (by decide +kernel) rfl).trans (zif_ct (fun _ => ?_) (fun _ => ?_))
  · rfl
  · refine (zr_iload_n (n := 2) (x := zi x2) (by decide +kernel) rfl).trans ?_
    refine (zr_bipush (n := 12) (by decide +kernel) rfl).trans ?_
    exact zr_cS (i := 145) (z := 147) (w := 0) (t := [.int (zi (12)), .int (zi x2)]) (rest := []) (L := [.int (zi x2), .int (zi (12))]) (pc1 := 14) (by decide +kernel) (by decide +kernel) (n := 2) (r := 0) rfl rfl rfl (by decide +kernel) rfl rfl
theorem ze_188_14 {V : zVt} {J : zJt} {d : Nat → Nat → UInt64} (x1 : Int) (x2 : Int) (s0 : Int) : zGo false 188 14 [.ref 430, .int (zi x1), .int (zi x2), .null, .null, .null] [.int (zi s0)] (zm V J d) =
    (if qw s0 = 0 then zGo false 188 21 [.ref 430, .int (zi x1), .int (zi x2), .null, .null, .null] [] (zm V J d) else zGo false 188 22 [.ref 430, .int (zi x1), .int (zi x2), .null, .null, .null] [.int (zi (1))] (zm V J d)) := by
  refine (zr_ifeq (off := 7) (a := s0) (t := 21) (by decide +kernel) rfl).trans (zif_ct (fun _ => ?_) (fun _ => ?_))
  · rfl
  · refine (zr_iconst (n := 1) (by decide +kernel)).trans ?_
    refine (zr_goto (off := 4) (t := 22) (by decide +kernel) rfl).trans ?_
    rfl
theorem ze_188_21 {V : zVt} {J : zJt} {d : Nat → Nat → UInt64} (x1 : Int) (x2 : Int) : zGo false 188 21 [.ref 430, .int (zi x1), .int (zi x2), .null, .null, .null] [] (zm V J d) =
    zGo false 188 22 [.ref 430, .int (zi x1), .int (zi x2), .null, .null, .null] [.int (zi (0))] (zm V J d) := by
  refine (zr_iconst (n := 0) (by decide +kernel)).trans ?_
  rfl
theorem ze_188_22 {V : zVt} {J : zJt} {d : Nat → Nat → UInt64} (x1 : Int) (x2 : Int) (s0 : Int) : zGo false 188 22 [.ref 430, .int (zi x1), .int (zi x2), .null, .null, .null] [.int (zi s0)] (zm V J d) =
    (if qw s0 = 0 then zGo false 188 57 [.ref 430, .int (zi x1), .int (zi x2), .int (zi s0), .null, .null] [.int (zi s0), .ref 430] (zm V J d) else zck (0 ≤ qw x1 ∧ qw x1 < (40 : Nat)) ((if qw (V 455 (qw x1)) ≠ qw (-1) then zGo false 188 57 [.ref 430, .int (zi x1), .int (zi x2), .int (zi s0), .null, .null] [.int (zi s0), .ref 430] (zm V J d) else (zGo false 190 0 [.ref 430, .int (zi x1)] [] (zm V J d)).bind (zGor false 188 45 [.ref 430, .int (zi x1), .int (zi x2), .int (zi s0), .null, .null] [.ref 430, .int (zi s0), .ref 430])))) := by
  refine (zr_istore_n (n := 3) (l1 := [.ref 430, .int (zi x1), .int (zi x2), .int (zi s0), .null, .null]) (by decide +kernel) rfl).trans ?_
  refine (zr_aload_n (n := 0) (x := 430) (by decide +kernel) rfl).trans ?_
  refine (zr_iload_n (n := 3) (x := zi s0) (by decide +kernel) rfl).trans ?_
  refine (zr_iload_n (n := 3) (x := zi s0) (by decide +kernel) rfl).trans ?_
  refine (zr_ifeq (off := 31) (a := s0) (t := 57) (by decide +kernel) rfl).trans (zif_ct (fun _ => ?_) (fun _ => ?_))
  · rfl
  · refine (zr_aload_n (n := 0) (x := 430) (by decide +kernel) rfl).trans ?_
    refine (zr_getR (i := 84) (c := 12) (k := 36) (r := 455) (by decide +kernel) (by decide +kernel) rfl (by decide +kernel) (zR0_f (o := 430) (c := 12) (n := 0) (k := 36) (j := 25) rfl (by decide) rfl)).trans ?_
    refine (zr_iload_n (n := 1) (x := zi x1) (by decide +kernel) rfl).trans ?_
    refine (zr_iald (n := 40) (e := x1) (by decide +kernel) rfl).trans (zck_ct fun _ => ?_)
    refine (zr_iconst (n := -1) (by decide +kernel)).trans ?_
    refine (zr_cne (off := 21) (a := (V 455 (qw x1))) (b := (-1)) (t := 57) (by decide +kernel) rfl).trans (zif_ct (fun _ => ?_) (fun _ => ?_))
    · rfl
    · refine (zr_aload_n (n := 0) (x := 430) (by decide +kernel) rfl).trans ?_
      refine (zr_aload_n (n := 0) (x := 430) (by decide +kernel) rfl).trans ?_
      refine (zr_iload_n (n := 1) (x := zi x1) (by decide +kernel) rfl).trans ?_
      exact zr_cV (i := 301) (z := 190) (w := 0) (o := 430) (t := [.int (zi x1)]) (rest := [.ref 430, .int (zi s0), .ref 430]) (L := [.ref 430, .int (zi x1)]) (pc1 := 45) (by decide +kernel) (by decide +kernel) rfl (n := 1) (r := 3) rfl rfl rfl (by decide +kernel) rfl rfl
theorem ze_188_45 {V : zVt} {J : zJt} {d : Nat → Nat → UInt64} (x1 : Int) (x2 : Int) (x3 : Int) (s1 : Int) (s3 : Int) : zGo false 188 45 [.ref 430, .int (zi x1), .int (zi x2), .int (zi x3), .null, .null] [.int (zi s3), .ref 430, .int (zi s1), .ref 430] (zm V J d) =
    (zGo false 191 0 [.ref 430, .int (zi s3), .int (zi x2), .null, .null] [] (zm V J d)).bind (zGor false 188 49 [.ref 430, .int (zi x1), .int (zi x2), .int (zi x3), .null, .null] [.int (zi s1), .ref 430]) := by
  refine (zr_iload_n (n := 2) (x := zi x2) (by decide +kernel) rfl).trans ?_
  exact zr_cV (i := 307) (z := 191) (w := 0) (o := 430) (t := [.int (zi x2), .int (zi s3)]) (rest := [.int (zi s1), .ref 430]) (L := [.ref 430, .int (zi s3), .int (zi x2), .null, .null]) (pc1 := 49) (by decide +kernel) (by decide +kernel) rfl (n := 2) (r := 2) rfl rfl rfl (by decide +kernel) rfl rfl
theorem ze_188_49 {V : zVt} {J : zJt} {d : Nat → Nat → UInt64} (x1 : Int) (x2 : Int) (x3 : Int) (s1 : Int) (s2 : Int) : zGo false 188 49 [.ref 430, .int (zi x1), .int (zi x2), .int (zi x3), .null, .null] [.int (zi s2), .int (zi s1), .ref 430] (zm V J d) =
    (if qw s2 ≠ qw (-1) then zGo false 188 57 [.ref 430, .int (zi x1), .int (zi x2), .int (zi x3), .null, .null] [.int (zi s1), .ref 430] (zm V J d) else zGo false 188 58 [.ref 430, .int (zi x1), .int (zi x2), .int (zi x3), .null, .null] [.int (zi (1)), .int (zi s1), .ref 430] (zm V J d)) := by
  refine (zr_iconst (n := -1) (by decide +kernel)).trans ?_
  refine (zr_cne (off := 7) (a := s2) (b := (-1)) (t := 57) (by decide +kernel) rfl).trans (zif_ct (fun _ => ?_) (fun _ => ?_))
  · rfl
  · refine (zr_iconst (n := 1) (by decide +kernel)).trans ?_
    refine (zr_goto (off := 4) (t := 58) (by decide +kernel) rfl).trans ?_
    rfl
theorem ze_188_57 {V : zVt} {J : zJt} {d : Nat → Nat → UInt64} (x1 : Int) (x2 : Int) (x3 : Int) (s1 : Int) : zGo false 188 57 [.ref 430, .int (zi x1), .int (zi x2), .int (zi x3), .null, .null] [.int (zi s1), .ref 430] (zm V J d) =
    zGo false 188 58 [.ref 430, .int (zi x1), .int (zi x2), .int (zi x3), .null, .null] [.int (zi (0)), .int (zi s1), .ref 430] (zm V J d) := by
  refine (zr_iconst (n := 0) (by decide +kernel)).trans ?_
  rfl
theorem ze_188_58 {V : zVt} {J : zJt} {d : Nat → Nat → UInt64} (x1 : Int) (x2 : Int) (x3 : Int) (s1 : Int) (s2 : Int) : zGo false 188 58 [.ref 430, .int (zi x1), .int (zi x2), .int (zi x3), .null, .null] [.int (zi s2), .int (zi s1), .ref 430] (zm V J d) =
    (zGo false 150 0 [.ref 430, .int (zi s1), .int (zi s2), .int (zi (1))] [] (zm V J d)).bind (zGor false 188 62 [.ref 430, .int (zi x1), .int (zi x2), .int (zi x3), .null, .null] []) := by
  refine (zr_iconst (n := 1) (by decide +kernel)).trans ?_
  exact zr_cV (i := 289) (z := 150) (w := 0) (o := 430) (t := [.int (zi (1)), .int (zi s2), .int (zi s1)]) (rest := []) (L := [.ref 430, .int (zi s1), .int (zi s2), .int (zi (1))]) (pc1 := 62) (by decide +kernel) (by decide +kernel) rfl (n := 3) (r := 0) rfl rfl rfl (by decide +kernel) rfl rfl
theorem ze_188_62 {V : zVt} {J : zJt} {d : Nat → Nat → UInt64} (x1 : Int) (x2 : Int) (x3 : Int) (s0 : Int) : zGo false 188 62 [.ref 430, .int (zi x1), .int (zi x2), .int (zi x3), .null, .null] [.int (zi s0)] (zm V J d) =
    (if qw s0 ≠ 0 then zck (0 ≤ qw x1 ∧ qw x1 < (40 : Nat)) (zGo false 188 80 [.ref 430, .int (zi x1), .int (zi x2), .int (zi x3), .int (zi (0)), .int (zi (0))] [] (zm (vup V 455 (qw x1) x2) J d)) else some (.inl (some (.int (zi (0)))), zm V J d)) := by
  refine (zr_ifne (off := 5) (a := s0) (t := 67) (by decide +kernel) rfl).trans (zif_ct (fun _ => ?_) (fun _ => ?_))
  · refine (zr_aload_n (n := 0) (x := 430) (by decide +kernel) rfl).trans ?_
    refine (zr_getR (i := 84) (c := 12) (k := 36) (r := 455) (by decide +kernel) (by decide +kernel) rfl (by decide +kernel) (zR0_f (o := 430) (c := 12) (n := 0) (k := 36) (j := 25) rfl (by decide) rfl)).trans ?_
    refine (zr_iload_n (n := 1) (x := zi x1) (by decide +kernel) rfl).trans ?_
    refine (zr_iload_n (n := 2) (x := zi x2) (by decide +kernel) rfl).trans ?_
    refine (zr_iast (n := 40) (e := x1) (x := x2) (by decide +kernel) rfl).trans (zck_ct fun _ => ?_)
    refine (zr_iconst (n := 0) (by decide +kernel)).trans ?_
    refine (zr_istore (n := 4) (l1 := [.ref 430, .int (zi x1), .int (zi x2), .int (zi x3), .int (zi (0)), .null]) (by decide +kernel) rfl).trans ?_
    refine (zr_iconst (n := 0) (by decide +kernel)).trans ?_
    refine (zr_istore (n := 5) (l1 := [.ref 430, .int (zi x1), .int (zi x2), .int (zi x3), .int (zi (0)), .int (zi (0))]) (by decide +kernel) rfl).trans ?_
    rfl
  · refine (zr_iconst (n := 0) (by decide +kernel)).trans ?_
    exact zr_iret (a := (0)) (by decide +kernel) rfl
theorem ze_188_80 {V : zVt} {J : zJt} {d : Nat → Nat → UInt64} (x1 : Int) (x2 : Int) (x3 : Int) (x4 : Int) (x5 : Int) : zGo false 188 80 [.ref 430, .int (zi x1), .int (zi x2), .int (zi x3), .int (zi x4), .int (zi x5)] [] (zm V J d) =
    (if qw (V 430 42) ≤ qw x5 then some (.inl (some (.int (zi x4))), zm V J d) else zck (0 ≤ qw x1 ∧ qw x1 < (40 : Nat)) (zck (0 ≤ qw (((200) * ((40) + (V 454 (qw x1)))) + x5) ∧ qw (((200) * ((40) + (V 454 (qw x1)))) + x5) < (10400 : Nat)) (zck ((0 ≤ qw (((200) * x1) + x5) ∧ qw (((200) * x1) + x5) < (10400 : Nat)) ∧ (qw (V 456 (qw (((200) * ((40) + (V 454 (qw x1)))) + x5))) = 0 ∨ qw (V 456 (qw (((200) * ((40) + (V 454 (qw x1)))) + x5))) = 1)) (zck (0 ≤ qw (((200) * x1) + x5) ∧ qw (((200) * x1) + x5) < (10400 : Nat)) ((if qw ((vup V 456 (qw (((200) * x1) + x5)) (V 456 (qw (((200) * ((40) + (V 454 (qw x1)))) + x5)))) 456 (qw (((200) * x1) + x5))) = 0 then zGo false 188 146 [.ref 430, .int (zi x1), .int (zi x2), .int (zi x3), .int (zi x4), .int (zi x5)] [.int (zi (0)), .int (zi x4)] (zm (vup V 456 (qw (((200) * x1) + x5)) (V 456 (qw (((200) * ((40) + (V 454 (qw x1)))) + x5)))) J d) else zGo false 188 146 [.ref 430, .int (zi x1), .int (zi x2), .int (zi x3), .int (zi x4), .int (zi x5)] [.int (zi (1)), .int (zi x4)] (zm (vup V 456 (qw (((200) * x1) + x5)) (V 456 (qw (((200) * ((40) + (V 454 (qw x1)))) + x5)))) J d))))))) := by
  refine (zr_iload (n := 5) (x := zi x5) (by decide +kernel) rfl).trans ?_
  refine (zr_aload_n (n := 0) (x := 430) (by decide +kernel) rfl).trans ?_
  refine (zr_getI (i := 205) (c := 12) (k := 42) (by decide +kernel) (by decide +kernel) rfl (by decide +kernel)).trans ?_
  refine (zr_cge (off := 69) (a := x5) (b := (V 430 42)) (t := 155) (by decide +kernel) rfl).trans (zif_ct (fun _ => ?_) (fun _ => ?_))
  · refine (zr_iload (n := 4) (x := zi x4) (by decide +kernel) rfl).trans ?_
    exact zr_iret (a := x4) (by decide +kernel) rfl
  · refine (zr_aload_n (n := 0) (x := 430) (by decide +kernel) rfl).trans ?_
    refine (zr_getR (i := 87) (c := 12) (k := 38) (r := 456) (by decide +kernel) (by decide +kernel) rfl (by decide +kernel) (zR0_f (o := 430) (c := 12) (n := 0) (k := 38) (j := 26) rfl (by decide) rfl)).trans ?_
    refine (zr_sipush (n := 200) (by decide +kernel) rfl).trans ?_
    refine (zr_iload_n (n := 1) (x := zi x1) (by decide +kernel) rfl).trans ?_
    refine (zr_imul (a := (200)) (b := x1) (by decide +kernel)).trans ?_
    refine (zr_iload (n := 5) (x := zi x5) (by decide +kernel) rfl).trans ?_
    refine (zr_iadd (a := ((200) * x1)) (b := x5) (by decide +kernel)).trans ?_
    refine (zr_aload_n (n := 0) (x := 430) (by decide +kernel) rfl).trans ?_
    refine (zr_getR (i := 87) (c := 12) (k := 38) (r := 456) (by decide +kernel) (by decide +kernel) rfl (by decide +kernel) (zR0_f (o := 430) (c := 12) (n := 0) (k := 38) (j := 26) rfl (by decide) rfl)).trans ?_
    refine (zr_sipush (n := 200) (by decide +kernel) rfl).trans ?_
    refine (zr_bipush (n := 40) (by decide +kernel) rfl).trans ?_
    refine (zr_aload_n (n := 0) (x := 430) (by decide +kernel) rfl).trans ?_
    refine (zr_getR (i := 81) (c := 12) (k := 35) (r := 454) (by decide +kernel) (by decide +kernel) rfl (by decide +kernel) (zR0_f (o := 430) (c := 12) (n := 0) (k := 35) (j := 24) rfl (by decide) rfl)).trans ?_
    refine (zr_iload_n (n := 1) (x := zi x1) (by decide +kernel) rfl).trans ?_
    refine (zr_iald (n := 40) (e := x1) (by decide +kernel) rfl).trans (zck_ct fun _ => ?_)
    refine (zr_iadd (a := (40)) (b := (V 454 (qw x1))) (by decide +kernel)).trans ?_
    refine (zr_imul (a := (200)) (b := ((40) + (V 454 (qw x1)))) (by decide +kernel)).trans ?_
    refine (zr_iload (n := 5) (x := zi x5) (by decide +kernel) rfl).trans ?_
    refine (zr_iadd (a := ((200) * ((40) + (V 454 (qw x1))))) (b := x5) (by decide +kernel)).trans ?_
    refine (zr_zald (n := 10400) (e := (((200) * ((40) + (V 454 (qw x1)))) + x5)) (by decide +kernel) rfl).trans (zck_ct fun _ => ?_)
    refine (zr_zast (n := 10400) (e := (((200) * x1) + x5)) (x := (V 456 (qw (((200) * ((40) + (V 454 (qw x1)))) + x5)))) (by decide +kernel) rfl).trans (zck_ct fun _ => ?_)
    refine (zr_iload (n := 4) (x := zi x4) (by decide +kernel) rfl).trans ?_
    refine (zr_aload_n (n := 0) (x := 430) (by decide +kernel) rfl).trans ?_
    refine (zr_getR (i := 87) (c := 12) (k := 38) (r := 456) (by decide +kernel) (by decide +kernel) rfl (by decide +kernel) (zR0_f (o := 430) (c := 12) (n := 0) (k := 38) (j := 26) rfl (by decide) rfl)).trans ?_
    refine (zr_sipush (n := 200) (by decide +kernel) rfl).trans ?_
    refine (zr_iload_n (n := 1) (x := zi x1) (by decide +kernel) rfl).trans ?_
    refine (zr_imul (a := (200)) (b := x1) (by decide +kernel)).trans ?_
    refine (zr_iload (n := 5) (x := zi x5) (by decide +kernel) rfl).trans ?_
    refine (zr_iadd (a := ((200) * x1)) (b := x5) (by decide +kernel)).trans ?_
    refine (zr_zald (n := 10400) (e := (((200) * x1) + x5)) (by decide +kernel) rfl).trans (zck_ct fun _ => ?_)
    refine (zr_ifeq (off := 7) (a := ((vup V 456 (qw (((200) * x1) + x5)) (V 456 (qw (((200) * ((40) + (V 454 (qw x1)))) + x5)))) 456 (qw (((200) * x1) + x5)))) (t := 145) (by decide +kernel) rfl).trans (zif_ct (fun _ => ?_) (fun _ => ?_))
    · refine (zr_iconst (n := 0) (by decide +kernel)).trans ?_
      rfl
    · refine (zr_iconst (n := 1) (by decide +kernel)).trans ?_
      refine (zr_goto (off := 4) (t := 146) (by decide +kernel) rfl).trans ?_
      rfl
theorem ze_188_146 {V : zVt} {J : zJt} {d : Nat → Nat → UInt64} (x1 : Int) (x2 : Int) (x3 : Int) (x4 : Int) (x5 : Int) (s0 : Int) (s1 : Int) : zGo false 188 146 [.ref 430, .int (zi x1), .int (zi x2), .int (zi x3), .int (zi x4), .int (zi x5)] [.int (zi s1), .int (zi s0)] (zm V J d) =
    zGo false 188 80 [.ref 430, .int (zi x1), .int (zi x2), .int (zi x3), .int (zi (s0 + s1)), .int (zi (x5 + 1))] [] (zm V J d) := by
  refine (zr_iadd (a := s0) (b := s1) (by decide +kernel)).trans ?_
  refine (zr_istore (n := 4) (l1 := [.ref 430, .int (zi x1), .int (zi x2), .int (zi x3), .int (zi (s0 + s1)), .int (zi x5)]) (by decide +kernel) rfl).trans ?_
  refine (zr_iinc (n := 5) (k := 1) (x := x5) (l1 := [.ref 430, .int (zi x1), .int (zi x2), .int (zi x3), .int (zi (s0 + s1)), .int (zi (x5 + 1))]) (by decide +kernel) rfl rfl).trans ?_
  refine (zr_goto (off := -72) (t := 80) (by decide +kernel) rfl).trans ?_
  rfl
/-! PartSongDeskModel isCopy (I)Z -/
theorem ze_189_0 {V : zVt} {J : zJt} {d : Nat → Nat → UInt64} (x1 : Int) : zGo false 189 0 [.ref 430, .int (zi x1)] [] (zm V J d) =
    (zGo false 147 0 [.int (zi x1), .int (zi (V 430 37))] [] (zm V J d)).bind (zGor false 189 8 [.ref 430, .int (zi x1)] []) := by
  refine (zr_iload_n (n := 1) (x := zi x1) (by decide +kernel) rfl).trans ?_
  refine (zr_aload_n (n := 0) (x := 430) (by decide +kernel) rfl).trans ?_
  refine (zr_getI (i := 279) (c := 12) (k := 37) (by decide +kernel) (by decide +kernel) rfl (by decide +kernel)).trans ?_
  exact zr_cS (i := 145) (z := 147) (w := 0) (t := [.int (zi (V 430 37)), .int (zi x1)]) (rest := []) (L := [.int (zi x1), .int (zi (V 430 37))]) (pc1 := 8) (by decide +kernel) (by decide +kernel) (n := 2) (r := 0) rfl rfl rfl (by decide +kernel) rfl rfl
theorem ze_189_8 {V : zVt} {J : zJt} {d : Nat → Nat → UInt64} (x1 : Int) (s0 : Int) : zGo false 189 8 [.ref 430, .int (zi x1)] [.int (zi s0)] (zm V J d) =
    zck (qw s0 = 0 ∨ qw s0 = 1) (some (.inl (some (.int (zi s0))), zm V J d)) := by
  exact zr_zret (a := s0) (by decide +kernel) rfl
/-! PartSongDeskModel pieceOf (I)I -/
theorem ze_190_0 {V : zVt} {J : zJt} {d : Nat → Nat → UInt64} (x1 : Int) : zGo false 190 0 [.ref 430, .int (zi x1)] [] (zm V J d) =
    zck (0 ≤ qw x1 ∧ qw x1 < (40 : Nat)) (zck (qw (4) ≠ 0) (some (.inl (some (.int (zi (qdiv (V 454 (qw x1)) (4))))), zm V J d))) := by
  refine (zr_aload_n (n := 0) (x := 430) (by decide +kernel) rfl).trans ?_
  refine (zr_getR (i := 81) (c := 12) (k := 35) (r := 454) (by decide +kernel) (by decide +kernel) rfl (by decide +kernel) (zR0_f (o := 430) (c := 12) (n := 0) (k := 35) (j := 24) rfl (by decide) rfl)).trans ?_
  refine (zr_iload_n (n := 1) (x := zi x1) (by decide +kernel) rfl).trans ?_
  refine (zr_iald (n := 40) (e := x1) (by decide +kernel) rfl).trans (zck_ct fun _ => ?_)
  refine (zr_iconst (n := 4) (by decide +kernel)).trans ?_
  refine (zr_idiv (a := (V 454 (qw x1))) (b := (4)) (by decide +kernel)).trans (zck_ct fun _ => ?_)
  exact zr_iret (a := (qdiv (V 454 (qw x1)) (4))) (by decide +kernel) rfl
/-! PartSongDeskModel copyOf (II)I -/
theorem ze_191_0 {V : zVt} {J : zJt} {d : Nat → Nat → UInt64} (x1 : Int) (x2 : Int) : zGo false 191 0 [.ref 430, .int (zi x1), .int (zi x2), .null, .null] [] (zm V J d) =
    zGo false 191 5 [.ref 430, .int (zi x1), .int (zi x2), .int (zi (-1)), .int (zi (0))] [] (zm V J d) := by
  refine (zr_iconst (n := -1) (by decide +kernel)).trans ?_
  refine (zr_istore_n (n := 3) (l1 := [.ref 430, .int (zi x1), .int (zi x2), .int (zi (-1)), .null]) (by decide +kernel) rfl).trans ?_
  refine (zr_iconst (n := 0) (by decide +kernel)).trans ?_
  refine (zr_istore (n := 4) (l1 := [.ref 430, .int (zi x1), .int (zi x2), .int (zi (-1)), .int (zi (0))]) (by decide +kernel) rfl).trans ?_
  rfl
theorem ze_191_5 {V : zVt} {J : zJt} {d : Nat → Nat → UInt64} (x1 : Int) (x2 : Int) (x3 : Int) (x4 : Int) : zGo false 191 5 [.ref 430, .int (zi x1), .int (zi x2), .int (zi x3), .int (zi x4)] [] (zm V J d) =
    (if qw (V 430 37) ≤ qw x4 then some (.inl (some (.int (zi x3))), zm V J d) else zck (0 ≤ qw x4 ∧ qw x4 < (40 : Nat)) ((if qw (V 455 (qw x4)) ≠ qw x2 then zGo false 191 40 [.ref 430, .int (zi x1), .int (zi x2), .int (zi x3), .int (zi x4)] [] (zm V J d) else (zGo false 190 0 [.ref 430, .int (zi x4)] [] (zm V J d)).bind (zGor false 191 31 [.ref 430, .int (zi x1), .int (zi x2), .int (zi x3), .int (zi x4)] [])))) := by
  refine (zr_iload (n := 4) (x := zi x4) (by decide +kernel) rfl).trans ?_
  refine (zr_aload_n (n := 0) (x := 430) (by decide +kernel) rfl).trans ?_
  refine (zr_getI (i := 279) (c := 12) (k := 37) (by decide +kernel) (by decide +kernel) rfl (by decide +kernel)).trans ?_
  refine (zr_cge (off := 37) (a := x4) (b := (V 430 37)) (t := 48) (by decide +kernel) rfl).trans (zif_ct (fun _ => ?_) (fun _ => ?_))
  · refine (zr_iload_n (n := 3) (x := zi x3) (by decide +kernel) rfl).trans ?_
    exact zr_iret (a := x3) (by decide +kernel) rfl
  · refine (zr_aload_n (n := 0) (x := 430) (by decide +kernel) rfl).trans ?_
    refine (zr_getR (i := 84) (c := 12) (k := 36) (r := 455) (by decide +kernel) (by decide +kernel) rfl (by decide +kernel) (zR0_f (o := 430) (c := 12) (n := 0) (k := 36) (j := 25) rfl (by decide) rfl)).trans ?_
    refine (zr_iload (n := 4) (x := zi x4) (by decide +kernel) rfl).trans ?_
    refine (zr_iald (n := 40) (e := x4) (by decide +kernel) rfl).trans (zck_ct fun _ => ?_)
    refine (zr_iload_n (n := 2) (x := zi x2) (by decide +kernel) rfl).trans ?_
    refine (zr_cne (off := 18) (a := (V 455 (qw x4))) (b := x2) (t := 40) (by decide +kernel) rfl).trans (zif_ct (fun _ => ?_) (fun _ => ?_))
    · rfl
    · refine (zr_aload_n (n := 0) (x := 430) (by decide +kernel) rfl).trans ?_
      refine (zr_iload (n := 4) (x := zi x4) (by decide +kernel) rfl).trans ?_
      exact zr_cV (i := 301) (z := 190) (w := 0) (o := 430) (t := [.int (zi x4)]) (rest := []) (L := [.ref 430, .int (zi x4)]) (pc1 := 31) (by decide +kernel) (by decide +kernel) rfl (n := 1) (r := 0) rfl rfl rfl (by decide +kernel) rfl rfl
theorem ze_191_31 {V : zVt} {J : zJt} {d : Nat → Nat → UInt64} (x1 : Int) (x2 : Int) (x3 : Int) (x4 : Int) (s0 : Int) : zGo false 191 31 [.ref 430, .int (zi x1), .int (zi x2), .int (zi x3), .int (zi x4)] [.int (zi s0)] (zm V J d) =
    (if qw s0 ≠ qw x1 then zGo false 191 40 [.ref 430, .int (zi x1), .int (zi x2), .int (zi x3), .int (zi x4)] [] (zm V J d) else zGo false 191 41 [.ref 430, .int (zi x1), .int (zi x2), .int (zi x3), .int (zi x4)] [.int (zi x4)] (zm V J d)) := by
  refine (zr_iload_n (n := 1) (x := zi x1) (by decide +kernel) rfl).trans ?_
  refine (zr_cne (off := 8) (a := s0) (b := x1) (t := 40) (by decide +kernel) rfl).trans (zif_ct (fun _ => ?_) (fun _ => ?_))
  · rfl
  · refine (zr_iload (n := 4) (x := zi x4) (by decide +kernel) rfl).trans ?_
    refine (zr_goto (off := 4) (t := 41) (by decide +kernel) rfl).trans ?_
    rfl
theorem ze_191_40 {V : zVt} {J : zJt} {d : Nat → Nat → UInt64} (x1 : Int) (x2 : Int) (x3 : Int) (x4 : Int) : zGo false 191 40 [.ref 430, .int (zi x1), .int (zi x2), .int (zi x3), .int (zi x4)] [] (zm V J d) =
    zGo false 191 41 [.ref 430, .int (zi x1), .int (zi x2), .int (zi x3), .int (zi x4)] [.int (zi x3)] (zm V J d) := by
  refine (zr_iload_n (n := 3) (x := zi x3) (by decide +kernel) rfl).trans ?_
  rfl
theorem ze_191_41 {V : zVt} {J : zJt} {d : Nat → Nat → UInt64} (x1 : Int) (x2 : Int) (x3 : Int) (x4 : Int) (s0 : Int) : zGo false 191 41 [.ref 430, .int (zi x1), .int (zi x2), .int (zi x3), .int (zi x4)] [.int (zi s0)] (zm V J d) =
    zGo false 191 5 [.ref 430, .int (zi x1), .int (zi x2), .int (zi s0), .int (zi (x4 + 1))] [] (zm V J d) := by
  refine (zr_istore_n (n := 3) (l1 := [.ref 430, .int (zi x1), .int (zi x2), .int (zi s0), .int (zi x4)]) (by decide +kernel) rfl).trans ?_
  refine (zr_iinc (n := 4) (k := 1) (x := x4) (l1 := [.ref 430, .int (zi x1), .int (zi x2), .int (zi s0), .int (zi (x4 + 1))]) (by decide +kernel) rfl rfl).trans ?_
  refine (zr_goto (off := -40) (t := 5) (by decide +kernel) rfl).trans ?_
  rfl
/-! PartSongDeskModel back (I)I -/
theorem ze_192_0 {V : zVt} {J : zJt} {d : Nat → Nat → UInt64} (x1 : Int) : zGo false 192 0 [.ref 430, .int (zi x1), .null] [] (zm V J d) =
    (zGo false 189 0 [.ref 430, .int (zi x1)] [] (zm V J d)).bind (zGor false 192 5 [.ref 430, .int (zi x1), .null] []) := by
  refine (zr_aload_n (n := 0) (x := 430) (by decide +kernel) rfl).trans ?_
  refine (zr_iload_n (n := 1) (x := zi x1) (by decide +kernel) rfl).trans ?_
  exact zr_cV (i := 304) (z := 189) (w := 0) (o := 430) (t := [.int (zi x1)]) (rest := []) (L := [.ref 430, .int (zi x1)]) (pc1 := 5) (by decide +kernel) (by decide +kernel) rfl (n := 1) (r := 0) rfl rfl rfl (by decide +kernel) rfl rfl
theorem ze_192_5 {V : zVt} {J : zJt} {d : Nat → Nat → UInt64} (x1 : Int) (s0 : Int) : zGo false 192 5 [.ref 430, .int (zi x1), .null] [.int (zi s0)] (zm V J d) =
    (if qw s0 = 0 then zGo false 192 26 [.ref 430, .int (zi x1), .int (zi s0)] [.int (zi s0), .ref 430] (zm V J d) else zck (0 ≤ qw x1 ∧ qw x1 < (40 : Nat)) ((if qw (V 455 (qw x1)) = qw (-1) then zGo false 192 26 [.ref 430, .int (zi x1), .int (zi s0)] [.int (zi s0), .ref 430] (zm V J d) else zGo false 192 27 [.ref 430, .int (zi x1), .int (zi s0)] [.int (zi (1)), .int (zi s0), .ref 430] (zm V J d)))) := by
  refine (zr_istore_n (n := 2) (l1 := [.ref 430, .int (zi x1), .int (zi s0)]) (by decide +kernel) rfl).trans ?_
  refine (zr_aload_n (n := 0) (x := 430) (by decide +kernel) rfl).trans ?_
  refine (zr_iload_n (n := 2) (x := zi s0) (by decide +kernel) rfl).trans ?_
  refine (zr_iload_n (n := 2) (x := zi s0) (by decide +kernel) rfl).trans ?_
  refine (zr_ifeq (off := 17) (a := s0) (t := 26) (by decide +kernel) rfl).trans (zif_ct (fun _ => ?_) (fun _ => ?_))
  · rfl
  · refine (zr_aload_n (n := 0) (x := 430) (by decide +kernel) rfl).trans ?_
    refine (zr_getR (i := 84) (c := 12) (k := 36) (r := 455) (by decide +kernel) (by decide +kernel) rfl (by decide +kernel) (zR0_f (o := 430) (c := 12) (n := 0) (k := 36) (j := 25) rfl (by decide) rfl)).trans ?_
    refine (zr_iload_n (n := 1) (x := zi x1) (by decide +kernel) rfl).trans ?_
    refine (zr_iald (n := 40) (e := x1) (by decide +kernel) rfl).trans (zck_ct fun _ => ?_)
    refine (zr_iconst (n := -1) (by decide +kernel)).trans ?_
    refine (zr_ceq (off := 7) (a := (V 455 (qw x1))) (b := (-1)) (t := 26) (by decide +kernel) rfl).trans (zif_ct (fun _ => ?_) (fun _ => ?_))
    · rfl
    · refine (zr_iconst (n := 1) (by decide +kernel)).trans ?_
      refine (zr_goto (off := 4) (t := 27) (by decide +kernel) rfl).trans ?_
      rfl
theorem ze_192_26 {V : zVt} {J : zJt} {d : Nat → Nat → UInt64} (x1 : Int) (x2 : Int) (s1 : Int) : zGo false 192 26 [.ref 430, .int (zi x1), .int (zi x2)] [.int (zi s1), .ref 430] (zm V J d) =
    zGo false 192 27 [.ref 430, .int (zi x1), .int (zi x2)] [.int (zi (0)), .int (zi s1), .ref 430] (zm V J d) := by
  refine (zr_iconst (n := 0) (by decide +kernel)).trans ?_
  rfl
theorem ze_192_27 {V : zVt} {J : zJt} {d : Nat → Nat → UInt64} (x1 : Int) (x2 : Int) (s1 : Int) (s2 : Int) : zGo false 192 27 [.ref 430, .int (zi x1), .int (zi x2)] [.int (zi s2), .int (zi s1), .ref 430] (zm V J d) =
    (zGo false 150 0 [.ref 430, .int (zi s1), .int (zi s2), .int (zi (1))] [] (zm V J d)).bind (zGor false 192 31 [.ref 430, .int (zi x1), .int (zi x2)] []) := by
  refine (zr_iconst (n := 1) (by decide +kernel)).trans ?_
  exact zr_cV (i := 289) (z := 150) (w := 0) (o := 430) (t := [.int (zi (1)), .int (zi s2), .int (zi s1)]) (rest := []) (L := [.ref 430, .int (zi s1), .int (zi s2), .int (zi (1))]) (pc1 := 31) (by decide +kernel) (by decide +kernel) rfl (n := 3) (r := 0) rfl rfl rfl (by decide +kernel) rfl rfl
theorem ze_192_31 {V : zVt} {J : zJt} {d : Nat → Nat → UInt64} (x1 : Int) (x2 : Int) (s0 : Int) : zGo false 192 31 [.ref 430, .int (zi x1), .int (zi x2)] [.int (zi s0)] (zm V J d) =
    (if qw s0 = 0 then zGo false 192 43 [.ref 430, .int (zi x1), .int (zi x2)] [.int (zi (0))] (zm V J d) else (zGo false 193 0 [.ref 430, .int (zi x1), .null, .null, .null] [] (zm V J d)).bind (zGor false 192 39 [.ref 430, .int (zi x1), .int (zi x2)] [])) := by
  refine (zr_ifeq (off := 11) (a := s0) (t := 42) (by decide +kernel) rfl).trans (zif_ct (fun _ => ?_) (fun _ => ?_))
  · refine (zr_iconst (n := 0) (by decide +kernel)).trans ?_
    rfl
  · refine (zr_aload_n (n := 0) (x := 430) (by decide +kernel) rfl).trans ?_
    refine (zr_iload_n (n := 1) (x := zi x1) (by decide +kernel) rfl).trans ?_
    exact zr_cV (i := 310) (z := 193) (w := 0) (o := 430) (t := [.int (zi x1)]) (rest := []) (L := [.ref 430, .int (zi x1), .null, .null, .null]) (pc1 := 39) (by decide +kernel) (by decide +kernel) rfl (n := 1) (r := 0) rfl rfl rfl (by decide +kernel) rfl rfl
theorem ze_192_39 {V : zVt} {J : zJt} {d : Nat → Nat → UInt64} (x1 : Int) (x2 : Int) (s0 : Int) : zGo false 192 39 [.ref 430, .int (zi x1), .int (zi x2)] [.int (zi s0)] (zm V J d) =
    zGo false 192 43 [.ref 430, .int (zi x1), .int (zi x2)] [.int (zi s0)] (zm V J d) := by
  refine (zr_goto (off := 4) (t := 43) (by decide +kernel) rfl).trans ?_
  rfl
theorem ze_192_43 {V : zVt} {J : zJt} {d : Nat → Nat → UInt64} (x1 : Int) (x2 : Int) (s0 : Int) : zGo false 192 43 [.ref 430, .int (zi x1), .int (zi x2)] [.int (zi s0)] (zm V J d) =
    some (.inl (some (.int (zi s0))), zm V J d) := by
  exact zr_iret (a := s0) (by decide +kernel) rfl
/-! PartSongDeskModel comesBack (I)I -/
theorem ze_193_0 {V : zVt} {J : zJt} {d : Nat → Nat → UInt64} (x1 : Int) : zGo false 193 0 [.ref 430, .int (zi x1), .null, .null, .null] [] (zm V J d) =
    zck (0 ≤ qw x1 ∧ qw x1 < (40 : Nat)) (zGo false 193 11 [.ref 430, .int (zi x1), .int (zi (0)), .int (zi (0)), .null] [] (zm (vup V 455 (qw x1) (-1)) J d)) := by
  refine (zr_aload_n (n := 0) (x := 430) (by decide +kernel) rfl).trans ?_
  refine (zr_getR (i := 84) (c := 12) (k := 36) (r := 455) (by decide +kernel) (by decide +kernel) rfl (by decide +kernel) (zR0_f (o := 430) (c := 12) (n := 0) (k := 36) (j := 25) rfl (by decide) rfl)).trans ?_
  refine (zr_iload_n (n := 1) (x := zi x1) (by decide +kernel) rfl).trans ?_
  refine (zr_iconst (n := -1) (by decide +kernel)).trans ?_
  refine (zr_iast (n := 40) (e := x1) (x := (-1)) (by decide +kernel) rfl).trans (zck_ct fun _ => ?_)
  refine (zr_iconst (n := 0) (by decide +kernel)).trans ?_
  refine (zr_istore_n (n := 2) (l1 := [.ref 430, .int (zi x1), .int (zi (0)), .null, .null]) (by decide +kernel) rfl).trans ?_
  refine (zr_iconst (n := 0) (by decide +kernel)).trans ?_
  refine (zr_istore_n (n := 3) (l1 := [.ref 430, .int (zi x1), .int (zi (0)), .int (zi (0)), .null]) (by decide +kernel) rfl).trans ?_
  rfl
theorem ze_193_11 {V : zVt} {J : zJt} {d : Nat → Nat → UInt64} (x1 : Int) (x2 : Int) (x3 : Int) (x4 : Value) : zGo false 193 11 [.ref 430, .int (zi x1), .int (zi x2), .int (zi x3), x4] [] (zm V J d) =
    (if qw (V 430 42) ≤ qw x3 then some (.inl (some (.int (zi x2))), zm V J d) else zck (0 ≤ qw x1 ∧ qw x1 < (40 : Nat)) (zck (0 ≤ qw (((200) * x1) + x3) ∧ qw (((200) * x1) + x3) < (10400 : Nat)) ((if qw (V 456 (qw (((200) * x1) + x3))) = 0 then zGo false 193 66 [.ref 430, .int (zi x1), .int (zi x2), .int (zi x3), .int (zi (((200) * ((40) + (V 454 (qw x1)))) + x3))] [.int (zi x2)] (zm V J d) else zck (0 ≤ qw (((200) * ((40) + (V 454 (qw x1)))) + x3) ∧ qw (((200) * ((40) + (V 454 (qw x1)))) + x3) < (10400 : Nat)) ((if qw (V 456 (qw (((200) * ((40) + (V 454 (qw x1)))) + x3))) ≠ 0 then zGo false 193 66 [.ref 430, .int (zi x1), .int (zi x2), .int (zi x3), .int (zi (((200) * ((40) + (V 454 (qw x1)))) + x3))] [.int (zi x2)] (zm V J d) else zGo false 193 67 [.ref 430, .int (zi x1), .int (zi x2), .int (zi x3), .int (zi (((200) * ((40) + (V 454 (qw x1)))) + x3))] [.int (zi (1)), .int (zi x2)] (zm V J d))))))) := by
  refine (zr_iload_n (n := 3) (x := zi x3) (by decide +kernel) rfl).trans ?_
  refine (zr_aload_n (n := 0) (x := 430) (by decide +kernel) rfl).trans ?_
  refine (zr_getI (i := 205) (c := 12) (k := 42) (by decide +kernel) (by decide +kernel) rfl (by decide +kernel)).trans ?_
  refine (zr_cge (off := 96) (a := x3) (b := (V 430 42)) (t := 112) (by decide +kernel) rfl).trans (zif_ct (fun _ => ?_) (fun _ => ?_))
  · refine (zr_iload_n (n := 2) (x := zi x2) (by decide +kernel) rfl).trans ?_
    exact zr_iret (a := x2) (by decide +kernel) rfl
  · refine (zr_sipush (n := 200) (by decide +kernel) rfl).trans ?_
    refine (zr_bipush (n := 40) (by decide +kernel) rfl).trans ?_
    refine (zr_aload_n (n := 0) (x := 430) (by decide +kernel) rfl).trans ?_
    refine (zr_getR (i := 81) (c := 12) (k := 35) (r := 454) (by decide +kernel) (by decide +kernel) rfl (by decide +kernel) (zR0_f (o := 430) (c := 12) (n := 0) (k := 35) (j := 24) rfl (by decide) rfl)).trans ?_
    refine (zr_iload_n (n := 1) (x := zi x1) (by decide +kernel) rfl).trans ?_
    refine (zr_iald (n := 40) (e := x1) (by decide +kernel) rfl).trans (zck_ct fun _ => ?_)
    refine (zr_iadd (a := (40)) (b := (V 454 (qw x1))) (by decide +kernel)).trans ?_
    refine (zr_imul (a := (200)) (b := ((40) + (V 454 (qw x1)))) (by decide +kernel)).trans ?_
    refine (zr_iload_n (n := 3) (x := zi x3) (by decide +kernel) rfl).trans ?_
    refine (zr_iadd (a := ((200) * ((40) + (V 454 (qw x1))))) (b := x3) (by decide +kernel)).trans ?_
    refine (zr_istore (n := 4) (l1 := [.ref 430, .int (zi x1), .int (zi x2), .int (zi x3), .int (zi (((200) * ((40) + (V 454 (qw x1)))) + x3))]) (by decide +kernel) rfl).trans ?_
    refine (zr_iload_n (n := 2) (x := zi x2) (by decide +kernel) rfl).trans ?_
    refine (zr_aload_n (n := 0) (x := 430) (by decide +kernel) rfl).trans ?_
    refine (zr_getR (i := 87) (c := 12) (k := 38) (r := 456) (by decide +kernel) (by decide +kernel) rfl (by decide +kernel) (zR0_f (o := 430) (c := 12) (n := 0) (k := 38) (j := 26) rfl (by decide) rfl)).trans ?_
    refine (zr_sipush (n := 200) (by decide +kernel) rfl).trans ?_
    refine (zr_iload_n (n := 1) (x := zi x1) (by decide +kernel) rfl).trans ?_
    refine (zr_imul (a := (200)) (b := x1) (by decide +kernel)).trans ?_
    refine (zr_iload_n (n := 3) (x := zi x3) (by decide +kernel) rfl).trans ?_
    refine (zr_iadd (a := ((200) * x1)) (b := x3) (by decide +kernel)).trans ?_
    refine (zr_zald (n := 10400) (e := (((200) * x1) + x3)) (by decide +kernel) rfl).trans (zck_ct fun _ => ?_)
    refine (zr_ifeq (off := 17) (a := (V 456 (qw (((200) * x1) + x3)))) (t := 66) (by decide +kernel) rfl).trans (zif_ct (fun _ => ?_) (fun _ => ?_))
    · rfl
    · refine (zr_aload_n (n := 0) (x := 430) (by decide +kernel) rfl).trans ?_
      refine (zr_getR (i := 87) (c := 12) (k := 38) (r := 456) (by decide +kernel) (by decide +kernel) rfl (by decide +kernel) (zR0_f (o := 430) (c := 12) (n := 0) (k := 38) (j := 26) rfl (by decide) rfl)).trans ?_
      refine (zr_iload (n := 4) (x := zi (((200) * ((40) + (V 454 (qw x1)))) + x3)) (by decide +kernel) rfl).trans ?_
      refine (zr_zald (n := 10400) (e := (((200) * ((40) + (V 454 (qw x1)))) + x3)) (by decide +kernel) rfl).trans (zck_ct fun _ => ?_)
      refine (zr_ifne (off := 7) (a := (V 456 (qw (((200) * ((40) + (V 454 (qw x1)))) + x3)))) (t := 66) (by decide +kernel) rfl).trans (zif_ct (fun _ => ?_) (fun _ => ?_))
      · rfl
      · refine (zr_iconst (n := 1) (by decide +kernel)).trans ?_
        refine (zr_goto (off := 4) (t := 67) (by decide +kernel) rfl).trans ?_
        rfl
theorem ze_193_66 {V : zVt} {J : zJt} {d : Nat → Nat → UInt64} (x1 : Int) (x2 : Int) (x3 : Int) (x4 : Int) (s0 : Int) : zGo false 193 66 [.ref 430, .int (zi x1), .int (zi x2), .int (zi x3), .int (zi x4)] [.int (zi s0)] (zm V J d) =
    zGo false 193 67 [.ref 430, .int (zi x1), .int (zi x2), .int (zi x3), .int (zi x4)] [.int (zi (0)), .int (zi s0)] (zm V J d) := by
  refine (zr_iconst (n := 0) (by decide +kernel)).trans ?_
  rfl
theorem ze_193_67 {V : zVt} {J : zJt} {d : Nat → Nat → UInt64} (x1 : Int) (x2 : Int) (x3 : Int) (x4 : Int) (s0 : Int) (s1 : Int) : zGo false 193 67 [.ref 430, .int (zi x1), .int (zi x2), .int (zi x3), .int (zi x4)] [.int (zi s1), .int (zi s0)] (zm V J d) =
    zck (0 ≤ qw x4 ∧ qw x4 < (10400 : Nat)) ((if qw (V 456 (qw x4)) ≠ 0 then zGo false 193 100 [.ref 430, .int (zi x1), .int (zi (s0 + s1)), .int (zi x3), .int (zi x4)] [.int (zi x4), .ref 456] (zm V J d) else zck (0 ≤ qw (((200) * x1) + x3) ∧ qw (((200) * x1) + x3) < (10400 : Nat)) ((if qw (V 456 (qw (((200) * x1) + x3))) = 0 then zGo false 193 105 [.ref 430, .int (zi x1), .int (zi (s0 + s1)), .int (zi x3), .int (zi x4)] [.int (zi (0)), .int (zi x4), .ref 456] (zm V J d) else zGo false 193 100 [.ref 430, .int (zi x1), .int (zi (s0 + s1)), .int (zi x3), .int (zi x4)] [.int (zi x4), .ref 456] (zm V J d))))) := by
  refine (zr_iadd (a := s0) (b := s1) (by decide +kernel)).trans ?_
  refine (zr_istore_n (n := 2) (l1 := [.ref 430, .int (zi x1), .int (zi (s0 + s1)), .int (zi x3), .int (zi x4)]) (by decide +kernel) rfl).trans ?_
  refine (zr_aload_n (n := 0) (x := 430) (by decide +kernel) rfl).trans ?_
  refine (zr_getR (i := 87) (c := 12) (k := 38) (r := 456) (by decide +kernel) (by decide +kernel) rfl (by decide +kernel) (zR0_f (o := 430) (c := 12) (n := 0) (k := 38) (j := 26) rfl (by decide) rfl)).trans ?_
  refine (zr_iload (n := 4) (x := zi x4) (by decide +kernel) rfl).trans ?_
  refine (zr_aload_n (n := 0) (x := 430) (by decide +kernel) rfl).trans ?_
  refine (zr_getR (i := 87) (c := 12) (k := 38) (r := 456) (by decide +kernel) (by decide +kernel) rfl (by decide +kernel) (zR0_f (o := 430) (c := 12) (n := 0) (k := 38) (j := 26) rfl (by decide) rfl)).trans ?_
  refine (zr_iload (n := 4) (x := zi x4) (by decide +kernel) rfl).trans ?_
  refine (zr_zald (n := 10400) (e := x4) (by decide +kernel) rfl).trans (zck_ct fun _ => ?_)
  refine (zr_ifne (off := 18) (a := (V 456 (qw x4))) (t := 100) (by decide +kernel) rfl).trans (zif_ct (fun _ => ?_) (fun _ => ?_))
  · rfl
  · refine (zr_aload_n (n := 0) (x := 430) (by decide +kernel) rfl).trans ?_
    refine (zr_getR (i := 87) (c := 12) (k := 38) (r := 456) (by decide +kernel) (by decide +kernel) rfl (by decide +kernel) (zR0_f (o := 430) (c := 12) (n := 0) (k := 38) (j := 26) rfl (by decide) rfl)).trans ?_
    refine (zr_sipush (n := 200) (by decide +kernel) rfl).trans ?_
    refine (zr_iload_n (n := 1) (x := zi x1) (by decide +kernel) rfl).trans ?_
    refine (zr_imul (a := (200)) (b := x1) (by decide +kernel)).trans ?_
    refine (zr_iload_n (n := 3) (x := zi x3) (by decide +kernel) rfl).trans ?_
    refine (zr_iadd (a := ((200) * x1)) (b := x3) (by decide +kernel)).trans ?_
    refine (zr_zald (n := 10400) (e := (((200) * x1) + x3)) (by decide +kernel) rfl).trans (zck_ct fun _ => ?_)
    refine (zr_ifeq (off := 7) (a := (V 456 (qw (((200) * x1) + x3)))) (t := 104) (by decide +kernel) rfl).trans (zif_ct (fun _ => ?_) (fun _ => ?_))
    · refine (zr_iconst (n := 0) (by decide +kernel)).trans ?_
      rfl
    · rfl
theorem ze_193_100 {V : zVt} {J : zJt} {d : Nat → Nat → UInt64} (x1 : Int) (x2 : Int) (x3 : Int) (x4 : Int) (s1 : Int) : zGo false 193 100 [.ref 430, .int (zi x1), .int (zi x2), .int (zi x3), .int (zi x4)] [.int (zi s1), .ref 456] (zm V J d) =
    zGo false 193 105 [.ref 430, .int (zi x1), .int (zi x2), .int (zi x3), .int (zi x4)] [.int (zi (1)), .int (zi s1), .ref 456] (zm V J d) := by
  refine (zr_iconst (n := 1) (by decide +kernel)).trans ?_
  refine (zr_goto (off := 4) (t := 105) (by decide +kernel) rfl).trans ?_
  rfl
theorem ze_193_105 {V : zVt} {J : zJt} {d : Nat → Nat → UInt64} (x1 : Int) (x2 : Int) (x3 : Int) (x4 : Int) (s1 : Int) (s2 : Int) : zGo false 193 105 [.ref 430, .int (zi x1), .int (zi x2), .int (zi x3), .int (zi x4)] [.int (zi s2), .int (zi s1), .ref 456] (zm V J d) =
    zck ((0 ≤ qw s1 ∧ qw s1 < (10400 : Nat)) ∧ (qw s2 = 0 ∨ qw s2 = 1)) (zGo false 193 11 [.ref 430, .int (zi x1), .int (zi x2), .int (zi (x3 + 1)), .int (zi x4)] [] (zm (vup V 456 (qw s1) s2) J d)) := by
  refine (zr_zast (n := 10400) (e := s1) (x := s2) (by decide +kernel) rfl).trans (zck_ct fun _ => ?_)
  refine (zr_iinc (n := 3) (k := 1) (x := x3) (l1 := [.ref 430, .int (zi x1), .int (zi x2), .int (zi (x3 + 1)), .int (zi x4)]) (by decide +kernel) rfl rfl).trans ?_
  refine (zr_goto (off := -98) (t := 11) (by decide +kernel) rfl).trans ?_
  rfl
/-! PartSongDeskModel pencil (IIII)I -/
theorem ze_194_0 {V : zVt} {J : zJt} {d : Nat → Nat → UInt64} (x1 : Int) (x2 : Int) (x3 : Int) (x4 : Int) : zGo false 194 0 [.ref 430, .int (zi x1), .int (zi x2), .int (zi x3), .int (zi x4), .null, .null, .null, .null] [] (zm V J d) =
    (zGo false 189 0 [.ref 430, .int (zi x1)] [] (zm V J d)).bind (zGor false 194 5 [.ref 430, .int (zi x1), .int (zi x2), .int (zi x3), .int (zi x4), .null, .null, .null, .null] []) := by
  refine (zr_aload_n (n := 0) (x := 430) (by decide +kernel) rfl).trans ?_
  refine (zr_iload_n (n := 1) (x := zi x1) (by decide +kernel) rfl).trans ?_
  exact zr_cV (i := 304) (z := 189) (w := 0) (o := 430) (t := [.int (zi x1)]) (rest := []) (L := [.ref 430, .int (zi x1)]) (pc1 := 5) (by decide +kernel) (by decide +kernel) rfl (n := 1) (r := 0) rfl rfl rfl (by decide +kernel) rfl rfl
theorem ze_194_5 {V : zVt} {J : zJt} {d : Nat → Nat → UInt64} (x1 : Int) (x2 : Int) (x3 : Int) (x4 : Int) (s0 : Int) : zGo false 194 5 [.ref 430, .int (zi x1), .int (zi x2), .int (zi x3), .int (zi x4), .null, .null, .null, .null] [.int (zi s0)] (zm V J d) =
    (if qw s0 = 0 then zGo false 194 22 [.ref 430, .int (zi x1), .int (zi x2), .int (zi x3), .int (zi x4), .int (zi s0), .null, .null, .null] [] (zm V J d) else zck (0 ≤ qw x1 ∧ qw x1 < (40 : Nat)) ((zGo false 154 0 [.ref 430, .int (zi (V 454 (qw x1))), .null, .null] [] (zm V J d)).bind (zGor false 194 22 [.ref 430, .int (zi x1), .int (zi x2), .int (zi x3), .int (zi x4), .int (zi s0), .null, .null, .null] []))) := by
  refine (zr_istore (n := 5) (l1 := [.ref 430, .int (zi x1), .int (zi x2), .int (zi x3), .int (zi x4), .int (zi s0), .null, .null, .null]) (by decide +kernel) rfl).trans ?_
  refine (zr_iload (n := 5) (x := zi s0) (by decide +kernel) rfl).trans ?_
  refine (zr_ifeq (off := 13) (a := s0) (t := 22) (by decide +kernel) rfl).trans (zif_ct (fun _ => ?_) (fun _ => ?_))
  · rfl
  · refine (zr_aload_n (n := 0) (x := 430) (by decide +kernel) rfl).trans ?_
    refine (zr_aload_n (n := 0) (x := 430) (by decide +kernel) rfl).trans ?_
    refine (zr_getR (i := 81) (c := 12) (k := 35) (r := 454) (by decide +kernel) (by decide +kernel) rfl (by decide +kernel) (zR0_f (o := 430) (c := 12) (n := 0) (k := 35) (j := 24) rfl (by decide) rfl)).trans ?_
    refine (zr_iload_n (n := 1) (x := zi x1) (by decide +kernel) rfl).trans ?_
    refine (zr_iald (n := 40) (e := x1) (by decide +kernel) rfl).trans (zck_ct fun _ => ?_)
    exact zr_cV (i := 263) (z := 154) (w := 0) (o := 430) (t := [.int (zi (V 454 (qw x1)))]) (rest := []) (L := [.ref 430, .int (zi (V 454 (qw x1))), .null, .null]) (pc1 := 22) (by decide +kernel) (by decide +kernel) rfl (n := 1) (r := 0) rfl rfl rfl (by decide +kernel) rfl rfl
theorem ze_194_22 {V : zVt} {J : zJt} {d : Nat → Nat → UInt64} (x1 : Int) (x2 : Int) (x3 : Int) (x4 : Int) (x5 : Int) : zGo false 194 22 [.ref 430, .int (zi x1), .int (zi x2), .int (zi x3), .int (zi x4), .int (zi x5), .null, .null, .null] [] (zm V J d) =
    (if qw x5 = 0 then zGo false 194 42 [.ref 430, .int (zi x1), .int (zi x2), .int (zi x3), .int (zi x4), .int (zi x5), .null, .null, .null] [] (zm V J d) else (zGo false 147 0 [.int (zi x2), .int (zi (V 430 10))] [] (zm V J d)).bind (zGor false 194 35 [.ref 430, .int (zi x1), .int (zi x2), .int (zi x3), .int (zi x4), .int (zi x5), .null, .null, .null] [])) := by
  refine (zr_iload (n := 5) (x := zi x5) (by decide +kernel) rfl).trans ?_
  refine (zr_ifeq (off := 18) (a := x5) (t := 42) (by decide +kernel) rfl).trans (zif_ct (fun _ => ?_) (fun _ => ?_))
  · rfl
  · refine (zr_iload_n (n := 2) (x := zi x2) (by decide +kernel) rfl).trans ?_
    refine (zr_aload_n (n := 0) (x := 430) (by decide +kernel) rfl).trans ?_
    refine (zr_getI (i := 149) (c := 12) (k := 10) (by decide +kernel) (by decide +kernel) rfl (by decide +kernel)).trans ?_
    exact zr_cS (i := 145) (z := 147) (w := 0) (t := [.int (zi (V 430 10)), .int (zi x2)]) (rest := []) (L := [.int (zi x2), .int (zi (V 430 10))]) (pc1 := 35) (by decide +kernel) (by decide +kernel) (n := 2) (r := 0) rfl rfl rfl (by decide +kernel) rfl rfl
theorem ze_194_35 {V : zVt} {J : zJt} {d : Nat → Nat → UInt64} (x1 : Int) (x2 : Int) (x3 : Int) (x4 : Int) (x5 : Int) (s0 : Int) : zGo false 194 35 [.ref 430, .int (zi x1), .int (zi x2), .int (zi x3), .int (zi x4), .int (zi x5), .null, .null, .null] [.int (zi s0)] (zm V J d) =
    (if qw s0 = 0 then zGo false 194 42 [.ref 430, .int (zi x1), .int (zi x2), .int (zi x3), .int (zi x4), .int (zi x5), .null, .null, .null] [] (zm V J d) else zGo false 194 43 [.ref 430, .int (zi x1), .int (zi x2), .int (zi x3), .int (zi x4), .int (zi x5), .null, .null, .null] [.int (zi (1))] (zm V J d)) := by
  refine (zr_ifeq (off := 7) (a := s0) (t := 42) (by decide +kernel) rfl).trans (zif_ct (fun _ => ?_) (fun _ => ?_))
  · rfl
  · refine (zr_iconst (n := 1) (by decide +kernel)).trans ?_
    refine (zr_goto (off := 4) (t := 43) (by decide +kernel) rfl).trans ?_
    rfl
theorem ze_194_42 {V : zVt} {J : zJt} {d : Nat → Nat → UInt64} (x1 : Int) (x2 : Int) (x3 : Int) (x4 : Int) (x5 : Int) : zGo false 194 42 [.ref 430, .int (zi x1), .int (zi x2), .int (zi x3), .int (zi x4), .int (zi x5), .null, .null, .null] [] (zm V J d) =
    zGo false 194 43 [.ref 430, .int (zi x1), .int (zi x2), .int (zi x3), .int (zi x4), .int (zi x5), .null, .null, .null] [.int (zi (0))] (zm V J d) := by
  refine (zr_iconst (n := 0) (by decide +kernel)).trans ?_
  rfl
theorem ze_194_43 {V : zVt} {J : zJt} {d : Nat → Nat → UInt64} (x1 : Int) (x2 : Int) (x3 : Int) (x4 : Int) (x5 : Int) (s0 : Int) : zGo false 194 43 [.ref 430, .int (zi x1), .int (zi x2), .int (zi x3), .int (zi x4), .int (zi x5), .null, .null, .null] [.int (zi s0)] (zm V J d) =
    (if qw s0 = 0 then zGo false 194 60 [.ref 430, .int (zi x1), .int (zi x2), .int (zi x3), .int (zi x4), .int (zi x5), .int (zi s0), .null, .null] [.int (zi (-1))] (zm V J d) else zck (0 ≤ qw x2 ∧ qw x2 < (60 : Nat)) (zGo false 194 60 [.ref 430, .int (zi x1), .int (zi x2), .int (zi x3), .int (zi x4), .int (zi x5), .int (zi s0), .null, .null] [.int (zi (V 433 (qw x2)))] (zm V J d))) := by
  refine (zr_istore (n := 6) (l1 := [.ref 430, .int (zi x1), .int (zi x2), .int (zi x3), .int (zi x4), .int (zi x5), .int (zi s0), .null, .null]) (by decide +kernel) rfl).trans ?_
  refine (zr_iload (n := 6) (x := zi s0) (by decide +kernel) rfl).trans ?_
  refine (zr_ifeq (off := 12) (a := s0) (t := 59) (by decide +kernel) rfl).trans (zif_ct (fun _ => ?_) (fun _ => ?_))
  · refine (zr_iconst (n := -1) (by decide +kernel)).trans ?_
    rfl
  · refine (zr_aload_n (n := 0) (x := 430) (by decide +kernel) rfl).trans ?_
    refine (zr_getR (i := 16) (c := 12) (k := 2) (r := 433) (by decide +kernel) (by decide +kernel) rfl (by decide +kernel) (zR0_f (o := 430) (c := 12) (n := 0) (k := 2) (j := 3) rfl (by decide) rfl)).trans ?_
    refine (zr_iload_n (n := 2) (x := zi x2) (by decide +kernel) rfl).trans ?_
    refine (zr_iald (n := 60) (e := x2) (by decide +kernel) rfl).trans (zck_ct fun _ => ?_)
    refine (zr_goto (off := 4) (t := 60) (by decide +kernel) rfl).trans ?_
    rfl
theorem ze_194_60 {V : zVt} {J : zJt} {d : Nat → Nat → UInt64} (x1 : Int) (x2 : Int) (x3 : Int) (x4 : Int) (x5 : Int) (x6 : Int) (s0 : Int) : zGo false 194 60 [.ref 430, .int (zi x1), .int (zi x2), .int (zi x3), .int (zi x4), .int (zi x5), .int (zi x6), .null, .null] [.int (zi s0)] (zm V J d) =
    (if qw x3 ≠ 0 then (if qw s0 = qw (3) then zGo false 194 96 [.ref 430, .int (zi x1), .int (zi x2), .int (zi x3), .int (zi x4), .int (zi x5), .int (zi x6), .int (zi s0), .null] [] (zm V J d) else (if qw x3 ≠ qw (3) then zGo false 194 100 [.ref 430, .int (zi x1), .int (zi x2), .int (zi x3), .int (zi x4), .int (zi x5), .int (zi x6), .int (zi s0), .null] [] (zm V J d) else (if qw s0 ≠ qw (4) then zGo false 194 100 [.ref 430, .int (zi x1), .int (zi x2), .int (zi x3), .int (zi x4), .int (zi x5), .int (zi x6), .int (zi s0), .null] [] (zm V J d) else zGo false 194 96 [.ref 430, .int (zi x1), .int (zi x2), .int (zi x3), .int (zi x4), .int (zi x5), .int (zi x6), .int (zi s0), .null] [] (zm V J d)))) else (if qw s0 ≠ 0 then zGo false 194 101 [.ref 430, .int (zi x1), .int (zi x2), .int (zi x3), .int (zi x4), .int (zi x5), .int (zi x6), .int (zi s0), .null] [.int (zi (0))] (zm V J d) else zGo false 194 101 [.ref 430, .int (zi x1), .int (zi x2), .int (zi x3), .int (zi x4), .int (zi x5), .int (zi x6), .int (zi s0), .null] [.int (zi (1))] (zm V J d))) := by
  refine (zr_istore (n := 7) (l1 := [.ref 430, .int (zi x1), .int (zi x2), .int (zi x3), .int (zi x4), .int (zi x5), .int (zi x6), .int (zi s0), .null]) (by decide +kernel) rfl).trans ?_
  refine (zr_iload_n (n := 3) (x := zi x3) (by decide +kernel) rfl).trans ?_
  refine (zr_ifne (off := 16) (a := x3) (t := 79) (by decide +kernel) rfl).trans (zif_ct (fun _ => ?_) (fun _ => ?_))
  · refine (zr_iload (n := 7) (x := zi s0) (by decide +kernel) rfl).trans ?_
    refine (zr_iconst (n := 3) (by decide +kernel)).trans ?_
    refine (zr_ceq (off := 14) (a := s0) (b := (3)) (t := 96) (by decide +kernel) rfl).trans (zif_ct (fun _ => ?_) (fun _ => ?_))
    · rfl
    · refine (zr_iload_n (n := 3) (x := zi x3) (by decide +kernel) rfl).trans ?_
      refine (zr_iconst (n := 3) (by decide +kernel)).trans ?_
      refine (zr_cne (off := 13) (a := x3) (b := (3)) (t := 100) (by decide +kernel) rfl).trans (zif_ct (fun _ => ?_) (fun _ => ?_))
      · rfl
      · refine (zr_iload (n := 7) (x := zi s0) (by decide +kernel) rfl).trans ?_
        refine (zr_iconst (n := 4) (by decide +kernel)).trans ?_
        refine (zr_cne (off := 7) (a := s0) (b := (4)) (t := 100) (by decide +kernel) rfl).trans (zif_ct (fun _ => ?_) (fun _ => ?_))
        · rfl
        · rfl
  · refine (zr_iload (n := 7) (x := zi s0) (by decide +kernel) rfl).trans ?_
    refine (zr_ifne (off := 7) (a := s0) (t := 75) (by decide +kernel) rfl).trans (zif_ct (fun _ => ?_) (fun _ => ?_))
    · refine (zr_iconst (n := 0) (by decide +kernel)).trans ?_
      refine (zr_goto (off := 25) (t := 101) (by decide +kernel) rfl).trans ?_
      rfl
    · refine (zr_iconst (n := 1) (by decide +kernel)).trans ?_
      refine (zr_goto (off := 29) (t := 101) (by decide +kernel) rfl).trans ?_
      rfl
theorem ze_194_96 {V : zVt} {J : zJt} {d : Nat → Nat → UInt64} (x1 : Int) (x2 : Int) (x3 : Int) (x4 : Int) (x5 : Int) (x6 : Int) (x7 : Int) : zGo false 194 96 [.ref 430, .int (zi x1), .int (zi x2), .int (zi x3), .int (zi x4), .int (zi x5), .int (zi x6), .int (zi x7), .null] [] (zm V J d) =
    zGo false 194 101 [.ref 430, .int (zi x1), .int (zi x2), .int (zi x3), .int (zi x4), .int (zi x5), .int (zi x6), .int (zi x7), .null] [.int (zi (1))] (zm V J d) := by
  refine (zr_iconst (n := 1) (by decide +kernel)).trans ?_
  refine (zr_goto (off := 4) (t := 101) (by decide +kernel) rfl).trans ?_
  rfl
theorem ze_194_100 {V : zVt} {J : zJt} {d : Nat → Nat → UInt64} (x1 : Int) (x2 : Int) (x3 : Int) (x4 : Int) (x5 : Int) (x6 : Int) (x7 : Int) : zGo false 194 100 [.ref 430, .int (zi x1), .int (zi x2), .int (zi x3), .int (zi x4), .int (zi x5), .int (zi x6), .int (zi x7), .null] [] (zm V J d) =
    zGo false 194 101 [.ref 430, .int (zi x1), .int (zi x2), .int (zi x3), .int (zi x4), .int (zi x5), .int (zi x6), .int (zi x7), .null] [.int (zi (0))] (zm V J d) := by
  refine (zr_iconst (n := 0) (by decide +kernel)).trans ?_
  rfl
theorem ze_194_101 {V : zVt} {J : zJt} {d : Nat → Nat → UInt64} (x1 : Int) (x2 : Int) (x3 : Int) (x4 : Int) (x5 : Int) (x6 : Int) (x7 : Int) (s0 : Int) : zGo false 194 101 [.ref 430, .int (zi x1), .int (zi x2), .int (zi x3), .int (zi x4), .int (zi x5), .int (zi x6), .int (zi x7), .null] [.int (zi s0)] (zm V J d) =
    (zGo false 195 0 [.int (zi x3), .int (zi x4), .null, .null] [] (zm V J d)).bind (zGor false 194 112 [.ref 430, .int (zi x1), .int (zi x2), .int (zi x3), .int (zi x4), .int (zi x5), .int (zi x6), .int (zi x7), .int (zi s0)] [.int (zi x6), .ref 430]) := by
  refine (zr_istore (n := 8) (l1 := [.ref 430, .int (zi x1), .int (zi x2), .int (zi x3), .int (zi x4), .int (zi x5), .int (zi x6), .int (zi x7), .int (zi s0)]) (by decide +kernel) rfl).trans ?_
  refine (zr_aload_n (n := 0) (x := 430) (by decide +kernel) rfl).trans ?_
  refine (zr_iload (n := 6) (x := zi x6) (by decide +kernel) rfl).trans ?_
  refine (zr_iload_n (n := 3) (x := zi x3) (by decide +kernel) rfl).trans ?_
  refine (zr_iload (n := 4) (x := zi x4) (by decide +kernel) rfl).trans ?_
  exact zr_cS (i := 313) (z := 195) (w := 0) (t := [.int (zi x4), .int (zi x3)]) (rest := [.int (zi x6), .ref 430]) (L := [.int (zi x3), .int (zi x4), .null, .null]) (pc1 := 112) (by decide +kernel) (by decide +kernel) (n := 2) (r := 2) rfl rfl rfl (by decide +kernel) rfl rfl
theorem ze_194_112 {V : zVt} {J : zJt} {d : Nat → Nat → UInt64} (x1 : Int) (x2 : Int) (x3 : Int) (x4 : Int) (x5 : Int) (x6 : Int) (x7 : Int) (x8 : Int) (s1 : Int) (s2 : Int) : zGo false 194 112 [.ref 430, .int (zi x1), .int (zi x2), .int (zi x3), .int (zi x4), .int (zi x5), .int (zi x6), .int (zi x7), .int (zi x8)] [.int (zi s2), .int (zi s1), .ref 430] (zm V J d) =
    (if qw x6 = 0 then zGo false 194 146 [.ref 430, .int (zi x1), .int (zi x2), .int (zi x3), .int (zi x4), .int (zi x5), .int (zi x6), .int (zi x7), .int (zi x8)] [.int (zi s2), .int (zi s1), .ref 430] (zm V J d) else zck (0 ≤ qw x1 ∧ qw x1 < (40 : Nat)) ((if qw (V 455 (qw x1)) = qw (-1) then zGo false 194 146 [.ref 430, .int (zi x1), .int (zi x2), .int (zi x3), .int (zi x4), .int (zi x5), .int (zi x6), .int (zi x7), .int (zi x8)] [.int (zi s2), .int (zi s1), .ref 430] (zm V J d) else (if qw x8 = 0 then zGo false 194 146 [.ref 430, .int (zi x1), .int (zi x2), .int (zi x3), .int (zi x4), .int (zi x5), .int (zi x6), .int (zi x7), .int (zi x8)] [.int (zi s2), .int (zi s1), .ref 430] (zm V J d) else (if qw (200) ≤ qw (V 430 42) then zGo false 194 146 [.ref 430, .int (zi x1), .int (zi x2), .int (zi x3), .int (zi x4), .int (zi x5), .int (zi x6), .int (zi x7), .int (zi x8)] [.int (zi s2), .int (zi s1), .ref 430] (zm V J d) else zGo false 194 147 [.ref 430, .int (zi x1), .int (zi x2), .int (zi x3), .int (zi x4), .int (zi x5), .int (zi x6), .int (zi x7), .int (zi x8)] [.int (zi (1)), .int (zi s2), .int (zi s1), .ref 430] (zm V J d)))))) := by
  refine (zr_iload (n := 6) (x := zi x6) (by decide +kernel) rfl).trans ?_
  refine (zr_ifeq (off := 32) (a := x6) (t := 146) (by decide +kernel) rfl).trans (zif_ct (fun _ => ?_) (fun _ => ?_))
  · rfl
  · refine (zr_aload_n (n := 0) (x := 430) (by decide +kernel) rfl).trans ?_
    refine (zr_getR (i := 84) (c := 12) (k := 36) (r := 455) (by decide +kernel) (by decide +kernel) rfl (by decide +kernel) (zR0_f (o := 430) (c := 12) (n := 0) (k := 36) (j := 25) rfl (by decide) rfl)).trans ?_
    refine (zr_iload_n (n := 1) (x := zi x1) (by decide +kernel) rfl).trans ?_
    refine (zr_iald (n := 40) (e := x1) (by decide +kernel) rfl).trans (zck_ct fun _ => ?_)
    refine (zr_iconst (n := -1) (by decide +kernel)).trans ?_
    refine (zr_ceq (off := 22) (a := (V 455 (qw x1))) (b := (-1)) (t := 146) (by decide +kernel) rfl).trans (zif_ct (fun _ => ?_) (fun _ => ?_))
    · rfl
    · refine (zr_iload (n := 8) (x := zi x8) (by decide +kernel) rfl).trans ?_
      refine (zr_ifeq (off := 17) (a := x8) (t := 146) (by decide +kernel) rfl).trans (zif_ct (fun _ => ?_) (fun _ => ?_))
      · rfl
      · refine (zr_aload_n (n := 0) (x := 430) (by decide +kernel) rfl).trans ?_
        refine (zr_getI (i := 205) (c := 12) (k := 42) (by decide +kernel) (by decide +kernel) rfl (by decide +kernel)).trans ?_
        refine (zr_sipush (n := 200) (by decide +kernel) rfl).trans ?_
        refine (zr_cge (off := 7) (a := (V 430 42)) (b := (200)) (t := 146) (by decide +kernel) rfl).trans (zif_ct (fun _ => ?_) (fun _ => ?_))
        · rfl
        · refine (zr_iconst (n := 1) (by decide +kernel)).trans ?_
          refine (zr_goto (off := 4) (t := 147) (by decide +kernel) rfl).trans ?_
          rfl
theorem ze_194_146 {V : zVt} {J : zJt} {d : Nat → Nat → UInt64} (x1 : Int) (x2 : Int) (x3 : Int) (x4 : Int) (x5 : Int) (x6 : Int) (x7 : Int) (x8 : Int) (s1 : Int) (s2 : Int) : zGo false 194 146 [.ref 430, .int (zi x1), .int (zi x2), .int (zi x3), .int (zi x4), .int (zi x5), .int (zi x6), .int (zi x7), .int (zi x8)] [.int (zi s2), .int (zi s1), .ref 430] (zm V J d) =
    zGo false 194 147 [.ref 430, .int (zi x1), .int (zi x2), .int (zi x3), .int (zi x4), .int (zi x5), .int (zi x6), .int (zi x7), .int (zi x8)] [.int (zi (0)), .int (zi s2), .int (zi s1), .ref 430] (zm V J d) := by
  refine (zr_iconst (n := 0) (by decide +kernel)).trans ?_
  rfl
theorem ze_194_147 {V : zVt} {J : zJt} {d : Nat → Nat → UInt64} (x1 : Int) (x2 : Int) (x3 : Int) (x4 : Int) (x5 : Int) (x6 : Int) (x7 : Int) (x8 : Int) (s1 : Int) (s2 : Int) (s3 : Int) : zGo false 194 147 [.ref 430, .int (zi x1), .int (zi x2), .int (zi x3), .int (zi x4), .int (zi x5), .int (zi x6), .int (zi x7), .int (zi x8)] [.int (zi s3), .int (zi s2), .int (zi s1), .ref 430] (zm V J d) =
    (zGo false 150 0 [.ref 430, .int (zi s1), .int (zi s2), .int (zi s3)] [] (zm V J d)).bind (zGor false 194 150 [.ref 430, .int (zi x1), .int (zi x2), .int (zi x3), .int (zi x4), .int (zi x5), .int (zi x6), .int (zi x7), .int (zi x8)] []) := by
  exact zr_cV (i := 289) (z := 150) (w := 0) (o := 430) (t := [.int (zi s3), .int (zi s2), .int (zi s1)]) (rest := []) (L := [.ref 430, .int (zi s1), .int (zi s2), .int (zi s3)]) (pc1 := 150) (by decide +kernel) (by decide +kernel) rfl (n := 3) (r := 0) rfl rfl rfl (by decide +kernel) rfl rfl
theorem ze_194_150 {V : zVt} {J : zJt} {d : Nat → Nat → UInt64} (x1 : Int) (x2 : Int) (x3 : Int) (x4 : Int) (x5 : Int) (x6 : Int) (x7 : Int) (x8 : Int) (s0 : Int) : zGo false 194 150 [.ref 430, .int (zi x1), .int (zi x2), .int (zi x3), .int (zi x4), .int (zi x5), .int (zi x6), .int (zi x7), .int (zi x8)] [.int (zi s0)] (zm V J d) =
    (if qw s0 ≠ 0 then zck (0 ≤ qw (V 430 42) ∧ qw (V 430 42) < (200 : Nat)) (zck (0 ≤ qw ((vup V 457 (qw (V 430 42)) x2) 430 42) ∧ qw ((vup V 457 (qw (V 430 42)) x2) 430 42) < (200 : Nat)) (zck (0 ≤ qw ((vup (vup V 457 (qw (V 430 42)) x2) 458 (qw ((vup V 457 (qw (V 430 42)) x2) 430 42)) x3) 430 42) ∧ qw ((vup (vup V 457 (qw (V 430 42)) x2) 458 (qw ((vup V 457 (qw (V 430 42)) x2) 430 42)) x3) 430 42) < (200 : Nat)) (zck ((0 ≤ qw (((200) * x1) + ((vup (vup (vup V 457 (qw (V 430 42)) x2) 458 (qw ((vup V 457 (qw (V 430 42)) x2) 430 42)) x3) 459 (qw ((vup (vup V 457 (qw (V 430 42)) x2) 458 (qw ((vup V 457 (qw (V 430 42)) x2) 430 42)) x3) 430 42)) x4) 430 42)) ∧ qw (((200) * x1) + ((vup (vup (vup V 457 (qw (V 430 42)) x2) 458 (qw ((vup V 457 (qw (V 430 42)) x2) 430 42)) x3) 459 (qw ((vup (vup V 457 (qw (V 430 42)) x2) 458 (qw ((vup V 457 (qw (V 430 42)) x2) 430 42)) x3) 430 42)) x4) 430 42)) < (10400 : Nat)) ∧ (qw (1) = 0 ∨ qw (1) = 1)) (some (.inl (some (.int (zi (((vup (vup (vup (vup (vup V 457 (qw (V 430 42)) x2) 458 (qw ((vup V 457 (qw (V 430 42)) x2) 430 42)) x3) 459 (qw ((vup (vup V 457 (qw (V 430 42)) x2) 458 (qw ((vup V 457 (qw (V 430 42)) x2) 430 42)) x3) 430 42)) x4) 456 (qw (((200) * x1) + ((vup (vup (vup V 457 (qw (V 430 42)) x2) 458 (qw ((vup V 457 (qw (V 430 42)) x2) 430 42)) x3) 459 (qw ((vup (vup V 457 (qw (V 430 42)) x2) 458 (qw ((vup V 457 (qw (V 430 42)) x2) 430 42)) x3) 430 42)) x4) 430 42))) (1)) 430 42 (((vup (vup (vup (vup V 457 (qw (V 430 42)) x2) 458 (qw ((vup V 457 (qw (V 430 42)) x2) 430 42)) x3) 459 (qw ((vup (vup V 457 (qw (V 430 42)) x2) 458 (qw ((vup V 457 (qw (V 430 42)) x2) 430 42)) x3) 430 42)) x4) 456 (qw (((200) * x1) + ((vup (vup (vup V 457 (qw (V 430 42)) x2) 458 (qw ((vup V 457 (qw (V 430 42)) x2) 430 42)) x3) 459 (qw ((vup (vup V 457 (qw (V 430 42)) x2) 458 (qw ((vup V 457 (qw (V 430 42)) x2) 430 42)) x3) 430 42)) x4) 430 42))) (1)) 430 42) + (1))) 430 42) - (1))))), zm (vup (vup (vup (vup (vup V 457 (qw (V 430 42)) x2) 458 (qw ((vup V 457 (qw (V 430 42)) x2) 430 42)) x3) 459 (qw ((vup (vup V 457 (qw (V 430 42)) x2) 458 (qw ((vup V 457 (qw (V 430 42)) x2) 430 42)) x3) 430 42)) x4) 456 (qw (((200) * x1) + ((vup (vup (vup V 457 (qw (V 430 42)) x2) 458 (qw ((vup V 457 (qw (V 430 42)) x2) 430 42)) x3) 459 (qw ((vup (vup V 457 (qw (V 430 42)) x2) 458 (qw ((vup V 457 (qw (V 430 42)) x2) 430 42)) x3) 430 42)) x4) 430 42))) (1)) 430 42 (((vup (vup (vup (vup V 457 (qw (V 430 42)) x2) 458 (qw ((vup V 457 (qw (V 430 42)) x2) 430 42)) x3) 459 (qw ((vup (vup V 457 (qw (V 430 42)) x2) 458 (qw ((vup V 457 (qw (V 430 42)) x2) 430 42)) x3) 430 42)) x4) 456 (qw (((200) * x1) + ((vup (vup (vup V 457 (qw (V 430 42)) x2) 458 (qw ((vup V 457 (qw (V 430 42)) x2) 430 42)) x3) 459 (qw ((vup (vup V 457 (qw (V 430 42)) x2) 458 (qw ((vup V 457 (qw (V 430 42)) x2) 430 42)) x3) 430 42)) x4) 430 42))) (1)) 430 42) + (1))) J d))))) else some (.inl (some (.int (zi (0)))), zm V J d)) := by
  refine (zr_ifne (off := 5) (a := s0) (t := 155) (by decide +kernel) rfl).trans (zif_ct (fun _ => ?_) (fun _ => ?_))
  · refine (zr_aload_n (n := 0) (x := 430) (by decide +kernel) rfl).trans ?_
    refine (zr_getR (i := 90) (c := 12) (k := 39) (r := 457) (by decide +kernel) (by decide +kernel) rfl (by decide +kernel) (zR0_f (o := 430) (c := 12) (n := 0) (k := 39) (j := 27) rfl (by decide) rfl)).trans ?_
    refine (zr_aload_n (n := 0) (x := 430) (by decide +kernel) rfl).trans ?_
    refine (zr_getI (i := 205) (c := 12) (k := 42) (by decide +kernel) (by decide +kernel) rfl (by decide +kernel)).trans ?_
    refine (zr_iload_n (n := 2) (x := zi x2) (by decide +kernel) rfl).trans ?_
    refine (zr_iast (n := 200) (e := (V 430 42)) (x := x2) (by decide +kernel) rfl).trans (zck_ct fun _ => ?_)
    refine (zr_aload_n (n := 0) (x := 430) (by decide +kernel) rfl).trans ?_
    refine (zr_getR (i := 93) (c := 12) (k := 40) (r := 458) (by decide +kernel) (by decide +kernel) rfl (by decide +kernel) (zR0_f (o := 430) (c := 12) (n := 0) (k := 40) (j := 28) rfl (by decide) rfl)).trans ?_
    refine (zr_aload_n (n := 0) (x := 430) (by decide +kernel) rfl).trans ?_
    refine (zr_getI (i := 205) (c := 12) (k := 42) (by decide +kernel) (by decide +kernel) rfl (by decide +kernel)).trans ?_
    refine (zr_iload_n (n := 3) (x := zi x3) (by decide +kernel) rfl).trans ?_
    refine (zr_iast (n := 200) (e := ((vup V 457 (qw (V 430 42)) x2) 430 42)) (x := x3) (by decide +kernel) rfl).trans (zck_ct fun _ => ?_)
    refine (zr_aload_n (n := 0) (x := 430) (by decide +kernel) rfl).trans ?_
    refine (zr_getR (i := 96) (c := 12) (k := 41) (r := 459) (by decide +kernel) (by decide +kernel) rfl (by decide +kernel) (zR0_f (o := 430) (c := 12) (n := 0) (k := 41) (j := 29) rfl (by decide) rfl)).trans ?_
    refine (zr_aload_n (n := 0) (x := 430) (by decide +kernel) rfl).trans ?_
    refine (zr_getI (i := 205) (c := 12) (k := 42) (by decide +kernel) (by decide +kernel) rfl (by decide +kernel)).trans ?_
    refine (zr_iload (n := 4) (x := zi x4) (by decide +kernel) rfl).trans ?_
    refine (zr_iast (n := 200) (e := ((vup (vup V 457 (qw (V 430 42)) x2) 458 (qw ((vup V 457 (qw (V 430 42)) x2) 430 42)) x3) 430 42)) (x := x4) (by decide +kernel) rfl).trans (zck_ct fun _ => ?_)
    refine (zr_aload_n (n := 0) (x := 430) (by decide +kernel) rfl).trans ?_
    refine (zr_getR (i := 87) (c := 12) (k := 38) (r := 456) (by decide +kernel) (by decide +kernel) rfl (by decide +kernel) (zR0_f (o := 430) (c := 12) (n := 0) (k := 38) (j := 26) rfl (by decide) rfl)).trans ?_
    refine (zr_sipush (n := 200) (by decide +kernel) rfl).trans ?_
    refine (zr_iload_n (n := 1) (x := zi x1) (by decide +kernel) rfl).trans ?_
    refine (zr_imul (a := (200)) (b := x1) (by decide +kernel)).trans ?_
    refine (zr_aload_n (n := 0) (x := 430) (by decide +kernel) rfl).trans ?_
    refine (zr_getI (i := 205) (c := 12) (k := 42) (by decide +kernel) (by decide +kernel) rfl (by decide +kernel)).trans ?_
    refine (zr_iadd (a := ((200) * x1)) (b := ((vup (vup (vup V 457 (qw (V 430 42)) x2) 458 (qw ((vup V 457 (qw (V 430 42)) x2) 430 42)) x3) 459 (qw ((vup (vup V 457 (qw (V 430 42)) x2) 458 (qw ((vup V 457 (qw (V 430 42)) x2) 430 42)) x3) 430 42)) x4) 430 42)) (by decide +kernel)).trans ?_
    refine (zr_iconst (n := 1) (by decide +kernel)).trans ?_
    refine (zr_zast (n := 10400) (e := (((200) * x1) + ((vup (vup (vup V 457 (qw (V 430 42)) x2) 458 (qw ((vup V 457 (qw (V 430 42)) x2) 430 42)) x3) 459 (qw ((vup (vup V 457 (qw (V 430 42)) x2) 458 (qw ((vup V 457 (qw (V 430 42)) x2) 430 42)) x3) 430 42)) x4) 430 42))) (x := (1)) (by decide +kernel) rfl).trans (zck_ct fun _ => ?_)
    refine (zr_aload_n (n := 0) (x := 430) (by decide +kernel) rfl).trans ?_
    refine (zr_dup (by decide +kernel) rfl).trans ?_
    refine (zr_getI (i := 205) (c := 12) (k := 42) (by decide +kernel) (by decide +kernel) rfl (by decide +kernel)).trans ?_
    refine (zr_iconst (n := 1) (by decide +kernel)).trans ?_
    refine (zr_iadd (a := ((vup (vup (vup (vup V 457 (qw (V 430 42)) x2) 458 (qw ((vup V 457 (qw (V 430 42)) x2) 430 42)) x3) 459 (qw ((vup (vup V 457 (qw (V 430 42)) x2) 458 (qw ((vup V 457 (qw (V 430 42)) x2) 430 42)) x3) 430 42)) x4) 456 (qw (((200) * x1) + ((vup (vup (vup V 457 (qw (V 430 42)) x2) 458 (qw ((vup V 457 (qw (V 430 42)) x2) 430 42)) x3) 459 (qw ((vup (vup V 457 (qw (V 430 42)) x2) 458 (qw ((vup V 457 (qw (V 430 42)) x2) 430 42)) x3) 430 42)) x4) 430 42))) (1)) 430 42)) (b := (1)) (by decide +kernel)).trans ?_
    refine (zr_putI (i := 205) (c := 12) (k := 42) (x := (((vup (vup (vup (vup V 457 (qw (V 430 42)) x2) 458 (qw ((vup V 457 (qw (V 430 42)) x2) 430 42)) x3) 459 (qw ((vup (vup V 457 (qw (V 430 42)) x2) 458 (qw ((vup V 457 (qw (V 430 42)) x2) 430 42)) x3) 430 42)) x4) 456 (qw (((200) * x1) + ((vup (vup (vup V 457 (qw (V 430 42)) x2) 458 (qw ((vup V 457 (qw (V 430 42)) x2) 430 42)) x3) 459 (qw ((vup (vup V 457 (qw (V 430 42)) x2) 458 (qw ((vup V 457 (qw (V 430 42)) x2) 430 42)) x3) 430 42)) x4) 430 42))) (1)) 430 42) + (1))) (by decide +kernel) (by decide +kernel) rfl (by decide +kernel)).trans ?_
    refine (zr_aload_n (n := 0) (x := 430) (by decide +kernel) rfl).trans ?_
    refine (zr_getI (i := 205) (c := 12) (k := 42) (by decide +kernel) (by decide +kernel) rfl (by decide +kernel)).trans ?_
    refine (zr_iconst (n := 1) (by decide +kernel)).trans ?_
    refine (zr_isub (a := ((vup (vup (vup (vup (vup V 457 (qw (V 430 42)) x2) 458 (qw ((vup V 457 (qw (V 430 42)) x2) 430 42)) x3) 459 (qw ((vup (vup V 457 (qw (V 430 42)) x2) 458 (qw ((vup V 457 (qw (V 430 42)) x2) 430 42)) x3) 430 42)) x4) 456 (qw (((200) * x1) + ((vup (vup (vup V 457 (qw (V 430 42)) x2) 458 (qw ((vup V 457 (qw (V 430 42)) x2) 430 42)) x3) 459 (qw ((vup (vup V 457 (qw (V 430 42)) x2) 458 (qw ((vup V 457 (qw (V 430 42)) x2) 430 42)) x3) 430 42)) x4) 430 42))) (1)) 430 42 (((vup (vup (vup (vup V 457 (qw (V 430 42)) x2) 458 (qw ((vup V 457 (qw (V 430 42)) x2) 430 42)) x3) 459 (qw ((vup (vup V 457 (qw (V 430 42)) x2) 458 (qw ((vup V 457 (qw (V 430 42)) x2) 430 42)) x3) 430 42)) x4) 456 (qw (((200) * x1) + ((vup (vup (vup V 457 (qw (V 430 42)) x2) 458 (qw ((vup V 457 (qw (V 430 42)) x2) 430 42)) x3) 459 (qw ((vup (vup V 457 (qw (V 430 42)) x2) 458 (qw ((vup V 457 (qw (V 430 42)) x2) 430 42)) x3) 430 42)) x4) 430 42))) (1)) 430 42) + (1))) 430 42)) (b := (1)) (by decide +kernel)).trans ?_
    exact zr_iret (a := (((vup (vup (vup (vup (vup V 457 (qw (V 430 42)) x2) 458 (qw ((vup V 457 (qw (V 430 42)) x2) 430 42)) x3) 459 (qw ((vup (vup V 457 (qw (V 430 42)) x2) 458 (qw ((vup V 457 (qw (V 430 42)) x2) 430 42)) x3) 430 42)) x4) 456 (qw (((200) * x1) + ((vup (vup (vup V 457 (qw (V 430 42)) x2) 458 (qw ((vup V 457 (qw (V 430 42)) x2) 430 42)) x3) 459 (qw ((vup (vup V 457 (qw (V 430 42)) x2) 458 (qw ((vup V 457 (qw (V 430 42)) x2) 430 42)) x3) 430 42)) x4) 430 42))) (1)) 430 42 (((vup (vup (vup (vup V 457 (qw (V 430 42)) x2) 458 (qw ((vup V 457 (qw (V 430 42)) x2) 430 42)) x3) 459 (qw ((vup (vup V 457 (qw (V 430 42)) x2) 458 (qw ((vup V 457 (qw (V 430 42)) x2) 430 42)) x3) 430 42)) x4) 456 (qw (((200) * x1) + ((vup (vup (vup V 457 (qw (V 430 42)) x2) 458 (qw ((vup V 457 (qw (V 430 42)) x2) 430 42)) x3) 459 (qw ((vup (vup V 457 (qw (V 430 42)) x2) 458 (qw ((vup V 457 (qw (V 430 42)) x2) 430 42)) x3) 430 42)) x4) 430 42))) (1)) 430 42) + (1))) 430 42) - (1))) (by decide +kernel) rfl
  · refine (zr_iconst (n := 0) (by decide +kernel)).trans ?_
    exact zr_iret (a := (0)) (by decide +kernel) rfl
/-! PartSongDeskModel isValue (II)Z -/
theorem ze_195_0 {V : zVt} {J : zJt} {d : Nat → Nat → UInt64} (x0 : Int) (x1 : Int) : zGo false 195 0 [.int (zi x0), .int (zi x1), .null, .null] [] (zm V J d) =
    (if qw x1 = qw (1) then zGo false 195 50 [.int (zi x0), .int (zi x1), .null, .null] [] (zm V J d) else (if qw x1 = qw (2) then zGo false 195 50 [.int (zi x0), .int (zi x1), .null, .null] [] (zm V J d) else (if qw x1 = qw (3) then zGo false 195 50 [.int (zi x0), .int (zi x1), .null, .null] [] (zm V J d) else (if qw x1 = qw (4) then zGo false 195 50 [.int (zi x0), .int (zi x1), .null, .null] [] (zm V J d) else (if qw x1 = qw (6) then zGo false 195 50 [.int (zi x0), .int (zi x1), .null, .null] [] (zm V J d) else (if qw x1 = qw (8) then zGo false 195 50 [.int (zi x0), .int (zi x1), .null, .null] [] (zm V J d) else (if qw x1 = qw (12) then zGo false 195 50 [.int (zi x0), .int (zi x1), .null, .null] [] (zm V J d) else (if qw x1 = qw (16) then zGo false 195 50 [.int (zi x0), .int (zi x1), .null, .null] [] (zm V J d) else (if qw x1 ≠ qw (24) then zGo false 195 55 [.int (zi x0), .int (zi x1), .null, .null] [.int (zi (0))] (zm V J d) else zGo false 195 50 [.int (zi x0), .int (zi x1), .null, .null] [] (zm V J d)))))))))) := by
  refine (zr_iload_n (n := 1) (x := zi x1) (by decide +kernel) rfl).trans ?_
  refine (zr_iconst (n := 1) (by decide +kernel)).trans ?_
  refine (zr_ceq (off := 48) (a := x1) (b := (1)) (t := 50) (by decide +kernel) rfl).trans (zif_ct (fun _ => ?_) (fun _ => ?_))
  · rfl
  · refine (zr_iload_n (n := 1) (x := zi x1) (by decide +kernel) rfl).trans ?_
    refine (zr_iconst (n := 2) (by decide +kernel)).trans ?_
    refine (zr_ceq (off := 43) (a := x1) (b := (2)) (t := 50) (by decide +kernel) rfl).trans (zif_ct (fun _ => ?_) (fun _ => ?_))
    · rfl
    · refine (zr_iload_n (n := 1) (x := zi x1) (by decide +kernel) rfl).trans ?_
      refine (zr_iconst (n := 3) (by decide +kernel)).trans ?_
      refine (zr_ceq (off := 38) (a := x1) (b := (3)) (t := 50) (by decide +kernel) rfl).trans (zif_ct (fun _ => ?_) (fun _ => ?_))
      · rfl
      · refine (zr_iload_n (n := 1) (x := zi x1) (by decide +kernel) rfl).trans ?_
        refine (zr_iconst (n := 4) (by decide +kernel)).trans ?_
        refine (zr_ceq (off := 33) (a := x1) (b := (4)) (t := 50) (by decide +kernel) rfl).trans (zif_ct (fun _ => ?_) (fun _ => ?_))
        · rfl
        · refine (zr_iload_n (n := 1) (x := zi x1) (by decide +kernel) rfl).trans ?_
          refine (zr_bipush (n := 6) (by decide +kernel) rfl).trans ?_
          refine (zr_ceq (off := 27) (a := x1) (b := (6)) (t := 50) (by decide +kernel) rfl).trans (zif_ct (fun _ => ?_) (fun _ => ?_))
          · rfl
          · refine (zr_iload_n (n := 1) (x := zi x1) (by decide +kernel) rfl).trans ?_
            refine (zr_bipush (n := 8) (by decide +kernel) rfl).trans ?_
            refine (zr_ceq (off := 21) (a := x1) (b := (8)) (t := 50) (by decide +kernel) rfl).trans (zif_ct (fun _ => ?_) (fun _ => ?_))
            · rfl
            · refine (zr_iload_n (n := 1) (x := zi x1) (by decide +kernel) rfl).trans ?_
              refine (zr_bipush (n := 12) (by decide +kernel) rfl).trans ?_
              refine (zr_ceq (off := 15) (a := x1) (b := (12)) (t := 50) (by decide +kernel) rfl).trans (zif_ct (fun _ => ?_) (fun _ => ?_))
              · rfl
              · refine (zr_iload_n (n := 1) (x := zi x1) (by decide +kernel) rfl).trans ?_
                refine (zr_bipush (n := 16) (by decide +kernel) rfl).trans ?_
                refine (zr_ceq (off := 9) (a := x1) (b := (16)) (t := 50) (by decide +kernel) rfl).trans (zif_ct (fun _ => ?_) (fun _ => ?_))
                · rfl
                · refine (zr_iload_n (n := 1) (x := zi x1) (by decide +kernel) rfl).trans ?_
                  refine (zr_bipush (n := 24) (by decide +kernel) rfl).trans ?_
                  refine (zr_cne (off := 7) (a := x1) (b := (24)) (t := 54) (by decide +kernel) rfl).trans (zif_ct (fun _ => ?_) (fun _ => ?_))
                  · refine (zr_iconst (n := 0) (by decide +kernel)).trans ?_
                    rfl
                  · rfl
theorem ze_195_50 {V : zVt} {J : zJt} {d : Nat → Nat → UInt64} (x0 : Int) (x1 : Int) : zGo false 195 50 [.int (zi x0), .int (zi x1), .null, .null] [] (zm V J d) =
    zGo false 195 55 [.int (zi x0), .int (zi x1), .null, .null] [.int (zi (1))] (zm V J d) := by
  refine (zr_iconst (n := 1) (by decide +kernel)).trans ?_
  refine (zr_goto (off := 4) (t := 55) (by decide +kernel) rfl).trans ?_
  rfl
theorem ze_195_55 {V : zVt} {J : zJt} {d : Nat → Nat → UInt64} (x0 : Int) (x1 : Int) (s0 : Int) : zGo false 195 55 [.int (zi x0), .int (zi x1), .null, .null] [.int (zi s0)] (zm V J d) =
    (if qw x0 ≠ 0 then (if qw x0 ≠ qw (1) then (if qw x0 ≠ qw (2) then (if qw x0 ≠ qw (3) then (zGo false 148 0 [.int (zi x1), .int (zi (0)), .int (zi (1))] [] (zm V J d)).bind (zGor false 195 114 [.int (zi x0), .int (zi x1), .int (zi s0), .null] []) else zGo false 195 114 [.int (zi x0), .int (zi x1), .int (zi s0), .null] [.int (zi s0)] (zm V J d)) else (zGo false 148 0 [.int (zi x1), .int (zi (0)), .int (zi (3))] [] (zm V J d)).bind (zGor false 195 96 [.int (zi x0), .int (zi x1), .int (zi s0), .null] [])) else (zGo false 148 0 [.int (zi x1), .int (zi (-9)), .int (zi (19))] [] (zm V J d)).bind (zGor false 195 82 [.int (zi x0), .int (zi x1), .int (zi s0), .null] [])) else (zGo false 148 0 [.int (zi x1), .int (zi (0)), .int (zi (2))] [] (zm V J d)).bind (zGor false 195 66 [.int (zi x0), .int (zi x1), .int (zi s0), .null] [])) := by
  refine (zr_istore_n (n := 2) (l1 := [.int (zi x0), .int (zi x1), .int (zi s0), .null]) (by decide +kernel) rfl).trans ?_
  refine (zr_iload_n (n := 0) (x := zi x0) (by decide +kernel) rfl).trans ?_
  refine (zr_ifne (off := 12) (a := x0) (t := 69) (by decide +kernel) rfl).trans (zif_ct (fun _ => ?_) (fun _ => ?_))
  · refine (zr_iload_n (n := 0) (x := zi x0) (by decide +kernel) rfl).trans ?_
    refine (zr_iconst (n := 1) (by decide +kernel)).trans ?_
    refine (zr_cne (off := 14) (a := x0) (b := (1)) (t := 85) (by decide +kernel) rfl).trans (zif_ct (fun _ => ?_) (fun _ => ?_))
    · refine (zr_iload_n (n := 0) (x := zi x0) (by decide +kernel) rfl).trans ?_
      refine (zr_iconst (n := 2) (by decide +kernel)).trans ?_
      refine (zr_cne (off := 12) (a := x0) (b := (2)) (t := 99) (by decide +kernel) rfl).trans (zif_ct (fun _ => ?_) (fun _ => ?_))
      · refine (zr_iload_n (n := 0) (x := zi x0) (by decide +kernel) rfl).trans ?_
        refine (zr_iconst (n := 3) (by decide +kernel)).trans ?_
        refine (zr_cne (off := 7) (a := x0) (b := (3)) (t := 108) (by decide +kernel) rfl).trans (zif_ct (fun _ => ?_) (fun _ => ?_))
        · refine (zr_iload_n (n := 1) (x := zi x1) (by decide +kernel) rfl).trans ?_
          refine (zr_iconst (n := 0) (by decide +kernel)).trans ?_
          refine (zr_iconst (n := 1) (by decide +kernel)).trans ?_
          exact zr_cS (i := 170) (z := 148) (w := 0) (t := [.int (zi (1)), .int (zi (0)), .int (zi x1)]) (rest := []) (L := [.int (zi x1), .int (zi (0)), .int (zi (1))]) (pc1 := 114) (by decide +kernel) (by decide +kernel) (n := 3) (r := 0) rfl rfl rfl (by decide +kernel) rfl rfl
        · refine (zr_iload_n (n := 2) (x := zi s0) (by decide +kernel) rfl).trans ?_
          refine (zr_goto (off := 9) (t := 114) (by decide +kernel) rfl).trans ?_
          rfl
      · refine (zr_iload_n (n := 1) (x := zi x1) (by decide +kernel) rfl).trans ?_
        refine (zr_iconst (n := 0) (by decide +kernel)).trans ?_
        refine (zr_iconst (n := 3) (by decide +kernel)).trans ?_
        exact zr_cS (i := 170) (z := 148) (w := 0) (t := [.int (zi (3)), .int (zi (0)), .int (zi x1)]) (rest := []) (L := [.int (zi x1), .int (zi (0)), .int (zi (3))]) (pc1 := 96) (by decide +kernel) (by decide +kernel) (n := 3) (r := 0) rfl rfl rfl (by decide +kernel) rfl rfl
    · refine (zr_iload_n (n := 1) (x := zi x1) (by decide +kernel) rfl).trans ?_
      refine (zr_bipush (n := -9) (by decide +kernel) rfl).trans ?_
      refine (zr_bipush (n := 19) (by decide +kernel) rfl).trans ?_
      exact zr_cS (i := 170) (z := 148) (w := 0) (t := [.int (zi (19)), .int (zi (-9)), .int (zi x1)]) (rest := []) (L := [.int (zi x1), .int (zi (-9)), .int (zi (19))]) (pc1 := 82) (by decide +kernel) (by decide +kernel) (n := 3) (r := 0) rfl rfl rfl (by decide +kernel) rfl rfl
  · refine (zr_iload_n (n := 1) (x := zi x1) (by decide +kernel) rfl).trans ?_
    refine (zr_iconst (n := 0) (by decide +kernel)).trans ?_
    refine (zr_iconst (n := 2) (by decide +kernel)).trans ?_
    exact zr_cS (i := 170) (z := 148) (w := 0) (t := [.int (zi (2)), .int (zi (0)), .int (zi x1)]) (rest := []) (L := [.int (zi x1), .int (zi (0)), .int (zi (2))]) (pc1 := 66) (by decide +kernel) (by decide +kernel) (n := 3) (r := 0) rfl rfl rfl (by decide +kernel) rfl rfl
theorem ze_195_66 {V : zVt} {J : zJt} {d : Nat → Nat → UInt64} (x0 : Int) (x1 : Int) (x2 : Int) (s0 : Int) : zGo false 195 66 [.int (zi x0), .int (zi x1), .int (zi x2), .null] [.int (zi s0)] (zm V J d) =
    zGo false 195 114 [.int (zi x0), .int (zi x1), .int (zi x2), .null] [.int (zi s0)] (zm V J d) := by
  refine (zr_goto (off := 48) (t := 114) (by decide +kernel) rfl).trans ?_
  rfl
theorem ze_195_82 {V : zVt} {J : zJt} {d : Nat → Nat → UInt64} (x0 : Int) (x1 : Int) (x2 : Int) (s0 : Int) : zGo false 195 82 [.int (zi x0), .int (zi x1), .int (zi x2), .null] [.int (zi s0)] (zm V J d) =
    zGo false 195 114 [.int (zi x0), .int (zi x1), .int (zi x2), .null] [.int (zi s0)] (zm V J d) := by
  refine (zr_goto (off := 32) (t := 114) (by decide +kernel) rfl).trans ?_
  rfl
theorem ze_195_96 {V : zVt} {J : zJt} {d : Nat → Nat → UInt64} (x0 : Int) (x1 : Int) (x2 : Int) (s0 : Int) : zGo false 195 96 [.int (zi x0), .int (zi x1), .int (zi x2), .null] [.int (zi s0)] (zm V J d) =
    zGo false 195 114 [.int (zi x0), .int (zi x1), .int (zi x2), .null] [.int (zi s0)] (zm V J d) := by
  refine (zr_goto (off := 18) (t := 114) (by decide +kernel) rfl).trans ?_
  rfl
theorem ze_195_114 {V : zVt} {J : zJt} {d : Nat → Nat → UInt64} (x0 : Int) (x1 : Int) (x2 : Int) (s0 : Int) : zGo false 195 114 [.int (zi x0), .int (zi x1), .int (zi x2), .null] [.int (zi s0)] (zm V J d) =
    (zGo false 148 0 [.int (zi x0), .int (zi (0)), .int (zi (4))] [] (zm V J d)).bind (zGor false 195 121 [.int (zi x0), .int (zi x1), .int (zi x2), .int (zi s0)] []) := by
  refine (zr_istore_n (n := 3) (l1 := [.int (zi x0), .int (zi x1), .int (zi x2), .int (zi s0)]) (by decide +kernel) rfl).trans ?_
  refine (zr_iload_n (n := 0) (x := zi x0) (by decide +kernel) rfl).trans ?_
  refine (zr_iconst (n := 0) (by decide +kernel)).trans ?_
  refine (zr_iconst (n := 4) (by decide +kernel)).trans ?_
  exact zr_cS (i := 170) (z := 148) (w := 0) (t := [.int (zi (4)), .int (zi (0)), .int (zi x0)]) (rest := []) (L := [.int (zi x0), .int (zi (0)), .int (zi (4))]) (pc1 := 121) (by decide +kernel) (by decide +kernel) (n := 3) (r := 0) rfl rfl rfl (by decide +kernel) rfl rfl
theorem ze_195_121 {V : zVt} {J : zJt} {d : Nat → Nat → UInt64} (x0 : Int) (x1 : Int) (x2 : Int) (x3 : Int) (s0 : Int) : zGo false 195 121 [.int (zi x0), .int (zi x1), .int (zi x2), .int (zi x3)] [.int (zi s0)] (zm V J d) =
    (if qw s0 = 0 then zGo false 195 138 [.int (zi x0), .int (zi x1), .int (zi x2), .int (zi x3)] [] (zm V J d) else (if qw x1 = qw (100) then zGo false 195 134 [.int (zi x0), .int (zi x1), .int (zi x2), .int (zi x3)] [] (zm V J d) else (if qw x3 = 0 then zGo false 195 138 [.int (zi x0), .int (zi x1), .int (zi x2), .int (zi x3)] [] (zm V J d) else zGo false 195 134 [.int (zi x0), .int (zi x1), .int (zi x2), .int (zi x3)] [] (zm V J d)))) := by
  refine (zr_ifeq (off := 17) (a := s0) (t := 138) (by decide +kernel) rfl).trans (zif_ct (fun _ => ?_) (fun _ => ?_))
  · rfl
  · refine (zr_iload_n (n := 1) (x := zi x1) (by decide +kernel) rfl).trans ?_
    refine (zr_bipush (n := 100) (by decide +kernel) rfl).trans ?_
    refine (zr_ceq (off := 7) (a := x1) (b := (100)) (t := 134) (by decide +kernel) rfl).trans (zif_ct (fun _ => ?_) (fun _ => ?_))
    · rfl
    · refine (zr_iload_n (n := 3) (x := zi x3) (by decide +kernel) rfl).trans ?_
      refine (zr_ifeq (off := 7) (a := x3) (t := 138) (by decide +kernel) rfl).trans (zif_ct (fun _ => ?_) (fun _ => ?_))
      · rfl
      · rfl
theorem ze_195_134 {V : zVt} {J : zJt} {d : Nat → Nat → UInt64} (x0 : Int) (x1 : Int) (x2 : Int) (x3 : Int) : zGo false 195 134 [.int (zi x0), .int (zi x1), .int (zi x2), .int (zi x3)] [] (zm V J d) =
    zGo false 195 139 [.int (zi x0), .int (zi x1), .int (zi x2), .int (zi x3)] [.int (zi (1))] (zm V J d) := by
  refine (zr_iconst (n := 1) (by decide +kernel)).trans ?_
  refine (zr_goto (off := 4) (t := 139) (by decide +kernel) rfl).trans ?_
  rfl
theorem ze_195_138 {V : zVt} {J : zJt} {d : Nat → Nat → UInt64} (x0 : Int) (x1 : Int) (x2 : Int) (x3 : Int) : zGo false 195 138 [.int (zi x0), .int (zi x1), .int (zi x2), .int (zi x3)] [] (zm V J d) =
    zGo false 195 139 [.int (zi x0), .int (zi x1), .int (zi x2), .int (zi x3)] [.int (zi (0))] (zm V J d) := by
  refine (zr_iconst (n := 0) (by decide +kernel)).trans ?_
  rfl
theorem ze_195_139 {V : zVt} {J : zJt} {d : Nat → Nat → UInt64} (x0 : Int) (x1 : Int) (x2 : Int) (x3 : Int) (s0 : Int) : zGo false 195 139 [.int (zi x0), .int (zi x1), .int (zi x2), .int (zi x3)] [.int (zi s0)] (zm V J d) =
    zck (qw s0 = 0 ∨ qw s0 = 1) (some (.inl (some (.int (zi s0))), zm V J d)) := by
  exact zr_zret (a := s0) (by decide +kernel) rfl
/-! PartSongDeskModel holder (I)I -/
theorem ze_196_0 {V : zVt} {J : zJt} {d : Nat → Nat → UInt64} (x1 : Int) : zGo false 196 0 [.ref 430, .int (zi x1)] [] (zm V J d) =
    (zGo false 189 0 [.ref 430, .int (zi x1)] [] (zm V J d)).bind (zGor false 196 6 [.ref 430, .int (zi x1)] [.ref 430]) := by
  refine (zr_aload_n (n := 0) (x := 430) (by decide +kernel) rfl).trans ?_
  refine (zr_aload_n (n := 0) (x := 430) (by decide +kernel) rfl).trans ?_
  refine (zr_iload_n (n := 1) (x := zi x1) (by decide +kernel) rfl).trans ?_
  exact zr_cV (i := 304) (z := 189) (w := 0) (o := 430) (t := [.int (zi x1)]) (rest := [.ref 430]) (L := [.ref 430, .int (zi x1)]) (pc1 := 6) (by decide +kernel) (by decide +kernel) rfl (n := 1) (r := 1) rfl rfl rfl (by decide +kernel) rfl rfl
theorem ze_196_6 {V : zVt} {J : zJt} {d : Nat → Nat → UInt64} (x1 : Int) (s1 : Int) : zGo false 196 6 [.ref 430, .int (zi x1)] [.int (zi s1), .ref 430] (zm V J d) =
    (zGo false 150 0 [.ref 430, .int (zi s1), .int (zi (1)), .int (zi (1))] [] (zm V J d)).bind (zGor false 196 11 [.ref 430, .int (zi x1)] []) := by
  refine (zr_iconst (n := 1) (by decide +kernel)).trans ?_
  refine (zr_iconst (n := 1) (by decide +kernel)).trans ?_
  exact zr_cV (i := 289) (z := 150) (w := 0) (o := 430) (t := [.int (zi (1)), .int (zi (1)), .int (zi s1)]) (rest := []) (L := [.ref 430, .int (zi s1), .int (zi (1)), .int (zi (1))]) (pc1 := 11) (by decide +kernel) (by decide +kernel) rfl (n := 3) (r := 0) rfl rfl rfl (by decide +kernel) rfl rfl
theorem ze_196_11 {V : zVt} {J : zJt} {d : Nat → Nat → UInt64} (x1 : Int) (s0 : Int) : zGo false 196 11 [.ref 430, .int (zi x1)] [.int (zi s0)] (zm V J d) =
    (if qw s0 = 0 then zGo false 196 24 [.ref 430, .int (zi x1)] [.int (zi (0))] (zm V J d) else zck (0 ≤ qw x1 ∧ qw x1 < (40 : Nat)) (zGo false 196 24 [.ref 430, .int (zi x1)] [.int (zi (V 455 (qw x1)))] (zm V J d))) := by
  refine (zr_ifeq (off := 12) (a := s0) (t := 23) (by decide +kernel) rfl).trans (zif_ct (fun _ => ?_) (fun _ => ?_))
  · refine (zr_iconst (n := 0) (by decide +kernel)).trans ?_
    rfl
  · refine (zr_aload_n (n := 0) (x := 430) (by decide +kernel) rfl).trans ?_
    refine (zr_getR (i := 84) (c := 12) (k := 36) (r := 455) (by decide +kernel) (by decide +kernel) rfl (by decide +kernel) (zR0_f (o := 430) (c := 12) (n := 0) (k := 36) (j := 25) rfl (by decide) rfl)).trans ?_
    refine (zr_iload_n (n := 1) (x := zi x1) (by decide +kernel) rfl).trans ?_
    refine (zr_iald (n := 40) (e := x1) (by decide +kernel) rfl).trans (zck_ct fun _ => ?_)
    refine (zr_goto (off := 4) (t := 24) (by decide +kernel) rfl).trans ?_
    rfl
theorem ze_196_24 {V : zVt} {J : zJt} {d : Nat → Nat → UInt64} (x1 : Int) (s0 : Int) : zGo false 196 24 [.ref 430, .int (zi x1)] [.int (zi s0)] (zm V J d) =
    some (.inl (some (.int (zi s0))), zm V J d) := by
  exact zr_iret (a := s0) (by decide +kernel) rfl
/-! PartSongDeskModel copyError (I)I -/
theorem ze_197_0 {V : zVt} {J : zJt} {d : Nat → Nat → UInt64} (x1 : Int) : zGo false 197 0 [.ref 430, .int (zi x1)] [] (zm V J d) =
    (zGo false 189 0 [.ref 430, .int (zi x1)] [] (zm V J d)).bind (zGor false 197 6 [.ref 430, .int (zi x1)] [.ref 430]) := by
  refine (zr_aload_n (n := 0) (x := 430) (by decide +kernel) rfl).trans ?_
  refine (zr_aload_n (n := 0) (x := 430) (by decide +kernel) rfl).trans ?_
  refine (zr_iload_n (n := 1) (x := zi x1) (by decide +kernel) rfl).trans ?_
  exact zr_cV (i := 304) (z := 189) (w := 0) (o := 430) (t := [.int (zi x1)]) (rest := [.ref 430]) (L := [.ref 430, .int (zi x1)]) (pc1 := 6) (by decide +kernel) (by decide +kernel) rfl (n := 1) (r := 1) rfl rfl rfl (by decide +kernel) rfl rfl
theorem ze_197_6 {V : zVt} {J : zJt} {d : Nat → Nat → UInt64} (x1 : Int) (s1 : Int) : zGo false 197 6 [.ref 430, .int (zi x1)] [.int (zi s1), .ref 430] (zm V J d) =
    (zGo false 150 0 [.ref 430, .int (zi s1), .int (zi (1)), .int (zi (1))] [] (zm V J d)).bind (zGor false 197 11 [.ref 430, .int (zi x1)] []) := by
  refine (zr_iconst (n := 1) (by decide +kernel)).trans ?_
  refine (zr_iconst (n := 1) (by decide +kernel)).trans ?_
  exact zr_cV (i := 289) (z := 150) (w := 0) (o := 430) (t := [.int (zi (1)), .int (zi (1)), .int (zi s1)]) (rest := []) (L := [.ref 430, .int (zi s1), .int (zi (1)), .int (zi (1))]) (pc1 := 11) (by decide +kernel) (by decide +kernel) rfl (n := 3) (r := 0) rfl rfl rfl (by decide +kernel) rfl rfl
theorem ze_197_11 {V : zVt} {J : zJt} {d : Nat → Nat → UInt64} (x1 : Int) (s0 : Int) : zGo false 197 11 [.ref 430, .int (zi x1)] [.int (zi s0)] (zm V J d) =
    (if qw s0 = 0 then zGo false 197 24 [.ref 430, .int (zi x1)] [.int (zi (0))] (zm V J d) else (zGo false 198 0 [.ref 430, .int (zi (0)), .int (zi x1)] [] (zm V J d)).bind (zGor false 197 20 [.ref 430, .int (zi x1)] [])) := by
  refine (zr_ifeq (off := 12) (a := s0) (t := 23) (by decide +kernel) rfl).trans (zif_ct (fun _ => ?_) (fun _ => ?_))
  · refine (zr_iconst (n := 0) (by decide +kernel)).trans ?_
    rfl
  · refine (zr_aload_n (n := 0) (x := 430) (by decide +kernel) rfl).trans ?_
    refine (zr_iconst (n := 0) (by decide +kernel)).trans ?_
    refine (zr_iload_n (n := 1) (x := zi x1) (by decide +kernel) rfl).trans ?_
    exact zr_cV (i := 316) (z := 198) (w := 0) (o := 430) (t := [.int (zi x1), .int (zi (0))]) (rest := []) (L := [.ref 430, .int (zi (0)), .int (zi x1)]) (pc1 := 20) (by decide +kernel) (by decide +kernel) rfl (n := 2) (r := 0) rfl rfl rfl (by decide +kernel) rfl rfl
theorem ze_197_20 {V : zVt} {J : zJt} {d : Nat → Nat → UInt64} (x1 : Int) (s0 : Int) : zGo false 197 20 [.ref 430, .int (zi x1)] [.int (zi s0)] (zm V J d) =
    zGo false 197 24 [.ref 430, .int (zi x1)] [.int (zi s0)] (zm V J d) := by
  refine (zr_goto (off := 4) (t := 24) (by decide +kernel) rfl).trans ?_
  rfl
theorem ze_197_24 {V : zVt} {J : zJt} {d : Nat → Nat → UInt64} (x1 : Int) (s0 : Int) : zGo false 197 24 [.ref 430, .int (zi x1)] [.int (zi s0)] (zm V J d) =
    some (.inl (some (.int (zi s0))), zm V J d) := by
  exact zr_iret (a := s0) (by decide +kernel) rfl
/-! PartSongDeskModel copyMusic (II)I -/
theorem ze_198_0 {V : zVt} {J : zJt} {d : Nat → Nat → UInt64} (x1 : Int) (x2 : Int) : zGo false 198 0 [.ref 430, .int (zi x1), .int (zi x2)] [] (zm V J d) =
    zck (0 ≤ qw x2 ∧ qw x2 < (40 : Nat)) ((zGo false 153 0 [.ref 430, .int (zi x1), .int (zi (V 454 (qw x2))), .int (zi x2)] [] (zm V J d)).bind (zGor false 198 12 [.ref 430, .int (zi x1), .int (zi x2)] [])) := by
  refine (zr_aload_n (n := 0) (x := 430) (by decide +kernel) rfl).trans ?_
  refine (zr_iload_n (n := 1) (x := zi x1) (by decide +kernel) rfl).trans ?_
  refine (zr_aload_n (n := 0) (x := 430) (by decide +kernel) rfl).trans ?_
  refine (zr_getR (i := 81) (c := 12) (k := 35) (r := 454) (by decide +kernel) (by decide +kernel) rfl (by decide +kernel) (zR0_f (o := 430) (c := 12) (n := 0) (k := 35) (j := 24) rfl (by decide) rfl)).trans ?_
  refine (zr_iload_n (n := 2) (x := zi x2) (by decide +kernel) rfl).trans ?_
  refine (zr_iald (n := 40) (e := x2) (by decide +kernel) rfl).trans (zck_ct fun _ => ?_)
  refine (zr_iload_n (n := 2) (x := zi x2) (by decide +kernel) rfl).trans ?_
  exact zr_cV (i := 274) (z := 153) (w := 0) (o := 430) (t := [.int (zi x2), .int (zi (V 454 (qw x2))), .int (zi x1)]) (rest := []) (L := [.ref 430, .int (zi x1), .int (zi (V 454 (qw x2))), .int (zi x2)]) (pc1 := 12) (by decide +kernel) (by decide +kernel) rfl (n := 3) (r := 0) rfl rfl rfl (by decide +kernel) rfl rfl
theorem ze_198_12 {V : zVt} {J : zJt} {d : Nat → Nat → UInt64} (x1 : Int) (x2 : Int) (s0 : Int) : zGo false 198 12 [.ref 430, .int (zi x1), .int (zi x2)] [.int (zi s0)] (zm V J d) =
    some (.inl (some (.int (zi s0))), zm V J d) := by
  exact zr_iret (a := s0) (by decide +kernel) rfl
/-! PartSongDeskModel copyPitch (III)I -/
theorem ze_199_0 {V : zVt} {J : zJt} {d : Nat → Nat → UInt64} (x1 : Int) (x2 : Int) (x3 : Int) : zGo false 199 0 [.ref 430, .int (zi x1), .int (zi x2), .int (zi x3)] [] (zm V J d) =
    (zGo false 200 0 [.ref 430, .int (zi x1), .int (zi x2), .int (zi x3), .null] [] (zm V J d)).bind (zGor false 199 8 [.ref 430, .int (zi x1), .int (zi x2), .int (zi x3)] [.ref 430]) := by
  refine (zr_aload_n (n := 0) (x := 430) (by decide +kernel) rfl).trans ?_
  refine (zr_aload_n (n := 0) (x := 430) (by decide +kernel) rfl).trans ?_
  refine (zr_iload_n (n := 1) (x := zi x1) (by decide +kernel) rfl).trans ?_
  refine (zr_iload_n (n := 2) (x := zi x2) (by decide +kernel) rfl).trans ?_
  refine (zr_iload_n (n := 3) (x := zi x3) (by decide +kernel) rfl).trans ?_
  exact zr_cV (i := 319) (z := 200) (w := 0) (o := 430) (t := [.int (zi x3), .int (zi x2), .int (zi x1)]) (rest := [.ref 430]) (L := [.ref 430, .int (zi x1), .int (zi x2), .int (zi x3), .null]) (pc1 := 8) (by decide +kernel) (by decide +kernel) rfl (n := 3) (r := 1) rfl rfl rfl (by decide +kernel) rfl rfl
theorem ze_199_8 {V : zVt} {J : zJt} {d : Nat → Nat → UInt64} (x1 : Int) (x2 : Int) (x3 : Int) (s1 : Int) : zGo false 199 8 [.ref 430, .int (zi x1), .int (zi x2), .int (zi x3)] [.int (zi s1), .ref 430] (zm V J d) =
    (zGo false 150 0 [.ref 430, .int (zi s1), .int (zi (1)), .int (zi (1))] [] (zm V J d)).bind (zGor false 199 13 [.ref 430, .int (zi x1), .int (zi x2), .int (zi x3)] []) := by
  refine (zr_iconst (n := 1) (by decide +kernel)).trans ?_
  refine (zr_iconst (n := 1) (by decide +kernel)).trans ?_
  exact zr_cV (i := 289) (z := 150) (w := 0) (o := 430) (t := [.int (zi (1)), .int (zi (1)), .int (zi s1)]) (rest := []) (L := [.ref 430, .int (zi s1), .int (zi (1)), .int (zi (1))]) (pc1 := 13) (by decide +kernel) (by decide +kernel) rfl (n := 3) (r := 0) rfl rfl rfl (by decide +kernel) rfl rfl
theorem ze_199_13 {V : zVt} {J : zJt} {d : Nat → Nat → UInt64} (x1 : Int) (x2 : Int) (x3 : Int) (s0 : Int) : zGo false 199 13 [.ref 430, .int (zi x1), .int (zi x2), .int (zi x3)] [.int (zi s0)] (zm V J d) =
    (if qw s0 = 0 then zGo false 199 27 [.ref 430, .int (zi x1), .int (zi x2), .int (zi x3)] [.int (zi (0))] (zm V J d) else (zGo false 185 0 [.ref 430, .int (zi (0)), .int (zi x2), .int (zi x3), .null, .null, .null] [] (zm V J d)).bind (zGor false 199 23 [.ref 430, .int (zi x1), .int (zi x2), .int (zi x3)] [])) := by
  refine (zr_ifeq (off := 13) (a := s0) (t := 26) (by decide +kernel) rfl).trans (zif_ct (fun _ => ?_) (fun _ => ?_))
  · refine (zr_iconst (n := 0) (by decide +kernel)).trans ?_
    rfl
  · refine (zr_aload_n (n := 0) (x := 430) (by decide +kernel) rfl).trans ?_
    refine (zr_iconst (n := 0) (by decide +kernel)).trans ?_
    refine (zr_iload_n (n := 2) (x := zi x2) (by decide +kernel) rfl).trans ?_
    refine (zr_iload_n (n := 3) (x := zi x3) (by decide +kernel) rfl).trans ?_
    exact zr_cV (i := 296) (z := 185) (w := 0) (o := 430) (t := [.int (zi x3), .int (zi x2), .int (zi (0))]) (rest := []) (L := [.ref 430, .int (zi (0)), .int (zi x2), .int (zi x3), .null, .null, .null]) (pc1 := 23) (by decide +kernel) (by decide +kernel) rfl (n := 3) (r := 0) rfl rfl rfl (by decide +kernel) rfl rfl
theorem ze_199_23 {V : zVt} {J : zJt} {d : Nat → Nat → UInt64} (x1 : Int) (x2 : Int) (x3 : Int) (s0 : Int) : zGo false 199 23 [.ref 430, .int (zi x1), .int (zi x2), .int (zi x3)] [.int (zi s0)] (zm V J d) =
    zGo false 199 27 [.ref 430, .int (zi x1), .int (zi x2), .int (zi x3)] [.int (zi s0)] (zm V J d) := by
  refine (zr_goto (off := 4) (t := 27) (by decide +kernel) rfl).trans ?_
  rfl
theorem ze_199_27 {V : zVt} {J : zJt} {d : Nat → Nat → UInt64} (x1 : Int) (x2 : Int) (x3 : Int) (s0 : Int) : zGo false 199 27 [.ref 430, .int (zi x1), .int (zi x2), .int (zi x3)] [.int (zi s0)] (zm V J d) =
    some (.inl (some (.int (zi s0))), zm V J d) := by
  exact zr_iret (a := s0) (by decide +kernel) rfl
/-! PartSongDeskModel isTick (III)Z -/
theorem ze_200_0 {V : zVt} {J : zJt} {d : Nat → Nat → UInt64} (x1 : Int) (x2 : Int) (x3 : Int) : zGo false 200 0 [.ref 430, .int (zi x1), .int (zi x2), .int (zi x3), .null] [] (zm V J d) =
    (zGo false 189 0 [.ref 430, .int (zi x1)] [] (zm V J d)).bind (zGor false 200 5 [.ref 430, .int (zi x1), .int (zi x2), .int (zi x3), .null] []) := by
  refine (zr_aload_n (n := 0) (x := 430) (by decide +kernel) rfl).trans ?_
  refine (zr_iload_n (n := 1) (x := zi x1) (by decide +kernel) rfl).trans ?_
  exact zr_cV (i := 304) (z := 189) (w := 0) (o := 430) (t := [.int (zi x1)]) (rest := []) (L := [.ref 430, .int (zi x1)]) (pc1 := 5) (by decide +kernel) (by decide +kernel) rfl (n := 1) (r := 0) rfl rfl rfl (by decide +kernel) rfl rfl
theorem ze_200_5 {V : zVt} {J : zJt} {d : Nat → Nat → UInt64} (x1 : Int) (x2 : Int) (x3 : Int) (s0 : Int) : zGo false 200 5 [.ref 430, .int (zi x1), .int (zi x2), .int (zi x3), .null] [.int (zi s0)] (zm V J d) =
    (if qw s0 = 0 then zGo false 200 19 [.ref 430, .int (zi x1), .int (zi x2), .int (zi x3), .int (zi s0)] [] (zm V J d) else (zGo false 198 0 [.ref 430, .int (zi (0)), .int (zi x1)] [] (zm V J d)).bind (zGor false 200 18 [.ref 430, .int (zi x1), .int (zi x2), .int (zi x3), .int (zi s0)] [])) := by
  refine (zr_istore (n := 4) (l1 := [.ref 430, .int (zi x1), .int (zi x2), .int (zi x3), .int (zi s0)]) (by decide +kernel) rfl).trans ?_
  refine (zr_iload (n := 4) (x := zi s0) (by decide +kernel) rfl).trans ?_
  refine (zr_ifeq (off := 10) (a := s0) (t := 19) (by decide +kernel) rfl).trans (zif_ct (fun _ => ?_) (fun _ => ?_))
  · rfl
  · refine (zr_aload_n (n := 0) (x := 430) (by decide +kernel) rfl).trans ?_
    refine (zr_iconst (n := 0) (by decide +kernel)).trans ?_
    refine (zr_iload_n (n := 1) (x := zi x1) (by decide +kernel) rfl).trans ?_
    exact zr_cV (i := 316) (z := 198) (w := 0) (o := 430) (t := [.int (zi x1), .int (zi (0))]) (rest := []) (L := [.ref 430, .int (zi (0)), .int (zi x1)]) (pc1 := 18) (by decide +kernel) (by decide +kernel) rfl (n := 2) (r := 0) rfl rfl rfl (by decide +kernel) rfl rfl
theorem ze_200_18 {V : zVt} {J : zJt} {d : Nat → Nat → UInt64} (x1 : Int) (x2 : Int) (x3 : Int) (x4 : Int) (s0 : Int) : zGo false 200 18 [.ref 430, .int (zi x1), .int (zi x2), .int (zi x3), .int (zi x4)] [.int (zi s0)] (zm V J d) =
    zGo false 200 19 [.ref 430, .int (zi x1), .int (zi x2), .int (zi x3), .int (zi x4)] [] (zm V J d) := by
  refine (zr_pop (by decide +kernel) rfl).trans ?_
  rfl
theorem ze_200_19 {V : zVt} {J : zJt} {d : Nat → Nat → UInt64} (x1 : Int) (x2 : Int) (x3 : Int) (x4 : Int) : zGo false 200 19 [.ref 430, .int (zi x1), .int (zi x2), .int (zi x3), .int (zi x4)] [] (zm V J d) =
    (if qw x4 = 0 then zGo false 200 54 [.ref 430, .int (zi x1), .int (zi x2), .int (zi x3), .int (zi x4)] [] (zm V J d) else zck (0 ≤ qw (0) ∧ qw (0) < (5 : Nat)) ((zGo false 147 0 [.int (zi x2), .int (zi (V 449 (qw (0))))] [] (zm V J d)).bind (zGor false 200 34 [.ref 430, .int (zi x1), .int (zi x2), .int (zi x3), .int (zi x4)] []))) := by
  refine (zr_iload (n := 4) (x := zi x4) (by decide +kernel) rfl).trans ?_
  refine (zr_ifeq (off := 33) (a := x4) (t := 54) (by decide +kernel) rfl).trans (zif_ct (fun _ => ?_) (fun _ => ?_))
  · rfl
  · refine (zr_iload_n (n := 2) (x := zi x2) (by decide +kernel) rfl).trans ?_
    refine (zr_aload_n (n := 0) (x := 430) (by decide +kernel) rfl).trans ?_
    refine (zr_getR (i := 65) (c := 12) (k := 30) (r := 449) (by decide +kernel) (by decide +kernel) rfl (by decide +kernel) (zR0_f (o := 430) (c := 12) (n := 0) (k := 30) (j := 19) rfl (by decide) rfl)).trans ?_
    refine (zr_iconst (n := 0) (by decide +kernel)).trans ?_
    refine (zr_iald (n := 5) (e := (0)) (by decide +kernel) rfl).trans (zck_ct fun _ => ?_)
    exact zr_cS (i := 145) (z := 147) (w := 0) (t := [.int (zi (V 449 (qw (0)))), .int (zi x2)]) (rest := []) (L := [.int (zi x2), .int (zi (V 449 (qw (0))))]) (pc1 := 34) (by decide +kernel) (by decide +kernel) (n := 2) (r := 0) rfl rfl rfl (by decide +kernel) rfl rfl
theorem ze_200_34 {V : zVt} {J : zJt} {d : Nat → Nat → UInt64} (x1 : Int) (x2 : Int) (x3 : Int) (x4 : Int) (s0 : Int) : zGo false 200 34 [.ref 430, .int (zi x1), .int (zi x2), .int (zi x3), .int (zi x4)] [.int (zi s0)] (zm V J d) =
    (if qw s0 = 0 then zGo false 200 54 [.ref 430, .int (zi x1), .int (zi x2), .int (zi x3), .int (zi x4)] [] (zm V J d) else zck (0 ≤ qw (0) ∧ qw (0) < (5 : Nat)) ((zGo false 147 0 [.int (zi x3), .int (zi (V 450 (qw (0))))] [] (zm V J d)).bind (zGor false 200 47 [.ref 430, .int (zi x1), .int (zi x2), .int (zi x3), .int (zi x4)] []))) := by
  refine (zr_ifeq (off := 20) (a := s0) (t := 54) (by decide +kernel) rfl).trans (zif_ct (fun _ => ?_) (fun _ => ?_))
  · rfl
  · refine (zr_iload_n (n := 3) (x := zi x3) (by decide +kernel) rfl).trans ?_
    refine (zr_aload_n (n := 0) (x := 430) (by decide +kernel) rfl).trans ?_
    refine (zr_getR (i := 68) (c := 12) (k := 31) (r := 450) (by decide +kernel) (by decide +kernel) rfl (by decide +kernel) (zR0_f (o := 430) (c := 12) (n := 0) (k := 31) (j := 20) rfl (by decide) rfl)).trans ?_
    refine (zr_iconst (n := 0) (by decide +kernel)).trans ?_
    refine (zr_iald (n := 5) (e := (0)) (by decide +kernel) rfl).trans (zck_ct fun _ => ?_)
    exact zr_cS (i := 145) (z := 147) (w := 0) (t := [.int (zi (V 450 (qw (0)))), .int (zi x3)]) (rest := []) (L := [.int (zi x3), .int (zi (V 450 (qw (0))))]) (pc1 := 47) (by decide +kernel) (by decide +kernel) (n := 2) (r := 0) rfl rfl rfl (by decide +kernel) rfl rfl
theorem ze_200_47 {V : zVt} {J : zJt} {d : Nat → Nat → UInt64} (x1 : Int) (x2 : Int) (x3 : Int) (x4 : Int) (s0 : Int) : zGo false 200 47 [.ref 430, .int (zi x1), .int (zi x2), .int (zi x3), .int (zi x4)] [.int (zi s0)] (zm V J d) =
    (if qw s0 = 0 then zGo false 200 54 [.ref 430, .int (zi x1), .int (zi x2), .int (zi x3), .int (zi x4)] [] (zm V J d) else zGo false 200 55 [.ref 430, .int (zi x1), .int (zi x2), .int (zi x3), .int (zi x4)] [.int (zi (1))] (zm V J d)) := by
  refine (zr_ifeq (off := 7) (a := s0) (t := 54) (by decide +kernel) rfl).trans (zif_ct (fun _ => ?_) (fun _ => ?_))
  · rfl
  · refine (zr_iconst (n := 1) (by decide +kernel)).trans ?_
    refine (zr_goto (off := 4) (t := 55) (by decide +kernel) rfl).trans ?_
    rfl
theorem ze_200_54 {V : zVt} {J : zJt} {d : Nat → Nat → UInt64} (x1 : Int) (x2 : Int) (x3 : Int) (x4 : Int) : zGo false 200 54 [.ref 430, .int (zi x1), .int (zi x2), .int (zi x3), .int (zi x4)] [] (zm V J d) =
    zGo false 200 55 [.ref 430, .int (zi x1), .int (zi x2), .int (zi x3), .int (zi x4)] [.int (zi (0))] (zm V J d) := by
  refine (zr_iconst (n := 0) (by decide +kernel)).trans ?_
  rfl
theorem ze_200_55 {V : zVt} {J : zJt} {d : Nat → Nat → UInt64} (x1 : Int) (x2 : Int) (x3 : Int) (x4 : Int) (s0 : Int) : zGo false 200 55 [.ref 430, .int (zi x1), .int (zi x2), .int (zi x3), .int (zi x4)] [.int (zi s0)] (zm V J d) =
    zck (qw s0 = 0 ∨ qw s0 = 1) (some (.inl (some (.int (zi s0))), zm V J d)) := by
  exact zr_zret (a := s0) (by decide +kernel) rfl
/-! PartSongDeskModel copyPitchAnew (III)I -/
theorem ze_201_0 {V : zVt} {J : zJt} {d : Nat → Nat → UInt64} (x1 : Int) (x2 : Int) (x3 : Int) : zGo false 201 0 [.ref 430, .int (zi x1), .int (zi x2), .int (zi x3)] [] (zm V J d) =
    (zGo false 199 0 [.ref 430, .int (zi x1), .int (zi x2), .int (zi x3)] [] (zm V J d)).bind (zGor false 201 7 [.ref 430, .int (zi x1), .int (zi x2), .int (zi x3)] []) := by
  refine (zr_aload_n (n := 0) (x := 430) (by decide +kernel) rfl).trans ?_
  refine (zr_iload_n (n := 1) (x := zi x1) (by decide +kernel) rfl).trans ?_
  refine (zr_iload_n (n := 2) (x := zi x2) (by decide +kernel) rfl).trans ?_
  refine (zr_iload_n (n := 3) (x := zi x3) (by decide +kernel) rfl).trans ?_
  exact zr_cV (i := 322) (z := 199) (w := 0) (o := 430) (t := [.int (zi x3), .int (zi x2), .int (zi x1)]) (rest := []) (L := [.ref 430, .int (zi x1), .int (zi x2), .int (zi x3)]) (pc1 := 7) (by decide +kernel) (by decide +kernel) rfl (n := 3) (r := 0) rfl rfl rfl (by decide +kernel) rfl rfl
theorem ze_201_7 {V : zVt} {J : zJt} {d : Nat → Nat → UInt64} (x1 : Int) (x2 : Int) (x3 : Int) (s0 : Int) : zGo false 201 7 [.ref 430, .int (zi x1), .int (zi x2), .int (zi x3)] [.int (zi s0)] (zm V J d) =
    some (.inl (some (.int (zi s0))), zm V J d) := by
  exact zr_iret (a := s0) (by decide +kernel) rfl
/-! PartSongDeskModel begins (III)Z -/
theorem ze_202_0 {V : zVt} {J : zJt} {d : Nat → Nat → UInt64} (x1 : Int) (x2 : Int) (x3 : Int) : zGo false 202 0 [.ref 430, .int (zi x1), .int (zi x2), .int (zi x3)] [] (zm V J d) =
    (zGo false 200 0 [.ref 430, .int (zi x1), .int (zi x2), .int (zi x3), .null] [] (zm V J d)).bind (zGor false 202 8 [.ref 430, .int (zi x1), .int (zi x2), .int (zi x3)] [.ref 430]) := by
  refine (zr_aload_n (n := 0) (x := 430) (by decide +kernel) rfl).trans ?_
  refine (zr_aload_n (n := 0) (x := 430) (by decide +kernel) rfl).trans ?_
  refine (zr_iload_n (n := 1) (x := zi x1) (by decide +kernel) rfl).trans ?_
  refine (zr_iload_n (n := 2) (x := zi x2) (by decide +kernel) rfl).trans ?_
  refine (zr_iload_n (n := 3) (x := zi x3) (by decide +kernel) rfl).trans ?_
  exact zr_cV (i := 319) (z := 200) (w := 0) (o := 430) (t := [.int (zi x3), .int (zi x2), .int (zi x1)]) (rest := [.ref 430]) (L := [.ref 430, .int (zi x1), .int (zi x2), .int (zi x3), .null]) (pc1 := 8) (by decide +kernel) (by decide +kernel) rfl (n := 3) (r := 1) rfl rfl rfl (by decide +kernel) rfl rfl
theorem ze_202_8 {V : zVt} {J : zJt} {d : Nat → Nat → UInt64} (x1 : Int) (x2 : Int) (x3 : Int) (s1 : Int) : zGo false 202 8 [.ref 430, .int (zi x1), .int (zi x2), .int (zi x3)] [.int (zi s1), .ref 430] (zm V J d) =
    (zGo false 150 0 [.ref 430, .int (zi s1), .int (zi (1)), .int (zi (1))] [] (zm V J d)).bind (zGor false 202 13 [.ref 430, .int (zi x1), .int (zi x2), .int (zi x3)] []) := by
  refine (zr_iconst (n := 1) (by decide +kernel)).trans ?_
  refine (zr_iconst (n := 1) (by decide +kernel)).trans ?_
  exact zr_cV (i := 289) (z := 150) (w := 0) (o := 430) (t := [.int (zi (1)), .int (zi (1)), .int (zi s1)]) (rest := []) (L := [.ref 430, .int (zi s1), .int (zi (1)), .int (zi (1))]) (pc1 := 13) (by decide +kernel) (by decide +kernel) rfl (n := 3) (r := 0) rfl rfl rfl (by decide +kernel) rfl rfl
theorem ze_202_13 {V : zVt} {J : zJt} {d : Nat → Nat → UInt64} (x1 : Int) (x2 : Int) (x3 : Int) (s0 : Int) : zGo false 202 13 [.ref 430, .int (zi x1), .int (zi x2), .int (zi x3)] [.int (zi s0)] (zm V J d) =
    (if qw s0 = 0 then zGo false 202 30 [.ref 430, .int (zi x1), .int (zi x2), .int (zi x3)] [] (zm V J d) else (zGo false 203 0 [.ref 430, .int (zi (0)), .int (zi x2), .int (zi x3)] [] (zm V J d)).bind (zGor false 202 23 [.ref 430, .int (zi x1), .int (zi x2), .int (zi x3)] [])) := by
  refine (zr_ifeq (off := 17) (a := s0) (t := 30) (by decide +kernel) rfl).trans (zif_ct (fun _ => ?_) (fun _ => ?_))
  · rfl
  · refine (zr_aload_n (n := 0) (x := 430) (by decide +kernel) rfl).trans ?_
    refine (zr_iconst (n := 0) (by decide +kernel)).trans ?_
    refine (zr_iload_n (n := 2) (x := zi x2) (by decide +kernel) rfl).trans ?_
    refine (zr_iload_n (n := 3) (x := zi x3) (by decide +kernel) rfl).trans ?_
    exact zr_cV (i := 325) (z := 203) (w := 0) (o := 430) (t := [.int (zi x3), .int (zi x2), .int (zi (0))]) (rest := []) (L := [.ref 430, .int (zi (0)), .int (zi x2), .int (zi x3)]) (pc1 := 23) (by decide +kernel) (by decide +kernel) rfl (n := 3) (r := 0) rfl rfl rfl (by decide +kernel) rfl rfl
theorem ze_202_23 {V : zVt} {J : zJt} {d : Nat → Nat → UInt64} (x1 : Int) (x2 : Int) (x3 : Int) (s0 : Int) : zGo false 202 23 [.ref 430, .int (zi x1), .int (zi x2), .int (zi x3)] [.int (zi s0)] (zm V J d) =
    (if qw s0 = 0 then zGo false 202 30 [.ref 430, .int (zi x1), .int (zi x2), .int (zi x3)] [] (zm V J d) else zGo false 202 31 [.ref 430, .int (zi x1), .int (zi x2), .int (zi x3)] [.int (zi (1))] (zm V J d)) := by
  refine (zr_ifeq (off := 7) (a := s0) (t := 30) (by decide +kernel) rfl).trans (zif_ct (fun _ => ?_) (fun _ => ?_))
  · rfl
  · refine (zr_iconst (n := 1) (by decide +kernel)).trans ?_
    refine (zr_goto (off := 4) (t := 31) (by decide +kernel) rfl).trans ?_
    rfl
theorem ze_202_30 {V : zVt} {J : zJt} {d : Nat → Nat → UInt64} (x1 : Int) (x2 : Int) (x3 : Int) : zGo false 202 30 [.ref 430, .int (zi x1), .int (zi x2), .int (zi x3)] [] (zm V J d) =
    zGo false 202 31 [.ref 430, .int (zi x1), .int (zi x2), .int (zi x3)] [.int (zi (0))] (zm V J d) := by
  refine (zr_iconst (n := 0) (by decide +kernel)).trans ?_
  rfl
theorem ze_202_31 {V : zVt} {J : zJt} {d : Nat → Nat → UInt64} (x1 : Int) (x2 : Int) (x3 : Int) (s0 : Int) : zGo false 202 31 [.ref 430, .int (zi x1), .int (zi x2), .int (zi x3)] [.int (zi s0)] (zm V J d) =
    zck (qw s0 = 0 ∨ qw s0 = 1) (some (.inl (some (.int (zi s0))), zm V J d)) := by
  exact zr_zret (a := s0) (by decide +kernel) rfl
/-! PartSongDeskModel beginsAt (III)Z -/
theorem ze_203_0 {V : zVt} {J : zJt} {d : Nat → Nat → UInt64} (x1 : Int) (x2 : Int) (x3 : Int) : zGo false 203 0 [.ref 430, .int (zi x1), .int (zi x2), .int (zi x3)] [] (zm V J d) =
    zck (0 ≤ qw (((40) * x1) + x2) ∧ qw (((40) * x1) + x2) < (200 : Nat)) ((if qw (qand (qshr (V 453 (qw (((40) * x1) + x2))) x3) (1)) ≠ qw (1) then zGo false 203 24 [.ref 430, .int (zi x1), .int (zi x2), .int (zi x3)] [.int (zi (0))] (zm V J d) else zGo false 203 24 [.ref 430, .int (zi x1), .int (zi x2), .int (zi x3)] [.int (zi (1))] (zm V J d))) := by
  refine (zr_aload_n (n := 0) (x := 430) (by decide +kernel) rfl).trans ?_
  refine (zr_getR (i := 78) (c := 12) (k := 34) (r := 453) (by decide +kernel) (by decide +kernel) rfl (by decide +kernel) (zR0_f (o := 430) (c := 12) (n := 0) (k := 34) (j := 23) rfl (by decide) rfl)).trans ?_
  refine (zr_bipush (n := 40) (by decide +kernel) rfl).trans ?_
  refine (zr_iload_n (n := 1) (x := zi x1) (by decide +kernel) rfl).trans ?_
  refine (zr_imul (a := (40)) (b := x1) (by decide +kernel)).trans ?_
  refine (zr_iload_n (n := 2) (x := zi x2) (by decide +kernel) rfl).trans ?_
  refine (zr_iadd (a := ((40) * x1)) (b := x2) (by decide +kernel)).trans ?_
  refine (zr_iald (n := 200) (e := (((40) * x1) + x2)) (by decide +kernel) rfl).trans (zck_ct fun _ => ?_)
  refine (zr_iload_n (n := 3) (x := zi x3) (by decide +kernel) rfl).trans ?_
  refine (zr_ishr (a := (V 453 (qw (((40) * x1) + x2)))) (b := x3) (by decide +kernel)).trans ?_
  refine (zr_iconst (n := 1) (by decide +kernel)).trans ?_
  refine (zr_iand (a := (qshr (V 453 (qw (((40) * x1) + x2))) x3)) (b := (1)) (by decide +kernel)).trans ?_
  refine (zr_iconst (n := 1) (by decide +kernel)).trans ?_
  refine (zr_cne (off := 7) (a := (qand (qshr (V 453 (qw (((40) * x1) + x2))) x3) (1))) (b := (1)) (t := 23) (by decide +kernel) rfl).trans (zif_ct (fun _ => ?_) (fun _ => ?_))
  · refine (zr_iconst (n := 0) (by decide +kernel)).trans ?_
    rfl
  · refine (zr_iconst (n := 1) (by decide +kernel)).trans ?_
    refine (zr_goto (off := 4) (t := 24) (by decide +kernel) rfl).trans ?_
    rfl
theorem ze_203_24 {V : zVt} {J : zJt} {d : Nat → Nat → UInt64} (x1 : Int) (x2 : Int) (x3 : Int) (s0 : Int) : zGo false 203 24 [.ref 430, .int (zi x1), .int (zi x2), .int (zi x3)] [.int (zi s0)] (zm V J d) =
    zck (qw s0 = 0 ∨ qw s0 = 1) (some (.inl (some (.int (zi s0))), zm V J d)) := by
  exact zr_zret (a := s0) (by decide +kernel) rfl
/-! PartSongDeskModel differ (II)I -/
theorem ze_204_0 {V : zVt} {J : zJt} {d : Nat → Nat → UInt64} (x1 : Int) (x2 : Int) : zGo false 204 0 [.ref 430, .int (zi x1), .int (zi x2), .null, .null] [] (zm V J d) =
    (zGo false 189 0 [.ref 430, .int (zi x1)] [] (zm V J d)).bind (zGor false 204 5 [.ref 430, .int (zi x1), .int (zi x2), .null, .null] []) := by
  refine (zr_aload_n (n := 0) (x := 430) (by decide +kernel) rfl).trans ?_
  refine (zr_iload_n (n := 1) (x := zi x1) (by decide +kernel) rfl).trans ?_
  exact zr_cV (i := 304) (z := 189) (w := 0) (o := 430) (t := [.int (zi x1)]) (rest := []) (L := [.ref 430, .int (zi x1)]) (pc1 := 5) (by decide +kernel) (by decide +kernel) rfl (n := 1) (r := 0) rfl rfl rfl (by decide +kernel) rfl rfl
theorem ze_204_5 {V : zVt} {J : zJt} {d : Nat → Nat → UInt64} (x1 : Int) (x2 : Int) (s0 : Int) : zGo false 204 5 [.ref 430, .int (zi x1), .int (zi x2), .null, .null] [.int (zi s0)] (zm V J d) =
    (if qw s0 = 0 then zGo false 204 20 [.ref 430, .int (zi x1), .int (zi x2), .null, .null] [] (zm V J d) else (zGo false 189 0 [.ref 430, .int (zi x2)] [] (zm V J d)).bind (zGor false 204 13 [.ref 430, .int (zi x1), .int (zi x2), .null, .null] [])) := by
  refine (zr_ifeq (off := 15) (a := s0) (t := 20) (by decide +kernel) rfl).trans (zif_ct (fun _ => ?_) (fun _ => ?_))
  · rfl
  · refine (zr_aload_n (n := 0) (x := 430) (by decide +kernel) rfl).trans ?_
    refine (zr_iload_n (n := 2) (x := zi x2) (by decide +kernel) rfl).trans ?_
    exact zr_cV (i := 304) (z := 189) (w := 0) (o := 430) (t := [.int (zi x2)]) (rest := []) (L := [.ref 430, .int (zi x2)]) (pc1 := 13) (by decide +kernel) (by decide +kernel) rfl (n := 1) (r := 0) rfl rfl rfl (by decide +kernel) rfl rfl
theorem ze_204_13 {V : zVt} {J : zJt} {d : Nat → Nat → UInt64} (x1 : Int) (x2 : Int) (s0 : Int) : zGo false 204 13 [.ref 430, .int (zi x1), .int (zi x2), .null, .null] [.int (zi s0)] (zm V J d) =
    (if qw s0 = 0 then zGo false 204 20 [.ref 430, .int (zi x1), .int (zi x2), .null, .null] [] (zm V J d) else zGo false 204 21 [.ref 430, .int (zi x1), .int (zi x2), .null, .null] [.int (zi (1))] (zm V J d)) := by
  refine (zr_ifeq (off := 7) (a := s0) (t := 20) (by decide +kernel) rfl).trans (zif_ct (fun _ => ?_) (fun _ => ?_))
  · rfl
  · refine (zr_iconst (n := 1) (by decide +kernel)).trans ?_
    refine (zr_goto (off := 4) (t := 21) (by decide +kernel) rfl).trans ?_
    rfl
theorem ze_204_20 {V : zVt} {J : zJt} {d : Nat → Nat → UInt64} (x1 : Int) (x2 : Int) : zGo false 204 20 [.ref 430, .int (zi x1), .int (zi x2), .null, .null] [] (zm V J d) =
    zGo false 204 21 [.ref 430, .int (zi x1), .int (zi x2), .null, .null] [.int (zi (0))] (zm V J d) := by
  refine (zr_iconst (n := 0) (by decide +kernel)).trans ?_
  rfl
theorem ze_204_21 {V : zVt} {J : zJt} {d : Nat → Nat → UInt64} (x1 : Int) (x2 : Int) (s0 : Int) : zGo false 204 21 [.ref 430, .int (zi x1), .int (zi x2), .null, .null] [.int (zi s0)] (zm V J d) =
    (if qw s0 = 0 then zGo false 204 45 [.ref 430, .int (zi x1), .int (zi x2), .int (zi s0), .null] [] (zm V J d) else zck (0 ≤ qw x1 ∧ qw x1 < (40 : Nat)) (zck (0 ≤ qw x2 ∧ qw x2 < (40 : Nat)) ((if qw (V 454 (qw x1)) ≠ qw (V 454 (qw x2)) then zGo false 204 45 [.ref 430, .int (zi x1), .int (zi x2), .int (zi s0), .null] [] (zm V J d) else zGo false 204 46 [.ref 430, .int (zi x1), .int (zi x2), .int (zi s0), .null] [.int (zi (1))] (zm V J d))))) := by
  refine (zr_istore_n (n := 3) (l1 := [.ref 430, .int (zi x1), .int (zi x2), .int (zi s0), .null]) (by decide +kernel) rfl).trans ?_
  refine (zr_iload_n (n := 3) (x := zi s0) (by decide +kernel) rfl).trans ?_
  refine (zr_ifeq (off := 22) (a := s0) (t := 45) (by decide +kernel) rfl).trans (zif_ct (fun _ => ?_) (fun _ => ?_))
  · rfl
  · refine (zr_aload_n (n := 0) (x := 430) (by decide +kernel) rfl).trans ?_
    refine (zr_getR (i := 81) (c := 12) (k := 35) (r := 454) (by decide +kernel) (by decide +kernel) rfl (by decide +kernel) (zR0_f (o := 430) (c := 12) (n := 0) (k := 35) (j := 24) rfl (by decide) rfl)).trans ?_
    refine (zr_iload_n (n := 1) (x := zi x1) (by decide +kernel) rfl).trans ?_
    refine (zr_iald (n := 40) (e := x1) (by decide +kernel) rfl).trans (zck_ct fun _ => ?_)
    refine (zr_aload_n (n := 0) (x := 430) (by decide +kernel) rfl).trans ?_
    refine (zr_getR (i := 81) (c := 12) (k := 35) (r := 454) (by decide +kernel) (by decide +kernel) rfl (by decide +kernel) (zR0_f (o := 430) (c := 12) (n := 0) (k := 35) (j := 24) rfl (by decide) rfl)).trans ?_
    refine (zr_iload_n (n := 2) (x := zi x2) (by decide +kernel) rfl).trans ?_
    refine (zr_iald (n := 40) (e := x2) (by decide +kernel) rfl).trans (zck_ct fun _ => ?_)
    refine (zr_cne (off := 7) (a := (V 454 (qw x1))) (b := (V 454 (qw x2))) (t := 45) (by decide +kernel) rfl).trans (zif_ct (fun _ => ?_) (fun _ => ?_))
    · rfl
    · refine (zr_iconst (n := 1) (by decide +kernel)).trans ?_
      refine (zr_goto (off := 4) (t := 46) (by decide +kernel) rfl).trans ?_
      rfl
theorem ze_204_45 {V : zVt} {J : zJt} {d : Nat → Nat → UInt64} (x1 : Int) (x2 : Int) (x3 : Int) : zGo false 204 45 [.ref 430, .int (zi x1), .int (zi x2), .int (zi x3), .null] [] (zm V J d) =
    zGo false 204 46 [.ref 430, .int (zi x1), .int (zi x2), .int (zi x3), .null] [.int (zi (0))] (zm V J d) := by
  refine (zr_iconst (n := 0) (by decide +kernel)).trans ?_
  rfl
theorem ze_204_46 {V : zVt} {J : zJt} {d : Nat → Nat → UInt64} (x1 : Int) (x2 : Int) (x3 : Int) (s0 : Int) : zGo false 204 46 [.ref 430, .int (zi x1), .int (zi x2), .int (zi x3), .null] [.int (zi s0)] (zm V J d) =
    (if qw s0 = 0 then zGo false 204 79 [.ref 430, .int (zi x1), .int (zi x2), .int (zi x3), .int (zi s0)] [.int (zi s0), .int (zi x3), .ref 430] (zm V J d) else (zGo false 198 0 [.ref 430, .int (zi (0)), .int (zi x1)] [] (zm V J d)).bind (zGor false 204 63 [.ref 430, .int (zi x1), .int (zi x2), .int (zi x3), .int (zi s0)] [.int (zi s0), .int (zi x3), .ref 430])) := by
  refine (zr_istore (n := 4) (l1 := [.ref 430, .int (zi x1), .int (zi x2), .int (zi x3), .int (zi s0)]) (by decide +kernel) rfl).trans ?_
  refine (zr_aload_n (n := 0) (x := 430) (by decide +kernel) rfl).trans ?_
  refine (zr_iload_n (n := 3) (x := zi x3) (by decide +kernel) rfl).trans ?_
  refine (zr_iload (n := 4) (x := zi s0) (by decide +kernel) rfl).trans ?_
  refine (zr_iload (n := 4) (x := zi s0) (by decide +kernel) rfl).trans ?_
  refine (zr_ifeq (off := 25) (a := s0) (t := 79) (by decide +kernel) rfl).trans (zif_ct (fun _ => ?_) (fun _ => ?_))
  · rfl
  · refine (zr_aload_n (n := 0) (x := 430) (by decide +kernel) rfl).trans ?_
    refine (zr_iconst (n := 0) (by decide +kernel)).trans ?_
    refine (zr_iload_n (n := 1) (x := zi x1) (by decide +kernel) rfl).trans ?_
    exact zr_cV (i := 316) (z := 198) (w := 0) (o := 430) (t := [.int (zi x1), .int (zi (0))]) (rest := [.int (zi s0), .int (zi x3), .ref 430]) (L := [.ref 430, .int (zi (0)), .int (zi x1)]) (pc1 := 63) (by decide +kernel) (by decide +kernel) rfl (n := 2) (r := 3) rfl rfl rfl (by decide +kernel) rfl rfl
theorem ze_204_63 {V : zVt} {J : zJt} {d : Nat → Nat → UInt64} (x1 : Int) (x2 : Int) (x3 : Int) (x4 : Int) (s1 : Int) (s2 : Int) (s3 : Int) : zGo false 204 63 [.ref 430, .int (zi x1), .int (zi x2), .int (zi x3), .int (zi x4)] [.int (zi s3), .int (zi s2), .int (zi s1), .ref 430] (zm V J d) =
    (if qw s3 ≠ 0 then zGo false 204 79 [.ref 430, .int (zi x1), .int (zi x2), .int (zi x3), .int (zi x4)] [.int (zi s2), .int (zi s1), .ref 430] (zm V J d) else (zGo false 198 0 [.ref 430, .int (zi (1)), .int (zi x2)] [] (zm V J d)).bind (zGor false 204 72 [.ref 430, .int (zi x1), .int (zi x2), .int (zi x3), .int (zi x4)] [.int (zi s2), .int (zi s1), .ref 430])) := by
  refine (zr_ifne (off := 16) (a := s3) (t := 79) (by decide +kernel) rfl).trans (zif_ct (fun _ => ?_) (fun _ => ?_))
  · rfl
  · refine (zr_aload_n (n := 0) (x := 430) (by decide +kernel) rfl).trans ?_
    refine (zr_iconst (n := 1) (by decide +kernel)).trans ?_
    refine (zr_iload_n (n := 2) (x := zi x2) (by decide +kernel) rfl).trans ?_
    exact zr_cV (i := 316) (z := 198) (w := 0) (o := 430) (t := [.int (zi x2), .int (zi (1))]) (rest := [.int (zi s2), .int (zi s1), .ref 430]) (L := [.ref 430, .int (zi (1)), .int (zi x2)]) (pc1 := 72) (by decide +kernel) (by decide +kernel) rfl (n := 2) (r := 3) rfl rfl rfl (by decide +kernel) rfl rfl
theorem ze_204_72 {V : zVt} {J : zJt} {d : Nat → Nat → UInt64} (x1 : Int) (x2 : Int) (x3 : Int) (x4 : Int) (s1 : Int) (s2 : Int) (s3 : Int) : zGo false 204 72 [.ref 430, .int (zi x1), .int (zi x2), .int (zi x3), .int (zi x4)] [.int (zi s3), .int (zi s2), .int (zi s1), .ref 430] (zm V J d) =
    (if qw s3 ≠ 0 then zGo false 204 79 [.ref 430, .int (zi x1), .int (zi x2), .int (zi x3), .int (zi x4)] [.int (zi s2), .int (zi s1), .ref 430] (zm V J d) else zGo false 204 80 [.ref 430, .int (zi x1), .int (zi x2), .int (zi x3), .int (zi x4)] [.int (zi (1)), .int (zi s2), .int (zi s1), .ref 430] (zm V J d)) := by
  refine (zr_ifne (off := 7) (a := s3) (t := 79) (by decide +kernel) rfl).trans (zif_ct (fun _ => ?_) (fun _ => ?_))
  · rfl
  · refine (zr_iconst (n := 1) (by decide +kernel)).trans ?_
    refine (zr_goto (off := 4) (t := 80) (by decide +kernel) rfl).trans ?_
    rfl
theorem ze_204_79 {V : zVt} {J : zJt} {d : Nat → Nat → UInt64} (x1 : Int) (x2 : Int) (x3 : Int) (x4 : Int) (s1 : Int) (s2 : Int) : zGo false 204 79 [.ref 430, .int (zi x1), .int (zi x2), .int (zi x3), .int (zi x4)] [.int (zi s2), .int (zi s1), .ref 430] (zm V J d) =
    zGo false 204 80 [.ref 430, .int (zi x1), .int (zi x2), .int (zi x3), .int (zi x4)] [.int (zi (0)), .int (zi s2), .int (zi s1), .ref 430] (zm V J d) := by
  refine (zr_iconst (n := 0) (by decide +kernel)).trans ?_
  rfl
theorem ze_204_80 {V : zVt} {J : zJt} {d : Nat → Nat → UInt64} (x1 : Int) (x2 : Int) (x3 : Int) (x4 : Int) (s1 : Int) (s2 : Int) (s3 : Int) : zGo false 204 80 [.ref 430, .int (zi x1), .int (zi x2), .int (zi x3), .int (zi x4)] [.int (zi s3), .int (zi s2), .int (zi s1), .ref 430] (zm V J d) =
    (zGo false 150 0 [.ref 430, .int (zi s1), .int (zi s2), .int (zi s3)] [] (zm V J d)).bind (zGor false 204 83 [.ref 430, .int (zi x1), .int (zi x2), .int (zi x3), .int (zi x4)] []) := by
  exact zr_cV (i := 289) (z := 150) (w := 0) (o := 430) (t := [.int (zi s3), .int (zi s2), .int (zi s1)]) (rest := []) (L := [.ref 430, .int (zi s1), .int (zi s2), .int (zi s3)]) (pc1 := 83) (by decide +kernel) (by decide +kernel) rfl (n := 3) (r := 0) rfl rfl rfl (by decide +kernel) rfl rfl
theorem ze_204_83 {V : zVt} {J : zJt} {d : Nat → Nat → UInt64} (x1 : Int) (x2 : Int) (x3 : Int) (x4 : Int) (s0 : Int) : zGo false 204 83 [.ref 430, .int (zi x1), .int (zi x2), .int (zi x3), .int (zi x4)] [.int (zi s0)] (zm V J d) =
    (if qw s0 ≠ 0 then (zGo false 205 0 [.ref 430, .int (zi (0)), .int (zi (1)), .null, .null, .null, .null] [] (zm V J d)).bind (zGor false 204 94 [.ref 430, .int (zi x1), .int (zi x2), .int (zi x3), .int (zi x4)] []) else some (.inl (some (.int (zi (0)))), zm V J d)) := by
  refine (zr_ifne (off := 5) (a := s0) (t := 88) (by decide +kernel) rfl).trans (zif_ct (fun _ => ?_) (fun _ => ?_))
  · refine (zr_aload_n (n := 0) (x := 430) (by decide +kernel) rfl).trans ?_
    refine (zr_iconst (n := 0) (by decide +kernel)).trans ?_
    refine (zr_iconst (n := 1) (by decide +kernel)).trans ?_
    exact zr_cV (i := 331) (z := 205) (w := 0) (o := 430) (t := [.int (zi (1)), .int (zi (0))]) (rest := []) (L := [.ref 430, .int (zi (0)), .int (zi (1)), .null, .null, .null, .null]) (pc1 := 94) (by decide +kernel) (by decide +kernel) rfl (n := 2) (r := 0) rfl rfl rfl (by decide +kernel) rfl rfl
  · refine (zr_iconst (n := 0) (by decide +kernel)).trans ?_
    exact zr_iret (a := (0)) (by decide +kernel) rfl
theorem ze_204_94 {V : zVt} {J : zJt} {d : Nat → Nat → UInt64} (x1 : Int) (x2 : Int) (x3 : Int) (x4 : Int) (s0 : Int) : zGo false 204 94 [.ref 430, .int (zi x1), .int (zi x2), .int (zi x3), .int (zi x4)] [.int (zi s0)] (zm V J d) =
    some (.inl (some (.int (zi s0))), zm V J d) := by
  exact zr_iret (a := s0) (by decide +kernel) rfl
/-! PartSongDeskModel unlike (II)I -/
theorem ze_205_0 {V : zVt} {J : zJt} {d : Nat → Nat → UInt64} (x1 : Int) (x2 : Int) : zGo false 205 0 [.ref 430, .int (zi x1), .int (zi x2), .null, .null, .null, .null] [] (zm V J d) =
    zck (0 ≤ qw x1 ∧ qw x1 < (5 : Nat)) (zck (0 ≤ qw x2 ∧ qw x2 < (5 : Nat)) ((if qw (V 449 (qw x1)) ≤ qw (V 449 (qw x2)) then zck (0 ≤ qw x2 ∧ qw x2 < (5 : Nat)) (zGo false 205 30 [.ref 430, .int (zi x1), .int (zi x2), .null, .null, .null, .null] [.int (zi (V 449 (qw x2)))] (zm V J d)) else zck (0 ≤ qw x1 ∧ qw x1 < (5 : Nat)) (zGo false 205 30 [.ref 430, .int (zi x1), .int (zi x2), .null, .null, .null, .null] [.int (zi (V 449 (qw x1)))] (zm V J d))))) := by
  refine (zr_aload_n (n := 0) (x := 430) (by decide +kernel) rfl).trans ?_
  refine (zr_getR (i := 65) (c := 12) (k := 30) (r := 449) (by decide +kernel) (by decide +kernel) rfl (by decide +kernel) (zR0_f (o := 430) (c := 12) (n := 0) (k := 30) (j := 19) rfl (by decide) rfl)).trans ?_
  refine (zr_iload_n (n := 1) (x := zi x1) (by decide +kernel) rfl).trans ?_
  refine (zr_iald (n := 5) (e := x1) (by decide +kernel) rfl).trans (zck_ct fun _ => ?_)
  refine (zr_aload_n (n := 0) (x := 430) (by decide +kernel) rfl).trans ?_
  refine (zr_getR (i := 65) (c := 12) (k := 30) (r := 449) (by decide +kernel) (by decide +kernel) rfl (by decide +kernel) (zR0_f (o := 430) (c := 12) (n := 0) (k := 30) (j := 19) rfl (by decide) rfl)).trans ?_
  refine (zr_iload_n (n := 2) (x := zi x2) (by decide +kernel) rfl).trans ?_
  refine (zr_iald (n := 5) (e := x2) (by decide +kernel) rfl).trans (zck_ct fun _ => ?_)
  refine (zr_cle (off := 12) (a := (V 449 (qw x1))) (b := (V 449 (qw x2))) (t := 24) (by decide +kernel) rfl).trans (zif_ct (fun _ => ?_) (fun _ => ?_))
  · refine (zr_aload_n (n := 0) (x := 430) (by decide +kernel) rfl).trans ?_
    refine (zr_getR (i := 65) (c := 12) (k := 30) (r := 449) (by decide +kernel) (by decide +kernel) rfl (by decide +kernel) (zR0_f (o := 430) (c := 12) (n := 0) (k := 30) (j := 19) rfl (by decide) rfl)).trans ?_
    refine (zr_iload_n (n := 2) (x := zi x2) (by decide +kernel) rfl).trans ?_
    refine (zr_iald (n := 5) (e := x2) (by decide +kernel) rfl).trans (zck_ct fun _ => ?_)
    rfl
  · refine (zr_aload_n (n := 0) (x := 430) (by decide +kernel) rfl).trans ?_
    refine (zr_getR (i := 65) (c := 12) (k := 30) (r := 449) (by decide +kernel) (by decide +kernel) rfl (by decide +kernel) (zR0_f (o := 430) (c := 12) (n := 0) (k := 30) (j := 19) rfl (by decide) rfl)).trans ?_
    refine (zr_iload_n (n := 1) (x := zi x1) (by decide +kernel) rfl).trans ?_
    refine (zr_iald (n := 5) (e := x1) (by decide +kernel) rfl).trans (zck_ct fun _ => ?_)
    refine (zr_goto (off := 9) (t := 30) (by decide +kernel) rfl).trans ?_
    rfl
theorem ze_205_30 {V : zVt} {J : zJt} {d : Nat → Nat → UInt64} (x1 : Int) (x2 : Int) (s0 : Int) : zGo false 205 30 [.ref 430, .int (zi x1), .int (zi x2), .null, .null, .null, .null] [.int (zi s0)] (zm V J d) =
    zGo false 205 37 [.ref 430, .int (zi x1), .int (zi x2), .int (zi s0), .int (zi (0)), .int (zi (0)), .null] [] (zm V J d) := by
  refine (zr_istore_n (n := 3) (l1 := [.ref 430, .int (zi x1), .int (zi x2), .int (zi s0), .null, .null, .null]) (by decide +kernel) rfl).trans ?_
  refine (zr_iconst (n := 0) (by decide +kernel)).trans ?_
  refine (zr_istore (n := 4) (l1 := [.ref 430, .int (zi x1), .int (zi x2), .int (zi s0), .int (zi (0)), .null, .null]) (by decide +kernel) rfl).trans ?_
  refine (zr_iconst (n := 0) (by decide +kernel)).trans ?_
  refine (zr_istore (n := 5) (l1 := [.ref 430, .int (zi x1), .int (zi x2), .int (zi s0), .int (zi (0)), .int (zi (0)), .null]) (by decide +kernel) rfl).trans ?_
  rfl
theorem ze_205_37 {V : zVt} {J : zJt} {d : Nat → Nat → UInt64} (x1 : Int) (x2 : Int) (x3 : Int) (x4 : Int) (x5 : Int) (x6 : Value) : zGo false 205 37 [.ref 430, .int (zi x1), .int (zi x2), .int (zi x3), .int (zi x4), .int (zi x5), x6] [] (zm V J d) =
    (if qw x3 ≤ qw x5 then some (.inl (some (.int (zi x4))), zm V J d) else zck (0 ≤ qw x1 ∧ qw x1 < (5 : Nat)) ((if qw (V 449 (qw x1)) ≤ qw x5 then zGo false 205 80 [.ref 430, .int (zi x1), .int (zi x2), .int (zi x3), .int (zi x4), .int (zi x5), x6] [] (zm V J d) else zck (0 ≤ qw x2 ∧ qw x2 < (5 : Nat)) ((if qw (V 449 (qw x2)) ≤ qw x5 then zGo false 205 80 [.ref 430, .int (zi x1), .int (zi x2), .int (zi x3), .int (zi x4), .int (zi x5), x6] [] (zm V J d) else (zGo false 206 0 [.ref 430, .int (zi x1), .int (zi x2), .int (zi x5), .null, .null] [] (zm V J d)).bind (zGor false 205 73 [.ref 430, .int (zi x1), .int (zi x2), .int (zi x3), .int (zi x4), .int (zi x5), x6] [])))))) := by
  refine (zr_iload (n := 5) (x := zi x5) (by decide +kernel) rfl).trans ?_
  refine (zr_iload_n (n := 3) (x := zi x3) (by decide +kernel) rfl).trans ?_
  refine (zr_cge (off := 64) (a := x5) (b := x3) (t := 104) (by decide +kernel) rfl).trans (zif_ct (fun _ => ?_) (fun _ => ?_))
  · refine (zr_iload (n := 4) (x := zi x4) (by decide +kernel) rfl).trans ?_
    exact zr_iret (a := x4) (by decide +kernel) rfl
  · refine (zr_iload (n := 5) (x := zi x5) (by decide +kernel) rfl).trans ?_
    refine (zr_aload_n (n := 0) (x := 430) (by decide +kernel) rfl).trans ?_
    refine (zr_getR (i := 65) (c := 12) (k := 30) (r := 449) (by decide +kernel) (by decide +kernel) rfl (by decide +kernel) (zR0_f (o := 430) (c := 12) (n := 0) (k := 30) (j := 19) rfl (by decide) rfl)).trans ?_
    refine (zr_iload_n (n := 1) (x := zi x1) (by decide +kernel) rfl).trans ?_
    refine (zr_iald (n := 5) (e := x1) (by decide +kernel) rfl).trans (zck_ct fun _ => ?_)
    refine (zr_cge (off := 29) (a := x5) (b := (V 449 (qw x1))) (t := 80) (by decide +kernel) rfl).trans (zif_ct (fun _ => ?_) (fun _ => ?_))
    · rfl
    · refine (zr_iload (n := 5) (x := zi x5) (by decide +kernel) rfl).trans ?_
      refine (zr_aload_n (n := 0) (x := 430) (by decide +kernel) rfl).trans ?_
      refine (zr_getR (i := 65) (c := 12) (k := 30) (r := 449) (by decide +kernel) (by decide +kernel) rfl (by decide +kernel) (zR0_f (o := 430) (c := 12) (n := 0) (k := 30) (j := 19) rfl (by decide) rfl)).trans ?_
      refine (zr_iload_n (n := 2) (x := zi x2) (by decide +kernel) rfl).trans ?_
      refine (zr_iald (n := 5) (e := x2) (by decide +kernel) rfl).trans (zck_ct fun _ => ?_)
      refine (zr_cge (off := 18) (a := x5) (b := (V 449 (qw x2))) (t := 80) (by decide +kernel) rfl).trans (zif_ct (fun _ => ?_) (fun _ => ?_))
      · rfl
      · refine (zr_aload_n (n := 0) (x := 430) (by decide +kernel) rfl).trans ?_
        refine (zr_iload_n (n := 1) (x := zi x1) (by decide +kernel) rfl).trans ?_
        refine (zr_iload_n (n := 2) (x := zi x2) (by decide +kernel) rfl).trans ?_
        refine (zr_iload (n := 5) (x := zi x5) (by decide +kernel) rfl).trans ?_
        exact zr_cV (i := 328) (z := 206) (w := 0) (o := 430) (t := [.int (zi x5), .int (zi x2), .int (zi x1)]) (rest := []) (L := [.ref 430, .int (zi x1), .int (zi x2), .int (zi x5), .null, .null]) (pc1 := 73) (by decide +kernel) (by decide +kernel) rfl (n := 3) (r := 0) rfl rfl rfl (by decide +kernel) rfl rfl
theorem ze_205_73 {V : zVt} {J : zJt} {d : Nat → Nat → UInt64} (x1 : Int) (x2 : Int) (x3 : Int) (x4 : Int) (x5 : Int) (x6 : Value) (s0 : Int) : zGo false 205 73 [.ref 430, .int (zi x1), .int (zi x2), .int (zi x3), .int (zi x4), .int (zi x5), x6] [.int (zi s0)] (zm V J d) =
    (if qw s0 = 0 then zGo false 205 80 [.ref 430, .int (zi x1), .int (zi x2), .int (zi x3), .int (zi x4), .int (zi x5), x6] [] (zm V J d) else zGo false 205 81 [.ref 430, .int (zi x1), .int (zi x2), .int (zi x3), .int (zi x4), .int (zi x5), x6] [.int (zi (1))] (zm V J d)) := by
  refine (zr_ifeq (off := 7) (a := s0) (t := 80) (by decide +kernel) rfl).trans (zif_ct (fun _ => ?_) (fun _ => ?_))
  · rfl
  · refine (zr_iconst (n := 1) (by decide +kernel)).trans ?_
    refine (zr_goto (off := 4) (t := 81) (by decide +kernel) rfl).trans ?_
    rfl
theorem ze_205_80 {V : zVt} {J : zJt} {d : Nat → Nat → UInt64} (x1 : Int) (x2 : Int) (x3 : Int) (x4 : Int) (x5 : Int) (x6 : Value) : zGo false 205 80 [.ref 430, .int (zi x1), .int (zi x2), .int (zi x3), .int (zi x4), .int (zi x5), x6] [] (zm V J d) =
    zGo false 205 81 [.ref 430, .int (zi x1), .int (zi x2), .int (zi x3), .int (zi x4), .int (zi x5), x6] [.int (zi (0))] (zm V J d) := by
  refine (zr_iconst (n := 0) (by decide +kernel)).trans ?_
  rfl
theorem ze_205_81 {V : zVt} {J : zJt} {d : Nat → Nat → UInt64} (x1 : Int) (x2 : Int) (x3 : Int) (x4 : Int) (x5 : Int) (x6 : Value) (s0 : Int) : zGo false 205 81 [.ref 430, .int (zi x1), .int (zi x2), .int (zi x3), .int (zi x4), .int (zi x5), x6] [.int (zi s0)] (zm V J d) =
    (if qw s0 = 0 then zGo false 205 95 [.ref 430, .int (zi x1), .int (zi x2), .int (zi x3), .int (zi x4), .int (zi x5), .int (zi s0)] [.int (zi (1)), .int (zi x4)] (zm V J d) else zGo false 205 95 [.ref 430, .int (zi x1), .int (zi x2), .int (zi x3), .int (zi x4), .int (zi x5), .int (zi s0)] [.int (zi (0)), .int (zi x4)] (zm V J d)) := by
  refine (zr_istore (n := 6) (l1 := [.ref 430, .int (zi x1), .int (zi x2), .int (zi x3), .int (zi x4), .int (zi x5), .int (zi s0)]) (by decide +kernel) rfl).trans ?_
  refine (zr_iload (n := 4) (x := zi x4) (by decide +kernel) rfl).trans ?_
  refine (zr_iload (n := 6) (x := zi s0) (by decide +kernel) rfl).trans ?_
  refine (zr_ifeq (off := 7) (a := s0) (t := 94) (by decide +kernel) rfl).trans (zif_ct (fun _ => ?_) (fun _ => ?_))
  · refine (zr_iconst (n := 1) (by decide +kernel)).trans ?_
    rfl
  · refine (zr_iconst (n := 0) (by decide +kernel)).trans ?_
    refine (zr_goto (off := 4) (t := 95) (by decide +kernel) rfl).trans ?_
    rfl
theorem ze_205_95 {V : zVt} {J : zJt} {d : Nat → Nat → UInt64} (x1 : Int) (x2 : Int) (x3 : Int) (x4 : Int) (x5 : Int) (x6 : Int) (s0 : Int) (s1 : Int) : zGo false 205 95 [.ref 430, .int (zi x1), .int (zi x2), .int (zi x3), .int (zi x4), .int (zi x5), .int (zi x6)] [.int (zi s1), .int (zi s0)] (zm V J d) =
    zGo false 205 37 [.ref 430, .int (zi x1), .int (zi x2), .int (zi x3), .int (zi (s0 + s1)), .int (zi (x5 + 1)), .int (zi x6)] [] (zm V J d) := by
  refine (zr_iadd (a := s0) (b := s1) (by decide +kernel)).trans ?_
  refine (zr_istore (n := 4) (l1 := [.ref 430, .int (zi x1), .int (zi x2), .int (zi x3), .int (zi (s0 + s1)), .int (zi x5), .int (zi x6)]) (by decide +kernel) rfl).trans ?_
  refine (zr_iinc (n := 5) (k := 1) (x := x5) (l1 := [.ref 430, .int (zi x1), .int (zi x2), .int (zi x3), .int (zi (s0 + s1)), .int (zi (x5 + 1)), .int (zi x6)]) (by decide +kernel) rfl rfl).trans ?_
  refine (zr_goto (off := -64) (t := 37) (by decide +kernel) rfl).trans ?_
  rfl
/-! PartSongDeskModel areAlike (III)Z -/
theorem ze_206_0 {V : zVt} {J : zJt} {d : Nat → Nat → UInt64} (x1 : Int) (x2 : Int) (x3 : Int) : zGo false 206 0 [.ref 430, .int (zi x1), .int (zi x2), .int (zi x3), .null, .null] [] (zm V J d) =
    zck (0 ≤ qw x1 ∧ qw x1 < (5 : Nat)) (zck (0 ≤ qw x2 ∧ qw x2 < (5 : Nat)) ((if qw (V 450 (qw x1)) ≠ qw (V 450 (qw x2)) then zGo false 206 88 [.ref 430, .int (zi x1), .int (zi x2), .int (zi x3), .int (zi (((40) * x1) + x3)), .int (zi (((40) * x2) + x3))] [] (zm V J d) else zck (0 ≤ qw (((40) * x1) + x3) ∧ qw (((40) * x1) + x3) < (200 : Nat)) (zck (0 ≤ qw (((40) * x2) + x3) ∧ qw (((40) * x2) + x3) < (200 : Nat)) ((if qw (lg_cmp (J 451 (qw (((40) * x1) + x3))) (J 451 (qw (((40) * x2) + x3)))).toInt ≠ 0 then zGo false 206 88 [.ref 430, .int (zi x1), .int (zi x2), .int (zi x3), .int (zi (((40) * x1) + x3)), .int (zi (((40) * x2) + x3))] [] (zm V J d) else zck (0 ≤ qw (((40) * x1) + x3) ∧ qw (((40) * x1) + x3) < (200 : Nat)) (zck (0 ≤ qw (((40) * x2) + x3) ∧ qw (((40) * x2) + x3) < (200 : Nat)) ((if qw (lg_cmp (J 452 (qw (((40) * x1) + x3))) (J 452 (qw (((40) * x2) + x3)))).toInt ≠ 0 then zGo false 206 88 [.ref 430, .int (zi x1), .int (zi x2), .int (zi x3), .int (zi (((40) * x1) + x3)), .int (zi (((40) * x2) + x3))] [] (zm V J d) else zck (0 ≤ qw (((40) * x1) + x3) ∧ qw (((40) * x1) + x3) < (200 : Nat)) (zck (0 ≤ qw (((40) * x2) + x3) ∧ qw (((40) * x2) + x3) < (200 : Nat)) ((if qw (V 453 (qw (((40) * x1) + x3))) ≠ qw (V 453 (qw (((40) * x2) + x3))) then zGo false 206 88 [.ref 430, .int (zi x1), .int (zi x2), .int (zi x3), .int (zi (((40) * x1) + x3)), .int (zi (((40) * x2) + x3))] [] (zm V J d) else zGo false 206 89 [.ref 430, .int (zi x1), .int (zi x2), .int (zi x3), .int (zi (((40) * x1) + x3)), .int (zi (((40) * x2) + x3))] [.int (zi (1))] (zm V J d))))))))))))) := by
  refine (zr_bipush (n := 40) (by decide +kernel) rfl).trans ?_
  refine (zr_iload_n (n := 1) (x := zi x1) (by decide +kernel) rfl).trans ?_
  refine (zr_imul (a := (40)) (b := x1) (by decide +kernel)).trans ?_
  refine (zr_iload_n (n := 3) (x := zi x3) (by decide +kernel) rfl).trans ?_
  refine (zr_iadd (a := ((40) * x1)) (b := x3) (by decide +kernel)).trans ?_
  refine (zr_istore (n := 4) (l1 := [.ref 430, .int (zi x1), .int (zi x2), .int (zi x3), .int (zi (((40) * x1) + x3)), .null]) (by decide +kernel) rfl).trans ?_
  refine (zr_bipush (n := 40) (by decide +kernel) rfl).trans ?_
  refine (zr_iload_n (n := 2) (x := zi x2) (by decide +kernel) rfl).trans ?_
  refine (zr_imul (a := (40)) (b := x2) (by decide +kernel)).trans ?_
  refine (zr_iload_n (n := 3) (x := zi x3) (by decide +kernel) rfl).trans ?_
  refine (zr_iadd (a := ((40) * x2)) (b := x3) (by decide +kernel)).trans ?_
  refine (zr_istore (n := 5) (l1 := [.ref 430, .int (zi x1), .int (zi x2), .int (zi x3), .int (zi (((40) * x1) + x3)), .int (zi (((40) * x2) + x3))]) (by decide +kernel) rfl).trans ?_
  refine (zr_aload_n (n := 0) (x := 430) (by decide +kernel) rfl).trans ?_
  refine (zr_getR (i := 68) (c := 12) (k := 31) (r := 450) (by decide +kernel) (by decide +kernel) rfl (by decide +kernel) (zR0_f (o := 430) (c := 12) (n := 0) (k := 31) (j := 20) rfl (by decide) rfl)).trans ?_
  refine (zr_iload_n (n := 1) (x := zi x1) (by decide +kernel) rfl).trans ?_
  refine (zr_iald (n := 5) (e := x1) (by decide +kernel) rfl).trans (zck_ct fun _ => ?_)
  refine (zr_aload_n (n := 0) (x := 430) (by decide +kernel) rfl).trans ?_
  refine (zr_getR (i := 68) (c := 12) (k := 31) (r := 450) (by decide +kernel) (by decide +kernel) rfl (by decide +kernel) (zR0_f (o := 430) (c := 12) (n := 0) (k := 31) (j := 20) rfl (by decide) rfl)).trans ?_
  refine (zr_iload_n (n := 2) (x := zi x2) (by decide +kernel) rfl).trans ?_
  refine (zr_iald (n := 5) (e := x2) (by decide +kernel) rfl).trans (zck_ct fun _ => ?_)
  refine (zr_cne (off := 60) (a := (V 450 (qw x1))) (b := (V 450 (qw x2))) (t := 88) (by decide +kernel) rfl).trans (zif_ct (fun _ => ?_) (fun _ => ?_))
  · rfl
  · refine (zr_aload_n (n := 0) (x := 430) (by decide +kernel) rfl).trans ?_
    refine (zr_getR (i := 71) (c := 12) (k := 32) (r := 451) (by decide +kernel) (by decide +kernel) rfl (by decide +kernel) (zR0_f (o := 430) (c := 12) (n := 0) (k := 32) (j := 21) rfl (by decide) rfl)).trans ?_
    refine (zr_iload (n := 4) (x := zi (((40) * x1) + x3)) (by decide +kernel) rfl).trans ?_
    refine (zr_lald (n := 200) (e := (((40) * x1) + x3)) (by decide +kernel) rfl).trans (zck_ct fun _ => ?_)
    refine (zr_aload_n (n := 0) (x := 430) (by decide +kernel) rfl).trans ?_
    refine (zr_getR (i := 71) (c := 12) (k := 32) (r := 451) (by decide +kernel) (by decide +kernel) rfl (by decide +kernel) (zR0_f (o := 430) (c := 12) (n := 0) (k := 32) (j := 21) rfl (by decide) rfl)).trans ?_
    refine (zr_iload (n := 5) (x := zi (((40) * x2) + x3)) (by decide +kernel) rfl).trans ?_
    refine (zr_lald (n := 200) (e := (((40) * x2) + x3)) (by decide +kernel) rfl).trans (zck_ct fun _ => ?_)
    refine (zr_lcmp (by decide +kernel)).trans ?_
    refine (zr_ifne (off := 42) (a := (lg_cmp (J 451 (qw (((40) * x1) + x3))) (J 451 (qw (((40) * x2) + x3)))).toInt) (t := 88) (by decide +kernel) rfl).trans (zif_ct (fun _ => ?_) (fun _ => ?_))
    · rfl
    · refine (zr_aload_n (n := 0) (x := 430) (by decide +kernel) rfl).trans ?_
      refine (zr_getR (i := 75) (c := 12) (k := 33) (r := 452) (by decide +kernel) (by decide +kernel) rfl (by decide +kernel) (zR0_f (o := 430) (c := 12) (n := 0) (k := 33) (j := 22) rfl (by decide) rfl)).trans ?_
      refine (zr_iload (n := 4) (x := zi (((40) * x1) + x3)) (by decide +kernel) rfl).trans ?_
      refine (zr_lald (n := 200) (e := (((40) * x1) + x3)) (by decide +kernel) rfl).trans (zck_ct fun _ => ?_)
      refine (zr_aload_n (n := 0) (x := 430) (by decide +kernel) rfl).trans ?_
      refine (zr_getR (i := 75) (c := 12) (k := 33) (r := 452) (by decide +kernel) (by decide +kernel) rfl (by decide +kernel) (zR0_f (o := 430) (c := 12) (n := 0) (k := 33) (j := 22) rfl (by decide) rfl)).trans ?_
      refine (zr_iload (n := 5) (x := zi (((40) * x2) + x3)) (by decide +kernel) rfl).trans ?_
      refine (zr_lald (n := 200) (e := (((40) * x2) + x3)) (by decide +kernel) rfl).trans (zck_ct fun _ => ?_)
      refine (zr_lcmp (by decide +kernel)).trans ?_
      refine (zr_ifne (off := 24) (a := (lg_cmp (J 452 (qw (((40) * x1) + x3))) (J 452 (qw (((40) * x2) + x3)))).toInt) (t := 88) (by decide +kernel) rfl).trans (zif_ct (fun _ => ?_) (fun _ => ?_))
      · rfl
      · refine (zr_aload_n (n := 0) (x := 430) (by decide +kernel) rfl).trans ?_
        refine (zr_getR (i := 78) (c := 12) (k := 34) (r := 453) (by decide +kernel) (by decide +kernel) rfl (by decide +kernel) (zR0_f (o := 430) (c := 12) (n := 0) (k := 34) (j := 23) rfl (by decide) rfl)).trans ?_
        refine (zr_iload (n := 4) (x := zi (((40) * x1) + x3)) (by decide +kernel) rfl).trans ?_
        refine (zr_iald (n := 200) (e := (((40) * x1) + x3)) (by decide +kernel) rfl).trans (zck_ct fun _ => ?_)
        refine (zr_aload_n (n := 0) (x := 430) (by decide +kernel) rfl).trans ?_
        refine (zr_getR (i := 78) (c := 12) (k := 34) (r := 453) (by decide +kernel) (by decide +kernel) rfl (by decide +kernel) (zR0_f (o := 430) (c := 12) (n := 0) (k := 34) (j := 23) rfl (by decide) rfl)).trans ?_
        refine (zr_iload (n := 5) (x := zi (((40) * x2) + x3)) (by decide +kernel) rfl).trans ?_
        refine (zr_iald (n := 200) (e := (((40) * x2) + x3)) (by decide +kernel) rfl).trans (zck_ct fun _ => ?_)
        refine (zr_cne (off := 7) (a := (V 453 (qw (((40) * x1) + x3)))) (b := (V 453 (qw (((40) * x2) + x3)))) (t := 88) (by decide +kernel) rfl).trans (zif_ct (fun _ => ?_) (fun _ => ?_))
        · rfl
        · refine (zr_iconst (n := 1) (by decide +kernel)).trans ?_
          refine (zr_goto (off := 4) (t := 89) (by decide +kernel) rfl).trans ?_
          rfl
theorem ze_206_88 {V : zVt} {J : zJt} {d : Nat → Nat → UInt64} (x1 : Int) (x2 : Int) (x3 : Int) (x4 : Int) (x5 : Int) : zGo false 206 88 [.ref 430, .int (zi x1), .int (zi x2), .int (zi x3), .int (zi x4), .int (zi x5)] [] (zm V J d) =
    zGo false 206 89 [.ref 430, .int (zi x1), .int (zi x2), .int (zi x3), .int (zi x4), .int (zi x5)] [.int (zi (0))] (zm V J d) := by
  refine (zr_iconst (n := 0) (by decide +kernel)).trans ?_
  rfl
theorem ze_206_89 {V : zVt} {J : zJt} {d : Nat → Nat → UInt64} (x1 : Int) (x2 : Int) (x3 : Int) (x4 : Int) (x5 : Int) (s0 : Int) : zGo false 206 89 [.ref 430, .int (zi x1), .int (zi x2), .int (zi x3), .int (zi x4), .int (zi x5)] [.int (zi s0)] (zm V J d) =
    zck (qw s0 = 0 ∨ qw s0 = 1) (some (.inl (some (.int (zi s0))), zm V J d)) := by
  exact zr_zret (a := s0) (by decide +kernel) rfl
/-! PartSongDeskModel clashes (II)I -/
theorem ze_207_0 {V : zVt} {J : zJt} {d : Nat → Nat → UInt64} (x1 : Int) (x2 : Int) : zGo false 207 0 [.ref 430, .int (zi x1), .int (zi x2)] [] (zm V J d) =
    (zGo false 147 0 [.int (zi x1), .int (zi (3))] [] (zm V J d)).bind (zGor false 207 6 [.ref 430, .int (zi x1), .int (zi x2)] [.ref 430]) := by
  refine (zr_aload_n (n := 0) (x := 430) (by decide +kernel) rfl).trans ?_
  refine (zr_iload_n (n := 1) (x := zi x1) (by decide +kernel) rfl).trans ?_
  refine (zr_iconst (n := 3) (by decide +kernel)).trans ?_
  exact zr_cS (i := 145) (z := 147) (w := 0) (t := [.int (zi (3)), .int (zi x1)]) (rest := [.ref 430]) (L := [.int (zi x1), .int (zi (3))]) (pc1 := 6) (by decide +kernel) (by decide +kernel) (n := 2) (r := 1) rfl rfl rfl (by decide +kernel) rfl rfl
theorem ze_207_6 {V : zVt} {J : zJt} {d : Nat → Nat → UInt64} (x1 : Int) (x2 : Int) (s1 : Int) : zGo false 207 6 [.ref 430, .int (zi x1), .int (zi x2)] [.int (zi s1), .ref 430] (zm V J d) =
    (if qw s1 = 0 then zGo false 207 22 [.ref 430, .int (zi x1), .int (zi x2)] [.ref 430] (zm V J d) else (zGo false 147 0 [.int (zi x2), .int (zi (40))] [] (zm V J d)).bind (zGor false 207 15 [.ref 430, .int (zi x1), .int (zi x2)] [.ref 430])) := by
  refine (zr_ifeq (off := 16) (a := s1) (t := 22) (by decide +kernel) rfl).trans (zif_ct (fun _ => ?_) (fun _ => ?_))
  · rfl
  · refine (zr_iload_n (n := 2) (x := zi x2) (by decide +kernel) rfl).trans ?_
    refine (zr_bipush (n := 40) (by decide +kernel) rfl).trans ?_
    exact zr_cS (i := 145) (z := 147) (w := 0) (t := [.int (zi (40)), .int (zi x2)]) (rest := [.ref 430]) (L := [.int (zi x2), .int (zi (40))]) (pc1 := 15) (by decide +kernel) (by decide +kernel) (n := 2) (r := 1) rfl rfl rfl (by decide +kernel) rfl rfl
theorem ze_207_15 {V : zVt} {J : zJt} {d : Nat → Nat → UInt64} (x1 : Int) (x2 : Int) (s1 : Int) : zGo false 207 15 [.ref 430, .int (zi x1), .int (zi x2)] [.int (zi s1), .ref 430] (zm V J d) =
    (if qw s1 = 0 then zGo false 207 22 [.ref 430, .int (zi x1), .int (zi x2)] [.ref 430] (zm V J d) else zGo false 207 23 [.ref 430, .int (zi x1), .int (zi x2)] [.int (zi (1)), .ref 430] (zm V J d)) := by
  refine (zr_ifeq (off := 7) (a := s1) (t := 22) (by decide +kernel) rfl).trans (zif_ct (fun _ => ?_) (fun _ => ?_))
  · rfl
  · refine (zr_iconst (n := 1) (by decide +kernel)).trans ?_
    refine (zr_goto (off := 4) (t := 23) (by decide +kernel) rfl).trans ?_
    rfl
theorem ze_207_22 {V : zVt} {J : zJt} {d : Nat → Nat → UInt64} (x1 : Int) (x2 : Int) : zGo false 207 22 [.ref 430, .int (zi x1), .int (zi x2)] [.ref 430] (zm V J d) =
    zGo false 207 23 [.ref 430, .int (zi x1), .int (zi x2)] [.int (zi (0)), .ref 430] (zm V J d) := by
  refine (zr_iconst (n := 0) (by decide +kernel)).trans ?_
  rfl
theorem ze_207_23 {V : zVt} {J : zJt} {d : Nat → Nat → UInt64} (x1 : Int) (x2 : Int) (s1 : Int) : zGo false 207 23 [.ref 430, .int (zi x1), .int (zi x2)] [.int (zi s1), .ref 430] (zm V J d) =
    (zGo false 150 0 [.ref 430, .int (zi s1), .int (zi (1)), .int (zi (1))] [] (zm V J d)).bind (zGor false 207 28 [.ref 430, .int (zi x1), .int (zi x2)] []) := by
  refine (zr_iconst (n := 1) (by decide +kernel)).trans ?_
  refine (zr_iconst (n := 1) (by decide +kernel)).trans ?_
  exact zr_cV (i := 289) (z := 150) (w := 0) (o := 430) (t := [.int (zi (1)), .int (zi (1)), .int (zi s1)]) (rest := []) (L := [.ref 430, .int (zi s1), .int (zi (1)), .int (zi (1))]) (pc1 := 28) (by decide +kernel) (by decide +kernel) rfl (n := 3) (r := 0) rfl rfl rfl (by decide +kernel) rfl rfl
theorem ze_207_28 {V : zVt} {J : zJt} {d : Nat → Nat → UInt64} (x1 : Int) (x2 : Int) (s0 : Int) : zGo false 207 28 [.ref 430, .int (zi x1), .int (zi x2)] [.int (zi s0)] (zm V J d) =
    (if qw s0 ≠ 0 then (zGo false 208 0 [.ref 430, .int (zi x1), .null, .null] [] (zm V J d)).bind (zGor false 207 38 [.ref 430, .int (zi x1), .int (zi x2)] []) else some (.inl (some (.int (zi (0)))), zm V J d)) := by
  refine (zr_ifne (off := 5) (a := s0) (t := 33) (by decide +kernel) rfl).trans (zif_ct (fun _ => ?_) (fun _ => ?_))
  · refine (zr_aload_n (n := 0) (x := 430) (by decide +kernel) rfl).trans ?_
    refine (zr_iload_n (n := 1) (x := zi x1) (by decide +kernel) rfl).trans ?_
    exact zr_cV (i := 338) (z := 208) (w := 0) (o := 430) (t := [.int (zi x1)]) (rest := []) (L := [.ref 430, .int (zi x1), .null, .null]) (pc1 := 38) (by decide +kernel) (by decide +kernel) rfl (n := 1) (r := 0) rfl rfl rfl (by decide +kernel) rfl rfl
  · refine (zr_iconst (n := 0) (by decide +kernel)).trans ?_
    exact zr_iret (a := (0)) (by decide +kernel) rfl
theorem ze_207_38 {V : zVt} {J : zJt} {d : Nat → Nat → UInt64} (x1 : Int) (x2 : Int) : zGo false 207 38 [.ref 430, .int (zi x1), .int (zi x2)] [] (zm V J d) =
    (zGo false 209 0 [.ref 430, .int (zi x2), .int (zi (0)), .null, .null, .null, .null, .null, .null, .null, .null, .null] [] (zm V J d)).bind (zGor false 207 44 [.ref 430, .int (zi x1), .int (zi x2)] []) := by
  refine (zr_aload_n (n := 0) (x := 430) (by decide +kernel) rfl).trans ?_
  refine (zr_iload_n (n := 2) (x := zi x2) (by decide +kernel) rfl).trans ?_
  refine (zr_iconst (n := 0) (by decide +kernel)).trans ?_
  exact zr_cV (i := 341) (z := 209) (w := 0) (o := 430) (t := [.int (zi (0)), .int (zi x2)]) (rest := []) (L := [.ref 430, .int (zi x2), .int (zi (0)), .null, .null, .null, .null, .null, .null, .null, .null, .null]) (pc1 := 44) (by decide +kernel) (by decide +kernel) rfl (n := 2) (r := 0) rfl rfl rfl (by decide +kernel) rfl rfl
theorem ze_207_44 {V : zVt} {J : zJt} {d : Nat → Nat → UInt64} (x1 : Int) (x2 : Int) (s0 : Int) : zGo false 207 44 [.ref 430, .int (zi x1), .int (zi x2)] [.int (zi s0)] (zm V J d) =
    (zGo false 209 0 [.ref 430, .int (zi x2), .int (zi (1)), .null, .null, .null, .null, .null, .null, .null, .null, .null] [] (zm V J d)).bind (zGor false 207 50 [.ref 430, .int (zi x1), .int (zi x2)] [.int (zi s0)]) := by
  refine (zr_aload_n (n := 0) (x := 430) (by decide +kernel) rfl).trans ?_
  refine (zr_iload_n (n := 2) (x := zi x2) (by decide +kernel) rfl).trans ?_
  refine (zr_iconst (n := 1) (by decide +kernel)).trans ?_
  exact zr_cV (i := 341) (z := 209) (w := 0) (o := 430) (t := [.int (zi (1)), .int (zi x2)]) (rest := [.int (zi s0)]) (L := [.ref 430, .int (zi x2), .int (zi (1)), .null, .null, .null, .null, .null, .null, .null, .null, .null]) (pc1 := 50) (by decide +kernel) (by decide +kernel) rfl (n := 2) (r := 1) rfl rfl rfl (by decide +kernel) rfl rfl
theorem ze_207_50 {V : zVt} {J : zJt} {d : Nat → Nat → UInt64} (x1 : Int) (x2 : Int) (s0 : Int) (s1 : Int) : zGo false 207 50 [.ref 430, .int (zi x1), .int (zi x2)] [.int (zi s1), .int (zi s0)] (zm V J d) =
    (zGo false 209 0 [.ref 430, .int (zi x2), .int (zi (2)), .null, .null, .null, .null, .null, .null, .null, .null, .null] [] (zm V J d)).bind (zGor false 207 57 [.ref 430, .int (zi x1), .int (zi x2)] [.int (zi (s0 + s1))]) := by
  refine (zr_iadd (a := s0) (b := s1) (by decide +kernel)).trans ?_
  refine (zr_aload_n (n := 0) (x := 430) (by decide +kernel) rfl).trans ?_
  refine (zr_iload_n (n := 2) (x := zi x2) (by decide +kernel) rfl).trans ?_
  refine (zr_iconst (n := 2) (by decide +kernel)).trans ?_
  exact zr_cV (i := 341) (z := 209) (w := 0) (o := 430) (t := [.int (zi (2)), .int (zi x2)]) (rest := [.int (zi (s0 + s1))]) (L := [.ref 430, .int (zi x2), .int (zi (2)), .null, .null, .null, .null, .null, .null, .null, .null, .null]) (pc1 := 57) (by decide +kernel) (by decide +kernel) rfl (n := 2) (r := 1) rfl rfl rfl (by decide +kernel) rfl rfl
theorem ze_207_57 {V : zVt} {J : zJt} {d : Nat → Nat → UInt64} (x1 : Int) (x2 : Int) (s0 : Int) (s1 : Int) : zGo false 207 57 [.ref 430, .int (zi x1), .int (zi x2)] [.int (zi s1), .int (zi s0)] (zm V J d) =
    (zGo false 209 0 [.ref 430, .int (zi x2), .int (zi (3)), .null, .null, .null, .null, .null, .null, .null, .null, .null] [] (zm V J d)).bind (zGor false 207 64 [.ref 430, .int (zi x1), .int (zi x2)] [.int (zi (s0 + s1))]) := by
  refine (zr_iadd (a := s0) (b := s1) (by decide +kernel)).trans ?_
  refine (zr_aload_n (n := 0) (x := 430) (by decide +kernel) rfl).trans ?_
  refine (zr_iload_n (n := 2) (x := zi x2) (by decide +kernel) rfl).trans ?_
  refine (zr_iconst (n := 3) (by decide +kernel)).trans ?_
  exact zr_cV (i := 341) (z := 209) (w := 0) (o := 430) (t := [.int (zi (3)), .int (zi x2)]) (rest := [.int (zi (s0 + s1))]) (L := [.ref 430, .int (zi x2), .int (zi (3)), .null, .null, .null, .null, .null, .null, .null, .null, .null]) (pc1 := 64) (by decide +kernel) (by decide +kernel) rfl (n := 2) (r := 1) rfl rfl rfl (by decide +kernel) rfl rfl
theorem ze_207_64 {V : zVt} {J : zJt} {d : Nat → Nat → UInt64} (x1 : Int) (x2 : Int) (s0 : Int) (s1 : Int) : zGo false 207 64 [.ref 430, .int (zi x1), .int (zi x2)] [.int (zi s1), .int (zi s0)] (zm V J d) =
    some (.inl (some (.int (zi (s0 + s1)))), zm V J d) := by
  refine (zr_iadd (a := s0) (b := s1) (by decide +kernel)).trans ?_
  exact zr_iret (a := (s0 + s1)) (by decide +kernel) rfl
/-! PartSongDeskModel singsPiece (I)V -/
theorem ze_208_0 {V : zVt} {J : zJt} {d : Nat → Nat → UInt64} (x1 : Int) : zGo false 208 0 [.ref 430, .int (zi x1), .null, .null] [] (zm V J d) =
    zGo false 208 2 [.ref 430, .int (zi x1), .int (zi (0)), .null] [] (zm V J d) := by
  refine (zr_iconst (n := 0) (by decide +kernel)).trans ?_
  refine (zr_istore_n (n := 2) (l1 := [.ref 430, .int (zi x1), .int (zi (0)), .null]) (by decide +kernel) rfl).trans ?_
  rfl
theorem ze_208_2 {V : zVt} {J : zJt} {d : Nat → Nat → UInt64} (x1 : Int) (x2 : Int) (x3 : Value) : zGo false 208 2 [.ref 430, .int (zi x1), .int (zi x2), x3] [] (zm V J d) =
    (if qw (4) ≤ qw x2 then some (.inl none, zm V J d) else (zGo false 149 0 [.ref 430, .int (zi (((4) * x1) + x2)), .null, .null] [] (zm V J d)).bind (zGor false 208 18 [.ref 430, .int (zi x1), .int (zi x2), .int (zi (((4) * x1) + x2))] [])) := by
  refine (zr_iload_n (n := 2) (x := zi x2) (by decide +kernel) rfl).trans ?_
  refine (zr_iconst (n := 4) (by decide +kernel)).trans ?_
  refine (zr_cge (off := 47) (a := x2) (b := (4)) (t := 51) (by decide +kernel) rfl).trans (zif_ct (fun _ => ?_) (fun _ => ?_))
  · exact zr_vret (by decide +kernel) rfl
  · refine (zr_iconst (n := 4) (by decide +kernel)).trans ?_
    refine (zr_iload_n (n := 1) (x := zi x1) (by decide +kernel) rfl).trans ?_
    refine (zr_imul (a := (4)) (b := x1) (by decide +kernel)).trans ?_
    refine (zr_iload_n (n := 2) (x := zi x2) (by decide +kernel) rfl).trans ?_
    refine (zr_iadd (a := ((4) * x1)) (b := x2) (by decide +kernel)).trans ?_
    refine (zr_istore_n (n := 3) (l1 := [.ref 430, .int (zi x1), .int (zi x2), .int (zi (((4) * x1) + x2))]) (by decide +kernel) rfl).trans ?_
    refine (zr_aload_n (n := 0) (x := 430) (by decide +kernel) rfl).trans ?_
    refine (zr_iload_n (n := 3) (x := zi (((4) * x1) + x2)) (by decide +kernel) rfl).trans ?_
    exact zr_cV (i := 285) (z := 149) (w := 0) (o := 430) (t := [.int (zi (((4) * x1) + x2))]) (rest := []) (L := [.ref 430, .int (zi (((4) * x1) + x2)), .null, .null]) (pc1 := 18) (by decide +kernel) (by decide +kernel) rfl (n := 1) (r := 0) rfl rfl rfl (by decide +kernel) rfl rfl
theorem ze_208_18 {V : zVt} {J : zJt} {d : Nat → Nat → UInt64} (x1 : Int) (x2 : Int) (x3 : Int) (s0 : Int) : zGo false 208 18 [.ref 430, .int (zi x1), .int (zi x2), .int (zi x3)] [.int (zi s0)] (zm V J d) =
    (if qw s0 = 0 then zck (0 ≤ qw x2 ∧ qw x2 < (5 : Nat)) (zck (0 ≤ qw x2 ∧ qw x2 < (5 : Nat)) (zGo false 208 45 [.ref 430, .int (zi x1), .int (zi x2), .int (zi x3)] [] (zm (vup (vup V 448 (qw x2) (1)) 449 (qw x2) (0)) J d))) else (zGo false 183 0 [.ref 430, .int (zi x2), .int (zi x3)] [] (zm V J d)).bind (zGor false 208 27 [.ref 430, .int (zi x1), .int (zi x2), .int (zi x3)] [])) := by
  refine (zr_ifeq (off := 13) (a := s0) (t := 31) (by decide +kernel) rfl).trans (zif_ct (fun _ => ?_) (fun _ => ?_))
  · refine (zr_aload_n (n := 0) (x := 430) (by decide +kernel) rfl).trans ?_
    refine (zr_getR (i := 62) (c := 12) (k := 29) (r := 448) (by decide +kernel) (by decide +kernel) rfl (by decide +kernel) (zR0_f (o := 430) (c := 12) (n := 0) (k := 29) (j := 18) rfl (by decide) rfl)).trans ?_
    refine (zr_iload_n (n := 2) (x := zi x2) (by decide +kernel) rfl).trans ?_
    refine (zr_iconst (n := 1) (by decide +kernel)).trans ?_
    refine (zr_iast (n := 5) (e := x2) (x := (1)) (by decide +kernel) rfl).trans (zck_ct fun _ => ?_)
    refine (zr_aload_n (n := 0) (x := 430) (by decide +kernel) rfl).trans ?_
    refine (zr_getR (i := 65) (c := 12) (k := 30) (r := 449) (by decide +kernel) (by decide +kernel) rfl (by decide +kernel) (zR0_f (o := 430) (c := 12) (n := 0) (k := 30) (j := 19) rfl (by decide) rfl)).trans ?_
    refine (zr_iload_n (n := 2) (x := zi x2) (by decide +kernel) rfl).trans ?_
    refine (zr_iconst (n := 0) (by decide +kernel)).trans ?_
    refine (zr_iast (n := 5) (e := x2) (x := (0)) (by decide +kernel) rfl).trans (zck_ct fun _ => ?_)
    rfl
  · refine (zr_aload_n (n := 0) (x := 430) (by decide +kernel) rfl).trans ?_
    refine (zr_iload_n (n := 2) (x := zi x2) (by decide +kernel) rfl).trans ?_
    refine (zr_iload_n (n := 3) (x := zi x3) (by decide +kernel) rfl).trans ?_
    exact zr_cV (i := 293) (z := 183) (w := 0) (o := 430) (t := [.int (zi x3), .int (zi x2)]) (rest := []) (L := [.ref 430, .int (zi x2), .int (zi x3)]) (pc1 := 27) (by decide +kernel) (by decide +kernel) rfl (n := 2) (r := 0) rfl rfl rfl (by decide +kernel) rfl rfl
theorem ze_208_27 {V : zVt} {J : zJt} {d : Nat → Nat → UInt64} (x1 : Int) (x2 : Int) (x3 : Int) (s0 : Int) : zGo false 208 27 [.ref 430, .int (zi x1), .int (zi x2), .int (zi x3)] [.int (zi s0)] (zm V J d) =
    zGo false 208 45 [.ref 430, .int (zi x1), .int (zi x2), .int (zi x3)] [] (zm V J d) := by
  refine (zr_pop (by decide +kernel) rfl).trans ?_
  refine (zr_goto (off := 17) (t := 45) (by decide +kernel) rfl).trans ?_
  rfl
theorem ze_208_45 {V : zVt} {J : zJt} {d : Nat → Nat → UInt64} (x1 : Int) (x2 : Int) (x3 : Int) : zGo false 208 45 [.ref 430, .int (zi x1), .int (zi x2), .int (zi x3)] [] (zm V J d) =
    zGo false 208 2 [.ref 430, .int (zi x1), .int (zi (x2 + 1)), .int (zi x3)] [] (zm V J d) := by
  refine (zr_iinc (n := 2) (k := 1) (x := x2) (l1 := [.ref 430, .int (zi x1), .int (zi (x2 + 1)), .int (zi x3)]) (by decide +kernel) rfl rfl).trans ?_
  refine (zr_goto (off := -46) (t := 2) (by decide +kernel) rfl).trans ?_
  rfl
