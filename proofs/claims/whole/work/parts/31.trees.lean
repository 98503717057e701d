/-! part 31: methods as equations; printed by program (wip/whole/gen/gen_tree.py, gen_trees_all.py) -/
/-! PartSongDeskModel compares (I)I -/
theorem ze_227_0 {V : zVt} {J : zJt} {d : Nat → Nat → UInt64} (x1 : Int) : zGo false 227 0 [.ref 430, .int (zi x1), .null, .null] [] (zm V J d) =
    zGo false 227 4 [.ref 430, .int (zi x1), .int (zi (0)), .int (zi (0))] [] (zm V J d) := by
  refine (zr_iconst (n := 0) (by decide +kernel)).trans ?_
  refine (zr_istore_n (n := 2) (l1 := [.ref 430, .int (zi x1), .int (zi (0)), .null]) (by decide +kernel) rfl).trans ?_
  refine (zr_iconst (n := 0) (by decide +kernel)).trans ?_
  refine (zr_istore_n (n := 3) (l1 := [.ref 430, .int (zi x1), .int (zi (0)), .int (zi (0))]) (by decide +kernel) rfl).trans ?_
  rfl
theorem ze_227_4 {V : zVt} {J : zJt} {d : Nat → Nat → UInt64} (x1 : Int) (x2 : Int) (x3 : Int) : zGo false 227 4 [.ref 430, .int (zi x1), .int (zi x2), .int (zi x3)] [] (zm V J d) =
    (if qw (4) ≤ qw x3 then zGo false 227 81 [.ref 430, .int (zi x1), .int (zi x2), .int (zi (0))] [] (zm V J d) else (zGo false 226 0 [.ref 430, .int (zi (((4) * x1) + x3)), .null, .null] [] (zm V J d)).bind (zGor false 227 20 [.ref 430, .int (zi x1), .int (zi x2), .int (zi x3)] [.int (zi x3), .ref 430])) := by
  refine (zr_iload_n (n := 3) (x := zi x3) (by decide +kernel) rfl).trans ?_
  refine (zr_iconst (n := 4) (by decide +kernel)).trans ?_
  refine (zr_cge (off := 73) (a := x3) (b := (4)) (t := 79) (by decide +kernel) rfl).trans (zif_ct (fun _ => ?_) (fun _ => ?_))
  · refine (zr_iconst (n := 0) (by decide +kernel)).trans ?_
    refine (zr_istore_n (n := 3) (l1 := [.ref 430, .int (zi x1), .int (zi x2), .int (zi (0))]) (by decide +kernel) rfl).trans ?_
    rfl
  · refine (zr_aload_n (n := 0) (x := 430) (by decide +kernel) rfl).trans ?_
    refine (zr_iload_n (n := 3) (x := zi x3) (by decide +kernel) rfl).trans ?_
    refine (zr_aload_n (n := 0) (x := 430) (by decide +kernel) rfl).trans ?_
    refine (zr_iconst (n := 4) (by decide +kernel)).trans ?_
    refine (zr_iload_n (n := 1) (x := zi x1) (by decide +kernel) rfl).trans ?_
    refine (zr_imul (a := (4)) (b := x1) (by decide +kernel)).trans ?_
    refine (zr_iload_n (n := 3) (x := zi x3) (by decide +kernel) rfl).trans ?_
    refine (zr_iadd (a := ((4) * x1)) (b := x3) (by decide +kernel)).trans ?_
    exact zr_cV (i := 368) (z := 226) (w := 0) (o := 430) (t := [.int (zi (((4) * x1) + x3))]) (rest := [.int (zi x3), .ref 430]) (L := [.ref 430, .int (zi (((4) * x1) + x3)), .null, .null]) (pc1 := 20) (by decide +kernel) (by decide +kernel) rfl (n := 1) (r := 2) rfl rfl rfl (by decide +kernel) rfl rfl
theorem ze_227_20 {V : zVt} {J : zJt} {d : Nat → Nat → UInt64} (x1 : Int) (x2 : Int) (x3 : Int) (s1 : Int) (s2 : Int) : zGo false 227 20 [.ref 430, .int (zi x1), .int (zi x2), .int (zi x3)] [.int (zi s2), .int (zi s1), .ref 430] (zm V J d) =
    (zGo false 198 0 [.ref 430, .int (zi s1), .int (zi s2)] [] (zm V J d)).bind (zGor false 227 23 [.ref 430, .int (zi x1), .int (zi x2), .int (zi x3)] []) := by
  exact zr_cV (i := 316) (z := 198) (w := 0) (o := 430) (t := [.int (zi s2), .int (zi s1)]) (rest := []) (L := [.ref 430, .int (zi s1), .int (zi s2)]) (pc1 := 23) (by decide +kernel) (by decide +kernel) rfl (n := 2) (r := 0) rfl rfl rfl (by decide +kernel) rfl rfl
theorem ze_227_23 {V : zVt} {J : zJt} {d : Nat → Nat → UInt64} (x1 : Int) (x2 : Int) (x3 : Int) (s0 : Int) : zGo false 227 23 [.ref 430, .int (zi x1), .int (zi x2), .int (zi x3)] [.int (zi s0)] (zm V J d) =
    (if qw x2 ≠ 0 then zGo false 227 67 [.ref 430, .int (zi x1), .int (zi x2), .int (zi x3)] [] (zm V J d) else zck (0 ≤ qw x3 ∧ qw x3 < (5 : Nat)) (zck (0 ≤ qw (0) ∧ qw (0) < (5 : Nat)) ((if qw (V 449 (qw x3)) ≠ qw (V 449 (qw (0))) then zGo false 227 67 [.ref 430, .int (zi x1), .int (zi x2), .int (zi x3)] [] (zm V J d) else zck (0 ≤ qw (0) ∧ qw (0) < (5 : Nat)) ((if qw (V 449 (qw (0))) ≤ 0 then zGo false 227 71 [.ref 430, .int (zi x1), .int (zi x2), .int (zi x3)] [] (zm V J d) else zck (0 ≤ qw x3 ∧ qw x3 < (5 : Nat)) (zck (0 ≤ qw (0) ∧ qw (0) < (5 : Nat)) ((if qw (V 450 (qw x3)) = qw (V 450 (qw (0))) then zGo false 227 71 [.ref 430, .int (zi x1), .int (zi x2), .int (zi x3)] [] (zm V J d) else zGo false 227 67 [.ref 430, .int (zi x1), .int (zi x2), .int (zi x3)] [] (zm V J d)))))))))) := by
  refine (zr_pop (by decide +kernel) rfl).trans ?_
  refine (zr_iload_n (n := 2) (x := zi x2) (by decide +kernel) rfl).trans ?_
  refine (zr_ifne (off := 42) (a := x2) (t := 67) (by decide +kernel) rfl).trans (zif_ct (fun _ => ?_) (fun _ => ?_))
  · rfl
  · refine (zr_aload_n (n := 0) (x := 430) (by decide +kernel) rfl).trans ?_
    refine (zr_getR (i := 65) (c := 12) (k := 30) (r := 449) (by decide +kernel) (by decide +kernel) rfl (by decide +kernel) (zR0_f (o := 430) (c := 12) (n := 0) (k := 30) (j := 19) rfl (by decide) rfl)).trans ?_
    refine (zr_iload_n (n := 3) (x := zi x3) (by decide +kernel) rfl).trans ?_
    refine (zr_iald (n := 5) (e := x3) (by decide +kernel) rfl).trans (zck_ct fun _ => ?_)
    refine (zr_aload_n (n := 0) (x := 430) (by decide +kernel) rfl).trans ?_
    refine (zr_getR (i := 65) (c := 12) (k := 30) (r := 449) (by decide +kernel) (by decide +kernel) rfl (by decide +kernel) (zR0_f (o := 430) (c := 12) (n := 0) (k := 30) (j := 19) rfl (by decide) rfl)).trans ?_
    refine (zr_iconst (n := 0) (by decide +kernel)).trans ?_
    refine (zr_iald (n := 5) (e := (0)) (by decide +kernel) rfl).trans (zck_ct fun _ => ?_)
    refine (zr_cne (off := 27) (a := (V 449 (qw x3))) (b := (V 449 (qw (0)))) (t := 67) (by decide +kernel) rfl).trans (zif_ct (fun _ => ?_) (fun _ => ?_))
    · rfl
    · refine (zr_aload_n (n := 0) (x := 430) (by decide +kernel) rfl).trans ?_
      refine (zr_getR (i := 65) (c := 12) (k := 30) (r := 449) (by decide +kernel) (by decide +kernel) rfl (by decide +kernel) (zR0_f (o := 430) (c := 12) (n := 0) (k := 30) (j := 19) rfl (by decide) rfl)).trans ?_
      refine (zr_iconst (n := 0) (by decide +kernel)).trans ?_
      refine (zr_iald (n := 5) (e := (0)) (by decide +kernel) rfl).trans (zck_ct fun _ => ?_)
      refine (zr_ifle (off := 22) (a := (V 449 (qw (0)))) (t := 71) (by decide +kernel) rfl).trans (zif_ct (fun _ => ?_) (fun _ => ?_))
      · rfl
      · refine (zr_aload_n (n := 0) (x := 430) (by decide +kernel) rfl).trans ?_
        refine (zr_getR (i := 68) (c := 12) (k := 31) (r := 450) (by decide +kernel) (by decide +kernel) rfl (by decide +kernel) (zR0_f (o := 430) (c := 12) (n := 0) (k := 31) (j := 20) rfl (by decide) rfl)).trans ?_
        refine (zr_iload_n (n := 3) (x := zi x3) (by decide +kernel) rfl).trans ?_
        refine (zr_iald (n := 5) (e := x3) (by decide +kernel) rfl).trans (zck_ct fun _ => ?_)
        refine (zr_aload_n (n := 0) (x := 430) (by decide +kernel) rfl).trans ?_
        refine (zr_getR (i := 68) (c := 12) (k := 31) (r := 450) (by decide +kernel) (by decide +kernel) rfl (by decide +kernel) (zR0_f (o := 430) (c := 12) (n := 0) (k := 31) (j := 20) rfl (by decide) rfl)).trans ?_
        refine (zr_iconst (n := 0) (by decide +kernel)).trans ?_
        refine (zr_iald (n := 5) (e := (0)) (by decide +kernel) rfl).trans (zck_ct fun _ => ?_)
        refine (zr_ceq (off := 7) (a := (V 450 (qw x3))) (b := (V 450 (qw (0)))) (t := 71) (by decide +kernel) rfl).trans (zif_ct (fun _ => ?_) (fun _ => ?_))
        · rfl
        · rfl
theorem ze_227_67 {V : zVt} {J : zJt} {d : Nat → Nat → UInt64} (x1 : Int) (x2 : Int) (x3 : Int) : zGo false 227 67 [.ref 430, .int (zi x1), .int (zi x2), .int (zi x3)] [] (zm V J d) =
    zGo false 227 72 [.ref 430, .int (zi x1), .int (zi x2), .int (zi x3)] [.int (zi (1))] (zm V J d) := by
  refine (zr_iconst (n := 1) (by decide +kernel)).trans ?_
  refine (zr_goto (off := 4) (t := 72) (by decide +kernel) rfl).trans ?_
  rfl
theorem ze_227_71 {V : zVt} {J : zJt} {d : Nat → Nat → UInt64} (x1 : Int) (x2 : Int) (x3 : Int) : zGo false 227 71 [.ref 430, .int (zi x1), .int (zi x2), .int (zi x3)] [] (zm V J d) =
    zGo false 227 72 [.ref 430, .int (zi x1), .int (zi x2), .int (zi x3)] [.int (zi (0))] (zm V J d) := by
  refine (zr_iconst (n := 0) (by decide +kernel)).trans ?_
  rfl
theorem ze_227_72 {V : zVt} {J : zJt} {d : Nat → Nat → UInt64} (x1 : Int) (x2 : Int) (x3 : Int) (s0 : Int) : zGo false 227 72 [.ref 430, .int (zi x1), .int (zi x2), .int (zi x3)] [.int (zi s0)] (zm V J d) =
    zGo false 227 4 [.ref 430, .int (zi x1), .int (zi s0), .int (zi (x3 + 1))] [] (zm V J d) := by
  refine (zr_istore_n (n := 2) (l1 := [.ref 430, .int (zi x1), .int (zi s0), .int (zi x3)]) (by decide +kernel) rfl).trans ?_
  refine (zr_iinc (n := 3) (k := 1) (x := x3) (l1 := [.ref 430, .int (zi x1), .int (zi s0), .int (zi (x3 + 1))]) (by decide +kernel) rfl rfl).trans ?_
  refine (zr_goto (off := -72) (t := 4) (by decide +kernel) rfl).trans ?_
  rfl
theorem ze_227_81 {V : zVt} {J : zJt} {d : Nat → Nat → UInt64} (x1 : Int) (x2 : Int) (x3 : Int) : zGo false 227 81 [.ref 430, .int (zi x1), .int (zi x2), .int (zi x3)] [] (zm V J d) =
    (if qw (V 430 37) ≤ qw x3 then (if qw x2 = 0 then zGo false 227 148 [.ref 430, .int (zi x1), .int (zi x2), .int (zi x3)] [.int (zi (0))] (zm V J d) else zGo false 227 148 [.ref 430, .int (zi x1), .int (zi x2), .int (zi x3)] [.int (zi (4))] (zm V J d)) else (zGo false 190 0 [.ref 430, .int (zi x3)] [] (zm V J d)).bind (zGor false 227 94 [.ref 430, .int (zi x1), .int (zi x2), .int (zi x3)] [])) := by
  refine (zr_iload_n (n := 3) (x := zi x3) (by decide +kernel) rfl).trans ?_
  refine (zr_aload_n (n := 0) (x := 430) (by decide +kernel) rfl).trans ?_
  refine (zr_getI (i := 279) (c := 12) (k := 37) (by decide +kernel) (by decide +kernel) rfl (by decide +kernel)).trans ?_
  refine (zr_cge (off := 53) (a := x3) (b := (V 430 37)) (t := 139) (by decide +kernel) rfl).trans (zif_ct (fun _ => ?_) (fun _ => ?_))
  · refine (zr_iload_n (n := 2) (x := zi x2) (by decide +kernel) rfl).trans ?_
    refine (zr_ifeq (off := 7) (a := x2) (t := 147) (by decide +kernel) rfl).trans (zif_ct (fun _ => ?_) (fun _ => ?_))
    · refine (zr_iconst (n := 0) (by decide +kernel)).trans ?_
      rfl
    · refine (zr_iconst (n := 4) (by decide +kernel)).trans ?_
      refine (zr_goto (off := 4) (t := 148) (by decide +kernel) rfl).trans ?_
      rfl
  · refine (zr_aload_n (n := 0) (x := 430) (by decide +kernel) rfl).trans ?_
    refine (zr_iload_n (n := 3) (x := zi x3) (by decide +kernel) rfl).trans ?_
    exact zr_cV (i := 301) (z := 190) (w := 0) (o := 430) (t := [.int (zi x3)]) (rest := []) (L := [.ref 430, .int (zi x3)]) (pc1 := 94) (by decide +kernel) (by decide +kernel) rfl (n := 1) (r := 0) rfl rfl rfl (by decide +kernel) rfl rfl
theorem ze_227_94 {V : zVt} {J : zJt} {d : Nat → Nat → UInt64} (x1 : Int) (x2 : Int) (x3 : Int) (s0 : Int) : zGo false 227 94 [.ref 430, .int (zi x1), .int (zi x2), .int (zi x3)] [.int (zi s0)] (zm V J d) =
    (if qw s0 ≠ qw x1 then zGo false 227 133 [.ref 430, .int (zi x1), .int (zi x2), .int (zi x3)] [] (zm V J d) else zck (0 ≤ qw x3 ∧ qw x3 < (40 : Nat)) ((if qw (V 455 (qw x3)) = qw (-1) then zGo false 227 133 [.ref 430, .int (zi x1), .int (zi x2), .int (zi x3)] [] (zm V J d) else (zGo false 198 0 [.ref 430, .int (zi (4)), .int (zi x3)] [] (zm V J d)).bind (zGor false 227 114 [.ref 430, .int (zi x1), .int (zi x2), .int (zi x3)] [])))) := by
  refine (zr_iload_n (n := 1) (x := zi x1) (by decide +kernel) rfl).trans ?_
  refine (zr_cne (off := 38) (a := s0) (b := x1) (t := 133) (by decide +kernel) rfl).trans (zif_ct (fun _ => ?_) (fun _ => ?_))
  · rfl
  · refine (zr_aload_n (n := 0) (x := 430) (by decide +kernel) rfl).trans ?_
    refine (zr_getR (i := 84) (c := 12) (k := 36) (r := 455) (by decide +kernel) (by decide +kernel) rfl (by decide +kernel) (zR0_f (o := 430) (c := 12) (n := 0) (k := 36) (j := 25) rfl (by decide) rfl)).trans ?_
    refine (zr_iload_n (n := 3) (x := zi x3) (by decide +kernel) rfl).trans ?_
    refine (zr_iald (n := 40) (e := x3) (by decide +kernel) rfl).trans (zck_ct fun _ => ?_)
    refine (zr_iconst (n := -1) (by decide +kernel)).trans ?_
    refine (zr_ceq (off := 28) (a := (V 455 (qw x3))) (b := (-1)) (t := 133) (by decide +kernel) rfl).trans (zif_ct (fun _ => ?_) (fun _ => ?_))
    · rfl
    · refine (zr_aload_n (n := 0) (x := 430) (by decide +kernel) rfl).trans ?_
      refine (zr_iconst (n := 4) (by decide +kernel)).trans ?_
      refine (zr_iload_n (n := 3) (x := zi x3) (by decide +kernel) rfl).trans ?_
      exact zr_cV (i := 316) (z := 198) (w := 0) (o := 430) (t := [.int (zi x3), .int (zi (4))]) (rest := []) (L := [.ref 430, .int (zi (4)), .int (zi x3)]) (pc1 := 114) (by decide +kernel) (by decide +kernel) rfl (n := 2) (r := 0) rfl rfl rfl (by decide +kernel) rfl rfl
theorem ze_227_114 {V : zVt} {J : zJt} {d : Nat → Nat → UInt64} (x1 : Int) (x2 : Int) (x3 : Int) (s0 : Int) : zGo false 227 114 [.ref 430, .int (zi x1), .int (zi x2), .int (zi x3)] [.int (zi s0)] (zm V J d) =
    zck (0 ≤ qw x3 ∧ qw x3 < (40 : Nat)) (zck (qw (4) ≠ 0) ((zGo false 205 0 [.ref 430, .int (zi (4)), .int (zi (qrem (V 454 (qw x3)) (4))), .null, .null, .null, .null] [] (zm V J d)).bind (zGor false 227 128 [.ref 430, .int (zi x1), .int (zi x2), .int (zi x3)] []))) := by
  refine (zr_pop (by decide +kernel) rfl).trans ?_
  refine (zr_aload_n (n := 0) (x := 430) (by decide +kernel) rfl).trans ?_
  refine (zr_iconst (n := 4) (by decide +kernel)).trans ?_
  refine (zr_aload_n (n := 0) (x := 430) (by decide +kernel) rfl).trans ?_
  refine (zr_getR (i := 81) (c := 12) (k := 35) (r := 454) (by decide +kernel) (by decide +kernel) rfl (by decide +kernel) (zR0_f (o := 430) (c := 12) (n := 0) (k := 35) (j := 24) rfl (by decide) rfl)).trans ?_
  refine (zr_iload_n (n := 3) (x := zi x3) (by decide +kernel) rfl).trans ?_
  refine (zr_iald (n := 40) (e := x3) (by decide +kernel) rfl).trans (zck_ct fun _ => ?_)
  refine (zr_iconst (n := 4) (by decide +kernel)).trans ?_
  refine (zr_irem (a := (V 454 (qw x3))) (b := (4)) (by decide +kernel)).trans (zck_ct fun _ => ?_)
  exact zr_cV (i := 331) (z := 205) (w := 0) (o := 430) (t := [.int (zi (qrem (V 454 (qw x3)) (4))), .int (zi (4))]) (rest := []) (L := [.ref 430, .int (zi (4)), .int (zi (qrem (V 454 (qw x3)) (4))), .null, .null, .null, .null]) (pc1 := 128) (by decide +kernel) (by decide +kernel) rfl (n := 2) (r := 0) rfl rfl rfl (by decide +kernel) rfl rfl
theorem ze_227_128 {V : zVt} {J : zJt} {d : Nat → Nat → UInt64} (x1 : Int) (x2 : Int) (x3 : Int) (s0 : Int) : zGo false 227 128 [.ref 430, .int (zi x1), .int (zi x2), .int (zi x3)] [.int (zi s0)] (zm V J d) =
    (if qw s0 ≤ 0 then zGo false 227 133 [.ref 430, .int (zi x1), .int (zi x2), .int (zi x3)] [] (zm V J d) else some (.inl (some (.int (zi (3)))), zm V J d)) := by
  refine (zr_ifle (off := 5) (a := s0) (t := 133) (by decide +kernel) rfl).trans (zif_ct (fun _ => ?_) (fun _ => ?_))
  · rfl
  · refine (zr_iconst (n := 3) (by decide +kernel)).trans ?_
    exact zr_iret (a := (3)) (by decide +kernel) rfl
theorem ze_227_133 {V : zVt} {J : zJt} {d : Nat → Nat → UInt64} (x1 : Int) (x2 : Int) (x3 : Int) : zGo false 227 133 [.ref 430, .int (zi x1), .int (zi x2), .int (zi x3)] [] (zm V J d) =
    zGo false 227 81 [.ref 430, .int (zi x1), .int (zi x2), .int (zi (x3 + 1))] [] (zm V J d) := by
  refine (zr_iinc (n := 3) (k := 1) (x := x3) (l1 := [.ref 430, .int (zi x1), .int (zi x2), .int (zi (x3 + 1))]) (by decide +kernel) rfl rfl).trans ?_
  refine (zr_goto (off := -55) (t := 81) (by decide +kernel) rfl).trans ?_
  rfl
theorem ze_227_148 {V : zVt} {J : zJt} {d : Nat → Nat → UInt64} (x1 : Int) (x2 : Int) (x3 : Int) (s0 : Int) : zGo false 227 148 [.ref 430, .int (zi x1), .int (zi x2), .int (zi x3)] [.int (zi s0)] (zm V J d) =
    some (.inl (some (.int (zi s0))), zm V J d) := by
  exact zr_iret (a := s0) (by decide +kernel) rfl
/-! PartSongDeskModel isUnlearned (I)Z -/
theorem ze_228_0 {V : zVt} {J : zJt} {d : Nat → Nat → UInt64} (x1 : Int) : zGo false 228 0 [.ref 430, .int (zi x1), .null, .null] [] (zm V J d) =
    (zGo false 198 0 [.ref 430, .int (zi (0)), .int (zi x1)] [] (zm V J d)).bind (zGor false 228 6 [.ref 430, .int (zi x1), .null, .null] []) := by
  refine (zr_aload_n (n := 0) (x := 430) (by decide +kernel) rfl).trans ?_
  refine (zr_iconst (n := 0) (by decide +kernel)).trans ?_
  refine (zr_iload_n (n := 1) (x := zi x1) (by decide +kernel) rfl).trans ?_
  exact zr_cV (i := 316) (z := 198) (w := 0) (o := 430) (t := [.int (zi x1), .int (zi (0))]) (rest := []) (L := [.ref 430, .int (zi (0)), .int (zi x1)]) (pc1 := 6) (by decide +kernel) (by decide +kernel) rfl (n := 2) (r := 0) rfl rfl rfl (by decide +kernel) rfl rfl
theorem ze_228_6 {V : zVt} {J : zJt} {d : Nat → Nat → UInt64} (x1 : Int) (s0 : Int) : zGo false 228 6 [.ref 430, .int (zi x1), .null, .null] [.int (zi s0)] (zm V J d) =
    zGo false 228 11 [.ref 430, .int (zi x1), .int (zi (0)), .int (zi (0))] [] (zm V J d) := by
  refine (zr_pop (by decide +kernel) rfl).trans ?_
  refine (zr_iconst (n := 0) (by decide +kernel)).trans ?_
  refine (zr_istore_n (n := 2) (l1 := [.ref 430, .int (zi x1), .int (zi (0)), .null]) (by decide +kernel) rfl).trans ?_
  refine (zr_iconst (n := 0) (by decide +kernel)).trans ?_
  refine (zr_istore_n (n := 3) (l1 := [.ref 430, .int (zi x1), .int (zi (0)), .int (zi (0))]) (by decide +kernel) rfl).trans ?_
  rfl
theorem ze_228_11 {V : zVt} {J : zJt} {d : Nat → Nat → UInt64} (x1 : Int) (x2 : Int) (x3 : Int) : zGo false 228 11 [.ref 430, .int (zi x1), .int (zi x2), .int (zi x3)] [] (zm V J d) =
    zck (0 ≤ qw (0) ∧ qw (0) < (5 : Nat)) ((if qw (V 449 (qw (0))) ≤ qw x3 then zck (qw x2 = 0 ∨ qw x2 = 1) (some (.inl (some (.int (zi x2))), zm V J d)) else (if qw x2 ≠ 0 then zGo false 228 46 [.ref 430, .int (zi x1), .int (zi x2), .int (zi x3)] [] (zm V J d) else zck (0 ≤ qw x1 ∧ qw x1 < (40 : Nat)) (zck (0 ≤ qw x1 ∧ qw x1 < (40 : Nat)) ((zGo false 220 0 [.ref 430, .int (zi (V 455 (qw x1))), .int (zi (V 454 (qw x1))), .int (zi x3), .int (zi (0)), .null, .null] [] (zm V J d)).bind (zGor false 228 43 [.ref 430, .int (zi x1), .int (zi x2), .int (zi x3)] [])))))) := by
  refine (zr_iload_n (n := 3) (x := zi x3) (by decide +kernel) rfl).trans ?_
  refine (zr_aload_n (n := 0) (x := 430) (by decide +kernel) rfl).trans ?_
  refine (zr_getR (i := 65) (c := 12) (k := 30) (r := 449) (by decide +kernel) (by decide +kernel) rfl (by decide +kernel) (zR0_f (o := 430) (c := 12) (n := 0) (k := 30) (j := 19) rfl (by decide) rfl)).trans ?_
  refine (zr_iconst (n := 0) (by decide +kernel)).trans ?_
  refine (zr_iald (n := 5) (e := (0)) (by decide +kernel) rfl).trans (zck_ct fun _ => ?_)
  refine (zr_cge (off := 40) (a := x3) (b := (V 449 (qw (0)))) (t := 58) (by decide +kernel) rfl).trans (zif_ct (fun _ => ?_) (fun _ => ?_))
  · refine (zr_iload_n (n := 2) (x := zi x2) (by decide +kernel) rfl).trans ?_
    exact zr_zret (a := x2) (by decide +kernel) rfl
  · refine (zr_iload_n (n := 2) (x := zi x2) (by decide +kernel) rfl).trans ?_
    refine (zr_ifne (off := 24) (a := x2) (t := 46) (by decide +kernel) rfl).trans (zif_ct (fun _ => ?_) (fun _ => ?_))
    · rfl
    · refine (zr_aload_n (n := 0) (x := 430) (by decide +kernel) rfl).trans ?_
      refine (zr_aload_n (n := 0) (x := 430) (by decide +kernel) rfl).trans ?_
      refine (zr_getR (i := 84) (c := 12) (k := 36) (r := 455) (by decide +kernel) (by decide +kernel) rfl (by decide +kernel) (zR0_f (o := 430) (c := 12) (n := 0) (k := 36) (j := 25) rfl (by decide) rfl)).trans ?_
      refine (zr_iload_n (n := 1) (x := zi x1) (by decide +kernel) rfl).trans ?_
      refine (zr_iald (n := 40) (e := x1) (by decide +kernel) rfl).trans (zck_ct fun _ => ?_)
      refine (zr_aload_n (n := 0) (x := 430) (by decide +kernel) rfl).trans ?_
      refine (zr_getR (i := 81) (c := 12) (k := 35) (r := 454) (by decide +kernel) (by decide +kernel) rfl (by decide +kernel) (zR0_f (o := 430) (c := 12) (n := 0) (k := 35) (j := 24) rfl (by decide) rfl)).trans ?_
      refine (zr_iload_n (n := 1) (x := zi x1) (by decide +kernel) rfl).trans ?_
      refine (zr_iald (n := 40) (e := x1) (by decide +kernel) rfl).trans (zck_ct fun _ => ?_)
      refine (zr_iload_n (n := 3) (x := zi x3) (by decide +kernel) rfl).trans ?_
      refine (zr_iconst (n := 0) (by decide +kernel)).trans ?_
      exact zr_cV (i := 350) (z := 220) (w := 0) (o := 430) (t := [.int (zi (0)), .int (zi x3), .int (zi (V 454 (qw x1))), .int (zi (V 455 (qw x1)))]) (rest := []) (L := [.ref 430, .int (zi (V 455 (qw x1))), .int (zi (V 454 (qw x1))), .int (zi x3), .int (zi (0)), .null, .null]) (pc1 := 43) (by decide +kernel) (by decide +kernel) rfl (n := 4) (r := 0) rfl rfl rfl (by decide +kernel) rfl rfl
theorem ze_228_43 {V : zVt} {J : zJt} {d : Nat → Nat → UInt64} (x1 : Int) (x2 : Int) (x3 : Int) (s0 : Int) : zGo false 228 43 [.ref 430, .int (zi x1), .int (zi x2), .int (zi x3)] [.int (zi s0)] (zm V J d) =
    (if qw s0 ≠ 0 then zGo false 228 51 [.ref 430, .int (zi x1), .int (zi x2), .int (zi x3)] [.int (zi (0))] (zm V J d) else zGo false 228 46 [.ref 430, .int (zi x1), .int (zi x2), .int (zi x3)] [] (zm V J d)) := by
  refine (zr_ifne (off := 7) (a := s0) (t := 50) (by decide +kernel) rfl).trans (zif_ct (fun _ => ?_) (fun _ => ?_))
  · refine (zr_iconst (n := 0) (by decide +kernel)).trans ?_
    rfl
  · rfl
theorem ze_228_46 {V : zVt} {J : zJt} {d : Nat → Nat → UInt64} (x1 : Int) (x2 : Int) (x3 : Int) : zGo false 228 46 [.ref 430, .int (zi x1), .int (zi x2), .int (zi x3)] [] (zm V J d) =
    zGo false 228 51 [.ref 430, .int (zi x1), .int (zi x2), .int (zi x3)] [.int (zi (1))] (zm V J d) := by
  refine (zr_iconst (n := 1) (by decide +kernel)).trans ?_
  refine (zr_goto (off := 4) (t := 51) (by decide +kernel) rfl).trans ?_
  rfl
theorem ze_228_51 {V : zVt} {J : zJt} {d : Nat → Nat → UInt64} (x1 : Int) (x2 : Int) (x3 : Int) (s0 : Int) : zGo false 228 51 [.ref 430, .int (zi x1), .int (zi x2), .int (zi x3)] [.int (zi s0)] (zm V J d) =
    zGo false 228 11 [.ref 430, .int (zi x1), .int (zi s0), .int (zi (x3 + 1))] [] (zm V J d) := by
  refine (zr_istore_n (n := 2) (l1 := [.ref 430, .int (zi x1), .int (zi s0), .int (zi x3)]) (by decide +kernel) rfl).trans ?_
  refine (zr_iinc (n := 3) (k := 1) (x := x3) (l1 := [.ref 430, .int (zi x1), .int (zi s0), .int (zi (x3 + 1))]) (by decide +kernel) rfl rfl).trans ?_
  refine (zr_goto (off := -44) (t := 11) (by decide +kernel) rfl).trans ?_
  rfl
/-! PartSongDeskModel concert (I)I -/
theorem ze_229_0 {V : zVt} {J : zJt} {d : Nat → Nat → UInt64} (x1 : Int) : zGo false 229 0 [.ref 430, .int (zi x1), .null, .null, .null] [] (zm V J d) =
    (zGo false 147 0 [.int (zi x1), .int (zi (3))] [] (zm V J d)).bind (zGor false 229 5 [.ref 430, .int (zi x1), .null, .null, .null] []) := by
  refine (zr_iload_n (n := 1) (x := zi x1) (by decide +kernel) rfl).trans ?_
  refine (zr_iconst (n := 3) (by decide +kernel)).trans ?_
  exact zr_cS (i := 145) (z := 147) (w := 0) (t := [.int (zi (3)), .int (zi x1)]) (rest := []) (L := [.int (zi x1), .int (zi (3))]) (pc1 := 5) (by decide +kernel) (by decide +kernel) (n := 2) (r := 0) rfl rfl rfl (by decide +kernel) rfl rfl
theorem ze_229_5 {V : zVt} {J : zJt} {d : Nat → Nat → UInt64} (x1 : Int) (s0 : Int) : zGo false 229 5 [.ref 430, .int (zi x1), .null, .null, .null] [.int (zi s0)] (zm V J d) =
    (if qw s0 = 0 then zGo false 229 24 [.ref 430, .int (zi x1), .int (zi s0), .null, .null] [.int (zi s0), .ref 430] (zm V J d) else (zGo false 225 0 [.ref 430, .int (zi x1), .null, .null, .null] [] (zm V J d)).bind (zGor false 229 17 [.ref 430, .int (zi x1), .int (zi s0), .null, .null] [.int (zi s0), .ref 430])) := by
  refine (zr_istore_n (n := 2) (l1 := [.ref 430, .int (zi x1), .int (zi s0), .null, .null]) (by decide +kernel) rfl).trans ?_
  refine (zr_aload_n (n := 0) (x := 430) (by decide +kernel) rfl).trans ?_
  refine (zr_iload_n (n := 2) (x := zi s0) (by decide +kernel) rfl).trans ?_
  refine (zr_iload_n (n := 2) (x := zi s0) (by decide +kernel) rfl).trans ?_
  refine (zr_ifeq (off := 15) (a := s0) (t := 24) (by decide +kernel) rfl).trans (zif_ct (fun _ => ?_) (fun _ => ?_))
  · rfl
  · refine (zr_aload_n (n := 0) (x := 430) (by decide +kernel) rfl).trans ?_
    refine (zr_iload_n (n := 1) (x := zi x1) (by decide +kernel) rfl).trans ?_
    exact zr_cV (i := 377) (z := 225) (w := 0) (o := 430) (t := [.int (zi x1)]) (rest := [.int (zi s0), .ref 430]) (L := [.ref 430, .int (zi x1), .null, .null, .null]) (pc1 := 17) (by decide +kernel) (by decide +kernel) rfl (n := 1) (r := 2) rfl rfl rfl (by decide +kernel) rfl rfl
theorem ze_229_17 {V : zVt} {J : zJt} {d : Nat → Nat → UInt64} (x1 : Int) (x2 : Int) (s1 : Int) (s2 : Int) : zGo false 229 17 [.ref 430, .int (zi x1), .int (zi x2), .null, .null] [.int (zi s2), .int (zi s1), .ref 430] (zm V J d) =
    (if qw s2 ≠ 0 then zGo false 229 24 [.ref 430, .int (zi x1), .int (zi x2), .null, .null] [.int (zi s1), .ref 430] (zm V J d) else zGo false 229 25 [.ref 430, .int (zi x1), .int (zi x2), .null, .null] [.int (zi (1)), .int (zi s1), .ref 430] (zm V J d)) := by
  refine (zr_ifne (off := 7) (a := s2) (t := 24) (by decide +kernel) rfl).trans (zif_ct (fun _ => ?_) (fun _ => ?_))
  · rfl
  · refine (zr_iconst (n := 1) (by decide +kernel)).trans ?_
    refine (zr_goto (off := 4) (t := 25) (by decide +kernel) rfl).trans ?_
    rfl
theorem ze_229_24 {V : zVt} {J : zJt} {d : Nat → Nat → UInt64} (x1 : Int) (x2 : Int) (s1 : Int) : zGo false 229 24 [.ref 430, .int (zi x1), .int (zi x2), .null, .null] [.int (zi s1), .ref 430] (zm V J d) =
    zGo false 229 25 [.ref 430, .int (zi x1), .int (zi x2), .null, .null] [.int (zi (0)), .int (zi s1), .ref 430] (zm V J d) := by
  refine (zr_iconst (n := 0) (by decide +kernel)).trans ?_
  rfl
theorem ze_229_25 {V : zVt} {J : zJt} {d : Nat → Nat → UInt64} (x1 : Int) (x2 : Int) (s1 : Int) (s2 : Int) : zGo false 229 25 [.ref 430, .int (zi x1), .int (zi x2), .null, .null] [.int (zi s2), .int (zi s1), .ref 430] (zm V J d) =
    (zGo false 150 0 [.ref 430, .int (zi s1), .int (zi s2), .int (zi (1))] [] (zm V J d)).bind (zGor false 229 29 [.ref 430, .int (zi x1), .int (zi x2), .null, .null] []) := by
  refine (zr_iconst (n := 1) (by decide +kernel)).trans ?_
  exact zr_cV (i := 289) (z := 150) (w := 0) (o := 430) (t := [.int (zi (1)), .int (zi s2), .int (zi s1)]) (rest := []) (L := [.ref 430, .int (zi s1), .int (zi s2), .int (zi (1))]) (pc1 := 29) (by decide +kernel) (by decide +kernel) rfl (n := 3) (r := 0) rfl rfl rfl (by decide +kernel) rfl rfl
theorem ze_229_29 {V : zVt} {J : zJt} {d : Nat → Nat → UInt64} (x1 : Int) (x2 : Int) (s0 : Int) : zGo false 229 29 [.ref 430, .int (zi x1), .int (zi x2), .null, .null] [.int (zi s0)] (zm V J d) =
    (if qw s0 ≠ 0 then zGo false 229 39 [.ref 430, .int (zi x1), .int (zi x2), .int (zi (0)), .int (zi (0))] [] (zm V J d) else some (.inl (some (.int (zi (0)))), zm V J d)) := by
  refine (zr_ifne (off := 5) (a := s0) (t := 34) (by decide +kernel) rfl).trans (zif_ct (fun _ => ?_) (fun _ => ?_))
  · refine (zr_iconst (n := 0) (by decide +kernel)).trans ?_
    refine (zr_istore_n (n := 3) (l1 := [.ref 430, .int (zi x1), .int (zi x2), .int (zi (0)), .null]) (by decide +kernel) rfl).trans ?_
    refine (zr_iconst (n := 0) (by decide +kernel)).trans ?_
    refine (zr_istore (n := 4) (l1 := [.ref 430, .int (zi x1), .int (zi x2), .int (zi (0)), .int (zi (0))]) (by decide +kernel) rfl).trans ?_
    rfl
  · refine (zr_iconst (n := 0) (by decide +kernel)).trans ?_
    exact zr_iret (a := (0)) (by decide +kernel) rfl
theorem ze_229_39 {V : zVt} {J : zJt} {d : Nat → Nat → UInt64} (x1 : Int) (x2 : Int) (x3 : Int) (x4 : Int) : zGo false 229 39 [.ref 430, .int (zi x1), .int (zi x2), .int (zi x3), .int (zi x4)] [] (zm V J d) =
    (if qw (V 430 37) ≤ qw x4 then some (.inl (some (.int (zi x3))), zm (vup V 430 59 ((V 430 59) + (1))) J d) else (zGo false 190 0 [.ref 430, .int (zi x4)] [] (zm V J d)).bind (zGor false 229 54 [.ref 430, .int (zi x1), .int (zi x2), .int (zi x3), .int (zi x4)] [])) := by
  refine (zr_iload (n := 4) (x := zi x4) (by decide +kernel) rfl).trans ?_
  refine (zr_aload_n (n := 0) (x := 430) (by decide +kernel) rfl).trans ?_
  refine (zr_getI (i := 279) (c := 12) (k := 37) (by decide +kernel) (by decide +kernel) rfl (by decide +kernel)).trans ?_
  refine (zr_cge (off := 40) (a := x4) (b := (V 430 37)) (t := 85) (by decide +kernel) rfl).trans (zif_ct (fun _ => ?_) (fun _ => ?_))
  · refine (zr_aload_n (n := 0) (x := 430) (by decide +kernel) rfl).trans ?_
    refine (zr_dup (by decide +kernel) rfl).trans ?_
    refine (zr_getI (i := 380) (c := 12) (k := 59) (by decide +kernel) (by decide +kernel) rfl (by decide +kernel)).trans ?_
    refine (zr_iconst (n := 1) (by decide +kernel)).trans ?_
    refine (zr_iadd (a := (V 430 59)) (b := (1)) (by decide +kernel)).trans ?_
    refine (zr_putI (i := 380) (c := 12) (k := 59) (x := ((V 430 59) + (1))) (by decide +kernel) (by decide +kernel) rfl (by decide +kernel)).trans ?_
    refine (zr_iload_n (n := 3) (x := zi x3) (by decide +kernel) rfl).trans ?_
    exact zr_iret (a := x3) (by decide +kernel) rfl
  · refine (zr_aload_n (n := 0) (x := 430) (by decide +kernel) rfl).trans ?_
    refine (zr_iload (n := 4) (x := zi x4) (by decide +kernel) rfl).trans ?_
    exact zr_cV (i := 301) (z := 190) (w := 0) (o := 430) (t := [.int (zi x4)]) (rest := []) (L := [.ref 430, .int (zi x4)]) (pc1 := 54) (by decide +kernel) (by decide +kernel) rfl (n := 1) (r := 0) rfl rfl rfl (by decide +kernel) rfl rfl
theorem ze_229_54 {V : zVt} {J : zJt} {d : Nat → Nat → UInt64} (x1 : Int) (x2 : Int) (x3 : Int) (x4 : Int) (s0 : Int) : zGo false 229 54 [.ref 430, .int (zi x1), .int (zi x2), .int (zi x3), .int (zi x4)] [.int (zi s0)] (zm V J d) =
    (if qw s0 ≠ qw x1 then zGo false 229 79 [.ref 430, .int (zi x1), .int (zi x2), .int (zi x3), .int (zi x4)] [] (zm V J d) else zck (0 ≤ qw x4 ∧ qw x4 < (40 : Nat)) ((if qw (V 455 (qw x4)) = qw (-1) then zGo false 229 79 [.ref 430, .int (zi x1), .int (zi x2), .int (zi x3), .int (zi x4)] [] (zm V J d) else (zGo false 193 0 [.ref 430, .int (zi x4), .null, .null, .null] [] (zm V J d)).bind (zGor false 229 75 [.ref 430, .int (zi x1), .int (zi x2), .int (zi x3), .int (zi x4)] [])))) := by
  refine (zr_iload_n (n := 1) (x := zi x1) (by decide +kernel) rfl).trans ?_
  refine (zr_cne (off := 24) (a := s0) (b := x1) (t := 79) (by decide +kernel) rfl).trans (zif_ct (fun _ => ?_) (fun _ => ?_))
  · rfl
  · refine (zr_aload_n (n := 0) (x := 430) (by decide +kernel) rfl).trans ?_
    refine (zr_getR (i := 84) (c := 12) (k := 36) (r := 455) (by decide +kernel) (by decide +kernel) rfl (by decide +kernel) (zR0_f (o := 430) (c := 12) (n := 0) (k := 36) (j := 25) rfl (by decide) rfl)).trans ?_
    refine (zr_iload (n := 4) (x := zi x4) (by decide +kernel) rfl).trans ?_
    refine (zr_iald (n := 40) (e := x4) (by decide +kernel) rfl).trans (zck_ct fun _ => ?_)
    refine (zr_iconst (n := -1) (by decide +kernel)).trans ?_
    refine (zr_ceq (off := 13) (a := (V 455 (qw x4))) (b := (-1)) (t := 79) (by decide +kernel) rfl).trans (zif_ct (fun _ => ?_) (fun _ => ?_))
    · rfl
    · refine (zr_aload_n (n := 0) (x := 430) (by decide +kernel) rfl).trans ?_
      refine (zr_iload (n := 4) (x := zi x4) (by decide +kernel) rfl).trans ?_
      exact zr_cV (i := 310) (z := 193) (w := 0) (o := 430) (t := [.int (zi x4)]) (rest := []) (L := [.ref 430, .int (zi x4), .null, .null, .null]) (pc1 := 75) (by decide +kernel) (by decide +kernel) rfl (n := 1) (r := 0) rfl rfl rfl (by decide +kernel) rfl rfl
theorem ze_229_75 {V : zVt} {J : zJt} {d : Nat → Nat → UInt64} (x1 : Int) (x2 : Int) (x3 : Int) (x4 : Int) (s0 : Int) : zGo false 229 75 [.ref 430, .int (zi x1), .int (zi x2), .int (zi x3), .int (zi x4)] [.int (zi s0)] (zm V J d) =
    zGo false 229 79 [.ref 430, .int (zi x1), .int (zi x2), .int (zi (x3 + 1)), .int (zi x4)] [] (zm V J d) := by
  refine (zr_pop (by decide +kernel) rfl).trans ?_
  refine (zr_iinc (n := 3) (k := 1) (x := x3) (l1 := [.ref 430, .int (zi x1), .int (zi x2), .int (zi (x3 + 1)), .int (zi x4)]) (by decide +kernel) rfl rfl).trans ?_
  rfl
theorem ze_229_79 {V : zVt} {J : zJt} {d : Nat → Nat → UInt64} (x1 : Int) (x2 : Int) (x3 : Int) (x4 : Int) : zGo false 229 79 [.ref 430, .int (zi x1), .int (zi x2), .int (zi x3), .int (zi x4)] [] (zm V J d) =
    zGo false 229 39 [.ref 430, .int (zi x1), .int (zi x2), .int (zi x3), .int (zi (x4 + 1))] [] (zm V J d) := by
  refine (zr_iinc (n := 4) (k := 1) (x := x4) (l1 := [.ref 430, .int (zi x1), .int (zi x2), .int (zi x3), .int (zi (x4 + 1))]) (by decide +kernel) rfl rfl).trans ?_
  refine (zr_goto (off := -43) (t := 39) (by decide +kernel) rfl).trans ?_
  rfl
/-! PartSongDeskModel concerts ()I -/
theorem ze_230_0 {V : zVt} {J : zJt} {d : Nat → Nat → UInt64} : zGo false 230 0 [.ref 430] [] (zm V J d) =
    some (.inl (some (.int (zi ((vup V 430 60 (0)) 430 59)))), zm (vup V 430 60 (0)) J d) := by
  refine (zr_aload_n (n := 0) (x := 430) (by decide +kernel) rfl).trans ?_
  refine (zr_iconst (n := 0) (by decide +kernel)).trans ?_
  refine (zr_putI (i := 141) (c := 12) (k := 60) (x := (0)) (by decide +kernel) (by decide +kernel) rfl (by decide +kernel)).trans ?_
  refine (zr_aload_n (n := 0) (x := 430) (by decide +kernel) rfl).trans ?_
  refine (zr_getI (i := 380) (c := 12) (k := 59) (by decide +kernel) (by decide +kernel) rfl (by decide +kernel)).trans ?_
  exact zr_iret (a := ((vup V 430 60 (0)) 430 59)) (by decide +kernel) rfl
/-! java/lang/Math max (II)I -/
theorem ze_231_0 {V : zVt} {J : zJt} {d : Nat → Nat → UInt64} (x0 : Int) (x1 : Int) : zGo false 231 0 [.int (zi x0), .int (zi x1)] [] (zm V J d) =
    (if qw x0 < qw x1 then zGo false 231 10 [.int (zi x0), .int (zi x1)] [.int (zi x1)] (zm V J d) else zGo false 231 10 [.int (zi x0), .int (zi x1)] [.int (zi x0)] (zm V J d)) := by
  refine (zr_iload_n (n := 0) (x := zi x0) (by decide +kernel) rfl).trans ?_
  refine (zr_iload_n (n := 1) (x := zi x1) (by decide +kernel) rfl).trans ?_
  refine (zr_clt (off := 7) (a := x0) (b := x1) (t := 9) (by decide +kernel) rfl).trans (zif_ct (fun _ => ?_) (fun _ => ?_))
  · refine (zr_iload_n (n := 1) (x := zi x1) (by decide +kernel) rfl).trans ?_
    rfl
  · refine (zr_iload_n (n := 0) (x := zi x0) (by decide +kernel) rfl).trans ?_
    refine (zr_goto (off := 4) (t := 10) (by decide +kernel) rfl).trans ?_
    rfl
theorem ze_231_10 {V : zVt} {J : zJt} {d : Nat → Nat → UInt64} (x0 : Int) (x1 : Int) (s0 : Int) : zGo false 231 10 [.int (zi x0), .int (zi x1)] [.int (zi s0)] (zm V J d) =
    some (.inl (some (.int (zi s0))), zm V J d) := by
  exact zr_iret (a := s0) (by decide +kernel) rfl
/-! java/lang/Math min (II)I -/
theorem ze_232_0 {V : zVt} {J : zJt} {d : Nat → Nat → UInt64} (x0 : Int) (x1 : Int) : zGo false 232 0 [.int (zi x0), .int (zi x1)] [] (zm V J d) =
    (if qw x1 < qw x0 then zGo false 232 10 [.int (zi x0), .int (zi x1)] [.int (zi x1)] (zm V J d) else zGo false 232 10 [.int (zi x0), .int (zi x1)] [.int (zi x0)] (zm V J d)) := by
  refine (zr_iload_n (n := 0) (x := zi x0) (by decide +kernel) rfl).trans ?_
  refine (zr_iload_n (n := 1) (x := zi x1) (by decide +kernel) rfl).trans ?_
  refine (zr_cgt (off := 7) (a := x0) (b := x1) (t := 9) (by decide +kernel) rfl).trans (zif_ct (fun _ => ?_) (fun _ => ?_))
  · refine (zr_iload_n (n := 1) (x := zi x1) (by decide +kernel) rfl).trans ?_
    rfl
  · refine (zr_iload_n (n := 0) (x := zi x0) (by decide +kernel) rfl).trans ?_
    refine (zr_goto (off := 4) (t := 10) (by decide +kernel) rfl).trans ?_
    rfl
theorem ze_232_10 {V : zVt} {J : zJt} {d : Nat → Nat → UInt64} (x0 : Int) (x1 : Int) (s0 : Int) : zGo false 232 10 [.int (zi x0), .int (zi x1)] [.int (zi s0)] (zm V J d) =
    some (.inl (some (.int (zi s0))), zm V J d) := by
  exact zr_iret (a := s0) (by decide +kernel) rfl
/-! java/lang/Math floorMod (II)I -/
theorem ze_233_0 {V : zVt} {J : zJt} {d : Nat → Nat → UInt64} (x0 : Int) (x1 : Int) : zGo false 233 0 [.int (zi x0), .int (zi x1), .null] [] (zm V J d) =
    zck (qw x1 ≠ 0) ((if 0 ≤ qw (qxor x0 x1) then zGo false 233 18 [.int (zi x0), .int (zi x1), .int (zi (qrem x0 x1))] [] (zm V J d) else (if qw (qrem x0 x1) = 0 then zGo false 233 18 [.int (zi x0), .int (zi x1), .int (zi (qrem x0 x1))] [] (zm V J d) else some (.inl (some (.int (zi ((qrem x0 x1) + x1)))), zm V J d)))) := by
  refine (zr_iload_n (n := 0) (x := zi x0) (by decide +kernel) rfl).trans ?_
  refine (zr_iload_n (n := 1) (x := zi x1) (by decide +kernel) rfl).trans ?_
  refine (zr_irem (a := x0) (b := x1) (by decide +kernel)).trans (zck_ct fun _ => ?_)
  refine (zr_istore_n (n := 2) (l1 := [.int (zi x0), .int (zi x1), .int (zi (qrem x0 x1))]) (by decide +kernel) rfl).trans ?_
  refine (zr_iload_n (n := 0) (x := zi x0) (by decide +kernel) rfl).trans ?_
  refine (zr_iload_n (n := 1) (x := zi x1) (by decide +kernel) rfl).trans ?_
  refine (zr_ixor (a := x0) (b := x1) (by decide +kernel)).trans ?_
  refine (zr_ifge (off := 11) (a := (qxor x0 x1)) (t := 18) (by decide +kernel) rfl).trans (zif_ct (fun _ => ?_) (fun _ => ?_))
  · rfl
  · refine (zr_iload_n (n := 2) (x := zi (qrem x0 x1)) (by decide +kernel) rfl).trans ?_
    refine (zr_ifeq (off := 7) (a := (qrem x0 x1)) (t := 18) (by decide +kernel) rfl).trans (zif_ct (fun _ => ?_) (fun _ => ?_))
    · rfl
    · refine (zr_iload_n (n := 2) (x := zi (qrem x0 x1)) (by decide +kernel) rfl).trans ?_
      refine (zr_iload_n (n := 1) (x := zi x1) (by decide +kernel) rfl).trans ?_
      refine (zr_iadd (a := (qrem x0 x1)) (b := x1) (by decide +kernel)).trans ?_
      exact zr_iret (a := ((qrem x0 x1) + x1)) (by decide +kernel) rfl
theorem ze_233_18 {V : zVt} {J : zJt} {d : Nat → Nat → UInt64} (x0 : Int) (x1 : Int) (x2 : Int) : zGo false 233 18 [.int (zi x0), .int (zi x1), .int (zi x2)] [] (zm V J d) =
    some (.inl (some (.int (zi x2))), zm V J d) := by
  refine (zr_iload_n (n := 2) (x := zi x2) (by decide +kernel) rfl).trans ?_
  exact zr_iret (a := x2) (by decide +kernel) rfl
/-! java/lang/Math abs (I)I -/
theorem ze_234_0 {V : zVt} {J : zJt} {d : Nat → Nat → UInt64} (x0 : Int) : zGo false 234 0 [.int (zi x0)] [] (zm V J d) =
    (if 0 ≤ qw x0 then zGo false 234 10 [.int (zi x0)] [.int (zi x0)] (zm V J d) else zGo false 234 10 [.int (zi x0)] [.int (zi (-x0))] (zm V J d)) := by
  refine (zr_iload_n (n := 0) (x := zi x0) (by decide +kernel) rfl).trans ?_
  refine (zr_ifge (off := 8) (a := x0) (t := 9) (by decide +kernel) rfl).trans (zif_ct (fun _ => ?_) (fun _ => ?_))
  · refine (zr_iload_n (n := 0) (x := zi x0) (by decide +kernel) rfl).trans ?_
    rfl
  · refine (zr_iload_n (n := 0) (x := zi x0) (by decide +kernel) rfl).trans ?_
    refine (zr_ineg (a := x0) (by decide +kernel)).trans ?_
    refine (zr_goto (off := 4) (t := 10) (by decide +kernel) rfl).trans ?_
    rfl
theorem ze_234_10 {V : zVt} {J : zJt} {d : Nat → Nat → UInt64} (x0 : Int) (s0 : Int) : zGo false 234 10 [.int (zi x0)] [.int (zi s0)] (zm V J d) =
    some (.inl (some (.int (zi s0))), zm V J d) := by
  exact zr_iret (a := s0) (by decide +kernel) rfl
/-! java/lang/Integer bitCount (I)I -/
theorem ze_235_0 {V : zVt} {J : zJt} {d : Nat → Nat → UInt64} (x0 : Int) : zGo false 235 0 [.int (zi x0)] [] (zm V J d) =
    some (.inl (some (.int (zi (qand (((qand (((qand (x0 - (qand (qushr x0 (1)) (1431655765 : Nat))) (858993459 : Nat)) + (qand (qushr (x0 - (qand (qushr x0 (1)) (1431655765 : Nat))) (2)) (858993459 : Nat))) + (qushr ((qand (x0 - (qand (qushr x0 (1)) (1431655765 : Nat))) (858993459 : Nat)) + (qand (qushr (x0 - (qand (qushr x0 (1)) (1431655765 : Nat))) (2)) (858993459 : Nat))) (4))) (252645135 : Nat)) + (qushr (qand (((qand (x0 - (qand (qushr x0 (1)) (1431655765 : Nat))) (858993459 : Nat)) + (qand (qushr (x0 - (qand (qushr x0 (1)) (1431655765 : Nat))) (2)) (858993459 : Nat))) + (qushr ((qand (x0 - (qand (qushr x0 (1)) (1431655765 : Nat))) (858993459 : Nat)) + (qand (qushr (x0 - (qand (qushr x0 (1)) (1431655765 : Nat))) (2)) (858993459 : Nat))) (4))) (252645135 : Nat)) (8))) + (qushr ((qand (((qand (x0 - (qand (qushr x0 (1)) (1431655765 : Nat))) (858993459 : Nat)) + (qand (qushr (x0 - (qand (qushr x0 (1)) (1431655765 : Nat))) (2)) (858993459 : Nat))) + (qushr ((qand (x0 - (qand (qushr x0 (1)) (1431655765 : Nat))) (858993459 : Nat)) + (qand (qushr (x0 - (qand (qushr x0 (1)) (1431655765 : Nat))) (2)) (858993459 : Nat))) (4))) (252645135 : Nat)) + (qushr (qand (((qand (x0 - (qand (qushr x0 (1)) (1431655765 : Nat))) (858993459 : Nat)) + (qand (qushr (x0 - (qand (qushr x0 (1)) (1431655765 : Nat))) (2)) (858993459 : Nat))) + (qushr ((qand (x0 - (qand (qushr x0 (1)) (1431655765 : Nat))) (858993459 : Nat)) + (qand (qushr (x0 - (qand (qushr x0 (1)) (1431655765 : Nat))) (2)) (858993459 : Nat))) (4))) (252645135 : Nat)) (8))) (16))) (63))))), zm V J d) := by
  refine (zr_iload_n (n := 0) (x := zi x0) (by decide +kernel) rfl).trans ?_
  refine (zr_iload_n (n := 0) (x := zi x0) (by decide +kernel) rfl).trans ?_
  refine (zr_iconst (n := 1) (by decide +kernel)).trans ?_
  refine (zr_iushr (a := x0) (b := (1)) (by decide +kernel)).trans ?_
  refine (zr_ldcwI (i := 265) (v := 1431655765) (w := 0) (by decide +kernel) (by decide +kernel)).trans ?_
  refine (zr_iand (a := (qushr x0 (1))) (b := (1431655765 : Nat)) (by decide +kernel)).trans ?_
  refine (zr_isub (a := x0) (b := (qand (qushr x0 (1)) (1431655765 : Nat))) (by decide +kernel)).trans ?_
  refine (zr_istore_n (n := 0) (l1 := [.int (zi (x0 - (qand (qushr x0 (1)) (1431655765 : Nat))))]) (by decide +kernel) rfl).trans ?_
  refine (zr_iload_n (n := 0) (x := zi (x0 - (qand (qushr x0 (1)) (1431655765 : Nat)))) (by decide +kernel) rfl).trans ?_
  refine (zr_ldcwI (i := 266) (v := 858993459) (w := 0) (by decide +kernel) (by decide +kernel)).trans ?_
  refine (zr_iand (a := (x0 - (qand (qushr x0 (1)) (1431655765 : Nat)))) (b := (858993459 : Nat)) (by decide +kernel)).trans ?_
  refine (zr_iload_n (n := 0) (x := zi (x0 - (qand (qushr x0 (1)) (1431655765 : Nat)))) (by decide +kernel) rfl).trans ?_
  refine (zr_iconst (n := 2) (by decide +kernel)).trans ?_
  refine (zr_iushr (a := (x0 - (qand (qushr x0 (1)) (1431655765 : Nat)))) (b := (2)) (by decide +kernel)).trans ?_
  refine (zr_ldcwI (i := 266) (v := 858993459) (w := 0) (by decide +kernel) (by decide +kernel)).trans ?_
  refine (zr_iand (a := (qushr (x0 - (qand (qushr x0 (1)) (1431655765 : Nat))) (2))) (b := (858993459 : Nat)) (by decide +kernel)).trans ?_
  refine (zr_iadd (a := (qand (x0 - (qand (qushr x0 (1)) (1431655765 : Nat))) (858993459 : Nat))) (b := (qand (qushr (x0 - (qand (qushr x0 (1)) (1431655765 : Nat))) (2)) (858993459 : Nat))) (by decide +kernel)).trans ?_
  refine (zr_istore_n (n := 0) (l1 := [.int (zi ((qand (x0 - (qand (qushr x0 (1)) (1431655765 : Nat))) (858993459 : Nat)) + (qand (qushr (x0 - (qand (qushr x0 (1)) (1431655765 : Nat))) (2)) (858993459 : Nat))))]) (by decide +kernel) rfl).trans ?_
  refine (zr_iload_n (n := 0) (x := zi ((qand (x0 - (qand (qushr x0 (1)) (1431655765 : Nat))) (858993459 : Nat)) + (qand (qushr (x0 - (qand (qushr x0 (1)) (1431655765 : Nat))) (2)) (858993459 : Nat)))) (by decide +kernel) rfl).trans ?_
  refine (zr_iload_n (n := 0) (x := zi ((qand (x0 - (qand (qushr x0 (1)) (1431655765 : Nat))) (858993459 : Nat)) + (qand (qushr (x0 - (qand (qushr x0 (1)) (1431655765 : Nat))) (2)) (858993459 : Nat)))) (by decide +kernel) rfl).trans ?_
  refine (zr_iconst (n := 4) (by decide +kernel)).trans ?_
  refine (zr_iushr (a := ((qand (x0 - (qand (qushr x0 (1)) (1431655765 : Nat))) (858993459 : Nat)) + (qand (qushr (x0 - (qand (qushr x0 (1)) (1431655765 : Nat))) (2)) (858993459 : Nat)))) (b := (4)) (by decide +kernel)).trans ?_
  refine (zr_iadd (a := ((qand (x0 - (qand (qushr x0 (1)) (1431655765 : Nat))) (858993459 : Nat)) + (qand (qushr (x0 - (qand (qushr x0 (1)) (1431655765 : Nat))) (2)) (858993459 : Nat)))) (b := (qushr ((qand (x0 - (qand (qushr x0 (1)) (1431655765 : Nat))) (858993459 : Nat)) + (qand (qushr (x0 - (qand (qushr x0 (1)) (1431655765 : Nat))) (2)) (858993459 : Nat))) (4))) (by decide +kernel)).trans ?_
  refine (zr_ldcwI (i := 267) (v := 252645135) (w := 0) (by decide +kernel) (by decide +kernel)).trans ?_
  refine (zr_iand (a := (((qand (x0 - (qand (qushr x0 (1)) (1431655765 : Nat))) (858993459 : Nat)) + (qand (qushr (x0 - (qand (qushr x0 (1)) (1431655765 : Nat))) (2)) (858993459 : Nat))) + (qushr ((qand (x0 - (qand (qushr x0 (1)) (1431655765 : Nat))) (858993459 : Nat)) + (qand (qushr (x0 - (qand (qushr x0 (1)) (1431655765 : Nat))) (2)) (858993459 : Nat))) (4)))) (b := (252645135 : Nat)) (by decide +kernel)).trans ?_
  refine (zr_istore_n (n := 0) (l1 := [.int (zi (qand (((qand (x0 - (qand (qushr x0 (1)) (1431655765 : Nat))) (858993459 : Nat)) + (qand (qushr (x0 - (qand (qushr x0 (1)) (1431655765 : Nat))) (2)) (858993459 : Nat))) + (qushr ((qand (x0 - (qand (qushr x0 (1)) (1431655765 : Nat))) (858993459 : Nat)) + (qand (qushr (x0 - (qand (qushr x0 (1)) (1431655765 : Nat))) (2)) (858993459 : Nat))) (4))) (252645135 : Nat)))]) (by decide +kernel) rfl).trans ?_
  refine (zr_iload_n (n := 0) (x := zi (qand (((qand (x0 - (qand (qushr x0 (1)) (1431655765 : Nat))) (858993459 : Nat)) + (qand (qushr (x0 - (qand (qushr x0 (1)) (1431655765 : Nat))) (2)) (858993459 : Nat))) + (qushr ((qand (x0 - (qand (qushr x0 (1)) (1431655765 : Nat))) (858993459 : Nat)) + (qand (qushr (x0 - (qand (qushr x0 (1)) (1431655765 : Nat))) (2)) (858993459 : Nat))) (4))) (252645135 : Nat))) (by decide +kernel) rfl).trans ?_
  refine (zr_iload_n (n := 0) (x := zi (qand (((qand (x0 - (qand (qushr x0 (1)) (1431655765 : Nat))) (858993459 : Nat)) + (qand (qushr (x0 - (qand (qushr x0 (1)) (1431655765 : Nat))) (2)) (858993459 : Nat))) + (qushr ((qand (x0 - (qand (qushr x0 (1)) (1431655765 : Nat))) (858993459 : Nat)) + (qand (qushr (x0 - (qand (qushr x0 (1)) (1431655765 : Nat))) (2)) (858993459 : Nat))) (4))) (252645135 : Nat))) (by decide +kernel) rfl).trans ?_
  refine (zr_bipush (n := 8) (by decide +kernel) rfl).trans ?_
  refine (zr_iushr (a := (qand (((qand (x0 - (qand (qushr x0 (1)) (1431655765 : Nat))) (858993459 : Nat)) + (qand (qushr (x0 - (qand (qushr x0 (1)) (1431655765 : Nat))) (2)) (858993459 : Nat))) + (qushr ((qand (x0 - (qand (qushr x0 (1)) (1431655765 : Nat))) (858993459 : Nat)) + (qand (qushr (x0 - (qand (qushr x0 (1)) (1431655765 : Nat))) (2)) (858993459 : Nat))) (4))) (252645135 : Nat))) (b := (8)) (by decide +kernel)).trans ?_
  refine (zr_iadd (a := (qand (((qand (x0 - (qand (qushr x0 (1)) (1431655765 : Nat))) (858993459 : Nat)) + (qand (qushr (x0 - (qand (qushr x0 (1)) (1431655765 : Nat))) (2)) (858993459 : Nat))) + (qushr ((qand (x0 - (qand (qushr x0 (1)) (1431655765 : Nat))) (858993459 : Nat)) + (qand (qushr (x0 - (qand (qushr x0 (1)) (1431655765 : Nat))) (2)) (858993459 : Nat))) (4))) (252645135 : Nat))) (b := (qushr (qand (((qand (x0 - (qand (qushr x0 (1)) (1431655765 : Nat))) (858993459 : Nat)) + (qand (qushr (x0 - (qand (qushr x0 (1)) (1431655765 : Nat))) (2)) (858993459 : Nat))) + (qushr ((qand (x0 - (qand (qushr x0 (1)) (1431655765 : Nat))) (858993459 : Nat)) + (qand (qushr (x0 - (qand (qushr x0 (1)) (1431655765 : Nat))) (2)) (858993459 : Nat))) (4))) (252645135 : Nat)) (8))) (by decide +kernel)).trans ?_
  refine (zr_istore_n (n := 0) (l1 := [.int (zi ((qand (((qand (x0 - (qand (qushr x0 (1)) (1431655765 : Nat))) (858993459 : Nat)) + (qand (qushr (x0 - (qand (qushr x0 (1)) (1431655765 : Nat))) (2)) (858993459 : Nat))) + (qushr ((qand (x0 - (qand (qushr x0 (1)) (1431655765 : Nat))) (858993459 : Nat)) + (qand (qushr (x0 - (qand (qushr x0 (1)) (1431655765 : Nat))) (2)) (858993459 : Nat))) (4))) (252645135 : Nat)) + (qushr (qand (((qand (x0 - (qand (qushr x0 (1)) (1431655765 : Nat))) (858993459 : Nat)) + (qand (qushr (x0 - (qand (qushr x0 (1)) (1431655765 : Nat))) (2)) (858993459 : Nat))) + (qushr ((qand (x0 - (qand (qushr x0 (1)) (1431655765 : Nat))) (858993459 : Nat)) + (qand (qushr (x0 - (qand (qushr x0 (1)) (1431655765 : Nat))) (2)) (858993459 : Nat))) (4))) (252645135 : Nat)) (8))))]) (by decide +kernel) rfl).trans ?_
  refine (zr_iload_n (n := 0) (x := zi ((qand (((qand (x0 - (qand (qushr x0 (1)) (1431655765 : Nat))) (858993459 : Nat)) + (qand (qushr (x0 - (qand (qushr x0 (1)) (1431655765 : Nat))) (2)) (858993459 : Nat))) + (qushr ((qand (x0 - (qand (qushr x0 (1)) (1431655765 : Nat))) (858993459 : Nat)) + (qand (qushr (x0 - (qand (qushr x0 (1)) (1431655765 : Nat))) (2)) (858993459 : Nat))) (4))) (252645135 : Nat)) + (qushr (qand (((qand (x0 - (qand (qushr x0 (1)) (1431655765 : Nat))) (858993459 : Nat)) + (qand (qushr (x0 - (qand (qushr x0 (1)) (1431655765 : Nat))) (2)) (858993459 : Nat))) + (qushr ((qand (x0 - (qand (qushr x0 (1)) (1431655765 : Nat))) (858993459 : Nat)) + (qand (qushr (x0 - (qand (qushr x0 (1)) (1431655765 : Nat))) (2)) (858993459 : Nat))) (4))) (252645135 : Nat)) (8)))) (by decide +kernel) rfl).trans ?_
  refine (zr_iload_n (n := 0) (x := zi ((qand (((qand (x0 - (qand (qushr x0 (1)) (1431655765 : Nat))) (858993459 : Nat)) + (qand (qushr (x0 - (qand (qushr x0 (1)) (1431655765 : Nat))) (2)) (858993459 : Nat))) + (qushr ((qand (x0 - (qand (qushr x0 (1)) (1431655765 : Nat))) (858993459 : Nat)) + (qand (qushr (x0 - (qand (qushr x0 (1)) (1431655765 : Nat))) (2)) (858993459 : Nat))) (4))) (252645135 : Nat)) + (qushr (qand (((qand (x0 - (qand (qushr x0 (1)) (1431655765 : Nat))) (858993459 : Nat)) + (qand (qushr (x0 - (qand (qushr x0 (1)) (1431655765 : Nat))) (2)) (858993459 : Nat))) + (qushr ((qand (x0 - (qand (qushr x0 (1)) (1431655765 : Nat))) (858993459 : Nat)) + (qand (qushr (x0 - (qand (qushr x0 (1)) (1431655765 : Nat))) (2)) (858993459 : Nat))) (4))) (252645135 : Nat)) (8)))) (by decide +kernel) rfl).trans ?_
  refine (zr_bipush (n := 16) (by decide +kernel) rfl).trans ?_
  refine (zr_iushr (a := ((qand (((qand (x0 - (qand (qushr x0 (1)) (1431655765 : Nat))) (858993459 : Nat)) + (qand (qushr (x0 - (qand (qushr x0 (1)) (1431655765 : Nat))) (2)) (858993459 : Nat))) + (qushr ((qand (x0 - (qand (qushr x0 (1)) (1431655765 : Nat))) (858993459 : Nat)) + (qand (qushr (x0 - (qand (qushr x0 (1)) (1431655765 : Nat))) (2)) (858993459 : Nat))) (4))) (252645135 : Nat)) + (qushr (qand (((qand (x0 - (qand (qushr x0 (1)) (1431655765 : Nat))) (858993459 : Nat)) + (qand (qushr (x0 - (qand (qushr x0 (1)) (1431655765 : Nat))) (2)) (858993459 : Nat))) + (qushr ((qand (x0 - (qand (qushr x0 (1)) (1431655765 : Nat))) (858993459 : Nat)) + (qand (qushr (x0 - (qand (qushr x0 (1)) (1431655765 : Nat))) (2)) (858993459 : Nat))) (4))) (252645135 : Nat)) (8)))) (b := (16)) (by decide +kernel)).trans ?_
  refine (zr_iadd (a := ((qand (((qand (x0 - (qand (qushr x0 (1)) (1431655765 : Nat))) (858993459 : Nat)) + (qand (qushr (x0 - (qand (qushr x0 (1)) (1431655765 : Nat))) (2)) (858993459 : Nat))) + (qushr ((qand (x0 - (qand (qushr x0 (1)) (1431655765 : Nat))) (858993459 : Nat)) + (qand (qushr (x0 - (qand (qushr x0 (1)) (1431655765 : Nat))) (2)) (858993459 : Nat))) (4))) (252645135 : Nat)) + (qushr (qand (((qand (x0 - (qand (qushr x0 (1)) (1431655765 : Nat))) (858993459 : Nat)) + (qand (qushr (x0 - (qand (qushr x0 (1)) (1431655765 : Nat))) (2)) (858993459 : Nat))) + (qushr ((qand (x0 - (qand (qushr x0 (1)) (1431655765 : Nat))) (858993459 : Nat)) + (qand (qushr (x0 - (qand (qushr x0 (1)) (1431655765 : Nat))) (2)) (858993459 : Nat))) (4))) (252645135 : Nat)) (8)))) (b := (qushr ((qand (((qand (x0 - (qand (qushr x0 (1)) (1431655765 : Nat))) (858993459 : Nat)) + (qand (qushr (x0 - (qand (qushr x0 (1)) (1431655765 : Nat))) (2)) (858993459 : Nat))) + (qushr ((qand (x0 - (qand (qushr x0 (1)) (1431655765 : Nat))) (858993459 : Nat)) + (qand (qushr (x0 - (qand (qushr x0 (1)) (1431655765 : Nat))) (2)) (858993459 : Nat))) (4))) (252645135 : Nat)) + (qushr (qand (((qand (x0 - (qand (qushr x0 (1)) (1431655765 : Nat))) (858993459 : Nat)) + (qand (qushr (x0 - (qand (qushr x0 (1)) (1431655765 : Nat))) (2)) (858993459 : Nat))) + (qushr ((qand (x0 - (qand (qushr x0 (1)) (1431655765 : Nat))) (858993459 : Nat)) + (qand (qushr (x0 - (qand (qushr x0 (1)) (1431655765 : Nat))) (2)) (858993459 : Nat))) (4))) (252645135 : Nat)) (8))) (16))) (by decide +kernel)).trans ?_
  refine (zr_istore_n (n := 0) (l1 := [.int (zi (((qand (((qand (x0 - (qand (qushr x0 (1)) (1431655765 : Nat))) (858993459 : Nat)) + (qand (qushr (x0 - (qand (qushr x0 (1)) (1431655765 : Nat))) (2)) (858993459 : Nat))) + (qushr ((qand (x0 - (qand (qushr x0 (1)) (1431655765 : Nat))) (858993459 : Nat)) + (qand (qushr (x0 - (qand (qushr x0 (1)) (1431655765 : Nat))) (2)) (858993459 : Nat))) (4))) (252645135 : Nat)) + (qushr (qand (((qand (x0 - (qand (qushr x0 (1)) (1431655765 : Nat))) (858993459 : Nat)) + (qand (qushr (x0 - (qand (qushr x0 (1)) (1431655765 : Nat))) (2)) (858993459 : Nat))) + (qushr ((qand (x0 - (qand (qushr x0 (1)) (1431655765 : Nat))) (858993459 : Nat)) + (qand (qushr (x0 - (qand (qushr x0 (1)) (1431655765 : Nat))) (2)) (858993459 : Nat))) (4))) (252645135 : Nat)) (8))) + (qushr ((qand (((qand (x0 - (qand (qushr x0 (1)) (1431655765 : Nat))) (858993459 : Nat)) + (qand (qushr (x0 - (qand (qushr x0 (1)) (1431655765 : Nat))) (2)) (858993459 : Nat))) + (qushr ((qand (x0 - (qand (qushr x0 (1)) (1431655765 : Nat))) (858993459 : Nat)) + (qand (qushr (x0 - (qand (qushr x0 (1)) (1431655765 : Nat))) (2)) (858993459 : Nat))) (4))) (252645135 : Nat)) + (qushr (qand (((qand (x0 - (qand (qushr x0 (1)) (1431655765 : Nat))) (858993459 : Nat)) + (qand (qushr (x0 - (qand (qushr x0 (1)) (1431655765 : Nat))) (2)) (858993459 : Nat))) + (qushr ((qand (x0 - (qand (qushr x0 (1)) (1431655765 : Nat))) (858993459 : Nat)) + (qand (qushr (x0 - (qand (qushr x0 (1)) (1431655765 : Nat))) (2)) (858993459 : Nat))) (4))) (252645135 : Nat)) (8))) (16))))]) (by decide +kernel) rfl).trans ?_
  refine (zr_iload_n (n := 0) (x := zi (((qand (((qand (x0 - (qand (qushr x0 (1)) (1431655765 : Nat))) (858993459 : Nat)) + (qand (qushr (x0 - (qand (qushr x0 (1)) (1431655765 : Nat))) (2)) (858993459 : Nat))) + (qushr ((qand (x0 - (qand (qushr x0 (1)) (1431655765 : Nat))) (858993459 : Nat)) + (qand (qushr (x0 - (qand (qushr x0 (1)) (1431655765 : Nat))) (2)) (858993459 : Nat))) (4))) (252645135 : Nat)) + (qushr (qand (((qand (x0 - (qand (qushr x0 (1)) (1431655765 : Nat))) (858993459 : Nat)) + (qand (qushr (x0 - (qand (qushr x0 (1)) (1431655765 : Nat))) (2)) (858993459 : Nat))) + (qushr ((qand (x0 - (qand (qushr x0 (1)) (1431655765 : Nat))) (858993459 : Nat)) + (qand (qushr (x0 - (qand (qushr x0 (1)) (1431655765 : Nat))) (2)) (858993459 : Nat))) (4))) (252645135 : Nat)) (8))) + (qushr ((qand (((qand (x0 - (qand (qushr x0 (1)) (1431655765 : Nat))) (858993459 : Nat)) + (qand (qushr (x0 - (qand (qushr x0 (1)) (1431655765 : Nat))) (2)) (858993459 : Nat))) + (qushr ((qand (x0 - (qand (qushr x0 (1)) (1431655765 : Nat))) (858993459 : Nat)) + (qand (qushr (x0 - (qand (qushr x0 (1)) (1431655765 : Nat))) (2)) (858993459 : Nat))) (4))) (252645135 : Nat)) + (qushr (qand (((qand (x0 - (qand (qushr x0 (1)) (1431655765 : Nat))) (858993459 : Nat)) + (qand (qushr (x0 - (qand (qushr x0 (1)) (1431655765 : Nat))) (2)) (858993459 : Nat))) + (qushr ((qand (x0 - (qand (qushr x0 (1)) (1431655765 : Nat))) (858993459 : Nat)) + (qand (qushr (x0 - (qand (qushr x0 (1)) (1431655765 : Nat))) (2)) (858993459 : Nat))) (4))) (252645135 : Nat)) (8))) (16)))) (by decide +kernel) rfl).trans ?_
  refine (zr_bipush (n := 63) (by decide +kernel) rfl).trans ?_
  refine (zr_iand (a := (((qand (((qand (x0 - (qand (qushr x0 (1)) (1431655765 : Nat))) (858993459 : Nat)) + (qand (qushr (x0 - (qand (qushr x0 (1)) (1431655765 : Nat))) (2)) (858993459 : Nat))) + (qushr ((qand (x0 - (qand (qushr x0 (1)) (1431655765 : Nat))) (858993459 : Nat)) + (qand (qushr (x0 - (qand (qushr x0 (1)) (1431655765 : Nat))) (2)) (858993459 : Nat))) (4))) (252645135 : Nat)) + (qushr (qand (((qand (x0 - (qand (qushr x0 (1)) (1431655765 : Nat))) (858993459 : Nat)) + (qand (qushr (x0 - (qand (qushr x0 (1)) (1431655765 : Nat))) (2)) (858993459 : Nat))) + (qushr ((qand (x0 - (qand (qushr x0 (1)) (1431655765 : Nat))) (858993459 : Nat)) + (qand (qushr (x0 - (qand (qushr x0 (1)) (1431655765 : Nat))) (2)) (858993459 : Nat))) (4))) (252645135 : Nat)) (8))) + (qushr ((qand (((qand (x0 - (qand (qushr x0 (1)) (1431655765 : Nat))) (858993459 : Nat)) + (qand (qushr (x0 - (qand (qushr x0 (1)) (1431655765 : Nat))) (2)) (858993459 : Nat))) + (qushr ((qand (x0 - (qand (qushr x0 (1)) (1431655765 : Nat))) (858993459 : Nat)) + (qand (qushr (x0 - (qand (qushr x0 (1)) (1431655765 : Nat))) (2)) (858993459 : Nat))) (4))) (252645135 : Nat)) + (qushr (qand (((qand (x0 - (qand (qushr x0 (1)) (1431655765 : Nat))) (858993459 : Nat)) + (qand (qushr (x0 - (qand (qushr x0 (1)) (1431655765 : Nat))) (2)) (858993459 : Nat))) + (qushr ((qand (x0 - (qand (qushr x0 (1)) (1431655765 : Nat))) (858993459 : Nat)) + (qand (qushr (x0 - (qand (qushr x0 (1)) (1431655765 : Nat))) (2)) (858993459 : Nat))) (4))) (252645135 : Nat)) (8))) (16)))) (b := (63)) (by decide +kernel)).trans ?_
  exact zr_iret (a := (qand (((qand (((qand (x0 - (qand (qushr x0 (1)) (1431655765 : Nat))) (858993459 : Nat)) + (qand (qushr (x0 - (qand (qushr x0 (1)) (1431655765 : Nat))) (2)) (858993459 : Nat))) + (qushr ((qand (x0 - (qand (qushr x0 (1)) (1431655765 : Nat))) (858993459 : Nat)) + (qand (qushr (x0 - (qand (qushr x0 (1)) (1431655765 : Nat))) (2)) (858993459 : Nat))) (4))) (252645135 : Nat)) + (qushr (qand (((qand (x0 - (qand (qushr x0 (1)) (1431655765 : Nat))) (858993459 : Nat)) + (qand (qushr (x0 - (qand (qushr x0 (1)) (1431655765 : Nat))) (2)) (858993459 : Nat))) + (qushr ((qand (x0 - (qand (qushr x0 (1)) (1431655765 : Nat))) (858993459 : Nat)) + (qand (qushr (x0 - (qand (qushr x0 (1)) (1431655765 : Nat))) (2)) (858993459 : Nat))) (4))) (252645135 : Nat)) (8))) + (qushr ((qand (((qand (x0 - (qand (qushr x0 (1)) (1431655765 : Nat))) (858993459 : Nat)) + (qand (qushr (x0 - (qand (qushr x0 (1)) (1431655765 : Nat))) (2)) (858993459 : Nat))) + (qushr ((qand (x0 - (qand (qushr x0 (1)) (1431655765 : Nat))) (858993459 : Nat)) + (qand (qushr (x0 - (qand (qushr x0 (1)) (1431655765 : Nat))) (2)) (858993459 : Nat))) (4))) (252645135 : Nat)) + (qushr (qand (((qand (x0 - (qand (qushr x0 (1)) (1431655765 : Nat))) (858993459 : Nat)) + (qand (qushr (x0 - (qand (qushr x0 (1)) (1431655765 : Nat))) (2)) (858993459 : Nat))) + (qushr ((qand (x0 - (qand (qushr x0 (1)) (1431655765 : Nat))) (858993459 : Nat)) + (qand (qushr (x0 - (qand (qushr x0 (1)) (1431655765 : Nat))) (2)) (858993459 : Nat))) (4))) (252645135 : Nat)) (8))) (16))) (63))) (by decide +kernel) rfl
/-! java/util/Arrays fill ([II)V -/
theorem ze_236_0 {V : zVt} {J : zJt} {d : Nat → Nat → UInt64} (x1 : Int) : zGo false 236 0 [.ref 23, .int (zi x1), .null, .null] [] (zm V J d) =
    zGo false 236 5 [.ref 23, .int (zi x1), .int (zi (0)), .int (zi (50 : Nat))] [] (zm V J d) := by
  refine (zr_iconst (n := 0) (by decide +kernel)).trans ?_
  refine (zr_istore_n (n := 2) (l1 := [.ref 23, .int (zi x1), .int (zi (0)), .null]) (by decide +kernel) rfl).trans ?_
  refine (zr_aload_n (n := 0) (x := 23) (by decide +kernel) rfl).trans ?_
  refine (zr_alen (by decide +kernel) rfl (by decide)).trans ?_
  refine (zr_istore_n (n := 3) (l1 := [.ref 23, .int (zi x1), .int (zi (0)), .int (zi (50 : Nat))]) (by decide +kernel) rfl).trans ?_
  rfl
theorem ze_236_5 {V : zVt} {J : zJt} {d : Nat → Nat → UInt64} (x1 : Int) (x2 : Int) (x3 : Int) : zGo false 236 5 [.ref 23, .int (zi x1), .int (zi x2), .int (zi x3)] [] (zm V J d) =
    (if qw x3 ≤ qw x2 then some (.inl none, zm V J d) else zck (0 ≤ qw x2 ∧ qw x2 < (50 : Nat)) (zGo false 236 5 [.ref 23, .int (zi x1), .int (zi (x2 + 1)), .int (zi x3)] [] (zm (vup V 23 (qw x2) x1) J d))) := by
  refine (zr_iload_n (n := 2) (x := zi x2) (by decide +kernel) rfl).trans ?_
  refine (zr_iload_n (n := 3) (x := zi x3) (by decide +kernel) rfl).trans ?_
  refine (zr_cge (off := 13) (a := x2) (b := x3) (t := 20) (by decide +kernel) rfl).trans (zif_ct (fun _ => ?_) (fun _ => ?_))
  · exact zr_vret (by decide +kernel) rfl
  · refine (zr_aload_n (n := 0) (x := 23) (by decide +kernel) rfl).trans ?_
    refine (zr_iload_n (n := 2) (x := zi x2) (by decide +kernel) rfl).trans ?_
    refine (zr_iload_n (n := 1) (x := zi x1) (by decide +kernel) rfl).trans ?_
    refine (zr_iast (n := 50) (e := x2) (x := x1) (by decide +kernel) rfl).trans (zck_ct fun _ => ?_)
    refine (zr_iinc (n := 2) (k := 1) (x := x2) (l1 := [.ref 23, .int (zi x1), .int (zi (x2 + 1)), .int (zi x3)]) (by decide +kernel) rfl rfl).trans ?_
    refine (zr_goto (off := -12) (t := 5) (by decide +kernel) rfl).trans ?_
    rfl
