/-! part 30: methods as equations; printed by program (wip/whole/gen/gen_tree.py, gen_trees_all.py) -/
/-! PartSongDeskModel clashesAt (II)I -/
theorem ze_209_0 {V : zVt} {J : zJt} {d : Nat → Nat → UInt64} (x1 : Int) (x2 : Int) : zGo false 209 0 [.ref 430, .int (zi x1), .int (zi x2), .null, .null, .null, .null, .null, .null, .null, .null, .null] [] (zm V J d) =
    zGo false 209 14 [.ref 430, .int (zi x1), .int (zi x2), .int (zi (0)), .int (zi (0)), .int (zi (0)), .int (zi (0)), .int (zi (0)), .null, .null, .null, .null] [] (zm V J d) := by
  refine (zr_iconst (n := 0) (by decide +kernel)).trans ?_
  refine (zr_istore_n (n := 3) (l1 := [.ref 430, .int (zi x1), .int (zi x2), .int (zi (0)), .null, .null, .null, .null, .null, .null, .null, .null]) (by decide +kernel) rfl).trans ?_
  refine (zr_iconst (n := 0) (by decide +kernel)).trans ?_
  refine (zr_istore (n := 4) (l1 := [.ref 430, .int (zi x1), .int (zi x2), .int (zi (0)), .int (zi (0)), .null, .null, .null, .null, .null, .null, .null]) (by decide +kernel) rfl).trans ?_
  refine (zr_iconst (n := 0) (by decide +kernel)).trans ?_
  refine (zr_istore (n := 5) (l1 := [.ref 430, .int (zi x1), .int (zi x2), .int (zi (0)), .int (zi (0)), .int (zi (0)), .null, .null, .null, .null, .null, .null]) (by decide +kernel) rfl).trans ?_
  refine (zr_iconst (n := 0) (by decide +kernel)).trans ?_
  refine (zr_istore (n := 6) (l1 := [.ref 430, .int (zi x1), .int (zi x2), .int (zi (0)), .int (zi (0)), .int (zi (0)), .int (zi (0)), .null, .null, .null, .null, .null]) (by decide +kernel) rfl).trans ?_
  refine (zr_iconst (n := 0) (by decide +kernel)).trans ?_
  refine (zr_istore (n := 7) (l1 := [.ref 430, .int (zi x1), .int (zi x2), .int (zi (0)), .int (zi (0)), .int (zi (0)), .int (zi (0)), .int (zi (0)), .null, .null, .null, .null]) (by decide +kernel) rfl).trans ?_
  rfl
theorem ze_209_14 {V : zVt} {J : zJt} {d : Nat → Nat → UInt64} (x1 : Int) (x2 : Int) (x3 : Int) (x4 : Int) (x5 : Int) (x6 : Int) (x7 : Int) (x8 : Value) (x9 : Value) : zGo false 209 14 [.ref 430, .int (zi x1), .int (zi x2), .int (zi x3), .int (zi x4), .int (zi x5), .int (zi x6), .int (zi x7), x8, x9, .null, .null] [] (zm V J d) =
    (if qw (4) ≤ qw x7 then (if qw x2 = 0 then zGo false 209 164 [.ref 430, .int (zi x1), .int (zi x2), .int (zi x3), .int (zi x4), .int (zi x5), .int (zi x6), .int (zi x7), x8, x9, .null, .null] [] (zm V J d) else (if qw x2 ≠ qw (1) then zGo false 209 200 [.ref 430, .int (zi x1), .int (zi x2), .int (zi x3), .int (zi x4), .int (zi x5), .int (zi x6), .int (zi (0)), x8, x9, .null, .null] [] (zm V J d) else zGo false 209 164 [.ref 430, .int (zi x1), .int (zi x2), .int (zi x3), .int (zi x4), .int (zi x5), .int (zi x6), .int (zi x7), x8, x9, .null, .null] [] (zm V J d))) else zck (0 ≤ qw x7 ∧ qw x7 < (5 : Nat)) ((if qw (V 448 (qw x7)) ≠ 0 then zGo false 209 35 [.ref 430, .int (zi x1), .int (zi x2), .int (zi x3), .int (zi x4), .int (zi x5), .int (zi x6), .int (zi x7), x8, x9, .null, .null] [.int (zi (0))] (zm V J d) else zGo false 209 35 [.ref 430, .int (zi x1), .int (zi x2), .int (zi x3), .int (zi x4), .int (zi x5), .int (zi x6), .int (zi x7), x8, x9, .null, .null] [.int (zi (1))] (zm V J d)))) := by
  refine (zr_iload (n := 7) (x := zi x7) (by decide +kernel) rfl).trans ?_
  refine (zr_iconst (n := 4) (by decide +kernel)).trans ?_
  refine (zr_cge (off := 138) (a := x7) (b := (4)) (t := 155) (by decide +kernel) rfl).trans (zif_ct (fun _ => ?_) (fun _ => ?_))
  · refine (zr_iload_n (n := 2) (x := zi x2) (by decide +kernel) rfl).trans ?_
    refine (zr_ifeq (off := 8) (a := x2) (t := 164) (by decide +kernel) rfl).trans (zif_ct (fun _ => ?_) (fun _ => ?_))
    · rfl
    · refine (zr_iload_n (n := 2) (x := zi x2) (by decide +kernel) rfl).trans ?_
      refine (zr_iconst (n := 1) (by decide +kernel)).trans ?_
      refine (zr_cne (off := 36) (a := x2) (b := (1)) (t := 197) (by decide +kernel) rfl).trans (zif_ct (fun _ => ?_) (fun _ => ?_))
      · refine (zr_iconst (n := 0) (by decide +kernel)).trans ?_
        refine (zr_istore (n := 7) (l1 := [.ref 430, .int (zi x1), .int (zi x2), .int (zi x3), .int (zi x4), .int (zi x5), .int (zi x6), .int (zi (0)), x8, x9, .null, .null]) (by decide +kernel) rfl).trans ?_
        rfl
      · rfl
  · refine (zr_aload_n (n := 0) (x := 430) (by decide +kernel) rfl).trans ?_
    refine (zr_getR (i := 62) (c := 12) (k := 29) (r := 448) (by decide +kernel) (by decide +kernel) rfl (by decide +kernel) (zR0_f (o := 430) (c := 12) (n := 0) (k := 29) (j := 18) rfl (by decide) rfl)).trans ?_
    refine (zr_iload (n := 7) (x := zi x7) (by decide +kernel) rfl).trans ?_
    refine (zr_iald (n := 5) (e := x7) (by decide +kernel) rfl).trans (zck_ct fun _ => ?_)
    refine (zr_ifne (off := 7) (a := (V 448 (qw x7))) (t := 34) (by decide +kernel) rfl).trans (zif_ct (fun _ => ?_) (fun _ => ?_))
    · refine (zr_iconst (n := 0) (by decide +kernel)).trans ?_
      rfl
    · refine (zr_iconst (n := 1) (by decide +kernel)).trans ?_
      refine (zr_goto (off := 4) (t := 35) (by decide +kernel) rfl).trans ?_
      rfl
theorem ze_209_35 {V : zVt} {J : zJt} {d : Nat → Nat → UInt64} (x1 : Int) (x2 : Int) (x3 : Int) (x4 : Int) (x5 : Int) (x6 : Int) (x7 : Int) (x8 : Value) (x9 : Value) (s0 : Int) : zGo false 209 35 [.ref 430, .int (zi x1), .int (zi x2), .int (zi x3), .int (zi x4), .int (zi x5), .int (zi x6), .int (zi x7), x8, x9, .null, .null] [.int (zi s0)] (zm V J d) =
    (if qw s0 = 0 then zGo false 209 58 [.ref 430, .int (zi x1), .int (zi x2), .int (zi x3), .int (zi x4), .int (zi x5), .int (zi x6), .int (zi x7), .int (zi s0), x9, .null, .null] [.int (zi x3)] (zm V J d) else zck (0 ≤ qw x7 ∧ qw x7 < (5 : Nat)) ((if qw x1 < qw (V 449 (qw x7)) then zGo false 209 58 [.ref 430, .int (zi x1), .int (zi x2), .int (zi x3), .int (zi x4), .int (zi x5), .int (zi x6), .int (zi x7), .int (zi s0), x9, .null, .null] [.int (zi x3)] (zm V J d) else zGo false 209 59 [.ref 430, .int (zi x1), .int (zi x2), .int (zi x3), .int (zi x4), .int (zi x5), .int (zi x6), .int (zi x7), .int (zi s0), x9, .null, .null] [.int (zi (1)), .int (zi x3)] (zm V J d)))) := by
  refine (zr_istore (n := 8) (l1 := [.ref 430, .int (zi x1), .int (zi x2), .int (zi x3), .int (zi x4), .int (zi x5), .int (zi x6), .int (zi x7), .int (zi s0), x9, .null, .null]) (by decide +kernel) rfl).trans ?_
  refine (zr_iload_n (n := 3) (x := zi x3) (by decide +kernel) rfl).trans ?_
  refine (zr_iload (n := 8) (x := zi s0) (by decide +kernel) rfl).trans ?_
  refine (zr_ifeq (off := 18) (a := s0) (t := 58) (by decide +kernel) rfl).trans (zif_ct (fun _ => ?_) (fun _ => ?_))
  · rfl
  · refine (zr_iload_n (n := 1) (x := zi x1) (by decide +kernel) rfl).trans ?_
    refine (zr_aload_n (n := 0) (x := 430) (by decide +kernel) rfl).trans ?_
    refine (zr_getR (i := 65) (c := 12) (k := 30) (r := 449) (by decide +kernel) (by decide +kernel) rfl (by decide +kernel) (zR0_f (o := 430) (c := 12) (n := 0) (k := 30) (j := 19) rfl (by decide) rfl)).trans ?_
    refine (zr_iload (n := 7) (x := zi x7) (by decide +kernel) rfl).trans ?_
    refine (zr_iald (n := 5) (e := x7) (by decide +kernel) rfl).trans (zck_ct fun _ => ?_)
    refine (zr_clt (off := 7) (a := x1) (b := (V 449 (qw x7))) (t := 58) (by decide +kernel) rfl).trans (zif_ct (fun _ => ?_) (fun _ => ?_))
    · rfl
    · refine (zr_iconst (n := 1) (by decide +kernel)).trans ?_
      refine (zr_goto (off := 4) (t := 59) (by decide +kernel) rfl).trans ?_
      rfl
theorem ze_209_58 {V : zVt} {J : zJt} {d : Nat → Nat → UInt64} (x1 : Int) (x2 : Int) (x3 : Int) (x4 : Int) (x5 : Int) (x6 : Int) (x7 : Int) (x8 : Int) (x9 : Value) (s0 : Int) : zGo false 209 58 [.ref 430, .int (zi x1), .int (zi x2), .int (zi x3), .int (zi x4), .int (zi x5), .int (zi x6), .int (zi x7), .int (zi x8), x9, .null, .null] [.int (zi s0)] (zm V J d) =
    zGo false 209 59 [.ref 430, .int (zi x1), .int (zi x2), .int (zi x3), .int (zi x4), .int (zi x5), .int (zi x6), .int (zi x7), .int (zi x8), x9, .null, .null] [.int (zi (0)), .int (zi s0)] (zm V J d) := by
  refine (zr_iconst (n := 0) (by decide +kernel)).trans ?_
  rfl
theorem ze_209_59 {V : zVt} {J : zJt} {d : Nat → Nat → UInt64} (x1 : Int) (x2 : Int) (x3 : Int) (x4 : Int) (x5 : Int) (x6 : Int) (x7 : Int) (x8 : Int) (x9 : Value) (s0 : Int) (s1 : Int) : zGo false 209 59 [.ref 430, .int (zi x1), .int (zi x2), .int (zi x3), .int (zi x4), .int (zi x5), .int (zi x6), .int (zi x7), .int (zi x8), x9, .null, .null] [.int (zi s1), .int (zi s0)] (zm V J d) =
    zck (0 ≤ qw x7 ∧ qw x7 < (5 : Nat)) ((if qw (V 449 (qw x7)) ≤ qw x1 then zGo false 209 79 [.ref 430, .int (zi x1), .int (zi x2), .int (zi (s0 + s1)), .int (zi x4), .int (zi x5), .int (zi x6), .int (zi x7), .int (zi x8), x9, .null, .null] [.int (zi (0)), .int (zi x4)] (zm V J d) else zGo false 209 79 [.ref 430, .int (zi x1), .int (zi x2), .int (zi (s0 + s1)), .int (zi x4), .int (zi x5), .int (zi x6), .int (zi x7), .int (zi x8), x9, .null, .null] [.int (zi (1)), .int (zi x4)] (zm V J d))) := by
  refine (zr_iadd (a := s0) (b := s1) (by decide +kernel)).trans ?_
  refine (zr_istore_n (n := 3) (l1 := [.ref 430, .int (zi x1), .int (zi x2), .int (zi (s0 + s1)), .int (zi x4), .int (zi x5), .int (zi x6), .int (zi x7), .int (zi x8), x9, .null, .null]) (by decide +kernel) rfl).trans ?_
  refine (zr_iload (n := 4) (x := zi x4) (by decide +kernel) rfl).trans ?_
  refine (zr_iload_n (n := 1) (x := zi x1) (by decide +kernel) rfl).trans ?_
  refine (zr_aload_n (n := 0) (x := 430) (by decide +kernel) rfl).trans ?_
  refine (zr_getR (i := 65) (c := 12) (k := 30) (r := 449) (by decide +kernel) (by decide +kernel) rfl (by decide +kernel) (zR0_f (o := 430) (c := 12) (n := 0) (k := 30) (j := 19) rfl (by decide) rfl)).trans ?_
  refine (zr_iload (n := 7) (x := zi x7) (by decide +kernel) rfl).trans ?_
  refine (zr_iald (n := 5) (e := x7) (by decide +kernel) rfl).trans (zck_ct fun _ => ?_)
  refine (zr_cge (off := 7) (a := x1) (b := (V 449 (qw x7))) (t := 78) (by decide +kernel) rfl).trans (zif_ct (fun _ => ?_) (fun _ => ?_))
  · refine (zr_iconst (n := 0) (by decide +kernel)).trans ?_
    rfl
  · refine (zr_iconst (n := 1) (by decide +kernel)).trans ?_
    refine (zr_goto (off := 4) (t := 79) (by decide +kernel) rfl).trans ?_
    rfl
theorem ze_209_79 {V : zVt} {J : zJt} {d : Nat → Nat → UInt64} (x1 : Int) (x2 : Int) (x3 : Int) (x4 : Int) (x5 : Int) (x6 : Int) (x7 : Int) (x8 : Int) (x9 : Value) (s0 : Int) (s1 : Int) : zGo false 209 79 [.ref 430, .int (zi x1), .int (zi x2), .int (zi x3), .int (zi x4), .int (zi x5), .int (zi x6), .int (zi x7), .int (zi x8), x9, .null, .null] [.int (zi s1), .int (zi s0)] (zm V J d) =
    zGo false 209 85 [.ref 430, .int (zi x1), .int (zi x2), .int (zi x3), .int (zi (s0 + s1)), .int (zi x5), .int (zi x6), .int (zi x7), .int (zi x8), .int (zi (0)), .null, .null] [] (zm V J d) := by
  refine (zr_iadd (a := s0) (b := s1) (by decide +kernel)).trans ?_
  refine (zr_istore (n := 4) (l1 := [.ref 430, .int (zi x1), .int (zi x2), .int (zi x3), .int (zi (s0 + s1)), .int (zi x5), .int (zi x6), .int (zi x7), .int (zi x8), x9, .null, .null]) (by decide +kernel) rfl).trans ?_
  refine (zr_iconst (n := 0) (by decide +kernel)).trans ?_
  refine (zr_istore (n := 9) (l1 := [.ref 430, .int (zi x1), .int (zi x2), .int (zi x3), .int (zi (s0 + s1)), .int (zi x5), .int (zi x6), .int (zi x7), .int (zi x8), .int (zi (0)), .null, .null]) (by decide +kernel) rfl).trans ?_
  rfl
theorem ze_209_85 {V : zVt} {J : zJt} {d : Nat → Nat → UInt64} (x1 : Int) (x2 : Int) (x3 : Int) (x4 : Int) (x5 : Int) (x6 : Int) (x7 : Int) (x8 : Int) (x9 : Int) : zGo false 209 85 [.ref 430, .int (zi x1), .int (zi x2), .int (zi x3), .int (zi x4), .int (zi x5), .int (zi x6), .int (zi x7), .int (zi x8), .int (zi x9), .null, .null] [] (zm V J d) =
    (if qw x7 ≤ qw x9 then zGo false 209 14 [.ref 430, .int (zi x1), .int (zi x2), .int (zi x3), .int (zi x4), .int (zi x5), .int (zi x6), .int (zi (x7 + 1)), .int (zi x8), .int (zi x9), .null, .null] [] (zm V J d) else (if qw x6 ≠ 0 then zGo false 209 136 [.ref 430, .int (zi x1), .int (zi x2), .int (zi x3), .int (zi x4), .int (zi x5), .int (zi x6), .int (zi x7), .int (zi x8), .int (zi x9), .null, .null] [] (zm V J d) else zck (0 ≤ qw x7 ∧ qw x7 < (5 : Nat)) ((if qw (V 449 (qw x7)) ≤ qw x1 then zGo false 209 140 [.ref 430, .int (zi x1), .int (zi x2), .int (zi x3), .int (zi x4), .int (zi x5), .int (zi x6), .int (zi x7), .int (zi x8), .int (zi x9), .null, .null] [] (zm V J d) else zck (0 ≤ qw x9 ∧ qw x9 < (5 : Nat)) ((if qw (V 449 (qw x9)) ≤ qw x1 then zGo false 209 140 [.ref 430, .int (zi x1), .int (zi x2), .int (zi x3), .int (zi x4), .int (zi x5), .int (zi x6), .int (zi x7), .int (zi x8), .int (zi x9), .null, .null] [] (zm V J d) else zck (0 ≤ qw x7 ∧ qw x7 < (5 : Nat)) (zck (0 ≤ qw x9 ∧ qw x9 < (5 : Nat)) ((if qw (V 450 (qw x7)) = qw (V 450 (qw x9)) then zGo false 209 140 [.ref 430, .int (zi x1), .int (zi x2), .int (zi x3), .int (zi x4), .int (zi x5), .int (zi x6), .int (zi x7), .int (zi x8), .int (zi x9), .null, .null] [] (zm V J d) else zGo false 209 136 [.ref 430, .int (zi x1), .int (zi x2), .int (zi x3), .int (zi x4), .int (zi x5), .int (zi x6), .int (zi x7), .int (zi x8), .int (zi x9), .null, .null] [] (zm V J d)))))))))) := by
  refine (zr_iload (n := 9) (x := zi x9) (by decide +kernel) rfl).trans ?_
  refine (zr_iload (n := 7) (x := zi x7) (by decide +kernel) rfl).trans ?_
  refine (zr_cge (off := 60) (a := x9) (b := x7) (t := 149) (by decide +kernel) rfl).trans (zif_ct (fun _ => ?_) (fun _ => ?_))
  · refine (zr_iinc (n := 7) (k := 1) (x := x7) (l1 := [.ref 430, .int (zi x1), .int (zi x2), .int (zi x3), .int (zi x4), .int (zi x5), .int (zi x6), .int (zi (x7 + 1)), .int (zi x8), .int (zi x9), .null, .null]) (by decide +kernel) rfl rfl).trans ?_
    refine (zr_goto (off := -138) (t := 14) (by decide +kernel) rfl).trans ?_
    rfl
  · refine (zr_iload (n := 6) (x := zi x6) (by decide +kernel) rfl).trans ?_
    refine (zr_ifne (off := 42) (a := x6) (t := 136) (by decide +kernel) rfl).trans (zif_ct (fun _ => ?_) (fun _ => ?_))
    · rfl
    · refine (zr_iload_n (n := 1) (x := zi x1) (by decide +kernel) rfl).trans ?_
      refine (zr_aload_n (n := 0) (x := 430) (by decide +kernel) rfl).trans ?_
      refine (zr_getR (i := 65) (c := 12) (k := 30) (r := 449) (by decide +kernel) (by decide +kernel) rfl (by decide +kernel) (zR0_f (o := 430) (c := 12) (n := 0) (k := 30) (j := 19) rfl (by decide) rfl)).trans ?_
      refine (zr_iload (n := 7) (x := zi x7) (by decide +kernel) rfl).trans ?_
      refine (zr_iald (n := 5) (e := x7) (by decide +kernel) rfl).trans (zck_ct fun _ => ?_)
      refine (zr_cge (off := 35) (a := x1) (b := (V 449 (qw x7))) (t := 140) (by decide +kernel) rfl).trans (zif_ct (fun _ => ?_) (fun _ => ?_))
      · rfl
      · refine (zr_iload_n (n := 1) (x := zi x1) (by decide +kernel) rfl).trans ?_
        refine (zr_aload_n (n := 0) (x := 430) (by decide +kernel) rfl).trans ?_
        refine (zr_getR (i := 65) (c := 12) (k := 30) (r := 449) (by decide +kernel) (by decide +kernel) rfl (by decide +kernel) (zR0_f (o := 430) (c := 12) (n := 0) (k := 30) (j := 19) rfl (by decide) rfl)).trans ?_
        refine (zr_iload (n := 9) (x := zi x9) (by decide +kernel) rfl).trans ?_
        refine (zr_iald (n := 5) (e := x9) (by decide +kernel) rfl).trans (zck_ct fun _ => ?_)
        refine (zr_cge (off := 24) (a := x1) (b := (V 449 (qw x9))) (t := 140) (by decide +kernel) rfl).trans (zif_ct (fun _ => ?_) (fun _ => ?_))
        · rfl
        · refine (zr_aload_n (n := 0) (x := 430) (by decide +kernel) rfl).trans ?_
          refine (zr_getR (i := 68) (c := 12) (k := 31) (r := 450) (by decide +kernel) (by decide +kernel) rfl (by decide +kernel) (zR0_f (o := 430) (c := 12) (n := 0) (k := 31) (j := 20) rfl (by decide) rfl)).trans ?_
          refine (zr_iload (n := 7) (x := zi x7) (by decide +kernel) rfl).trans ?_
          refine (zr_iald (n := 5) (e := x7) (by decide +kernel) rfl).trans (zck_ct fun _ => ?_)
          refine (zr_aload_n (n := 0) (x := 430) (by decide +kernel) rfl).trans ?_
          refine (zr_getR (i := 68) (c := 12) (k := 31) (r := 450) (by decide +kernel) (by decide +kernel) rfl (by decide +kernel) (zR0_f (o := 430) (c := 12) (n := 0) (k := 31) (j := 20) rfl (by decide) rfl)).trans ?_
          refine (zr_iload (n := 9) (x := zi x9) (by decide +kernel) rfl).trans ?_
          refine (zr_iald (n := 5) (e := x9) (by decide +kernel) rfl).trans (zck_ct fun _ => ?_)
          refine (zr_ceq (off := 7) (a := (V 450 (qw x7))) (b := (V 450 (qw x9))) (t := 140) (by decide +kernel) rfl).trans (zif_ct (fun _ => ?_) (fun _ => ?_))
          · rfl
          · rfl
theorem ze_209_136 {V : zVt} {J : zJt} {d : Nat → Nat → UInt64} (x1 : Int) (x2 : Int) (x3 : Int) (x4 : Int) (x5 : Int) (x6 : Int) (x7 : Int) (x8 : Int) (x9 : Int) : zGo false 209 136 [.ref 430, .int (zi x1), .int (zi x2), .int (zi x3), .int (zi x4), .int (zi x5), .int (zi x6), .int (zi x7), .int (zi x8), .int (zi x9), .null, .null] [] (zm V J d) =
    zGo false 209 141 [.ref 430, .int (zi x1), .int (zi x2), .int (zi x3), .int (zi x4), .int (zi x5), .int (zi x6), .int (zi x7), .int (zi x8), .int (zi x9), .null, .null] [.int (zi (1))] (zm V J d) := by
  refine (zr_iconst (n := 1) (by decide +kernel)).trans ?_
  refine (zr_goto (off := 4) (t := 141) (by decide +kernel) rfl).trans ?_
  rfl
theorem ze_209_140 {V : zVt} {J : zJt} {d : Nat → Nat → UInt64} (x1 : Int) (x2 : Int) (x3 : Int) (x4 : Int) (x5 : Int) (x6 : Int) (x7 : Int) (x8 : Int) (x9 : Int) : zGo false 209 140 [.ref 430, .int (zi x1), .int (zi x2), .int (zi x3), .int (zi x4), .int (zi x5), .int (zi x6), .int (zi x7), .int (zi x8), .int (zi x9), .null, .null] [] (zm V J d) =
    zGo false 209 141 [.ref 430, .int (zi x1), .int (zi x2), .int (zi x3), .int (zi x4), .int (zi x5), .int (zi x6), .int (zi x7), .int (zi x8), .int (zi x9), .null, .null] [.int (zi (0))] (zm V J d) := by
  refine (zr_iconst (n := 0) (by decide +kernel)).trans ?_
  rfl
theorem ze_209_141 {V : zVt} {J : zJt} {d : Nat → Nat → UInt64} (x1 : Int) (x2 : Int) (x3 : Int) (x4 : Int) (x5 : Int) (x6 : Int) (x7 : Int) (x8 : Int) (x9 : Int) (s0 : Int) : zGo false 209 141 [.ref 430, .int (zi x1), .int (zi x2), .int (zi x3), .int (zi x4), .int (zi x5), .int (zi x6), .int (zi x7), .int (zi x8), .int (zi x9), .null, .null] [.int (zi s0)] (zm V J d) =
    zGo false 209 85 [.ref 430, .int (zi x1), .int (zi x2), .int (zi x3), .int (zi x4), .int (zi x5), .int (zi s0), .int (zi x7), .int (zi x8), .int (zi (x9 + 1)), .null, .null] [] (zm V J d) := by
  refine (zr_istore (n := 6) (l1 := [.ref 430, .int (zi x1), .int (zi x2), .int (zi x3), .int (zi x4), .int (zi x5), .int (zi s0), .int (zi x7), .int (zi x8), .int (zi x9), .null, .null]) (by decide +kernel) rfl).trans ?_
  refine (zr_iinc (n := 9) (k := 1) (x := x9) (l1 := [.ref 430, .int (zi x1), .int (zi x2), .int (zi x3), .int (zi x4), .int (zi x5), .int (zi s0), .int (zi x7), .int (zi x8), .int (zi (x9 + 1)), .null, .null]) (by decide +kernel) rfl rfl).trans ?_
  refine (zr_goto (off := -61) (t := 85) (by decide +kernel) rfl).trans ?_
  rfl
theorem ze_209_164 {V : zVt} {J : zJt} {d : Nat → Nat → UInt64} (x1 : Int) (x2 : Int) (x3 : Int) (x4 : Int) (x5 : Int) (x6 : Int) (x7 : Int) (x8 : Value) (x9 : Value) : zGo false 209 164 [.ref 430, .int (zi x1), .int (zi x2), .int (zi x3), .int (zi x4), .int (zi x5), .int (zi x6), .int (zi x7), x8, x9, .null, .null] [] (zm V J d) =
    (if qw x2 ≠ qw (1) then (if qw x3 ≤ 0 then zGo false 209 195 [.ref 430, .int (zi x1), .int (zi x2), .int (zi x3), .int (zi x4), .int (zi x5), .int (zi x6), .int (zi x7), x8, x9, .null, .null] [] (zm V J d) else (if qw x4 ≤ 0 then zGo false 209 195 [.ref 430, .int (zi x1), .int (zi x2), .int (zi x3), .int (zi x4), .int (zi x5), .int (zi x6), .int (zi x7), x8, x9, .null, .null] [] (zm V J d) else zGo false 209 196 [.ref 430, .int (zi x1), .int (zi x2), .int (zi x3), .int (zi x4), .int (zi x5), .int (zi x6), .int (zi x7), x8, x9, .null, .null] [.int (zi (1))] (zm V J d))) else (if qw x6 = 0 then zGo false 209 196 [.ref 430, .int (zi x1), .int (zi x2), .int (zi x3), .int (zi x4), .int (zi x5), .int (zi x6), .int (zi x7), x8, x9, .null, .null] [.int (zi (0))] (zm V J d) else zGo false 209 196 [.ref 430, .int (zi x1), .int (zi x2), .int (zi x3), .int (zi x4), .int (zi x5), .int (zi x6), .int (zi x7), x8, x9, .null, .null] [.int (zi (1))] (zm V J d))) := by
  refine (zr_iload_n (n := 2) (x := zi x2) (by decide +kernel) rfl).trans ?_
  refine (zr_iconst (n := 1) (by decide +kernel)).trans ?_
  refine (zr_cne (off := 16) (a := x2) (b := (1)) (t := 182) (by decide +kernel) rfl).trans (zif_ct (fun _ => ?_) (fun _ => ?_))
  · refine (zr_iload_n (n := 3) (x := zi x3) (by decide +kernel) rfl).trans ?_
    refine (zr_ifle (off := 12) (a := x3) (t := 195) (by decide +kernel) rfl).trans (zif_ct (fun _ => ?_) (fun _ => ?_))
    · rfl
    · refine (zr_iload (n := 4) (x := zi x4) (by decide +kernel) rfl).trans ?_
      refine (zr_ifle (off := 7) (a := x4) (t := 195) (by decide +kernel) rfl).trans (zif_ct (fun _ => ?_) (fun _ => ?_))
      · rfl
      · refine (zr_iconst (n := 1) (by decide +kernel)).trans ?_
        refine (zr_goto (off := 4) (t := 196) (by decide +kernel) rfl).trans ?_
        rfl
  · refine (zr_iload (n := 6) (x := zi x6) (by decide +kernel) rfl).trans ?_
    refine (zr_ifeq (off := 7) (a := x6) (t := 178) (by decide +kernel) rfl).trans (zif_ct (fun _ => ?_) (fun _ => ?_))
    · refine (zr_iconst (n := 0) (by decide +kernel)).trans ?_
      refine (zr_goto (off := 17) (t := 196) (by decide +kernel) rfl).trans ?_
      rfl
    · refine (zr_iconst (n := 1) (by decide +kernel)).trans ?_
      refine (zr_goto (off := 21) (t := 196) (by decide +kernel) rfl).trans ?_
      rfl
theorem ze_209_195 {V : zVt} {J : zJt} {d : Nat → Nat → UInt64} (x1 : Int) (x2 : Int) (x3 : Int) (x4 : Int) (x5 : Int) (x6 : Int) (x7 : Int) (x8 : Value) (x9 : Value) : zGo false 209 195 [.ref 430, .int (zi x1), .int (zi x2), .int (zi x3), .int (zi x4), .int (zi x5), .int (zi x6), .int (zi x7), x8, x9, .null, .null] [] (zm V J d) =
    zGo false 209 196 [.ref 430, .int (zi x1), .int (zi x2), .int (zi x3), .int (zi x4), .int (zi x5), .int (zi x6), .int (zi x7), x8, x9, .null, .null] [.int (zi (0))] (zm V J d) := by
  refine (zr_iconst (n := 0) (by decide +kernel)).trans ?_
  rfl
theorem ze_209_196 {V : zVt} {J : zJt} {d : Nat → Nat → UInt64} (x1 : Int) (x2 : Int) (x3 : Int) (x4 : Int) (x5 : Int) (x6 : Int) (x7 : Int) (x8 : Value) (x9 : Value) (s0 : Int) : zGo false 209 196 [.ref 430, .int (zi x1), .int (zi x2), .int (zi x3), .int (zi x4), .int (zi x5), .int (zi x6), .int (zi x7), x8, x9, .null, .null] [.int (zi s0)] (zm V J d) =
    some (.inl (some (.int (zi s0))), zm V J d) := by
  exact zr_iret (a := s0) (by decide +kernel) rfl
theorem ze_209_200 {V : zVt} {J : zJt} {d : Nat → Nat → UInt64} (x1 : Int) (x2 : Int) (x3 : Int) (x4 : Int) (x5 : Int) (x6 : Int) (x7 : Int) (x8 : Value) (x9 : Value) (x10 : Value) (x11 : Value) : zGo false 209 200 [.ref 430, .int (zi x1), .int (zi x2), .int (zi x3), .int (zi x4), .int (zi x5), .int (zi x6), .int (zi x7), x8, x9, x10, x11] [] (zm V J d) =
    (if qw (4) ≤ qw x7 then zGo false 209 406 [.ref 430, .int (zi x1), .int (zi x2), .int (zi x3), .int (zi x4), .int (zi x5), .int (zi x6), .int (zi x7), x8, x9, x10, x11] [] (zm V J d) else (if qw x6 ≠ 0 then zGo false 209 406 [.ref 430, .int (zi x1), .int (zi x2), .int (zi x3), .int (zi x4), .int (zi x5), .int (zi x6), .int (zi x7), x8, x9, x10, x11] [] (zm V J d) else zGo false 209 214 [.ref 430, .int (zi x1), .int (zi x2), .int (zi x3), .int (zi x4), .int (zi x5), .int (zi x6), .int (zi x7), .int (zi (0)), x9, x10, x11] [] (zm V J d))) := by
  refine (zr_iload (n := 7) (x := zi x7) (by decide +kernel) rfl).trans ?_
  refine (zr_iconst (n := 4) (by decide +kernel)).trans ?_
  refine (zr_cge (off := 203) (a := x7) (b := (4)) (t := 406) (by decide +kernel) rfl).trans (zif_ct (fun _ => ?_) (fun _ => ?_))
  · rfl
  · refine (zr_iload (n := 6) (x := zi x6) (by decide +kernel) rfl).trans ?_
    refine (zr_ifne (off := 198) (a := x6) (t := 406) (by decide +kernel) rfl).trans (zif_ct (fun _ => ?_) (fun _ => ?_))
    · rfl
    · refine (zr_iconst (n := 0) (by decide +kernel)).trans ?_
      refine (zr_istore (n := 8) (l1 := [.ref 430, .int (zi x1), .int (zi x2), .int (zi x3), .int (zi x4), .int (zi x5), .int (zi x6), .int (zi x7), .int (zi (0)), x9, x10, x11]) (by decide +kernel) rfl).trans ?_
      rfl
theorem ze_209_214 {V : zVt} {J : zJt} {d : Nat → Nat → UInt64} (x1 : Int) (x2 : Int) (x3 : Int) (x4 : Int) (x5 : Int) (x6 : Int) (x7 : Int) (x8 : Int) (x9 : Value) (x10 : Value) (x11 : Value) : zGo false 209 214 [.ref 430, .int (zi x1), .int (zi x2), .int (zi x3), .int (zi x4), .int (zi x5), .int (zi x6), .int (zi x7), .int (zi x8), x9, x10, x11] [] (zm V J d) =
    (if qw x7 ≤ qw x8 then zGo false 209 400 [.ref 430, .int (zi x1), .int (zi x2), .int (zi x3), .int (zi x4), .int (zi x5), .int (zi x6), .int (zi x7), .int (zi x8), x9, x10, x11] [] (zm V J d) else zck (0 ≤ qw x7 ∧ qw x7 < (5 : Nat)) ((if qw (V 449 (qw x7)) ≤ qw x1 then zGo false 209 400 [.ref 430, .int (zi x1), .int (zi x2), .int (zi x3), .int (zi x4), .int (zi x5), .int (zi x6), .int (zi x7), .int (zi x8), x9, x10, x11] [] (zm V J d) else zGo false 209 235 [.ref 430, .int (zi x1), .int (zi x2), .int (zi x3), .int (zi x4), .int (zi x5), .int (zi x6), .int (zi x7), .int (zi x8), .int (zi (0)), x10, x11] [] (zm V J d)))) := by
  refine (zr_iload (n := 8) (x := zi x8) (by decide +kernel) rfl).trans ?_
  refine (zr_iload (n := 7) (x := zi x7) (by decide +kernel) rfl).trans ?_
  refine (zr_cge (off := 182) (a := x8) (b := x7) (t := 400) (by decide +kernel) rfl).trans (zif_ct (fun _ => ?_) (fun _ => ?_))
  · rfl
  · refine (zr_iload_n (n := 1) (x := zi x1) (by decide +kernel) rfl).trans ?_
    refine (zr_aload_n (n := 0) (x := 430) (by decide +kernel) rfl).trans ?_
    refine (zr_getR (i := 65) (c := 12) (k := 30) (r := 449) (by decide +kernel) (by decide +kernel) rfl (by decide +kernel) (zR0_f (o := 430) (c := 12) (n := 0) (k := 30) (j := 19) rfl (by decide) rfl)).trans ?_
    refine (zr_iload (n := 7) (x := zi x7) (by decide +kernel) rfl).trans ?_
    refine (zr_iald (n := 5) (e := x7) (by decide +kernel) rfl).trans (zck_ct fun _ => ?_)
    refine (zr_cge (off := 171) (a := x1) (b := (V 449 (qw x7))) (t := 400) (by decide +kernel) rfl).trans (zif_ct (fun _ => ?_) (fun _ => ?_))
    · rfl
    · refine (zr_iconst (n := 0) (by decide +kernel)).trans ?_
      refine (zr_istore (n := 9) (l1 := [.ref 430, .int (zi x1), .int (zi x2), .int (zi x3), .int (zi x4), .int (zi x5), .int (zi x6), .int (zi x7), .int (zi x8), .int (zi (0)), x10, x11]) (by decide +kernel) rfl).trans ?_
      rfl
theorem ze_209_235 {V : zVt} {J : zJt} {d : Nat → Nat → UInt64} (x1 : Int) (x2 : Int) (x3 : Int) (x4 : Int) (x5 : Int) (x6 : Int) (x7 : Int) (x8 : Int) (x9 : Int) (x10 : Value) (x11 : Value) : zGo false 209 235 [.ref 430, .int (zi x1), .int (zi x2), .int (zi x3), .int (zi x4), .int (zi x5), .int (zi x6), .int (zi x7), .int (zi x8), .int (zi x9), x10, x11] [] (zm V J d) =
    zck (0 ≤ qw x7 ∧ qw x7 < (5 : Nat)) ((if qw (V 450 (qw x7)) ≤ qw x9 then zGo false 209 394 [.ref 430, .int (zi x1), .int (zi x2), .int (zi x3), .int (zi x4), .int (zi x5), .int (zi x6), .int (zi x7), .int (zi x8), .int (zi x9), x10, x11] [] (zm V J d) else zck (0 ≤ qw x8 ∧ qw x8 < (5 : Nat)) ((if qw (V 449 (qw x8)) ≤ qw x1 then zGo false 209 394 [.ref 430, .int (zi x1), .int (zi x2), .int (zi x3), .int (zi x4), .int (zi x5), .int (zi x6), .int (zi x7), .int (zi x8), .int (zi x9), x10, x11] [] (zm V J d) else (zGo false 185 0 [.ref 430, .int (zi x7), .int (zi x1), .int (zi x9), .null, .null, .null] [] (zm V J d)).bind (zGor false 209 267 [.ref 430, .int (zi x1), .int (zi x2), .int (zi x3), .int (zi x4), .int (zi x5), .int (zi x6), .int (zi x7), .int (zi x8), .int (zi x9), x10, x11] []))))) := by
  refine (zr_iload (n := 9) (x := zi x9) (by decide +kernel) rfl).trans ?_
  refine (zr_aload_n (n := 0) (x := 430) (by decide +kernel) rfl).trans ?_
  refine (zr_getR (i := 68) (c := 12) (k := 31) (r := 450) (by decide +kernel) (by decide +kernel) rfl (by decide +kernel) (zR0_f (o := 430) (c := 12) (n := 0) (k := 31) (j := 20) rfl (by decide) rfl)).trans ?_
  refine (zr_iload (n := 7) (x := zi x7) (by decide +kernel) rfl).trans ?_
  refine (zr_iald (n := 5) (e := x7) (by decide +kernel) rfl).trans (zck_ct fun _ => ?_)
  refine (zr_cge (off := 150) (a := x9) (b := (V 450 (qw x7))) (t := 394) (by decide +kernel) rfl).trans (zif_ct (fun _ => ?_) (fun _ => ?_))
  · rfl
  · refine (zr_iload_n (n := 1) (x := zi x1) (by decide +kernel) rfl).trans ?_
    refine (zr_aload_n (n := 0) (x := 430) (by decide +kernel) rfl).trans ?_
    refine (zr_getR (i := 65) (c := 12) (k := 30) (r := 449) (by decide +kernel) (by decide +kernel) rfl (by decide +kernel) (zR0_f (o := 430) (c := 12) (n := 0) (k := 30) (j := 19) rfl (by decide) rfl)).trans ?_
    refine (zr_iload (n := 8) (x := zi x8) (by decide +kernel) rfl).trans ?_
    refine (zr_iald (n := 5) (e := x8) (by decide +kernel) rfl).trans (zck_ct fun _ => ?_)
    refine (zr_cge (off := 139) (a := x1) (b := (V 449 (qw x8))) (t := 394) (by decide +kernel) rfl).trans (zif_ct (fun _ => ?_) (fun _ => ?_))
    · rfl
    · refine (zr_aload_n (n := 0) (x := 430) (by decide +kernel) rfl).trans ?_
      refine (zr_iload (n := 7) (x := zi x7) (by decide +kernel) rfl).trans ?_
      refine (zr_iload_n (n := 1) (x := zi x1) (by decide +kernel) rfl).trans ?_
      refine (zr_iload (n := 9) (x := zi x9) (by decide +kernel) rfl).trans ?_
      exact zr_cV (i := 296) (z := 185) (w := 0) (o := 430) (t := [.int (zi x9), .int (zi x1), .int (zi x7)]) (rest := []) (L := [.ref 430, .int (zi x7), .int (zi x1), .int (zi x9), .null, .null, .null]) (pc1 := 267) (by decide +kernel) (by decide +kernel) rfl (n := 3) (r := 0) rfl rfl rfl (by decide +kernel) rfl rfl
theorem ze_209_267 {V : zVt} {J : zJt} {d : Nat → Nat → UInt64} (x1 : Int) (x2 : Int) (x3 : Int) (x4 : Int) (x5 : Int) (x6 : Int) (x7 : Int) (x8 : Int) (x9 : Int) (x10 : Value) (x11 : Value) (s0 : Int) : zGo false 209 267 [.ref 430, .int (zi x1), .int (zi x2), .int (zi x3), .int (zi x4), .int (zi x5), .int (zi x6), .int (zi x7), .int (zi x8), .int (zi x9), x10, x11] [.int (zi s0)] (zm V J d) =
    (if qw s0 = qw (-2) then zGo false 209 314 [.ref 430, .int (zi x1), .int (zi x2), .int (zi x3), .int (zi x4), .int (zi x5), .int (zi x6), .int (zi x7), .int (zi x8), .int (zi x9), x10, x11] [] (zm V J d) else (zGo false 185 0 [.ref 430, .int (zi x8), .int (zi x1), .int (zi x9), .null, .null, .null] [] (zm V J d)).bind (zGor false 209 281 [.ref 430, .int (zi x1), .int (zi x2), .int (zi x3), .int (zi x4), .int (zi x5), .int (zi x6), .int (zi x7), .int (zi x8), .int (zi x9), x10, x11] [])) := by
  refine (zr_bipush (n := -2) (by decide +kernel) rfl).trans ?_
  refine (zr_ceq (off := 45) (a := s0) (b := (-2)) (t := 314) (by decide +kernel) rfl).trans (zif_ct (fun _ => ?_) (fun _ => ?_))
  · rfl
  · refine (zr_aload_n (n := 0) (x := 430) (by decide +kernel) rfl).trans ?_
    refine (zr_iload (n := 8) (x := zi x8) (by decide +kernel) rfl).trans ?_
    refine (zr_iload_n (n := 1) (x := zi x1) (by decide +kernel) rfl).trans ?_
    refine (zr_iload (n := 9) (x := zi x9) (by decide +kernel) rfl).trans ?_
    exact zr_cV (i := 296) (z := 185) (w := 0) (o := 430) (t := [.int (zi x9), .int (zi x1), .int (zi x8)]) (rest := []) (L := [.ref 430, .int (zi x8), .int (zi x1), .int (zi x9), .null, .null, .null]) (pc1 := 281) (by decide +kernel) (by decide +kernel) rfl (n := 3) (r := 0) rfl rfl rfl (by decide +kernel) rfl rfl
theorem ze_209_281 {V : zVt} {J : zJt} {d : Nat → Nat → UInt64} (x1 : Int) (x2 : Int) (x3 : Int) (x4 : Int) (x5 : Int) (x6 : Int) (x7 : Int) (x8 : Int) (x9 : Int) (x10 : Value) (x11 : Value) (s0 : Int) : zGo false 209 281 [.ref 430, .int (zi x1), .int (zi x2), .int (zi x3), .int (zi x4), .int (zi x5), .int (zi x6), .int (zi x7), .int (zi x8), .int (zi x9), x10, x11] [.int (zi s0)] (zm V J d) =
    (if qw s0 = qw (-2) then zGo false 209 314 [.ref 430, .int (zi x1), .int (zi x2), .int (zi x3), .int (zi x4), .int (zi x5), .int (zi x6), .int (zi x7), .int (zi x8), .int (zi x9), x10, x11] [] (zm V J d) else (zGo false 203 0 [.ref 430, .int (zi x7), .int (zi x1), .int (zi x9)] [] (zm V J d)).bind (zGor false 209 295 [.ref 430, .int (zi x1), .int (zi x2), .int (zi x3), .int (zi x4), .int (zi x5), .int (zi x6), .int (zi x7), .int (zi x8), .int (zi x9), x10, x11] [])) := by
  refine (zr_bipush (n := -2) (by decide +kernel) rfl).trans ?_
  refine (zr_ceq (off := 31) (a := s0) (b := (-2)) (t := 314) (by decide +kernel) rfl).trans (zif_ct (fun _ => ?_) (fun _ => ?_))
  · rfl
  · refine (zr_aload_n (n := 0) (x := 430) (by decide +kernel) rfl).trans ?_
    refine (zr_iload (n := 7) (x := zi x7) (by decide +kernel) rfl).trans ?_
    refine (zr_iload_n (n := 1) (x := zi x1) (by decide +kernel) rfl).trans ?_
    refine (zr_iload (n := 9) (x := zi x9) (by decide +kernel) rfl).trans ?_
    exact zr_cV (i := 325) (z := 203) (w := 0) (o := 430) (t := [.int (zi x9), .int (zi x1), .int (zi x7)]) (rest := []) (L := [.ref 430, .int (zi x7), .int (zi x1), .int (zi x9)]) (pc1 := 295) (by decide +kernel) (by decide +kernel) rfl (n := 3) (r := 0) rfl rfl rfl (by decide +kernel) rfl rfl
theorem ze_209_295 {V : zVt} {J : zJt} {d : Nat → Nat → UInt64} (x1 : Int) (x2 : Int) (x3 : Int) (x4 : Int) (x5 : Int) (x6 : Int) (x7 : Int) (x8 : Int) (x9 : Int) (x10 : Value) (x11 : Value) (s0 : Int) : zGo false 209 295 [.ref 430, .int (zi x1), .int (zi x2), .int (zi x3), .int (zi x4), .int (zi x5), .int (zi x6), .int (zi x7), .int (zi x8), .int (zi x9), x10, x11] [.int (zi s0)] (zm V J d) =
    (if qw s0 ≠ 0 then zGo false 209 310 [.ref 430, .int (zi x1), .int (zi x2), .int (zi x3), .int (zi x4), .int (zi x5), .int (zi x6), .int (zi x7), .int (zi x8), .int (zi x9), x10, x11] [] (zm V J d) else (zGo false 203 0 [.ref 430, .int (zi x8), .int (zi x1), .int (zi x9)] [] (zm V J d)).bind (zGor false 209 307 [.ref 430, .int (zi x1), .int (zi x2), .int (zi x3), .int (zi x4), .int (zi x5), .int (zi x6), .int (zi x7), .int (zi x8), .int (zi x9), x10, x11] [])) := by
  refine (zr_ifne (off := 15) (a := s0) (t := 310) (by decide +kernel) rfl).trans (zif_ct (fun _ => ?_) (fun _ => ?_))
  · rfl
  · refine (zr_aload_n (n := 0) (x := 430) (by decide +kernel) rfl).trans ?_
    refine (zr_iload (n := 8) (x := zi x8) (by decide +kernel) rfl).trans ?_
    refine (zr_iload_n (n := 1) (x := zi x1) (by decide +kernel) rfl).trans ?_
    refine (zr_iload (n := 9) (x := zi x9) (by decide +kernel) rfl).trans ?_
    exact zr_cV (i := 325) (z := 203) (w := 0) (o := 430) (t := [.int (zi x9), .int (zi x1), .int (zi x8)]) (rest := []) (L := [.ref 430, .int (zi x8), .int (zi x1), .int (zi x9)]) (pc1 := 307) (by decide +kernel) (by decide +kernel) rfl (n := 3) (r := 0) rfl rfl rfl (by decide +kernel) rfl rfl
theorem ze_209_307 {V : zVt} {J : zJt} {d : Nat → Nat → UInt64} (x1 : Int) (x2 : Int) (x3 : Int) (x4 : Int) (x5 : Int) (x6 : Int) (x7 : Int) (x8 : Int) (x9 : Int) (x10 : Value) (x11 : Value) (s0 : Int) : zGo false 209 307 [.ref 430, .int (zi x1), .int (zi x2), .int (zi x3), .int (zi x4), .int (zi x5), .int (zi x6), .int (zi x7), .int (zi x8), .int (zi x9), x10, x11] [.int (zi s0)] (zm V J d) =
    (if qw s0 = 0 then zGo false 209 314 [.ref 430, .int (zi x1), .int (zi x2), .int (zi x3), .int (zi x4), .int (zi x5), .int (zi x6), .int (zi x7), .int (zi x8), .int (zi x9), x10, x11] [] (zm V J d) else zGo false 209 310 [.ref 430, .int (zi x1), .int (zi x2), .int (zi x3), .int (zi x4), .int (zi x5), .int (zi x6), .int (zi x7), .int (zi x8), .int (zi x9), x10, x11] [] (zm V J d)) := by
  refine (zr_ifeq (off := 7) (a := s0) (t := 314) (by decide +kernel) rfl).trans (zif_ct (fun _ => ?_) (fun _ => ?_))
  · rfl
  · rfl
theorem ze_209_310 {V : zVt} {J : zJt} {d : Nat → Nat → UInt64} (x1 : Int) (x2 : Int) (x3 : Int) (x4 : Int) (x5 : Int) (x6 : Int) (x7 : Int) (x8 : Int) (x9 : Int) (x10 : Value) (x11 : Value) : zGo false 209 310 [.ref 430, .int (zi x1), .int (zi x2), .int (zi x3), .int (zi x4), .int (zi x5), .int (zi x6), .int (zi x7), .int (zi x8), .int (zi x9), x10, x11] [] (zm V J d) =
    zGo false 209 315 [.ref 430, .int (zi x1), .int (zi x2), .int (zi x3), .int (zi x4), .int (zi x5), .int (zi x6), .int (zi x7), .int (zi x8), .int (zi x9), x10, x11] [.int (zi (1))] (zm V J d) := by
  refine (zr_iconst (n := 1) (by decide +kernel)).trans ?_
  refine (zr_goto (off := 4) (t := 315) (by decide +kernel) rfl).trans ?_
  rfl
theorem ze_209_314 {V : zVt} {J : zJt} {d : Nat → Nat → UInt64} (x1 : Int) (x2 : Int) (x3 : Int) (x4 : Int) (x5 : Int) (x6 : Int) (x7 : Int) (x8 : Int) (x9 : Int) (x10 : Value) (x11 : Value) : zGo false 209 314 [.ref 430, .int (zi x1), .int (zi x2), .int (zi x3), .int (zi x4), .int (zi x5), .int (zi x6), .int (zi x7), .int (zi x8), .int (zi x9), x10, x11] [] (zm V J d) =
    zGo false 209 315 [.ref 430, .int (zi x1), .int (zi x2), .int (zi x3), .int (zi x4), .int (zi x5), .int (zi x6), .int (zi x7), .int (zi x8), .int (zi x9), x10, x11] [.int (zi (0))] (zm V J d) := by
  refine (zr_iconst (n := 0) (by decide +kernel)).trans ?_
  rfl
theorem ze_209_315 {V : zVt} {J : zJt} {d : Nat → Nat → UInt64} (x1 : Int) (x2 : Int) (x3 : Int) (x4 : Int) (x5 : Int) (x6 : Int) (x7 : Int) (x8 : Int) (x9 : Int) (x10 : Value) (x11 : Value) (s0 : Int) : zGo false 209 315 [.ref 430, .int (zi x1), .int (zi x2), .int (zi x3), .int (zi x4), .int (zi x5), .int (zi x6), .int (zi x7), .int (zi x8), .int (zi x9), x10, x11] [.int (zi s0)] (zm V J d) =
    (zGo false 185 0 [.ref 430, .int (zi x7), .int (zi x1), .int (zi x9), .null, .null, .null] [] (zm V J d)).bind (zGor false 209 326 [.ref 430, .int (zi x1), .int (zi x2), .int (zi x3), .int (zi x4), .int (zi x5), .int (zi x6), .int (zi x7), .int (zi x8), .int (zi x9), .int (zi s0), x11] []) := by
  refine (zr_istore (n := 10) (l1 := [.ref 430, .int (zi x1), .int (zi x2), .int (zi x3), .int (zi x4), .int (zi x5), .int (zi x6), .int (zi x7), .int (zi x8), .int (zi x9), .int (zi s0), x11]) (by decide +kernel) rfl).trans ?_
  refine (zr_aload_n (n := 0) (x := 430) (by decide +kernel) rfl).trans ?_
  refine (zr_iload (n := 7) (x := zi x7) (by decide +kernel) rfl).trans ?_
  refine (zr_iload_n (n := 1) (x := zi x1) (by decide +kernel) rfl).trans ?_
  refine (zr_iload (n := 9) (x := zi x9) (by decide +kernel) rfl).trans ?_
  exact zr_cV (i := 296) (z := 185) (w := 0) (o := 430) (t := [.int (zi x9), .int (zi x1), .int (zi x7)]) (rest := []) (L := [.ref 430, .int (zi x7), .int (zi x1), .int (zi x9), .null, .null, .null]) (pc1 := 326) (by decide +kernel) (by decide +kernel) rfl (n := 3) (r := 0) rfl rfl rfl (by decide +kernel) rfl rfl
theorem ze_209_326 {V : zVt} {J : zJt} {d : Nat → Nat → UInt64} (x1 : Int) (x2 : Int) (x3 : Int) (x4 : Int) (x5 : Int) (x6 : Int) (x7 : Int) (x8 : Int) (x9 : Int) (x10 : Int) (x11 : Value) (s0 : Int) : zGo false 209 326 [.ref 430, .int (zi x1), .int (zi x2), .int (zi x3), .int (zi x4), .int (zi x5), .int (zi x6), .int (zi x7), .int (zi x8), .int (zi x9), .int (zi x10), x11] [.int (zi s0)] (zm V J d) =
    (zGo false 185 0 [.ref 430, .int (zi x8), .int (zi x1), .int (zi x9), .null, .null, .null] [] (zm V J d)).bind (zGor false 209 335 [.ref 430, .int (zi x1), .int (zi x2), .int (zi x3), .int (zi x4), .int (zi x5), .int (zi x6), .int (zi x7), .int (zi x8), .int (zi x9), .int (zi x10), x11] [.int (zi s0)]) := by
  refine (zr_aload_n (n := 0) (x := 430) (by decide +kernel) rfl).trans ?_
  refine (zr_iload (n := 8) (x := zi x8) (by decide +kernel) rfl).trans ?_
  refine (zr_iload_n (n := 1) (x := zi x1) (by decide +kernel) rfl).trans ?_
  refine (zr_iload (n := 9) (x := zi x9) (by decide +kernel) rfl).trans ?_
  exact zr_cV (i := 296) (z := 185) (w := 0) (o := 430) (t := [.int (zi x9), .int (zi x1), .int (zi x8)]) (rest := [.int (zi s0)]) (L := [.ref 430, .int (zi x8), .int (zi x1), .int (zi x9), .null, .null, .null]) (pc1 := 335) (by decide +kernel) (by decide +kernel) rfl (n := 3) (r := 1) rfl rfl rfl (by decide +kernel) rfl rfl
theorem ze_209_335 {V : zVt} {J : zJt} {d : Nat → Nat → UInt64} (x1 : Int) (x2 : Int) (x3 : Int) (x4 : Int) (x5 : Int) (x6 : Int) (x7 : Int) (x8 : Int) (x9 : Int) (x10 : Int) (x11 : Value) (s0 : Int) (s1 : Int) : zGo false 209 335 [.ref 430, .int (zi x1), .int (zi x2), .int (zi x3), .int (zi x4), .int (zi x5), .int (zi x6), .int (zi x7), .int (zi x8), .int (zi x9), .int (zi x10), x11] [.int (zi s1), .int (zi s0)] (zm V J d) =
    (if qw s0 ≤ qw s1 then zGo false 209 343 [.ref 430, .int (zi x1), .int (zi x2), .int (zi x3), .int (zi x4), .int (zi x5), .int (zi x6), .int (zi x7), .int (zi x8), .int (zi x9), .int (zi x10), x11] [.int (zi (0))] (zm V J d) else zGo false 209 343 [.ref 430, .int (zi x1), .int (zi x2), .int (zi x3), .int (zi x4), .int (zi x5), .int (zi x6), .int (zi x7), .int (zi x8), .int (zi x9), .int (zi x10), x11] [.int (zi (1))] (zm V J d)) := by
  refine (zr_cle (off := 7) (a := s0) (b := s1) (t := 342) (by decide +kernel) rfl).trans (zif_ct (fun _ => ?_) (fun _ => ?_))
  · refine (zr_iconst (n := 0) (by decide +kernel)).trans ?_
    rfl
  · refine (zr_iconst (n := 1) (by decide +kernel)).trans ?_
    refine (zr_goto (off := 4) (t := 343) (by decide +kernel) rfl).trans ?_
    rfl
theorem ze_209_343 {V : zVt} {J : zJt} {d : Nat → Nat → UInt64} (x1 : Int) (x2 : Int) (x3 : Int) (x4 : Int) (x5 : Int) (x6 : Int) (x7 : Int) (x8 : Int) (x9 : Int) (x10 : Int) (x11 : Value) (s0 : Int) : zGo false 209 343 [.ref 430, .int (zi x1), .int (zi x2), .int (zi x3), .int (zi x4), .int (zi x5), .int (zi x6), .int (zi x7), .int (zi x8), .int (zi x9), .int (zi x10), x11] [.int (zi s0)] (zm V J d) =
    (if qw x10 ≠ 0 then (if qw x2 ≠ qw (2) then (if qw s0 = 0 then zGo false 209 385 [.ref 430, .int (zi x1), .int (zi x2), .int (zi x3), .int (zi x4), .int (zi x5), .int (zi x6), .int (zi x7), .int (zi x8), .int (zi x9), .int (zi x10), .int (zi s0)] [.int (zi (0)), .int (zi x5)] (zm V J d) else zGo false 209 385 [.ref 430, .int (zi x1), .int (zi x2), .int (zi x3), .int (zi x4), .int (zi x5), .int (zi x6), .int (zi x7), .int (zi x8), .int (zi x9), .int (zi x10), .int (zi s0)] [.int (zi (1)), .int (zi x5)] (zm V J d)) else (zGo false 210 0 [.ref 430, .int (zi x8), .int (zi x7), .int (zi x1), .int (zi x9), .null, .null] [] (zm V J d)).bind (zGor false 209 372 [.ref 430, .int (zi x1), .int (zi x2), .int (zi x3), .int (zi x4), .int (zi x5), .int (zi x6), .int (zi x7), .int (zi x8), .int (zi x9), .int (zi x10), .int (zi s0)] [.int (zi x5)])) else zGo false 209 385 [.ref 430, .int (zi x1), .int (zi x2), .int (zi x3), .int (zi x4), .int (zi x5), .int (zi x6), .int (zi x7), .int (zi x8), .int (zi x9), .int (zi x10), .int (zi s0)] [.int (zi (0)), .int (zi x5)] (zm V J d)) := by
  refine (zr_istore (n := 11) (l1 := [.ref 430, .int (zi x1), .int (zi x2), .int (zi x3), .int (zi x4), .int (zi x5), .int (zi x6), .int (zi x7), .int (zi x8), .int (zi x9), .int (zi x10), .int (zi s0)]) (by decide +kernel) rfl).trans ?_
  refine (zr_iload (n := 5) (x := zi x5) (by decide +kernel) rfl).trans ?_
  refine (zr_iload (n := 10) (x := zi x10) (by decide +kernel) rfl).trans ?_
  refine (zr_ifne (off := 7) (a := x10) (t := 356) (by decide +kernel) rfl).trans (zif_ct (fun _ => ?_) (fun _ => ?_))
  · refine (zr_iload_n (n := 2) (x := zi x2) (by decide +kernel) rfl).trans ?_
    refine (zr_iconst (n := 2) (by decide +kernel)).trans ?_
    refine (zr_cne (off := 17) (a := x2) (b := (2)) (t := 375) (by decide +kernel) rfl).trans (zif_ct (fun _ => ?_) (fun _ => ?_))
    · refine (zr_iload (n := 11) (x := zi s0) (by decide +kernel) rfl).trans ?_
      refine (zr_ifeq (off := 7) (a := s0) (t := 384) (by decide +kernel) rfl).trans (zif_ct (fun _ => ?_) (fun _ => ?_))
      · refine (zr_iconst (n := 0) (by decide +kernel)).trans ?_
        rfl
      · refine (zr_iconst (n := 1) (by decide +kernel)).trans ?_
        refine (zr_goto (off := 4) (t := 385) (by decide +kernel) rfl).trans ?_
        rfl
    · refine (zr_aload_n (n := 0) (x := 430) (by decide +kernel) rfl).trans ?_
      refine (zr_iload (n := 8) (x := zi x8) (by decide +kernel) rfl).trans ?_
      refine (zr_iload (n := 7) (x := zi x7) (by decide +kernel) rfl).trans ?_
      refine (zr_iload_n (n := 1) (x := zi x1) (by decide +kernel) rfl).trans ?_
      refine (zr_iload (n := 9) (x := zi x9) (by decide +kernel) rfl).trans ?_
      exact zr_cV (i := 334) (z := 210) (w := 0) (o := 430) (t := [.int (zi x9), .int (zi x1), .int (zi x7), .int (zi x8)]) (rest := [.int (zi x5)]) (L := [.ref 430, .int (zi x8), .int (zi x7), .int (zi x1), .int (zi x9), .null, .null]) (pc1 := 372) (by decide +kernel) (by decide +kernel) rfl (n := 4) (r := 1) rfl rfl rfl (by decide +kernel) rfl rfl
  · refine (zr_iconst (n := 0) (by decide +kernel)).trans ?_
    refine (zr_goto (off := 32) (t := 385) (by decide +kernel) rfl).trans ?_
    rfl
theorem ze_209_372 {V : zVt} {J : zJt} {d : Nat → Nat → UInt64} (x1 : Int) (x2 : Int) (x3 : Int) (x4 : Int) (x5 : Int) (x6 : Int) (x7 : Int) (x8 : Int) (x9 : Int) (x10 : Int) (x11 : Int) (s0 : Int) (s1 : Int) : zGo false 209 372 [.ref 430, .int (zi x1), .int (zi x2), .int (zi x3), .int (zi x4), .int (zi x5), .int (zi x6), .int (zi x7), .int (zi x8), .int (zi x9), .int (zi x10), .int (zi x11)] [.int (zi s1), .int (zi s0)] (zm V J d) =
    zGo false 209 385 [.ref 430, .int (zi x1), .int (zi x2), .int (zi x3), .int (zi x4), .int (zi x5), .int (zi x6), .int (zi x7), .int (zi x8), .int (zi x9), .int (zi x10), .int (zi x11)] [.int (zi s1), .int (zi s0)] (zm V J d) := by
  refine (zr_goto (off := 13) (t := 385) (by decide +kernel) rfl).trans ?_
  rfl
theorem ze_209_385 {V : zVt} {J : zJt} {d : Nat → Nat → UInt64} (x1 : Int) (x2 : Int) (x3 : Int) (x4 : Int) (x5 : Int) (x6 : Int) (x7 : Int) (x8 : Int) (x9 : Int) (x10 : Int) (x11 : Int) (s0 : Int) (s1 : Int) : zGo false 209 385 [.ref 430, .int (zi x1), .int (zi x2), .int (zi x3), .int (zi x4), .int (zi x5), .int (zi x6), .int (zi x7), .int (zi x8), .int (zi x9), .int (zi x10), .int (zi x11)] [.int (zi s1), .int (zi s0)] (zm V J d) =
    zGo false 209 235 [.ref 430, .int (zi x1), .int (zi x2), .int (zi x3), .int (zi x4), .int (zi (s0 + s1)), .int (zi x6), .int (zi x7), .int (zi x8), .int (zi (x9 + 1)), .int (zi x10), .int (zi x11)] [] (zm V J d) := by
  refine (zr_iadd (a := s0) (b := s1) (by decide +kernel)).trans ?_
  refine (zr_istore (n := 5) (l1 := [.ref 430, .int (zi x1), .int (zi x2), .int (zi x3), .int (zi x4), .int (zi (s0 + s1)), .int (zi x6), .int (zi x7), .int (zi x8), .int (zi x9), .int (zi x10), .int (zi x11)]) (by decide +kernel) rfl).trans ?_
  refine (zr_iinc (n := 9) (k := 1) (x := x9) (l1 := [.ref 430, .int (zi x1), .int (zi x2), .int (zi x3), .int (zi x4), .int (zi (s0 + s1)), .int (zi x6), .int (zi x7), .int (zi x8), .int (zi (x9 + 1)), .int (zi x10), .int (zi x11)]) (by decide +kernel) rfl rfl).trans ?_
  refine (zr_goto (off := -156) (t := 235) (by decide +kernel) rfl).trans ?_
  rfl
theorem ze_209_394 {V : zVt} {J : zJt} {d : Nat → Nat → UInt64} (x1 : Int) (x2 : Int) (x3 : Int) (x4 : Int) (x5 : Int) (x6 : Int) (x7 : Int) (x8 : Int) (x9 : Int) (x10 : Value) (x11 : Value) : zGo false 209 394 [.ref 430, .int (zi x1), .int (zi x2), .int (zi x3), .int (zi x4), .int (zi x5), .int (zi x6), .int (zi x7), .int (zi x8), .int (zi x9), x10, x11] [] (zm V J d) =
    zGo false 209 214 [.ref 430, .int (zi x1), .int (zi x2), .int (zi x3), .int (zi x4), .int (zi x5), .int (zi x6), .int (zi x7), .int (zi (x8 + 1)), .int (zi x9), x10, x11] [] (zm V J d) := by
  refine (zr_iinc (n := 8) (k := 1) (x := x8) (l1 := [.ref 430, .int (zi x1), .int (zi x2), .int (zi x3), .int (zi x4), .int (zi x5), .int (zi x6), .int (zi x7), .int (zi (x8 + 1)), .int (zi x9), x10, x11]) (by decide +kernel) rfl rfl).trans ?_
  refine (zr_goto (off := -183) (t := 214) (by decide +kernel) rfl).trans ?_
  rfl
theorem ze_209_400 {V : zVt} {J : zJt} {d : Nat → Nat → UInt64} (x1 : Int) (x2 : Int) (x3 : Int) (x4 : Int) (x5 : Int) (x6 : Int) (x7 : Int) (x8 : Int) (x9 : Value) (x10 : Value) (x11 : Value) : zGo false 209 400 [.ref 430, .int (zi x1), .int (zi x2), .int (zi x3), .int (zi x4), .int (zi x5), .int (zi x6), .int (zi x7), .int (zi x8), x9, x10, x11] [] (zm V J d) =
    zGo false 209 200 [.ref 430, .int (zi x1), .int (zi x2), .int (zi x3), .int (zi x4), .int (zi x5), .int (zi x6), .int (zi (x7 + 1)), .int (zi x8), x9, x10, x11] [] (zm V J d) := by
  refine (zr_iinc (n := 7) (k := 1) (x := x7) (l1 := [.ref 430, .int (zi x1), .int (zi x2), .int (zi x3), .int (zi x4), .int (zi x5), .int (zi x6), .int (zi (x7 + 1)), .int (zi x8), x9, x10, x11]) (by decide +kernel) rfl rfl).trans ?_
  refine (zr_goto (off := -203) (t := 200) (by decide +kernel) rfl).trans ?_
  rfl
theorem ze_209_406 {V : zVt} {J : zJt} {d : Nat → Nat → UInt64} (x1 : Int) (x2 : Int) (x3 : Int) (x4 : Int) (x5 : Int) (x6 : Int) (x7 : Int) (x8 : Value) (x9 : Value) (x10 : Value) (x11 : Value) : zGo false 209 406 [.ref 430, .int (zi x1), .int (zi x2), .int (zi x3), .int (zi x4), .int (zi x5), .int (zi x6), .int (zi x7), x8, x9, x10, x11] [] (zm V J d) =
    some (.inl (some (.int (zi x5))), zm V J d) := by
  refine (zr_iload (n := 5) (x := zi x5) (by decide +kernel) rfl).trans ?_
  exact zr_iret (a := x5) (by decide +kernel) rfl
/-! PartSongDeskModel harshAt (IIII)I -/
theorem ze_210_0 {V : zVt} {J : zJt} {d : Nat → Nat → UInt64} (x1 : Int) (x2 : Int) (x3 : Int) (x4 : Int) : zGo false 210 0 [.ref 430, .int (zi x1), .int (zi x2), .int (zi x3), .int (zi x4), .null, .null] [] (zm V J d) =
    (zGo false 185 0 [.ref 430, .int (zi x1), .int (zi x3), .int (zi x4), .null, .null, .null] [] (zm V J d)).bind (zGor false 210 8 [.ref 430, .int (zi x1), .int (zi x2), .int (zi x3), .int (zi x4), .null, .null] []) := by
  refine (zr_aload_n (n := 0) (x := 430) (by decide +kernel) rfl).trans ?_
  refine (zr_iload_n (n := 1) (x := zi x1) (by decide +kernel) rfl).trans ?_
  refine (zr_iload_n (n := 3) (x := zi x3) (by decide +kernel) rfl).trans ?_
  refine (zr_iload (n := 4) (x := zi x4) (by decide +kernel) rfl).trans ?_
  exact zr_cV (i := 296) (z := 185) (w := 0) (o := 430) (t := [.int (zi x4), .int (zi x3), .int (zi x1)]) (rest := []) (L := [.ref 430, .int (zi x1), .int (zi x3), .int (zi x4), .null, .null, .null]) (pc1 := 8) (by decide +kernel) (by decide +kernel) rfl (n := 3) (r := 0) rfl rfl rfl (by decide +kernel) rfl rfl
theorem ze_210_8 {V : zVt} {J : zJt} {d : Nat → Nat → UInt64} (x1 : Int) (x2 : Int) (x3 : Int) (x4 : Int) (s0 : Int) : zGo false 210 8 [.ref 430, .int (zi x1), .int (zi x2), .int (zi x3), .int (zi x4), .null, .null] [.int (zi s0)] (zm V J d) =
    (zGo false 185 0 [.ref 430, .int (zi x2), .int (zi x3), .int (zi x4), .null, .null, .null] [] (zm V J d)).bind (zGor false 210 16 [.ref 430, .int (zi x1), .int (zi x2), .int (zi x3), .int (zi x4), .null, .null] [.int (zi s0)]) := by
  refine (zr_aload_n (n := 0) (x := 430) (by decide +kernel) rfl).trans ?_
  refine (zr_iload_n (n := 2) (x := zi x2) (by decide +kernel) rfl).trans ?_
  refine (zr_iload_n (n := 3) (x := zi x3) (by decide +kernel) rfl).trans ?_
  refine (zr_iload (n := 4) (x := zi x4) (by decide +kernel) rfl).trans ?_
  exact zr_cV (i := 296) (z := 185) (w := 0) (o := 430) (t := [.int (zi x4), .int (zi x3), .int (zi x2)]) (rest := [.int (zi s0)]) (L := [.ref 430, .int (zi x2), .int (zi x3), .int (zi x4), .null, .null, .null]) (pc1 := 16) (by decide +kernel) (by decide +kernel) rfl (n := 3) (r := 1) rfl rfl rfl (by decide +kernel) rfl rfl
theorem ze_210_16 {V : zVt} {J : zJt} {d : Nat → Nat → UInt64} (x1 : Int) (x2 : Int) (x3 : Int) (x4 : Int) (s0 : Int) (s1 : Int) : zGo false 210 16 [.ref 430, .int (zi x1), .int (zi x2), .int (zi x3), .int (zi x4), .null, .null] [.int (zi s1), .int (zi s0)] (zm V J d) =
    (if 0 ≤ qw (s0 - s1) then zGo false 210 32 [.ref 430, .int (zi x1), .int (zi x2), .int (zi x3), .int (zi x4), .int (zi (s0 - s1)), .null] [.int (zi (s0 - s1))] (zm V J d) else zGo false 210 32 [.ref 430, .int (zi x1), .int (zi x2), .int (zi x3), .int (zi x4), .int (zi (s0 - s1)), .null] [.int (zi (-(s0 - s1)))] (zm V J d)) := by
  refine (zr_isub (a := s0) (b := s1) (by decide +kernel)).trans ?_
  refine (zr_istore (n := 5) (l1 := [.ref 430, .int (zi x1), .int (zi x2), .int (zi x3), .int (zi x4), .int (zi (s0 - s1)), .null]) (by decide +kernel) rfl).trans ?_
  refine (zr_iload (n := 5) (x := zi (s0 - s1)) (by decide +kernel) rfl).trans ?_
  refine (zr_ifge (off := 9) (a := (s0 - s1)) (t := 30) (by decide +kernel) rfl).trans (zif_ct (fun _ => ?_) (fun _ => ?_))
  · refine (zr_iload (n := 5) (x := zi (s0 - s1)) (by decide +kernel) rfl).trans ?_
    rfl
  · refine (zr_iload (n := 5) (x := zi (s0 - s1)) (by decide +kernel) rfl).trans ?_
    refine (zr_ineg (a := (s0 - s1)) (by decide +kernel)).trans ?_
    refine (zr_goto (off := 5) (t := 32) (by decide +kernel) rfl).trans ?_
    rfl
theorem ze_210_32 {V : zVt} {J : zJt} {d : Nat → Nat → UInt64} (x1 : Int) (x2 : Int) (x3 : Int) (x4 : Int) (x5 : Int) (s0 : Int) : zGo false 210 32 [.ref 430, .int (zi x1), .int (zi x2), .int (zi x3), .int (zi x4), .int (zi x5), .null] [.int (zi s0)] (zm V J d) =
    zck (qw (12) ≠ 0) ((if qw (qrem s0 (12)) = qw (1) then zGo false 210 50 [.ref 430, .int (zi x1), .int (zi x2), .int (zi x3), .int (zi x4), .int (zi x5), .int (zi (qrem s0 (12)))] [] (zm V J d) else (if qw (qrem s0 (12)) ≠ qw (11) then zGo false 210 55 [.ref 430, .int (zi x1), .int (zi x2), .int (zi x3), .int (zi x4), .int (zi x5), .int (zi (qrem s0 (12)))] [.int (zi (0))] (zm V J d) else zGo false 210 50 [.ref 430, .int (zi x1), .int (zi x2), .int (zi x3), .int (zi x4), .int (zi x5), .int (zi (qrem s0 (12)))] [] (zm V J d)))) := by
  refine (zr_bipush (n := 12) (by decide +kernel) rfl).trans ?_
  refine (zr_irem (a := s0) (b := (12)) (by decide +kernel)).trans (zck_ct fun _ => ?_)
  refine (zr_istore (n := 6) (l1 := [.ref 430, .int (zi x1), .int (zi x2), .int (zi x3), .int (zi x4), .int (zi x5), .int (zi (qrem s0 (12)))]) (by decide +kernel) rfl).trans ?_
  refine (zr_iload (n := 6) (x := zi (qrem s0 (12))) (by decide +kernel) rfl).trans ?_
  refine (zr_iconst (n := 1) (by decide +kernel)).trans ?_
  refine (zr_ceq (off := 10) (a := (qrem s0 (12))) (b := (1)) (t := 50) (by decide +kernel) rfl).trans (zif_ct (fun _ => ?_) (fun _ => ?_))
  · rfl
  · refine (zr_iload (n := 6) (x := zi (qrem s0 (12))) (by decide +kernel) rfl).trans ?_
    refine (zr_bipush (n := 11) (by decide +kernel) rfl).trans ?_
    refine (zr_cne (off := 7) (a := (qrem s0 (12))) (b := (11)) (t := 54) (by decide +kernel) rfl).trans (zif_ct (fun _ => ?_) (fun _ => ?_))
    · refine (zr_iconst (n := 0) (by decide +kernel)).trans ?_
      rfl
    · rfl
theorem ze_210_50 {V : zVt} {J : zJt} {d : Nat → Nat → UInt64} (x1 : Int) (x2 : Int) (x3 : Int) (x4 : Int) (x5 : Int) (x6 : Int) : zGo false 210 50 [.ref 430, .int (zi x1), .int (zi x2), .int (zi x3), .int (zi x4), .int (zi x5), .int (zi x6)] [] (zm V J d) =
    zGo false 210 55 [.ref 430, .int (zi x1), .int (zi x2), .int (zi x3), .int (zi x4), .int (zi x5), .int (zi x6)] [.int (zi (1))] (zm V J d) := by
  refine (zr_iconst (n := 1) (by decide +kernel)).trans ?_
  refine (zr_goto (off := 4) (t := 55) (by decide +kernel) rfl).trans ?_
  rfl
theorem ze_210_55 {V : zVt} {J : zJt} {d : Nat → Nat → UInt64} (x1 : Int) (x2 : Int) (x3 : Int) (x4 : Int) (x5 : Int) (x6 : Int) (s0 : Int) : zGo false 210 55 [.ref 430, .int (zi x1), .int (zi x2), .int (zi x3), .int (zi x4), .int (zi x5), .int (zi x6)] [.int (zi s0)] (zm V J d) =
    some (.inl (some (.int (zi s0))), zm V J d) := by
  exact zr_iret (a := s0) (by decide +kernel) rfl
/-! PartSongDeskModel clashesOf (II)I -/
theorem ze_211_0 {V : zVt} {J : zJt} {d : Nat → Nat → UInt64} (x1 : Int) (x2 : Int) : zGo false 211 0 [.ref 430, .int (zi x1), .int (zi x2), .null, .null] [] (zm V J d) =
    (zGo false 147 0 [.int (zi x1), .int (zi (3))] [] (zm V J d)).bind (zGor false 211 6 [.ref 430, .int (zi x1), .int (zi x2), .null, .null] [.ref 430]) := by
  refine (zr_aload_n (n := 0) (x := 430) (by decide +kernel) rfl).trans ?_
  refine (zr_iload_n (n := 1) (x := zi x1) (by decide +kernel) rfl).trans ?_
  refine (zr_iconst (n := 3) (by decide +kernel)).trans ?_
  exact zr_cS (i := 145) (z := 147) (w := 0) (t := [.int (zi (3)), .int (zi x1)]) (rest := [.ref 430]) (L := [.int (zi x1), .int (zi (3))]) (pc1 := 6) (by decide +kernel) (by decide +kernel) (n := 2) (r := 1) rfl rfl rfl (by decide +kernel) rfl rfl
theorem ze_211_6 {V : zVt} {J : zJt} {d : Nat → Nat → UInt64} (x1 : Int) (x2 : Int) (s1 : Int) : zGo false 211 6 [.ref 430, .int (zi x1), .int (zi x2), .null, .null] [.int (zi s1), .ref 430] (zm V J d) =
    (zGo false 148 0 [.int (zi x2), .int (zi (0)), .int (zi (3))] [] (zm V J d)).bind (zGor false 211 12 [.ref 430, .int (zi x1), .int (zi x2), .null, .null] [.int (zi s1), .ref 430]) := by
  refine (zr_iload_n (n := 2) (x := zi x2) (by decide +kernel) rfl).trans ?_
  refine (zr_iconst (n := 0) (by decide +kernel)).trans ?_
  refine (zr_iconst (n := 3) (by decide +kernel)).trans ?_
  exact zr_cS (i := 170) (z := 148) (w := 0) (t := [.int (zi (3)), .int (zi (0)), .int (zi x2)]) (rest := [.int (zi s1), .ref 430]) (L := [.int (zi x2), .int (zi (0)), .int (zi (3))]) (pc1 := 12) (by decide +kernel) (by decide +kernel) (n := 3) (r := 2) rfl rfl rfl (by decide +kernel) rfl rfl
theorem ze_211_12 {V : zVt} {J : zJt} {d : Nat → Nat → UInt64} (x1 : Int) (x2 : Int) (s1 : Int) (s2 : Int) : zGo false 211 12 [.ref 430, .int (zi x1), .int (zi x2), .null, .null] [.int (zi s2), .int (zi s1), .ref 430] (zm V J d) =
    (zGo false 150 0 [.ref 430, .int (zi s1), .int (zi s2), .int (zi (1))] [] (zm V J d)).bind (zGor false 211 16 [.ref 430, .int (zi x1), .int (zi x2), .null, .null] []) := by
  refine (zr_iconst (n := 1) (by decide +kernel)).trans ?_
  exact zr_cV (i := 289) (z := 150) (w := 0) (o := 430) (t := [.int (zi (1)), .int (zi s2), .int (zi s1)]) (rest := []) (L := [.ref 430, .int (zi s1), .int (zi s2), .int (zi (1))]) (pc1 := 16) (by decide +kernel) (by decide +kernel) rfl (n := 3) (r := 0) rfl rfl rfl (by decide +kernel) rfl rfl
theorem ze_211_16 {V : zVt} {J : zJt} {d : Nat → Nat → UInt64} (x1 : Int) (x2 : Int) (s0 : Int) : zGo false 211 16 [.ref 430, .int (zi x1), .int (zi x2), .null, .null] [.int (zi s0)] (zm V J d) =
    (if qw s0 ≠ 0 then (zGo false 208 0 [.ref 430, .int (zi x1), .null, .null] [] (zm V J d)).bind (zGor false 211 26 [.ref 430, .int (zi x1), .int (zi x2), .null, .null] []) else some (.inl (some (.int (zi (0)))), zm V J d)) := by
  refine (zr_ifne (off := 5) (a := s0) (t := 21) (by decide +kernel) rfl).trans (zif_ct (fun _ => ?_) (fun _ => ?_))
  · refine (zr_aload_n (n := 0) (x := 430) (by decide +kernel) rfl).trans ?_
    refine (zr_iload_n (n := 1) (x := zi x1) (by decide +kernel) rfl).trans ?_
    exact zr_cV (i := 338) (z := 208) (w := 0) (o := 430) (t := [.int (zi x1)]) (rest := []) (L := [.ref 430, .int (zi x1), .null, .null]) (pc1 := 26) (by decide +kernel) (by decide +kernel) rfl (n := 1) (r := 0) rfl rfl rfl (by decide +kernel) rfl rfl
  · refine (zr_iconst (n := 0) (by decide +kernel)).trans ?_
    exact zr_iret (a := (0)) (by decide +kernel) rfl
theorem ze_211_26 {V : zVt} {J : zJt} {d : Nat → Nat → UInt64} (x1 : Int) (x2 : Int) : zGo false 211 26 [.ref 430, .int (zi x1), .int (zi x2), .null, .null] [] (zm V J d) =
    zGo false 211 31 [.ref 430, .int (zi x1), .int (zi x2), .int (zi (0)), .int (zi (0))] [] (zm V J d) := by
  refine (zr_iconst (n := 0) (by decide +kernel)).trans ?_
  refine (zr_istore_n (n := 3) (l1 := [.ref 430, .int (zi x1), .int (zi x2), .int (zi (0)), .null]) (by decide +kernel) rfl).trans ?_
  refine (zr_iconst (n := 0) (by decide +kernel)).trans ?_
  refine (zr_istore (n := 4) (l1 := [.ref 430, .int (zi x1), .int (zi x2), .int (zi (0)), .int (zi (0))]) (by decide +kernel) rfl).trans ?_
  rfl
theorem ze_211_31 {V : zVt} {J : zJt} {d : Nat → Nat → UInt64} (x1 : Int) (x2 : Int) (x3 : Int) (x4 : Int) : zGo false 211 31 [.ref 430, .int (zi x1), .int (zi x2), .int (zi x3), .int (zi x4)] [] (zm V J d) =
    (if qw (40) ≤ qw x4 then some (.inl (some (.int (zi x3))), zm V J d) else (zGo false 209 0 [.ref 430, .int (zi x4), .int (zi x2), .null, .null, .null, .null, .null, .null, .null, .null, .null] [] (zm V J d)).bind (zGor false 211 46 [.ref 430, .int (zi x1), .int (zi x2), .int (zi x3), .int (zi x4)] [.int (zi x3)])) := by
  refine (zr_iload (n := 4) (x := zi x4) (by decide +kernel) rfl).trans ?_
  refine (zr_bipush (n := 40) (by decide +kernel) rfl).trans ?_
  refine (zr_cge (off := 19) (a := x4) (b := (40)) (t := 54) (by decide +kernel) rfl).trans (zif_ct (fun _ => ?_) (fun _ => ?_))
  · refine (zr_iload_n (n := 3) (x := zi x3) (by decide +kernel) rfl).trans ?_
    exact zr_iret (a := x3) (by decide +kernel) rfl
  · refine (zr_iload_n (n := 3) (x := zi x3) (by decide +kernel) rfl).trans ?_
    refine (zr_aload_n (n := 0) (x := 430) (by decide +kernel) rfl).trans ?_
    refine (zr_iload (n := 4) (x := zi x4) (by decide +kernel) rfl).trans ?_
    refine (zr_iload_n (n := 2) (x := zi x2) (by decide +kernel) rfl).trans ?_
    exact zr_cV (i := 341) (z := 209) (w := 0) (o := 430) (t := [.int (zi x2), .int (zi x4)]) (rest := [.int (zi x3)]) (L := [.ref 430, .int (zi x4), .int (zi x2), .null, .null, .null, .null, .null, .null, .null, .null, .null]) (pc1 := 46) (by decide +kernel) (by decide +kernel) rfl (n := 2) (r := 1) rfl rfl rfl (by decide +kernel) rfl rfl
theorem ze_211_46 {V : zVt} {J : zJt} {d : Nat → Nat → UInt64} (x1 : Int) (x2 : Int) (x3 : Int) (x4 : Int) (s0 : Int) (s1 : Int) : zGo false 211 46 [.ref 430, .int (zi x1), .int (zi x2), .int (zi x3), .int (zi x4)] [.int (zi s1), .int (zi s0)] (zm V J d) =
    zGo false 211 31 [.ref 430, .int (zi x1), .int (zi x2), .int (zi (s0 + s1)), .int (zi (x4 + 1))] [] (zm V J d) := by
  refine (zr_iadd (a := s0) (b := s1) (by decide +kernel)).trans ?_
  refine (zr_istore_n (n := 3) (l1 := [.ref 430, .int (zi x1), .int (zi x2), .int (zi (s0 + s1)), .int (zi x4)]) (by decide +kernel) rfl).trans ?_
  refine (zr_iinc (n := 4) (k := 1) (x := x4) (l1 := [.ref 430, .int (zi x1), .int (zi x2), .int (zi (s0 + s1)), .int (zi (x4 + 1))]) (by decide +kernel) rfl rfl).trans ?_
  refine (zr_goto (off := -20) (t := 31) (by decide +kernel) rfl).trans ?_
  rfl
/-! PartSongDeskModel day ()I -/
theorem ze_212_0 {V : zVt} {J : zJt} {d : Nat → Nat → UInt64} : zGo false 212 0 [.ref 430, .null] [] (zm V J d) =
    zGo false 212 17 [.ref 430, .int (zi (0))] [] (zm (vup (vup V 430 60 (0)) 430 46 (((vup V 430 60 (0)) 430 46) + (1))) J d) := by
  refine (zr_aload_n (n := 0) (x := 430) (by decide +kernel) rfl).trans ?_
  refine (zr_iconst (n := 0) (by decide +kernel)).trans ?_
  refine (zr_putI (i := 141) (c := 12) (k := 60) (x := (0)) (by decide +kernel) (by decide +kernel) rfl (by decide +kernel)).trans ?_
  refine (zr_aload_n (n := 0) (x := 430) (by decide +kernel) rfl).trans ?_
  refine (zr_dup (by decide +kernel) rfl).trans ?_
  refine (zr_getI (i := 344) (c := 12) (k := 46) (by decide +kernel) (by decide +kernel) rfl (by decide +kernel)).trans ?_
  refine (zr_iconst (n := 1) (by decide +kernel)).trans ?_
  refine (zr_iadd (a := ((vup V 430 60 (0)) 430 46)) (b := (1)) (by decide +kernel)).trans ?_
  refine (zr_putI (i := 344) (c := 12) (k := 46) (x := (((vup V 430 60 (0)) 430 46) + (1))) (by decide +kernel) (by decide +kernel) rfl (by decide +kernel)).trans ?_
  refine (zr_iconst (n := 0) (by decide +kernel)).trans ?_
  refine (zr_istore_n (n := 1) (l1 := [.ref 430, .int (zi (0))]) (by decide +kernel) rfl).trans ?_
  rfl
theorem ze_212_17 {V : zVt} {J : zJt} {d : Nat → Nat → UInt64} (x1 : Int) : zGo false 212 17 [.ref 430, .int (zi x1)] [] (zm V J d) =
    (if qw (16) ≤ qw x1 then zGo false 212 38 [.ref 430, .int (zi (0))] [] (zm V J d) else zck ((0 ≤ qw x1 ∧ qw x1 < (16 : Nat)) ∧ (qw (0) = 0 ∨ qw (0) = 1)) (zGo false 212 17 [.ref 430, .int (zi (x1 + 1))] [] (zm (vup V 461 (qw x1) (0)) J d))) := by
  refine (zr_iload_n (n := 1) (x := zi x1) (by decide +kernel) rfl).trans ?_
  refine (zr_bipush (n := 16) (by decide +kernel) rfl).trans ?_
  refine (zr_cge (off := 16) (a := x1) (b := (16)) (t := 36) (by decide +kernel) rfl).trans (zif_ct (fun _ => ?_) (fun _ => ?_))
  · refine (zr_iconst (n := 0) (by decide +kernel)).trans ?_
    refine (zr_istore_n (n := 1) (l1 := [.ref 430, .int (zi (0))]) (by decide +kernel) rfl).trans ?_
    rfl
  · refine (zr_aload_n (n := 0) (x := 430) (by decide +kernel) rfl).trans ?_
    refine (zr_getR (i := 102) (c := 12) (k := 44) (r := 461) (by decide +kernel) (by decide +kernel) rfl (by decide +kernel) (zR0_f (o := 430) (c := 12) (n := 0) (k := 44) (j := 31) rfl (by decide) rfl)).trans ?_
    refine (zr_iload_n (n := 1) (x := zi x1) (by decide +kernel) rfl).trans ?_
    refine (zr_iconst (n := 0) (by decide +kernel)).trans ?_
    refine (zr_zast (n := 16) (e := x1) (x := (0)) (by decide +kernel) rfl).trans (zck_ct fun _ => ?_)
    refine (zr_iinc (n := 1) (k := 1) (x := x1) (l1 := [.ref 430, .int (zi (x1 + 1))]) (by decide +kernel) rfl rfl).trans ?_
    refine (zr_goto (off := -16) (t := 17) (by decide +kernel) rfl).trans ?_
    rfl
theorem ze_212_38 {V : zVt} {J : zJt} {d : Nat → Nat → UInt64} (x1 : Int) : zGo false 212 38 [.ref 430, .int (zi x1)] [] (zm V J d) =
    (if qw (48) ≤ qw x1 then some (.inl (some (.int (zi (V 430 46)))), zm V J d) else zck ((0 ≤ qw x1 ∧ qw x1 < (48 : Nat)) ∧ (qw (0) = 0 ∨ qw (0) = 1)) (zGo false 212 38 [.ref 430, .int (zi (x1 + 1))] [] (zm (vup V 462 (qw x1) (0)) J d))) := by
  refine (zr_iload_n (n := 1) (x := zi x1) (by decide +kernel) rfl).trans ?_
  refine (zr_bipush (n := 48) (by decide +kernel) rfl).trans ?_
  refine (zr_cge (off := 16) (a := x1) (b := (48)) (t := 57) (by decide +kernel) rfl).trans (zif_ct (fun _ => ?_) (fun _ => ?_))
  · refine (zr_aload_n (n := 0) (x := 430) (by decide +kernel) rfl).trans ?_
    refine (zr_getI (i := 344) (c := 12) (k := 46) (by decide +kernel) (by decide +kernel) rfl (by decide +kernel)).trans ?_
    exact zr_iret (a := (V 430 46)) (by decide +kernel) rfl
  · refine (zr_aload_n (n := 0) (x := 430) (by decide +kernel) rfl).trans ?_
    refine (zr_getR (i := 105) (c := 12) (k := 45) (r := 462) (by decide +kernel) (by decide +kernel) rfl (by decide +kernel) (zR0_f (o := 430) (c := 12) (n := 0) (k := 45) (j := 32) rfl (by decide) rfl)).trans ?_
    refine (zr_iload_n (n := 1) (x := zi x1) (by decide +kernel) rfl).trans ?_
    refine (zr_iconst (n := 0) (by decide +kernel)).trans ?_
    refine (zr_zast (n := 48) (e := x1) (x := (0)) (by decide +kernel) rfl).trans (zck_ct fun _ => ?_)
    refine (zr_iinc (n := 1) (k := 1) (x := x1) (l1 := [.ref 430, .int (zi (x1 + 1))]) (by decide +kernel) rfl rfl).trans ?_
    refine (zr_goto (off := -16) (t := 38) (by decide +kernel) rfl).trans ?_
    rfl
/-! PartSongDeskModel room (II)I -/
theorem ze_213_0 {V : zVt} {J : zJt} {d : Nat → Nat → UInt64} (x1 : Int) (x2 : Int) : zGo false 213 0 [.ref 430, .int (zi x1), .int (zi x2), .null] [] (zm V J d) =
    (zGo false 147 0 [.int (zi x1), .int (zi (4))] [] (zm V J d)).bind (zGor false 213 6 [.ref 430, .int (zi x1), .int (zi x2), .null] [.ref 430]) := by
  refine (zr_aload_n (n := 0) (x := 430) (by decide +kernel) rfl).trans ?_
  refine (zr_iload_n (n := 1) (x := zi x1) (by decide +kernel) rfl).trans ?_
  refine (zr_iconst (n := 4) (by decide +kernel)).trans ?_
  exact zr_cS (i := 145) (z := 147) (w := 0) (t := [.int (zi (4)), .int (zi x1)]) (rest := [.ref 430]) (L := [.int (zi x1), .int (zi (4))]) (pc1 := 6) (by decide +kernel) (by decide +kernel) (n := 2) (r := 1) rfl rfl rfl (by decide +kernel) rfl rfl
theorem ze_213_6 {V : zVt} {J : zJt} {d : Nat → Nat → UInt64} (x1 : Int) (x2 : Int) (s1 : Int) : zGo false 213 6 [.ref 430, .int (zi x1), .int (zi x2), .null] [.int (zi s1), .ref 430] (zm V J d) =
    (zGo false 148 0 [.int (zi x2), .int (zi (0)), .int (zi (12))] [] (zm V J d)).bind (zGor false 213 13 [.ref 430, .int (zi x1), .int (zi x2), .null] [.int (zi s1), .ref 430]) := by
  refine (zr_iload_n (n := 2) (x := zi x2) (by decide +kernel) rfl).trans ?_
  refine (zr_iconst (n := 0) (by decide +kernel)).trans ?_
  refine (zr_bipush (n := 12) (by decide +kernel) rfl).trans ?_
  exact zr_cS (i := 170) (z := 148) (w := 0) (t := [.int (zi (12)), .int (zi (0)), .int (zi x2)]) (rest := [.int (zi s1), .ref 430]) (L := [.int (zi x2), .int (zi (0)), .int (zi (12))]) (pc1 := 13) (by decide +kernel) (by decide +kernel) (n := 3) (r := 2) rfl rfl rfl (by decide +kernel) rfl rfl
theorem ze_213_13 {V : zVt} {J : zJt} {d : Nat → Nat → UInt64} (x1 : Int) (x2 : Int) (s1 : Int) (s2 : Int) : zGo false 213 13 [.ref 430, .int (zi x1), .int (zi x2), .null] [.int (zi s2), .int (zi s1), .ref 430] (zm V J d) =
    (zGo false 150 0 [.ref 430, .int (zi s1), .int (zi s2), .int (zi (1))] [] (zm V J d)).bind (zGor false 213 17 [.ref 430, .int (zi x1), .int (zi x2), .null] []) := by
  refine (zr_iconst (n := 1) (by decide +kernel)).trans ?_
  exact zr_cV (i := 289) (z := 150) (w := 0) (o := 430) (t := [.int (zi (1)), .int (zi s2), .int (zi s1)]) (rest := []) (L := [.ref 430, .int (zi s1), .int (zi s2), .int (zi (1))]) (pc1 := 17) (by decide +kernel) (by decide +kernel) rfl (n := 3) (r := 0) rfl rfl rfl (by decide +kernel) rfl rfl
theorem ze_213_17 {V : zVt} {J : zJt} {d : Nat → Nat → UInt64} (x1 : Int) (x2 : Int) (s0 : Int) : zGo false 213 17 [.ref 430, .int (zi x1), .int (zi x2), .null] [.int (zi s0)] (zm V J d) =
    (if qw s0 ≠ 0 then zck (0 ≤ qw x1 ∧ qw x1 < (4 : Nat)) (zck (0 ≤ qw x1 ∧ qw x1 < (4 : Nat)) (some (.inl (some (.int (zi (V 460 (qw x1))))), zm (vup V 460 (qw x1) x2) J d))) else some (.inl (some (.int (zi (0)))), zm V J d)) := by
  refine (zr_ifne (off := 5) (a := s0) (t := 22) (by decide +kernel) rfl).trans (zif_ct (fun _ => ?_) (fun _ => ?_))
  · refine (zr_aload_n (n := 0) (x := 430) (by decide +kernel) rfl).trans ?_
    refine (zr_getR (i := 99) (c := 12) (k := 43) (r := 460) (by decide +kernel) (by decide +kernel) rfl (by decide +kernel) (zR0_f (o := 430) (c := 12) (n := 0) (k := 43) (j := 30) rfl (by decide) rfl)).trans ?_
    refine (zr_iload_n (n := 1) (x := zi x1) (by decide +kernel) rfl).trans ?_
    refine (zr_iald (n := 4) (e := x1) (by decide +kernel) rfl).trans (zck_ct fun _ => ?_)
    refine (zr_istore_n (n := 3) (l1 := [.ref 430, .int (zi x1), .int (zi x2), .int (zi (V 460 (qw x1)))]) (by decide +kernel) rfl).trans ?_
    refine (zr_aload_n (n := 0) (x := 430) (by decide +kernel) rfl).trans ?_
    refine (zr_getR (i := 99) (c := 12) (k := 43) (r := 460) (by decide +kernel) (by decide +kernel) rfl (by decide +kernel) (zR0_f (o := 430) (c := 12) (n := 0) (k := 43) (j := 30) rfl (by decide) rfl)).trans ?_
    refine (zr_iload_n (n := 1) (x := zi x1) (by decide +kernel) rfl).trans ?_
    refine (zr_iload_n (n := 2) (x := zi x2) (by decide +kernel) rfl).trans ?_
    refine (zr_iast (n := 4) (e := x1) (x := x2) (by decide +kernel) rfl).trans (zck_ct fun _ => ?_)
    refine (zr_iload_n (n := 3) (x := zi (V 460 (qw x1))) (by decide +kernel) rfl).trans ?_
    exact zr_iret (a := (V 460 (qw x1))) (by decide +kernel) rfl
  · refine (zr_iconst (n := 0) (by decide +kernel)).trans ?_
    exact zr_iret (a := (0)) (by decide +kernel) rfl
/-! PartSongDeskModel ask (IIII)I -/
theorem ze_214_0 {V : zVt} {J : zJt} {d : Nat → Nat → UInt64} (x1 : Int) (x2 : Int) (x3 : Int) (x4 : Int) : zGo false 214 0 [.ref 430, .int (zi x1), .int (zi x2), .int (zi x3), .int (zi x4), .null] [] (zm V J d) =
    (zGo false 148 0 [.int (zi x2), .int (zi (1)), .int (zi (15))] [] (zm V J d)).bind (zGor false 214 7 [.ref 430, .int (zi x1), .int (zi x2), .int (zi x3), .int (zi x4), .null] []) := by
  refine (zr_iload_n (n := 2) (x := zi x2) (by decide +kernel) rfl).trans ?_
  refine (zr_iconst (n := 1) (by decide +kernel)).trans ?_
  refine (zr_bipush (n := 15) (by decide +kernel) rfl).trans ?_
  exact zr_cS (i := 170) (z := 148) (w := 0) (t := [.int (zi (15)), .int (zi (1)), .int (zi x2)]) (rest := []) (L := [.int (zi x2), .int (zi (1)), .int (zi (15))]) (pc1 := 7) (by decide +kernel) (by decide +kernel) (n := 3) (r := 0) rfl rfl rfl (by decide +kernel) rfl rfl
theorem ze_214_7 {V : zVt} {J : zJt} {d : Nat → Nat → UInt64} (x1 : Int) (x2 : Int) (x3 : Int) (x4 : Int) (s0 : Int) : zGo false 214 7 [.ref 430, .int (zi x1), .int (zi x2), .int (zi x3), .int (zi x4), .null] [.int (zi s0)] (zm V J d) =
    (if qw s0 = 0 then zGo false 214 34 [.ref 430, .int (zi x1), .int (zi x2), .int (zi x3), .int (zi x4), .null] [] (zm V J d) else (zGo false 147 0 [.int (zi x3), .int (zi (40))] [] (zm V J d)).bind (zGor false 214 16 [.ref 430, .int (zi x1), .int (zi x2), .int (zi x3), .int (zi x4), .null] [])) := by
  refine (zr_ifeq (off := 27) (a := s0) (t := 34) (by decide +kernel) rfl).trans (zif_ct (fun _ => ?_) (fun _ => ?_))
  · rfl
  · refine (zr_iload_n (n := 3) (x := zi x3) (by decide +kernel) rfl).trans ?_
    refine (zr_bipush (n := 40) (by decide +kernel) rfl).trans ?_
    exact zr_cS (i := 145) (z := 147) (w := 0) (t := [.int (zi (40)), .int (zi x3)]) (rest := []) (L := [.int (zi x3), .int (zi (40))]) (pc1 := 16) (by decide +kernel) (by decide +kernel) (n := 2) (r := 0) rfl rfl rfl (by decide +kernel) rfl rfl
theorem ze_214_16 {V : zVt} {J : zJt} {d : Nat → Nat → UInt64} (x1 : Int) (x2 : Int) (x3 : Int) (x4 : Int) (s0 : Int) : zGo false 214 16 [.ref 430, .int (zi x1), .int (zi x2), .int (zi x3), .int (zi x4), .null] [.int (zi s0)] (zm V J d) =
    (if qw s0 = 0 then zGo false 214 34 [.ref 430, .int (zi x1), .int (zi x2), .int (zi x3), .int (zi x4), .null] [] (zm V J d) else (zGo false 148 0 [.int (zi x4), .int (zi x3), .int (zi (39))] [] (zm V J d)).bind (zGor false 214 27 [.ref 430, .int (zi x1), .int (zi x2), .int (zi x3), .int (zi x4), .null] [])) := by
  refine (zr_ifeq (off := 18) (a := s0) (t := 34) (by decide +kernel) rfl).trans (zif_ct (fun _ => ?_) (fun _ => ?_))
  · rfl
  · refine (zr_iload (n := 4) (x := zi x4) (by decide +kernel) rfl).trans ?_
    refine (zr_iload_n (n := 3) (x := zi x3) (by decide +kernel) rfl).trans ?_
    refine (zr_bipush (n := 39) (by decide +kernel) rfl).trans ?_
    exact zr_cS (i := 170) (z := 148) (w := 0) (t := [.int (zi (39)), .int (zi x3), .int (zi x4)]) (rest := []) (L := [.int (zi x4), .int (zi x3), .int (zi (39))]) (pc1 := 27) (by decide +kernel) (by decide +kernel) (n := 3) (r := 0) rfl rfl rfl (by decide +kernel) rfl rfl
theorem ze_214_27 {V : zVt} {J : zJt} {d : Nat → Nat → UInt64} (x1 : Int) (x2 : Int) (x3 : Int) (x4 : Int) (s0 : Int) : zGo false 214 27 [.ref 430, .int (zi x1), .int (zi x2), .int (zi x3), .int (zi x4), .null] [.int (zi s0)] (zm V J d) =
    (if qw s0 = 0 then zGo false 214 34 [.ref 430, .int (zi x1), .int (zi x2), .int (zi x3), .int (zi x4), .null] [] (zm V J d) else zGo false 214 35 [.ref 430, .int (zi x1), .int (zi x2), .int (zi x3), .int (zi x4), .null] [.int (zi (1))] (zm V J d)) := by
  refine (zr_ifeq (off := 7) (a := s0) (t := 34) (by decide +kernel) rfl).trans (zif_ct (fun _ => ?_) (fun _ => ?_))
  · rfl
  · refine (zr_iconst (n := 1) (by decide +kernel)).trans ?_
    refine (zr_goto (off := 4) (t := 35) (by decide +kernel) rfl).trans ?_
    rfl
theorem ze_214_34 {V : zVt} {J : zJt} {d : Nat → Nat → UInt64} (x1 : Int) (x2 : Int) (x3 : Int) (x4 : Int) : zGo false 214 34 [.ref 430, .int (zi x1), .int (zi x2), .int (zi x3), .int (zi x4), .null] [] (zm V J d) =
    zGo false 214 35 [.ref 430, .int (zi x1), .int (zi x2), .int (zi x3), .int (zi x4), .null] [.int (zi (0))] (zm V J d) := by
  refine (zr_iconst (n := 0) (by decide +kernel)).trans ?_
  rfl
theorem ze_214_35 {V : zVt} {J : zJt} {d : Nat → Nat → UInt64} (x1 : Int) (x2 : Int) (x3 : Int) (x4 : Int) (s0 : Int) : zGo false 214 35 [.ref 430, .int (zi x1), .int (zi x2), .int (zi x3), .int (zi x4), .null] [.int (zi s0)] (zm V J d) =
    (zGo false 147 0 [.int (zi x1), .int (zi (3))] [] (zm V J d)).bind (zGor false 214 43 [.ref 430, .int (zi x1), .int (zi x2), .int (zi x3), .int (zi x4), .int (zi s0)] [.ref 430]) := by
  refine (zr_istore (n := 5) (l1 := [.ref 430, .int (zi x1), .int (zi x2), .int (zi x3), .int (zi x4), .int (zi s0)]) (by decide +kernel) rfl).trans ?_
  refine (zr_aload_n (n := 0) (x := 430) (by decide +kernel) rfl).trans ?_
  refine (zr_iload_n (n := 1) (x := zi x1) (by decide +kernel) rfl).trans ?_
  refine (zr_iconst (n := 3) (by decide +kernel)).trans ?_
  exact zr_cS (i := 145) (z := 147) (w := 0) (t := [.int (zi (3)), .int (zi x1)]) (rest := [.ref 430]) (L := [.int (zi x1), .int (zi (3))]) (pc1 := 43) (by decide +kernel) (by decide +kernel) (n := 2) (r := 1) rfl rfl rfl (by decide +kernel) rfl rfl
theorem ze_214_43 {V : zVt} {J : zJt} {d : Nat → Nat → UInt64} (x1 : Int) (x2 : Int) (x3 : Int) (x4 : Int) (x5 : Int) (s1 : Int) : zGo false 214 43 [.ref 430, .int (zi x1), .int (zi x2), .int (zi x3), .int (zi x4), .int (zi x5)] [.int (zi s1), .ref 430] (zm V J d) =
    (if qw (40) ≤ qw (V 430 52) then zGo false 214 59 [.ref 430, .int (zi x1), .int (zi x2), .int (zi x3), .int (zi x4), .int (zi x5)] [.int (zi (0)), .int (zi x5), .int (zi s1), .ref 430] (zm V J d) else zGo false 214 59 [.ref 430, .int (zi x1), .int (zi x2), .int (zi x3), .int (zi x4), .int (zi x5)] [.int (zi (1)), .int (zi x5), .int (zi s1), .ref 430] (zm V J d)) := by
  refine (zr_iload (n := 5) (x := zi x5) (by decide +kernel) rfl).trans ?_
  refine (zr_aload_n (n := 0) (x := 430) (by decide +kernel) rfl).trans ?_
  refine (zr_getI (i := 347) (c := 12) (k := 52) (by decide +kernel) (by decide +kernel) rfl (by decide +kernel)).trans ?_
  refine (zr_bipush (n := 40) (by decide +kernel) rfl).trans ?_
  refine (zr_cge (off := 7) (a := (V 430 52)) (b := (40)) (t := 58) (by decide +kernel) rfl).trans (zif_ct (fun _ => ?_) (fun _ => ?_))
  · refine (zr_iconst (n := 0) (by decide +kernel)).trans ?_
    rfl
  · refine (zr_iconst (n := 1) (by decide +kernel)).trans ?_
    refine (zr_goto (off := 4) (t := 59) (by decide +kernel) rfl).trans ?_
    rfl
theorem ze_214_59 {V : zVt} {J : zJt} {d : Nat → Nat → UInt64} (x1 : Int) (x2 : Int) (x3 : Int) (x4 : Int) (x5 : Int) (s1 : Int) (s2 : Int) (s3 : Int) : zGo false 214 59 [.ref 430, .int (zi x1), .int (zi x2), .int (zi x3), .int (zi x4), .int (zi x5)] [.int (zi s3), .int (zi s2), .int (zi s1), .ref 430] (zm V J d) =
    (zGo false 150 0 [.ref 430, .int (zi s1), .int (zi s2), .int (zi s3)] [] (zm V J d)).bind (zGor false 214 62 [.ref 430, .int (zi x1), .int (zi x2), .int (zi x3), .int (zi x4), .int (zi x5)] []) := by
  exact zr_cV (i := 289) (z := 150) (w := 0) (o := 430) (t := [.int (zi s3), .int (zi s2), .int (zi s1)]) (rest := []) (L := [.ref 430, .int (zi s1), .int (zi s2), .int (zi s3)]) (pc1 := 62) (by decide +kernel) (by decide +kernel) rfl (n := 3) (r := 0) rfl rfl rfl (by decide +kernel) rfl rfl
theorem ze_214_62 {V : zVt} {J : zJt} {d : Nat → Nat → UInt64} (x1 : Int) (x2 : Int) (x3 : Int) (x4 : Int) (x5 : Int) (s0 : Int) : zGo false 214 62 [.ref 430, .int (zi x1), .int (zi x2), .int (zi x3), .int (zi x4), .int (zi x5)] [.int (zi s0)] (zm V J d) =
    (if qw s0 ≠ 0 then zck (0 ≤ qw (V 430 52) ∧ qw (V 430 52) < (40 : Nat)) (zck (0 ≤ qw ((vup V 463 (qw (V 430 52)) x1) 430 52) ∧ qw ((vup V 463 (qw (V 430 52)) x1) 430 52) < (40 : Nat)) (zck (0 ≤ qw ((vup (vup V 463 (qw (V 430 52)) x1) 464 (qw ((vup V 463 (qw (V 430 52)) x1) 430 52)) x2) 430 52) ∧ qw ((vup (vup V 463 (qw (V 430 52)) x1) 464 (qw ((vup V 463 (qw (V 430 52)) x1) 430 52)) x2) 430 52) < (40 : Nat)) (zck (0 ≤ qw ((vup (vup (vup V 463 (qw (V 430 52)) x1) 464 (qw ((vup V 463 (qw (V 430 52)) x1) 430 52)) x2) 465 (qw ((vup (vup V 463 (qw (V 430 52)) x1) 464 (qw ((vup V 463 (qw (V 430 52)) x1) 430 52)) x2) 430 52)) x3) 430 52) ∧ qw ((vup (vup (vup V 463 (qw (V 430 52)) x1) 464 (qw ((vup V 463 (qw (V 430 52)) x1) 430 52)) x2) 465 (qw ((vup (vup V 463 (qw (V 430 52)) x1) 464 (qw ((vup V 463 (qw (V 430 52)) x1) 430 52)) x2) 430 52)) x3) 430 52) < (40 : Nat)) (zck (0 ≤ qw ((vup (vup (vup (vup V 463 (qw (V 430 52)) x1) 464 (qw ((vup V 463 (qw (V 430 52)) x1) 430 52)) x2) 465 (qw ((vup (vup V 463 (qw (V 430 52)) x1) 464 (qw ((vup V 463 (qw (V 430 52)) x1) 430 52)) x2) 430 52)) x3) 466 (qw ((vup (vup (vup V 463 (qw (V 430 52)) x1) 464 (qw ((vup V 463 (qw (V 430 52)) x1) 430 52)) x2) 465 (qw ((vup (vup V 463 (qw (V 430 52)) x1) 464 (qw ((vup V 463 (qw (V 430 52)) x1) 430 52)) x2) 430 52)) x3) 430 52)) x4) 430 52) ∧ qw ((vup (vup (vup (vup V 463 (qw (V 430 52)) x1) 464 (qw ((vup V 463 (qw (V 430 52)) x1) 430 52)) x2) 465 (qw ((vup (vup V 463 (qw (V 430 52)) x1) 464 (qw ((vup V 463 (qw (V 430 52)) x1) 430 52)) x2) 430 52)) x3) 466 (qw ((vup (vup (vup V 463 (qw (V 430 52)) x1) 464 (qw ((vup V 463 (qw (V 430 52)) x1) 430 52)) x2) 465 (qw ((vup (vup V 463 (qw (V 430 52)) x1) 464 (qw ((vup V 463 (qw (V 430 52)) x1) 430 52)) x2) 430 52)) x3) 430 52)) x4) 430 52) < (40 : Nat)) (some (.inl (some (.int (zi (((vup (vup (vup (vup (vup (vup V 463 (qw (V 430 52)) x1) 464 (qw ((vup V 463 (qw (V 430 52)) x1) 430 52)) x2) 465 (qw ((vup (vup V 463 (qw (V 430 52)) x1) 464 (qw ((vup V 463 (qw (V 430 52)) x1) 430 52)) x2) 430 52)) x3) 466 (qw ((vup (vup (vup V 463 (qw (V 430 52)) x1) 464 (qw ((vup V 463 (qw (V 430 52)) x1) 430 52)) x2) 465 (qw ((vup (vup V 463 (qw (V 430 52)) x1) 464 (qw ((vup V 463 (qw (V 430 52)) x1) 430 52)) x2) 430 52)) x3) 430 52)) x4) 467 (qw ((vup (vup (vup (vup V 463 (qw (V 430 52)) x1) 464 (qw ((vup V 463 (qw (V 430 52)) x1) 430 52)) x2) 465 (qw ((vup (vup V 463 (qw (V 430 52)) x1) 464 (qw ((vup V 463 (qw (V 430 52)) x1) 430 52)) x2) 430 52)) x3) 466 (qw ((vup (vup (vup V 463 (qw (V 430 52)) x1) 464 (qw ((vup V 463 (qw (V 430 52)) x1) 430 52)) x2) 465 (qw ((vup (vup V 463 (qw (V 430 52)) x1) 464 (qw ((vup V 463 (qw (V 430 52)) x1) 430 52)) x2) 430 52)) x3) 430 52)) x4) 430 52)) (-1)) 430 52 (((vup (vup (vup (vup (vup V 463 (qw (V 430 52)) x1) 464 (qw ((vup V 463 (qw (V 430 52)) x1) 430 52)) x2) 465 (qw ((vup (vup V 463 (qw (V 430 52)) x1) 464 (qw ((vup V 463 (qw (V 430 52)) x1) 430 52)) x2) 430 52)) x3) 466 (qw ((vup (vup (vup V 463 (qw (V 430 52)) x1) 464 (qw ((vup V 463 (qw (V 430 52)) x1) 430 52)) x2) 465 (qw ((vup (vup V 463 (qw (V 430 52)) x1) 464 (qw ((vup V 463 (qw (V 430 52)) x1) 430 52)) x2) 430 52)) x3) 430 52)) x4) 467 (qw ((vup (vup (vup (vup V 463 (qw (V 430 52)) x1) 464 (qw ((vup V 463 (qw (V 430 52)) x1) 430 52)) x2) 465 (qw ((vup (vup V 463 (qw (V 430 52)) x1) 464 (qw ((vup V 463 (qw (V 430 52)) x1) 430 52)) x2) 430 52)) x3) 466 (qw ((vup (vup (vup V 463 (qw (V 430 52)) x1) 464 (qw ((vup V 463 (qw (V 430 52)) x1) 430 52)) x2) 465 (qw ((vup (vup V 463 (qw (V 430 52)) x1) 464 (qw ((vup V 463 (qw (V 430 52)) x1) 430 52)) x2) 430 52)) x3) 430 52)) x4) 430 52)) (-1)) 430 52) + (1))) 430 52) - (1))))), zm (vup (vup (vup (vup (vup (vup V 463 (qw (V 430 52)) x1) 464 (qw ((vup V 463 (qw (V 430 52)) x1) 430 52)) x2) 465 (qw ((vup (vup V 463 (qw (V 430 52)) x1) 464 (qw ((vup V 463 (qw (V 430 52)) x1) 430 52)) x2) 430 52)) x3) 466 (qw ((vup (vup (vup V 463 (qw (V 430 52)) x1) 464 (qw ((vup V 463 (qw (V 430 52)) x1) 430 52)) x2) 465 (qw ((vup (vup V 463 (qw (V 430 52)) x1) 464 (qw ((vup V 463 (qw (V 430 52)) x1) 430 52)) x2) 430 52)) x3) 430 52)) x4) 467 (qw ((vup (vup (vup (vup V 463 (qw (V 430 52)) x1) 464 (qw ((vup V 463 (qw (V 430 52)) x1) 430 52)) x2) 465 (qw ((vup (vup V 463 (qw (V 430 52)) x1) 464 (qw ((vup V 463 (qw (V 430 52)) x1) 430 52)) x2) 430 52)) x3) 466 (qw ((vup (vup (vup V 463 (qw (V 430 52)) x1) 464 (qw ((vup V 463 (qw (V 430 52)) x1) 430 52)) x2) 465 (qw ((vup (vup V 463 (qw (V 430 52)) x1) 464 (qw ((vup V 463 (qw (V 430 52)) x1) 430 52)) x2) 430 52)) x3) 430 52)) x4) 430 52)) (-1)) 430 52 (((vup (vup (vup (vup (vup V 463 (qw (V 430 52)) x1) 464 (qw ((vup V 463 (qw (V 430 52)) x1) 430 52)) x2) 465 (qw ((vup (vup V 463 (qw (V 430 52)) x1) 464 (qw ((vup V 463 (qw (V 430 52)) x1) 430 52)) x2) 430 52)) x3) 466 (qw ((vup (vup (vup V 463 (qw (V 430 52)) x1) 464 (qw ((vup V 463 (qw (V 430 52)) x1) 430 52)) x2) 465 (qw ((vup (vup V 463 (qw (V 430 52)) x1) 464 (qw ((vup V 463 (qw (V 430 52)) x1) 430 52)) x2) 430 52)) x3) 430 52)) x4) 467 (qw ((vup (vup (vup (vup V 463 (qw (V 430 52)) x1) 464 (qw ((vup V 463 (qw (V 430 52)) x1) 430 52)) x2) 465 (qw ((vup (vup V 463 (qw (V 430 52)) x1) 464 (qw ((vup V 463 (qw (V 430 52)) x1) 430 52)) x2) 430 52)) x3) 466 (qw ((vup (vup (vup V 463 (qw (V 430 52)) x1) 464 (qw ((vup V 463 (qw (V 430 52)) x1) 430 52)) x2) 465 (qw ((vup (vup V 463 (qw (V 430 52)) x1) 464 (qw ((vup V 463 (qw (V 430 52)) x1) 430 52)) x2) 430 52)) x3) 430 52)) x4) 430 52)) (-1)) 430 52) + (1))) J d)))))) else some (.inl (some (.int (zi (0)))), zm V J d)) := by
  refine (zr_ifne (off := 5) (a := s0) (t := 67) (by decide +kernel) rfl).trans (zif_ct (fun _ => ?_) (fun _ => ?_))
  · refine (zr_aload_n (n := 0) (x := 430) (by decide +kernel) rfl).trans ?_
    refine (zr_getR (i := 108) (c := 12) (k := 47) (r := 463) (by decide +kernel) (by decide +kernel) rfl (by decide +kernel) (zR0_f (o := 430) (c := 12) (n := 0) (k := 47) (j := 33) rfl (by decide) rfl)).trans ?_
    refine (zr_aload_n (n := 0) (x := 430) (by decide +kernel) rfl).trans ?_
    refine (zr_getI (i := 347) (c := 12) (k := 52) (by decide +kernel) (by decide +kernel) rfl (by decide +kernel)).trans ?_
    refine (zr_iload_n (n := 1) (x := zi x1) (by decide +kernel) rfl).trans ?_
    refine (zr_iast (n := 40) (e := (V 430 52)) (x := x1) (by decide +kernel) rfl).trans (zck_ct fun _ => ?_)
    refine (zr_aload_n (n := 0) (x := 430) (by decide +kernel) rfl).trans ?_
    refine (zr_getR (i := 111) (c := 12) (k := 48) (r := 464) (by decide +kernel) (by decide +kernel) rfl (by decide +kernel) (zR0_f (o := 430) (c := 12) (n := 0) (k := 48) (j := 34) rfl (by decide) rfl)).trans ?_
    refine (zr_aload_n (n := 0) (x := 430) (by decide +kernel) rfl).trans ?_
    refine (zr_getI (i := 347) (c := 12) (k := 52) (by decide +kernel) (by decide +kernel) rfl (by decide +kernel)).trans ?_
    refine (zr_iload_n (n := 2) (x := zi x2) (by decide +kernel) rfl).trans ?_
    refine (zr_iast (n := 40) (e := ((vup V 463 (qw (V 430 52)) x1) 430 52)) (x := x2) (by decide +kernel) rfl).trans (zck_ct fun _ => ?_)
    refine (zr_aload_n (n := 0) (x := 430) (by decide +kernel) rfl).trans ?_
    refine (zr_getR (i := 114) (c := 12) (k := 49) (r := 465) (by decide +kernel) (by decide +kernel) rfl (by decide +kernel) (zR0_f (o := 430) (c := 12) (n := 0) (k := 49) (j := 35) rfl (by decide) rfl)).trans ?_
    refine (zr_aload_n (n := 0) (x := 430) (by decide +kernel) rfl).trans ?_
    refine (zr_getI (i := 347) (c := 12) (k := 52) (by decide +kernel) (by decide +kernel) rfl (by decide +kernel)).trans ?_
    refine (zr_iload_n (n := 3) (x := zi x3) (by decide +kernel) rfl).trans ?_
    refine (zr_iast (n := 40) (e := ((vup (vup V 463 (qw (V 430 52)) x1) 464 (qw ((vup V 463 (qw (V 430 52)) x1) 430 52)) x2) 430 52)) (x := x3) (by decide +kernel) rfl).trans (zck_ct fun _ => ?_)
    refine (zr_aload_n (n := 0) (x := 430) (by decide +kernel) rfl).trans ?_
    refine (zr_getR (i := 117) (c := 12) (k := 50) (r := 466) (by decide +kernel) (by decide +kernel) rfl (by decide +kernel) (zR0_f (o := 430) (c := 12) (n := 0) (k := 50) (j := 36) rfl (by decide) rfl)).trans ?_
    refine (zr_aload_n (n := 0) (x := 430) (by decide +kernel) rfl).trans ?_
    refine (zr_getI (i := 347) (c := 12) (k := 52) (by decide +kernel) (by decide +kernel) rfl (by decide +kernel)).trans ?_
    refine (zr_iload (n := 4) (x := zi x4) (by decide +kernel) rfl).trans ?_
    refine (zr_iast (n := 40) (e := ((vup (vup (vup V 463 (qw (V 430 52)) x1) 464 (qw ((vup V 463 (qw (V 430 52)) x1) 430 52)) x2) 465 (qw ((vup (vup V 463 (qw (V 430 52)) x1) 464 (qw ((vup V 463 (qw (V 430 52)) x1) 430 52)) x2) 430 52)) x3) 430 52)) (x := x4) (by decide +kernel) rfl).trans (zck_ct fun _ => ?_)
    refine (zr_aload_n (n := 0) (x := 430) (by decide +kernel) rfl).trans ?_
    refine (zr_getR (i := 120) (c := 12) (k := 51) (r := 467) (by decide +kernel) (by decide +kernel) rfl (by decide +kernel) (zR0_f (o := 430) (c := 12) (n := 0) (k := 51) (j := 37) rfl (by decide) rfl)).trans ?_
    refine (zr_aload_n (n := 0) (x := 430) (by decide +kernel) rfl).trans ?_
    refine (zr_getI (i := 347) (c := 12) (k := 52) (by decide +kernel) (by decide +kernel) rfl (by decide +kernel)).trans ?_
    refine (zr_iconst (n := -1) (by decide +kernel)).trans ?_
    refine (zr_iast (n := 40) (e := ((vup (vup (vup (vup V 463 (qw (V 430 52)) x1) 464 (qw ((vup V 463 (qw (V 430 52)) x1) 430 52)) x2) 465 (qw ((vup (vup V 463 (qw (V 430 52)) x1) 464 (qw ((vup V 463 (qw (V 430 52)) x1) 430 52)) x2) 430 52)) x3) 466 (qw ((vup (vup (vup V 463 (qw (V 430 52)) x1) 464 (qw ((vup V 463 (qw (V 430 52)) x1) 430 52)) x2) 465 (qw ((vup (vup V 463 (qw (V 430 52)) x1) 464 (qw ((vup V 463 (qw (V 430 52)) x1) 430 52)) x2) 430 52)) x3) 430 52)) x4) 430 52)) (x := (-1)) (by decide +kernel) rfl).trans (zck_ct fun _ => ?_)
    refine (zr_aload_n (n := 0) (x := 430) (by decide +kernel) rfl).trans ?_
    refine (zr_dup (by decide +kernel) rfl).trans ?_
    refine (zr_getI (i := 347) (c := 12) (k := 52) (by decide +kernel) (by decide +kernel) rfl (by decide +kernel)).trans ?_
    refine (zr_iconst (n := 1) (by decide +kernel)).trans ?_
    refine (zr_iadd (a := ((vup (vup (vup (vup (vup V 463 (qw (V 430 52)) x1) 464 (qw ((vup V 463 (qw (V 430 52)) x1) 430 52)) x2) 465 (qw ((vup (vup V 463 (qw (V 430 52)) x1) 464 (qw ((vup V 463 (qw (V 430 52)) x1) 430 52)) x2) 430 52)) x3) 466 (qw ((vup (vup (vup V 463 (qw (V 430 52)) x1) 464 (qw ((vup V 463 (qw (V 430 52)) x1) 430 52)) x2) 465 (qw ((vup (vup V 463 (qw (V 430 52)) x1) 464 (qw ((vup V 463 (qw (V 430 52)) x1) 430 52)) x2) 430 52)) x3) 430 52)) x4) 467 (qw ((vup (vup (vup (vup V 463 (qw (V 430 52)) x1) 464 (qw ((vup V 463 (qw (V 430 52)) x1) 430 52)) x2) 465 (qw ((vup (vup V 463 (qw (V 430 52)) x1) 464 (qw ((vup V 463 (qw (V 430 52)) x1) 430 52)) x2) 430 52)) x3) 466 (qw ((vup (vup (vup V 463 (qw (V 430 52)) x1) 464 (qw ((vup V 463 (qw (V 430 52)) x1) 430 52)) x2) 465 (qw ((vup (vup V 463 (qw (V 430 52)) x1) 464 (qw ((vup V 463 (qw (V 430 52)) x1) 430 52)) x2) 430 52)) x3) 430 52)) x4) 430 52)) (-1)) 430 52)) (b := (1)) (by decide +kernel)).trans ?_
    refine (zr_putI (i := 347) (c := 12) (k := 52) (x := (((vup (vup (vup (vup (vup V 463 (qw (V 430 52)) x1) 464 (qw ((vup V 463 (qw (V 430 52)) x1) 430 52)) x2) 465 (qw ((vup (vup V 463 (qw (V 430 52)) x1) 464 (qw ((vup V 463 (qw (V 430 52)) x1) 430 52)) x2) 430 52)) x3) 466 (qw ((vup (vup (vup V 463 (qw (V 430 52)) x1) 464 (qw ((vup V 463 (qw (V 430 52)) x1) 430 52)) x2) 465 (qw ((vup (vup V 463 (qw (V 430 52)) x1) 464 (qw ((vup V 463 (qw (V 430 52)) x1) 430 52)) x2) 430 52)) x3) 430 52)) x4) 467 (qw ((vup (vup (vup (vup V 463 (qw (V 430 52)) x1) 464 (qw ((vup V 463 (qw (V 430 52)) x1) 430 52)) x2) 465 (qw ((vup (vup V 463 (qw (V 430 52)) x1) 464 (qw ((vup V 463 (qw (V 430 52)) x1) 430 52)) x2) 430 52)) x3) 466 (qw ((vup (vup (vup V 463 (qw (V 430 52)) x1) 464 (qw ((vup V 463 (qw (V 430 52)) x1) 430 52)) x2) 465 (qw ((vup (vup V 463 (qw (V 430 52)) x1) 464 (qw ((vup V 463 (qw (V 430 52)) x1) 430 52)) x2) 430 52)) x3) 430 52)) x4) 430 52)) (-1)) 430 52) + (1))) (by decide +kernel) (by decide +kernel) rfl (by decide +kernel)).trans ?_
    refine (zr_aload_n (n := 0) (x := 430) (by decide +kernel) rfl).trans ?_
    refine (zr_getI (i := 347) (c := 12) (k := 52) (by decide +kernel) (by decide +kernel) rfl (by decide +kernel)).trans ?_
    refine (zr_iconst (n := 1) (by decide +kernel)).trans ?_
    refine (zr_isub (a := ((vup (vup (vup (vup (vup (vup V 463 (qw (V 430 52)) x1) 464 (qw ((vup V 463 (qw (V 430 52)) x1) 430 52)) x2) 465 (qw ((vup (vup V 463 (qw (V 430 52)) x1) 464 (qw ((vup V 463 (qw (V 430 52)) x1) 430 52)) x2) 430 52)) x3) 466 (qw ((vup (vup (vup V 463 (qw (V 430 52)) x1) 464 (qw ((vup V 463 (qw (V 430 52)) x1) 430 52)) x2) 465 (qw ((vup (vup V 463 (qw (V 430 52)) x1) 464 (qw ((vup V 463 (qw (V 430 52)) x1) 430 52)) x2) 430 52)) x3) 430 52)) x4) 467 (qw ((vup (vup (vup (vup V 463 (qw (V 430 52)) x1) 464 (qw ((vup V 463 (qw (V 430 52)) x1) 430 52)) x2) 465 (qw ((vup (vup V 463 (qw (V 430 52)) x1) 464 (qw ((vup V 463 (qw (V 430 52)) x1) 430 52)) x2) 430 52)) x3) 466 (qw ((vup (vup (vup V 463 (qw (V 430 52)) x1) 464 (qw ((vup V 463 (qw (V 430 52)) x1) 430 52)) x2) 465 (qw ((vup (vup V 463 (qw (V 430 52)) x1) 464 (qw ((vup V 463 (qw (V 430 52)) x1) 430 52)) x2) 430 52)) x3) 430 52)) x4) 430 52)) (-1)) 430 52 (((vup (vup (vup (vup (vup V 463 (qw (V 430 52)) x1) 464 (qw ((vup V 463 (qw (V 430 52)) x1) 430 52)) x2) 465 (qw ((vup (vup V 463 (qw (V 430 52)) x1) 464 (qw ((vup V 463 (qw (V 430 52)) x1) 430 52)) x2) 430 52)) x3) 466 (qw ((vup (vup (vup V 463 (qw (V 430 52)) x1) 464 (qw ((vup V 463 (qw (V 430 52)) x1) 430 52)) x2) 465 (qw ((vup (vup V 463 (qw (V 430 52)) x1) 464 (qw ((vup V 463 (qw (V 430 52)) x1) 430 52)) x2) 430 52)) x3) 430 52)) x4) 467 (qw ((vup (vup (vup (vup V 463 (qw (V 430 52)) x1) 464 (qw ((vup V 463 (qw (V 430 52)) x1) 430 52)) x2) 465 (qw ((vup (vup V 463 (qw (V 430 52)) x1) 464 (qw ((vup V 463 (qw (V 430 52)) x1) 430 52)) x2) 430 52)) x3) 466 (qw ((vup (vup (vup V 463 (qw (V 430 52)) x1) 464 (qw ((vup V 463 (qw (V 430 52)) x1) 430 52)) x2) 465 (qw ((vup (vup V 463 (qw (V 430 52)) x1) 464 (qw ((vup V 463 (qw (V 430 52)) x1) 430 52)) x2) 430 52)) x3) 430 52)) x4) 430 52)) (-1)) 430 52) + (1))) 430 52)) (b := (1)) (by decide +kernel)).trans ?_
    exact zr_iret (a := (((vup (vup (vup (vup (vup (vup V 463 (qw (V 430 52)) x1) 464 (qw ((vup V 463 (qw (V 430 52)) x1) 430 52)) x2) 465 (qw ((vup (vup V 463 (qw (V 430 52)) x1) 464 (qw ((vup V 463 (qw (V 430 52)) x1) 430 52)) x2) 430 52)) x3) 466 (qw ((vup (vup (vup V 463 (qw (V 430 52)) x1) 464 (qw ((vup V 463 (qw (V 430 52)) x1) 430 52)) x2) 465 (qw ((vup (vup V 463 (qw (V 430 52)) x1) 464 (qw ((vup V 463 (qw (V 430 52)) x1) 430 52)) x2) 430 52)) x3) 430 52)) x4) 467 (qw ((vup (vup (vup (vup V 463 (qw (V 430 52)) x1) 464 (qw ((vup V 463 (qw (V 430 52)) x1) 430 52)) x2) 465 (qw ((vup (vup V 463 (qw (V 430 52)) x1) 464 (qw ((vup V 463 (qw (V 430 52)) x1) 430 52)) x2) 430 52)) x3) 466 (qw ((vup (vup (vup V 463 (qw (V 430 52)) x1) 464 (qw ((vup V 463 (qw (V 430 52)) x1) 430 52)) x2) 465 (qw ((vup (vup V 463 (qw (V 430 52)) x1) 464 (qw ((vup V 463 (qw (V 430 52)) x1) 430 52)) x2) 430 52)) x3) 430 52)) x4) 430 52)) (-1)) 430 52 (((vup (vup (vup (vup (vup V 463 (qw (V 430 52)) x1) 464 (qw ((vup V 463 (qw (V 430 52)) x1) 430 52)) x2) 465 (qw ((vup (vup V 463 (qw (V 430 52)) x1) 464 (qw ((vup V 463 (qw (V 430 52)) x1) 430 52)) x2) 430 52)) x3) 466 (qw ((vup (vup (vup V 463 (qw (V 430 52)) x1) 464 (qw ((vup V 463 (qw (V 430 52)) x1) 430 52)) x2) 465 (qw ((vup (vup V 463 (qw (V 430 52)) x1) 464 (qw ((vup V 463 (qw (V 430 52)) x1) 430 52)) x2) 430 52)) x3) 430 52)) x4) 467 (qw ((vup (vup (vup (vup V 463 (qw (V 430 52)) x1) 464 (qw ((vup V 463 (qw (V 430 52)) x1) 430 52)) x2) 465 (qw ((vup (vup V 463 (qw (V 430 52)) x1) 464 (qw ((vup V 463 (qw (V 430 52)) x1) 430 52)) x2) 430 52)) x3) 466 (qw ((vup (vup (vup V 463 (qw (V 430 52)) x1) 464 (qw ((vup V 463 (qw (V 430 52)) x1) 430 52)) x2) 465 (qw ((vup (vup V 463 (qw (V 430 52)) x1) 464 (qw ((vup V 463 (qw (V 430 52)) x1) 430 52)) x2) 430 52)) x3) 430 52)) x4) 430 52)) (-1)) 430 52) + (1))) 430 52) - (1))) (by decide +kernel) rfl
  · refine (zr_iconst (n := 0) (by decide +kernel)).trans ?_
    exact zr_iret (a := (0)) (by decide +kernel) rfl
/-! PartSongDeskModel plan ()I -/
theorem ze_215_0 {V : zVt} {J : zJt} {d : Nat → Nat → UInt64} : zGo false 215 0 [.ref 430, .null, .null, .null, .null] [] (zm V J d) =
    zGo false 215 9 [.ref 430, .int (zi (0)), .int (zi (0)), .null, .null] [] (zm (vup V 430 60 (0)) J d) := by
  refine (zr_aload_n (n := 0) (x := 430) (by decide +kernel) rfl).trans ?_
  refine (zr_iconst (n := 0) (by decide +kernel)).trans ?_
  refine (zr_putI (i := 141) (c := 12) (k := 60) (x := (0)) (by decide +kernel) (by decide +kernel) rfl (by decide +kernel)).trans ?_
  refine (zr_iconst (n := 0) (by decide +kernel)).trans ?_
  refine (zr_istore_n (n := 1) (l1 := [.ref 430, .int (zi (0)), .null, .null, .null]) (by decide +kernel) rfl).trans ?_
  refine (zr_iconst (n := 0) (by decide +kernel)).trans ?_
  refine (zr_istore_n (n := 2) (l1 := [.ref 430, .int (zi (0)), .int (zi (0)), .null, .null]) (by decide +kernel) rfl).trans ?_
  rfl
theorem ze_215_9 {V : zVt} {J : zJt} {d : Nat → Nat → UInt64} (x1 : Int) (x2 : Int) (x3 : Value) (x4 : Value) : zGo false 215 9 [.ref 430, .int (zi x1), .int (zi x2), x3, x4] [] (zm V J d) =
    (if qw (V 430 52) ≤ qw x2 then some (.inl (some (.int (zi x1))), zm V J d) else zck (0 ≤ qw x2 ∧ qw x2 < (40 : Nat)) ((if qw (V 467 (qw x2)) ≠ qw (-1) then zGo false 215 36 [.ref 430, .int (zi x1), .int (zi x2), x3, x4] [.int (zi (0))] (zm V J d) else (zGo false 216 0 [.ref 430, .int (zi x2), .null, .null, .null, .null] [] (zm V J d)).bind (zGor false 215 32 [.ref 430, .int (zi x1), .int (zi x2), x3, x4] [])))) := by
  refine (zr_iload_n (n := 2) (x := zi x2) (by decide +kernel) rfl).trans ?_
  refine (zr_aload_n (n := 0) (x := 430) (by decide +kernel) rfl).trans ?_
  refine (zr_getI (i := 347) (c := 12) (k := 52) (by decide +kernel) (by decide +kernel) rfl (by decide +kernel)).trans ?_
  refine (zr_cge (off := 91) (a := x2) (b := (V 430 52)) (t := 105) (by decide +kernel) rfl).trans (zif_ct (fun _ => ?_) (fun _ => ?_))
  · refine (zr_iload_n (n := 1) (x := zi x1) (by decide +kernel) rfl).trans ?_
    exact zr_iret (a := x1) (by decide +kernel) rfl
  · refine (zr_aload_n (n := 0) (x := 430) (by decide +kernel) rfl).trans ?_
    refine (zr_getR (i := 120) (c := 12) (k := 51) (r := 467) (by decide +kernel) (by decide +kernel) rfl (by decide +kernel) (zR0_f (o := 430) (c := 12) (n := 0) (k := 51) (j := 37) rfl (by decide) rfl)).trans ?_
    refine (zr_iload_n (n := 2) (x := zi x2) (by decide +kernel) rfl).trans ?_
    refine (zr_iald (n := 40) (e := x2) (by decide +kernel) rfl).trans (zck_ct fun _ => ?_)
    refine (zr_iconst (n := -1) (by decide +kernel)).trans ?_
    refine (zr_cne (off := 11) (a := (V 467 (qw x2))) (b := (-1)) (t := 35) (by decide +kernel) rfl).trans (zif_ct (fun _ => ?_) (fun _ => ?_))
    · refine (zr_iconst (n := 0) (by decide +kernel)).trans ?_
      rfl
    · refine (zr_aload_n (n := 0) (x := 430) (by decide +kernel) rfl).trans ?_
      refine (zr_iload_n (n := 2) (x := zi x2) (by decide +kernel) rfl).trans ?_
      exact zr_cV (i := 358) (z := 216) (w := 0) (o := 430) (t := [.int (zi x2)]) (rest := []) (L := [.ref 430, .int (zi x2), .null, .null, .null, .null]) (pc1 := 32) (by decide +kernel) (by decide +kernel) rfl (n := 1) (r := 0) rfl rfl rfl (by decide +kernel) rfl rfl
theorem ze_215_32 {V : zVt} {J : zJt} {d : Nat → Nat → UInt64} (x1 : Int) (x2 : Int) (x3 : Value) (x4 : Value) (s0 : Int) : zGo false 215 32 [.ref 430, .int (zi x1), .int (zi x2), x3, x4] [.int (zi s0)] (zm V J d) =
    zGo false 215 36 [.ref 430, .int (zi x1), .int (zi x2), x3, x4] [.int (zi s0)] (zm V J d) := by
  refine (zr_goto (off := 4) (t := 36) (by decide +kernel) rfl).trans ?_
  rfl
theorem ze_215_36 {V : zVt} {J : zJt} {d : Nat → Nat → UInt64} (x1 : Int) (x2 : Int) (x3 : Value) (x4 : Value) (s0 : Int) : zGo false 215 36 [.ref 430, .int (zi x1), .int (zi x2), x3, x4] [.int (zi s0)] (zm V J d) =
    zGo false 215 40 [.ref 430, .int (zi x1), .int (zi x2), .int (zi s0), .int (zi (0))] [] (zm V J d) := by
  refine (zr_istore_n (n := 3) (l1 := [.ref 430, .int (zi x1), .int (zi x2), .int (zi s0), x4]) (by decide +kernel) rfl).trans ?_
  refine (zr_iconst (n := 0) (by decide +kernel)).trans ?_
  refine (zr_istore (n := 4) (l1 := [.ref 430, .int (zi x1), .int (zi x2), .int (zi s0), .int (zi (0))]) (by decide +kernel) rfl).trans ?_
  rfl
theorem ze_215_40 {V : zVt} {J : zJt} {d : Nat → Nat → UInt64} (x1 : Int) (x2 : Int) (x3 : Int) (x4 : Int) : zGo false 215 40 [.ref 430, .int (zi x1), .int (zi x2), .int (zi x3), .int (zi x4)] [] (zm V J d) =
    (if qw (16) ≤ qw x4 then zGo false 215 99 [.ref 430, .int (zi x1), .int (zi x2), .int (zi x3), .int (zi x4)] [] (zm V J d) else (if qw x3 ≤ 0 then zGo false 215 99 [.ref 430, .int (zi x1), .int (zi x2), .int (zi x3), .int (zi x4)] [] (zm V J d) else zck (0 ≤ qw x2 ∧ qw x2 < (40 : Nat)) ((if qw (V 467 (qw x2)) ≠ qw (-1) then zGo false 215 99 [.ref 430, .int (zi x1), .int (zi x2), .int (zi x3), .int (zi x4)] [] (zm V J d) else zck (qw (4) ≠ 0) (zck (qw (4) ≠ 0) ((zGo false 217 0 [.ref 430, .int (zi (qdiv x4 (4))), .int (zi (qrem x4 (4))), .int (zi x3), .null, .null] [] (zm V J d)).bind (zGor false 215 74 [.ref 430, .int (zi x1), .int (zi x2), .int (zi x3), .int (zi x4)] []))))))) := by
  refine (zr_iload (n := 4) (x := zi x4) (by decide +kernel) rfl).trans ?_
  refine (zr_bipush (n := 16) (by decide +kernel) rfl).trans ?_
  refine (zr_cge (off := 55) (a := x4) (b := (16)) (t := 99) (by decide +kernel) rfl).trans (zif_ct (fun _ => ?_) (fun _ => ?_))
  · rfl
  · refine (zr_iload_n (n := 3) (x := zi x3) (by decide +kernel) rfl).trans ?_
    refine (zr_ifle (off := 51) (a := x3) (t := 99) (by decide +kernel) rfl).trans (zif_ct (fun _ => ?_) (fun _ => ?_))
    · rfl
    · refine (zr_aload_n (n := 0) (x := 430) (by decide +kernel) rfl).trans ?_
      refine (zr_getR (i := 120) (c := 12) (k := 51) (r := 467) (by decide +kernel) (by decide +kernel) rfl (by decide +kernel) (zR0_f (o := 430) (c := 12) (n := 0) (k := 51) (j := 37) rfl (by decide) rfl)).trans ?_
      refine (zr_iload_n (n := 2) (x := zi x2) (by decide +kernel) rfl).trans ?_
      refine (zr_iald (n := 40) (e := x2) (by decide +kernel) rfl).trans (zck_ct fun _ => ?_)
      refine (zr_iconst (n := -1) (by decide +kernel)).trans ?_
      refine (zr_cne (off := 41) (a := (V 467 (qw x2))) (b := (-1)) (t := 99) (by decide +kernel) rfl).trans (zif_ct (fun _ => ?_) (fun _ => ?_))
      · rfl
      · refine (zr_aload_n (n := 0) (x := 430) (by decide +kernel) rfl).trans ?_
        refine (zr_iload (n := 4) (x := zi x4) (by decide +kernel) rfl).trans ?_
        refine (zr_iconst (n := 4) (by decide +kernel)).trans ?_
        refine (zr_idiv (a := x4) (b := (4)) (by decide +kernel)).trans (zck_ct fun _ => ?_)
        refine (zr_iload (n := 4) (x := zi x4) (by decide +kernel) rfl).trans ?_
        refine (zr_iconst (n := 4) (by decide +kernel)).trans ?_
        refine (zr_irem (a := x4) (b := (4)) (by decide +kernel)).trans (zck_ct fun _ => ?_)
        refine (zr_iload_n (n := 3) (x := zi x3) (by decide +kernel) rfl).trans ?_
        exact zr_cV (i := 361) (z := 217) (w := 0) (o := 430) (t := [.int (zi x3), .int (zi (qrem x4 (4))), .int (zi (qdiv x4 (4)))]) (rest := []) (L := [.ref 430, .int (zi (qdiv x4 (4))), .int (zi (qrem x4 (4))), .int (zi x3), .null, .null]) (pc1 := 74) (by decide +kernel) (by decide +kernel) rfl (n := 3) (r := 0) rfl rfl rfl (by decide +kernel) rfl rfl
theorem ze_215_74 {V : zVt} {J : zJt} {d : Nat → Nat → UInt64} (x1 : Int) (x2 : Int) (x3 : Int) (x4 : Int) (s0 : Int) : zGo false 215 74 [.ref 430, .int (zi x1), .int (zi x2), .int (zi x3), .int (zi x4)] [.int (zi s0)] (zm V J d) =
    (if qw s0 = 0 then zGo false 215 93 [.ref 430, .int (zi x1), .int (zi x2), .int (zi x3), .int (zi x4)] [] (zm V J d) else zck (qw (4) ≠ 0) (zck (qw (4) ≠ 0) ((zGo false 218 0 [.ref 430, .int (zi x2), .int (zi (qdiv x4 (4))), .int (zi (qrem x4 (4))), .null] [] (zm V J d)).bind (zGor false 215 90 [.ref 430, .int (zi x1), .int (zi x2), .int (zi x3), .int (zi x4)] [])))) := by
  refine (zr_ifeq (off := 19) (a := s0) (t := 93) (by decide +kernel) rfl).trans (zif_ct (fun _ => ?_) (fun _ => ?_))
  · rfl
  · refine (zr_aload_n (n := 0) (x := 430) (by decide +kernel) rfl).trans ?_
    refine (zr_iload_n (n := 2) (x := zi x2) (by decide +kernel) rfl).trans ?_
    refine (zr_iload (n := 4) (x := zi x4) (by decide +kernel) rfl).trans ?_
    refine (zr_iconst (n := 4) (by decide +kernel)).trans ?_
    refine (zr_idiv (a := x4) (b := (4)) (by decide +kernel)).trans (zck_ct fun _ => ?_)
    refine (zr_iload (n := 4) (x := zi x4) (by decide +kernel) rfl).trans ?_
    refine (zr_iconst (n := 4) (by decide +kernel)).trans ?_
    refine (zr_irem (a := x4) (b := (4)) (by decide +kernel)).trans (zck_ct fun _ => ?_)
    exact zr_cV (i := 364) (z := 218) (w := 0) (o := 430) (t := [.int (zi (qrem x4 (4))), .int (zi (qdiv x4 (4))), .int (zi x2)]) (rest := []) (L := [.ref 430, .int (zi x2), .int (zi (qdiv x4 (4))), .int (zi (qrem x4 (4))), .null]) (pc1 := 90) (by decide +kernel) (by decide +kernel) rfl (n := 3) (r := 0) rfl rfl rfl (by decide +kernel) rfl rfl
theorem ze_215_90 {V : zVt} {J : zJt} {d : Nat → Nat → UInt64} (x1 : Int) (x2 : Int) (x3 : Int) (x4 : Int) : zGo false 215 90 [.ref 430, .int (zi x1), .int (zi x2), .int (zi x3), .int (zi x4)] [] (zm V J d) =
    zGo false 215 93 [.ref 430, .int (zi (x1 + 1)), .int (zi x2), .int (zi x3), .int (zi x4)] [] (zm V J d) := by
  refine (zr_iinc (n := 1) (k := 1) (x := x1) (l1 := [.ref 430, .int (zi (x1 + 1)), .int (zi x2), .int (zi x3), .int (zi x4)]) (by decide +kernel) rfl rfl).trans ?_
  rfl
theorem ze_215_93 {V : zVt} {J : zJt} {d : Nat → Nat → UInt64} (x1 : Int) (x2 : Int) (x3 : Int) (x4 : Int) : zGo false 215 93 [.ref 430, .int (zi x1), .int (zi x2), .int (zi x3), .int (zi x4)] [] (zm V J d) =
    zGo false 215 40 [.ref 430, .int (zi x1), .int (zi x2), .int (zi x3), .int (zi (x4 + 1))] [] (zm V J d) := by
  refine (zr_iinc (n := 4) (k := 1) (x := x4) (l1 := [.ref 430, .int (zi x1), .int (zi x2), .int (zi x3), .int (zi (x4 + 1))]) (by decide +kernel) rfl rfl).trans ?_
  refine (zr_goto (off := -56) (t := 40) (by decide +kernel) rfl).trans ?_
  rfl
theorem ze_215_99 {V : zVt} {J : zJt} {d : Nat → Nat → UInt64} (x1 : Int) (x2 : Int) (x3 : Int) (x4 : Int) : zGo false 215 99 [.ref 430, .int (zi x1), .int (zi x2), .int (zi x3), .int (zi x4)] [] (zm V J d) =
    zGo false 215 9 [.ref 430, .int (zi x1), .int (zi (x2 + 1)), .int (zi x3), .int (zi x4)] [] (zm V J d) := by
  refine (zr_iinc (n := 2) (k := 1) (x := x2) (l1 := [.ref 430, .int (zi x1), .int (zi (x2 + 1)), .int (zi x3), .int (zi x4)]) (by decide +kernel) rfl rfl).trans ?_
  refine (zr_goto (off := -93) (t := 9) (by decide +kernel) rfl).trans ?_
  rfl
/-! PartSongDeskModel finds (I)I -/
theorem ze_216_0 {V : zVt} {J : zJt} {d : Nat → Nat → UInt64} (x1 : Int) : zGo false 216 0 [.ref 430, .int (zi x1), .null, .null, .null, .null] [] (zm V J d) =
    zGo false 216 4 [.ref 430, .int (zi x1), .int (zi (0)), .int (zi (0)), .null, .null] [] (zm V J d) := by
  refine (zr_iconst (n := 0) (by decide +kernel)).trans ?_
  refine (zr_istore_n (n := 2) (l1 := [.ref 430, .int (zi x1), .int (zi (0)), .null, .null, .null]) (by decide +kernel) rfl).trans ?_
  refine (zr_iconst (n := 0) (by decide +kernel)).trans ?_
  refine (zr_istore_n (n := 3) (l1 := [.ref 430, .int (zi x1), .int (zi (0)), .int (zi (0)), .null, .null]) (by decide +kernel) rfl).trans ?_
  rfl
theorem ze_216_4 {V : zVt} {J : zJt} {d : Nat → Nat → UInt64} (x1 : Int) (x2 : Int) (x3 : Int) (x4 : Value) (x5 : Value) : zGo false 216 4 [.ref 430, .int (zi x1), .int (zi x2), .int (zi x3), x4, x5] [] (zm V J d) =
    (if qw (12) ≤ qw x3 then some (.inl (some (.int (zi x2))), zm V J d) else zck (0 ≤ qw x1 ∧ qw x1 < (40 : Nat)) ((zGo false 191 0 [.ref 430, .int (zi (V 463 (qw x1))), .int (zi x3), .null, .null] [] (zm V J d)).bind (zGor false 216 21 [.ref 430, .int (zi x1), .int (zi x2), .int (zi x3), x4, x5] []))) := by
  refine (zr_iload_n (n := 3) (x := zi x3) (by decide +kernel) rfl).trans ?_
  refine (zr_bipush (n := 12) (by decide +kernel) rfl).trans ?_
  refine (zr_cge (off := 124) (a := x3) (b := (12)) (t := 131) (by decide +kernel) rfl).trans (zif_ct (fun _ => ?_) (fun _ => ?_))
  · refine (zr_iload_n (n := 2) (x := zi x2) (by decide +kernel) rfl).trans ?_
    exact zr_iret (a := x2) (by decide +kernel) rfl
  · refine (zr_aload_n (n := 0) (x := 430) (by decide +kernel) rfl).trans ?_
    refine (zr_aload_n (n := 0) (x := 430) (by decide +kernel) rfl).trans ?_
    refine (zr_getR (i := 108) (c := 12) (k := 47) (r := 463) (by decide +kernel) (by decide +kernel) rfl (by decide +kernel) (zR0_f (o := 430) (c := 12) (n := 0) (k := 47) (j := 33) rfl (by decide) rfl)).trans ?_
    refine (zr_iload_n (n := 1) (x := zi x1) (by decide +kernel) rfl).trans ?_
    refine (zr_iald (n := 40) (e := x1) (by decide +kernel) rfl).trans (zck_ct fun _ => ?_)
    refine (zr_iload_n (n := 3) (x := zi x3) (by decide +kernel) rfl).trans ?_
    exact zr_cV (i := 307) (z := 191) (w := 0) (o := 430) (t := [.int (zi x3), .int (zi (V 463 (qw x1)))]) (rest := []) (L := [.ref 430, .int (zi (V 463 (qw x1))), .int (zi x3), .null, .null]) (pc1 := 21) (by decide +kernel) (by decide +kernel) rfl (n := 2) (r := 0) rfl rfl rfl (by decide +kernel) rfl rfl
theorem ze_216_21 {V : zVt} {J : zJt} {d : Nat → Nat → UInt64} (x1 : Int) (x2 : Int) (x3 : Int) (x4 : Value) (x5 : Value) (s0 : Int) : zGo false 216 21 [.ref 430, .int (zi x1), .int (zi x2), .int (zi x3), x4, x5] [.int (zi s0)] (zm V J d) =
    (if qw s0 = qw (-1) then zGo false 216 55 [.ref 430, .int (zi x1), .int (zi x2), .int (zi x3), .int (zi s0), x5] [] (zm V J d) else zck (0 ≤ qw x1 ∧ qw x1 < (40 : Nat)) (zck (0 ≤ qw s0 ∧ qw s0 < (40 : Nat)) (zck (qw (4) ≠ 0) ((if qw (qand (qshr (V 464 (qw x1)) (qrem (V 454 (qw s0)) (4))) (1)) ≠ qw (1) then zGo false 216 55 [.ref 430, .int (zi x1), .int (zi x2), .int (zi x3), .int (zi s0), x5] [] (zm V J d) else zGo false 216 56 [.ref 430, .int (zi x1), .int (zi x2), .int (zi x3), .int (zi s0), x5] [.int (zi (1))] (zm V J d)))))) := by
  refine (zr_istore (n := 4) (l1 := [.ref 430, .int (zi x1), .int (zi x2), .int (zi x3), .int (zi s0), x5]) (by decide +kernel) rfl).trans ?_
  refine (zr_iload (n := 4) (x := zi s0) (by decide +kernel) rfl).trans ?_
  refine (zr_iconst (n := -1) (by decide +kernel)).trans ?_
  refine (zr_ceq (off := 29) (a := s0) (b := (-1)) (t := 55) (by decide +kernel) rfl).trans (zif_ct (fun _ => ?_) (fun _ => ?_))
  · rfl
  · refine (zr_aload_n (n := 0) (x := 430) (by decide +kernel) rfl).trans ?_
    refine (zr_getR (i := 111) (c := 12) (k := 48) (r := 464) (by decide +kernel) (by decide +kernel) rfl (by decide +kernel) (zR0_f (o := 430) (c := 12) (n := 0) (k := 48) (j := 34) rfl (by decide) rfl)).trans ?_
    refine (zr_iload_n (n := 1) (x := zi x1) (by decide +kernel) rfl).trans ?_
    refine (zr_iald (n := 40) (e := x1) (by decide +kernel) rfl).trans (zck_ct fun _ => ?_)
    refine (zr_aload_n (n := 0) (x := 430) (by decide +kernel) rfl).trans ?_
    refine (zr_getR (i := 81) (c := 12) (k := 35) (r := 454) (by decide +kernel) (by decide +kernel) rfl (by decide +kernel) (zR0_f (o := 430) (c := 12) (n := 0) (k := 35) (j := 24) rfl (by decide) rfl)).trans ?_
    refine (zr_iload (n := 4) (x := zi s0) (by decide +kernel) rfl).trans ?_
    refine (zr_iald (n := 40) (e := s0) (by decide +kernel) rfl).trans (zck_ct fun _ => ?_)
    refine (zr_iconst (n := 4) (by decide +kernel)).trans ?_
    refine (zr_irem (a := (V 454 (qw s0))) (b := (4)) (by decide +kernel)).trans (zck_ct fun _ => ?_)
    refine (zr_ishr (a := (V 464 (qw x1))) (b := (qrem (V 454 (qw s0)) (4))) (by decide +kernel)).trans ?_
    refine (zr_iconst (n := 1) (by decide +kernel)).trans ?_
    refine (zr_iand (a := (qshr (V 464 (qw x1)) (qrem (V 454 (qw s0)) (4)))) (b := (1)) (by decide +kernel)).trans ?_
    refine (zr_iconst (n := 1) (by decide +kernel)).trans ?_
    refine (zr_cne (off := 7) (a := (qand (qshr (V 464 (qw x1)) (qrem (V 454 (qw s0)) (4))) (1))) (b := (1)) (t := 55) (by decide +kernel) rfl).trans (zif_ct (fun _ => ?_) (fun _ => ?_))
    · rfl
    · refine (zr_iconst (n := 1) (by decide +kernel)).trans ?_
      refine (zr_goto (off := 4) (t := 56) (by decide +kernel) rfl).trans ?_
      rfl
theorem ze_216_55 {V : zVt} {J : zJt} {d : Nat → Nat → UInt64} (x1 : Int) (x2 : Int) (x3 : Int) (x4 : Int) (x5 : Value) : zGo false 216 55 [.ref 430, .int (zi x1), .int (zi x2), .int (zi x3), .int (zi x4), x5] [] (zm V J d) =
    zGo false 216 56 [.ref 430, .int (zi x1), .int (zi x2), .int (zi x3), .int (zi x4), x5] [.int (zi (0))] (zm V J d) := by
  refine (zr_iconst (n := 0) (by decide +kernel)).trans ?_
  rfl
theorem ze_216_56 {V : zVt} {J : zJt} {d : Nat → Nat → UInt64} (x1 : Int) (x2 : Int) (x3 : Int) (x4 : Int) (x5 : Value) (s0 : Int) : zGo false 216 56 [.ref 430, .int (zi x1), .int (zi x2), .int (zi x3), .int (zi x4), x5] [.int (zi s0)] (zm V J d) =
    (if qw s0 = 0 then zGo false 216 92 [.ref 430, .int (zi x1), .int (zi x2), .int (zi x3), .int (zi x4), .int (zi s0)] [] (zm V J d) else (zGo false 198 0 [.ref 430, .int (zi (0)), .int (zi x4)] [] (zm V J d)).bind (zGor false 216 70 [.ref 430, .int (zi x1), .int (zi x2), .int (zi x3), .int (zi x4), .int (zi s0)] [])) := by
  refine (zr_istore (n := 5) (l1 := [.ref 430, .int (zi x1), .int (zi x2), .int (zi x3), .int (zi x4), .int (zi s0)]) (by decide +kernel) rfl).trans ?_
  refine (zr_iload (n := 5) (x := zi s0) (by decide +kernel) rfl).trans ?_
  refine (zr_ifeq (off := 32) (a := s0) (t := 92) (by decide +kernel) rfl).trans (zif_ct (fun _ => ?_) (fun _ => ?_))
  · rfl
  · refine (zr_aload_n (n := 0) (x := 430) (by decide +kernel) rfl).trans ?_
    refine (zr_iconst (n := 0) (by decide +kernel)).trans ?_
    refine (zr_iload (n := 4) (x := zi x4) (by decide +kernel) rfl).trans ?_
    exact zr_cV (i := 316) (z := 198) (w := 0) (o := 430) (t := [.int (zi x4), .int (zi (0))]) (rest := []) (L := [.ref 430, .int (zi (0)), .int (zi x4)]) (pc1 := 70) (by decide +kernel) (by decide +kernel) rfl (n := 2) (r := 0) rfl rfl rfl (by decide +kernel) rfl rfl
theorem ze_216_70 {V : zVt} {J : zJt} {d : Nat → Nat → UInt64} (x1 : Int) (x2 : Int) (x3 : Int) (x4 : Int) (x5 : Int) (s0 : Int) : zGo false 216 70 [.ref 430, .int (zi x1), .int (zi x2), .int (zi x3), .int (zi x4), .int (zi x5)] [.int (zi s0)] (zm V J d) =
    (if qw s0 ≠ 0 then zGo false 216 92 [.ref 430, .int (zi x1), .int (zi x2), .int (zi x3), .int (zi x4), .int (zi x5)] [] (zm V J d) else zck (0 ≤ qw x1 ∧ qw x1 < (40 : Nat)) (zck (0 ≤ qw (0) ∧ qw (0) < (5 : Nat)) ((if qw (V 449 (qw (0))) ≤ qw (V 466 (qw x1)) then zGo false 216 92 [.ref 430, .int (zi x1), .int (zi x2), .int (zi x3), .int (zi x4), .int (zi x5)] [] (zm V J d) else zGo false 216 93 [.ref 430, .int (zi x1), .int (zi x2), .int (zi x3), .int (zi x4), .int (zi x5)] [.int (zi (1))] (zm V J d))))) := by
  refine (zr_ifne (off := 22) (a := s0) (t := 92) (by decide +kernel) rfl).trans (zif_ct (fun _ => ?_) (fun _ => ?_))
  · rfl
  · refine (zr_aload_n (n := 0) (x := 430) (by decide +kernel) rfl).trans ?_
    refine (zr_getR (i := 117) (c := 12) (k := 50) (r := 466) (by decide +kernel) (by decide +kernel) rfl (by decide +kernel) (zR0_f (o := 430) (c := 12) (n := 0) (k := 50) (j := 36) rfl (by decide) rfl)).trans ?_
    refine (zr_iload_n (n := 1) (x := zi x1) (by decide +kernel) rfl).trans ?_
    refine (zr_iald (n := 40) (e := x1) (by decide +kernel) rfl).trans (zck_ct fun _ => ?_)
    refine (zr_aload_n (n := 0) (x := 430) (by decide +kernel) rfl).trans ?_
    refine (zr_getR (i := 65) (c := 12) (k := 30) (r := 449) (by decide +kernel) (by decide +kernel) rfl (by decide +kernel) (zR0_f (o := 430) (c := 12) (n := 0) (k := 30) (j := 19) rfl (by decide) rfl)).trans ?_
    refine (zr_iconst (n := 0) (by decide +kernel)).trans ?_
    refine (zr_iald (n := 5) (e := (0)) (by decide +kernel) rfl).trans (zck_ct fun _ => ?_)
    refine (zr_cge (off := 7) (a := (V 466 (qw x1))) (b := (V 449 (qw (0)))) (t := 92) (by decide +kernel) rfl).trans (zif_ct (fun _ => ?_) (fun _ => ?_))
    · rfl
    · refine (zr_iconst (n := 1) (by decide +kernel)).trans ?_
      refine (zr_goto (off := 4) (t := 93) (by decide +kernel) rfl).trans ?_
      rfl
theorem ze_216_92 {V : zVt} {J : zJt} {d : Nat → Nat → UInt64} (x1 : Int) (x2 : Int) (x3 : Int) (x4 : Int) (x5 : Int) : zGo false 216 92 [.ref 430, .int (zi x1), .int (zi x2), .int (zi x3), .int (zi x4), .int (zi x5)] [] (zm V J d) =
    zGo false 216 93 [.ref 430, .int (zi x1), .int (zi x2), .int (zi x3), .int (zi x4), .int (zi x5)] [.int (zi (0))] (zm V J d) := by
  refine (zr_iconst (n := 0) (by decide +kernel)).trans ?_
  rfl
theorem ze_216_93 {V : zVt} {J : zJt} {d : Nat → Nat → UInt64} (x1 : Int) (x2 : Int) (x3 : Int) (x4 : Int) (x5 : Int) (s0 : Int) : zGo false 216 93 [.ref 430, .int (zi x1), .int (zi x2), .int (zi x3), .int (zi x4), .int (zi x5)] [.int (zi s0)] (zm V J d) =
    (if qw s0 = 0 then zGo false 216 111 [.ref 430, .int (zi x1), .int (zi x2), .int (zi x3), .int (zi x4), .int (zi s0)] [.int (zi (-1)), .int (zi x3), .ref 473] (zm V J d) else zGo false 216 111 [.ref 430, .int (zi x1), .int (zi x2), .int (zi x3), .int (zi x4), .int (zi s0)] [.int (zi x4), .int (zi x3), .ref 473] (zm V J d)) := by
  refine (zr_istore (n := 5) (l1 := [.ref 430, .int (zi x1), .int (zi x2), .int (zi x3), .int (zi x4), .int (zi s0)]) (by decide +kernel) rfl).trans ?_
  refine (zr_aload_n (n := 0) (x := 430) (by decide +kernel) rfl).trans ?_
  refine (zr_getR (i := 138) (c := 12) (k := 58) (r := 473) (by decide +kernel) (by decide +kernel) rfl (by decide +kernel) (zR0_f (o := 430) (c := 12) (n := 0) (k := 58) (j := 43) rfl (by decide) rfl)).trans ?_
  refine (zr_iload_n (n := 3) (x := zi x3) (by decide +kernel) rfl).trans ?_
  refine (zr_iload (n := 5) (x := zi s0) (by decide +kernel) rfl).trans ?_
  refine (zr_ifeq (off := 8) (a := s0) (t := 110) (by decide +kernel) rfl).trans (zif_ct (fun _ => ?_) (fun _ => ?_))
  · refine (zr_iconst (n := -1) (by decide +kernel)).trans ?_
    rfl
  · refine (zr_iload (n := 4) (x := zi x4) (by decide +kernel) rfl).trans ?_
    refine (zr_goto (off := 4) (t := 111) (by decide +kernel) rfl).trans ?_
    rfl
theorem ze_216_111 {V : zVt} {J : zJt} {d : Nat → Nat → UInt64} (x1 : Int) (x2 : Int) (x3 : Int) (x4 : Int) (x5 : Int) (s1 : Int) (s2 : Int) : zGo false 216 111 [.ref 430, .int (zi x1), .int (zi x2), .int (zi x3), .int (zi x4), .int (zi x5)] [.int (zi s2), .int (zi s1), .ref 473] (zm V J d) =
    zck (0 ≤ qw s1 ∧ qw s1 < (12 : Nat)) ((if qw x5 = 0 then zGo false 216 123 [.ref 430, .int (zi x1), .int (zi x2), .int (zi x3), .int (zi x4), .int (zi x5)] [.int (zi (0)), .int (zi x2)] (zm (vup V 473 (qw s1) s2) J d) else zGo false 216 123 [.ref 430, .int (zi x1), .int (zi x2), .int (zi x3), .int (zi x4), .int (zi x5)] [.int (zi (1)), .int (zi x2)] (zm (vup V 473 (qw s1) s2) J d))) := by
  refine (zr_iast (n := 12) (e := s1) (x := s2) (by decide +kernel) rfl).trans (zck_ct fun _ => ?_)
  refine (zr_iload_n (n := 2) (x := zi x2) (by decide +kernel) rfl).trans ?_
  refine (zr_iload (n := 5) (x := zi x5) (by decide +kernel) rfl).trans ?_
  refine (zr_ifeq (off := 7) (a := x5) (t := 122) (by decide +kernel) rfl).trans (zif_ct (fun _ => ?_) (fun _ => ?_))
  · refine (zr_iconst (n := 0) (by decide +kernel)).trans ?_
    rfl
  · refine (zr_iconst (n := 1) (by decide +kernel)).trans ?_
    refine (zr_goto (off := 4) (t := 123) (by decide +kernel) rfl).trans ?_
    rfl
theorem ze_216_123 {V : zVt} {J : zJt} {d : Nat → Nat → UInt64} (x1 : Int) (x2 : Int) (x3 : Int) (x4 : Int) (x5 : Int) (s0 : Int) (s1 : Int) : zGo false 216 123 [.ref 430, .int (zi x1), .int (zi x2), .int (zi x3), .int (zi x4), .int (zi x5)] [.int (zi s1), .int (zi s0)] (zm V J d) =
    zGo false 216 4 [.ref 430, .int (zi x1), .int (zi (s0 + s1)), .int (zi (x3 + 1)), .int (zi x4), .int (zi x5)] [] (zm V J d) := by
  refine (zr_iadd (a := s0) (b := s1) (by decide +kernel)).trans ?_
  refine (zr_istore_n (n := 2) (l1 := [.ref 430, .int (zi x1), .int (zi (s0 + s1)), .int (zi x3), .int (zi x4), .int (zi x5)]) (by decide +kernel) rfl).trans ?_
  refine (zr_iinc (n := 3) (k := 1) (x := x3) (l1 := [.ref 430, .int (zi x1), .int (zi (s0 + s1)), .int (zi (x3 + 1)), .int (zi x4), .int (zi x5)]) (by decide +kernel) rfl rfl).trans ?_
  refine (zr_goto (off := -124) (t := 4) (by decide +kernel) rfl).trans ?_
  rfl
/-! PartSongDeskModel isFree (III)Z -/
theorem ze_217_0 {V : zVt} {J : zJt} {d : Nat → Nat → UInt64} (x1 : Int) (x2 : Int) (x3 : Int) : zGo false 217 0 [.ref 430, .int (zi x1), .int (zi x2), .int (zi x3), .null, .null] [] (zm V J d) =
    zck (0 ≤ qw (((4) * x1) + x2) ∧ qw (((4) * x1) + x2) < (16 : Nat)) ((if qw (V 461 (qw (((4) * x1) + x2))) ≠ 0 then zGo false 217 27 [.ref 430, .int (zi x1), .int (zi x2), .int (zi x3), .null, .null] [] (zm V J d) else zck (0 ≤ qw x2 ∧ qw x2 < (4 : Nat)) ((if qw (V 460 (qw x2)) < qw x3 then zGo false 217 27 [.ref 430, .int (zi x1), .int (zi x2), .int (zi x3), .null, .null] [] (zm V J d) else zGo false 217 28 [.ref 430, .int (zi x1), .int (zi x2), .int (zi x3), .null, .null] [.int (zi (1))] (zm V J d))))) := by
  refine (zr_aload_n (n := 0) (x := 430) (by decide +kernel) rfl).trans ?_
  refine (zr_getR (i := 102) (c := 12) (k := 44) (r := 461) (by decide +kernel) (by decide +kernel) rfl (by decide +kernel) (zR0_f (o := 430) (c := 12) (n := 0) (k := 44) (j := 31) rfl (by decide) rfl)).trans ?_
  refine (zr_iconst (n := 4) (by decide +kernel)).trans ?_
  refine (zr_iload_n (n := 1) (x := zi x1) (by decide +kernel) rfl).trans ?_
  refine (zr_imul (a := (4)) (b := x1) (by decide +kernel)).trans ?_
  refine (zr_iload_n (n := 2) (x := zi x2) (by decide +kernel) rfl).trans ?_
  refine (zr_iadd (a := ((4) * x1)) (b := x2) (by decide +kernel)).trans ?_
  refine (zr_zald (n := 16) (e := (((4) * x1) + x2)) (by decide +kernel) rfl).trans (zck_ct fun _ => ?_)
  refine (zr_ifne (off := 17) (a := (V 461 (qw (((4) * x1) + x2)))) (t := 27) (by decide +kernel) rfl).trans (zif_ct (fun _ => ?_) (fun _ => ?_))
  · rfl
  · refine (zr_aload_n (n := 0) (x := 430) (by decide +kernel) rfl).trans ?_
    refine (zr_getR (i := 99) (c := 12) (k := 43) (r := 460) (by decide +kernel) (by decide +kernel) rfl (by decide +kernel) (zR0_f (o := 430) (c := 12) (n := 0) (k := 43) (j := 30) rfl (by decide) rfl)).trans ?_
    refine (zr_iload_n (n := 2) (x := zi x2) (by decide +kernel) rfl).trans ?_
    refine (zr_iald (n := 4) (e := x2) (by decide +kernel) rfl).trans (zck_ct fun _ => ?_)
    refine (zr_iload_n (n := 3) (x := zi x3) (by decide +kernel) rfl).trans ?_
    refine (zr_clt (off := 7) (a := (V 460 (qw x2))) (b := x3) (t := 27) (by decide +kernel) rfl).trans (zif_ct (fun _ => ?_) (fun _ => ?_))
    · rfl
    · refine (zr_iconst (n := 1) (by decide +kernel)).trans ?_
      refine (zr_goto (off := 4) (t := 28) (by decide +kernel) rfl).trans ?_
      rfl
theorem ze_217_27 {V : zVt} {J : zJt} {d : Nat → Nat → UInt64} (x1 : Int) (x2 : Int) (x3 : Int) : zGo false 217 27 [.ref 430, .int (zi x1), .int (zi x2), .int (zi x3), .null, .null] [] (zm V J d) =
    zGo false 217 28 [.ref 430, .int (zi x1), .int (zi x2), .int (zi x3), .null, .null] [.int (zi (0))] (zm V J d) := by
  refine (zr_iconst (n := 0) (by decide +kernel)).trans ?_
  rfl
theorem ze_217_28 {V : zVt} {J : zJt} {d : Nat → Nat → UInt64} (x1 : Int) (x2 : Int) (x3 : Int) (s0 : Int) : zGo false 217 28 [.ref 430, .int (zi x1), .int (zi x2), .int (zi x3), .null, .null] [.int (zi s0)] (zm V J d) =
    zGo false 217 33 [.ref 430, .int (zi x1), .int (zi x2), .int (zi x3), .int (zi s0), .int (zi (0))] [] (zm V J d) := by
  refine (zr_istore (n := 4) (l1 := [.ref 430, .int (zi x1), .int (zi x2), .int (zi x3), .int (zi s0), .null]) (by decide +kernel) rfl).trans ?_
  refine (zr_iconst (n := 0) (by decide +kernel)).trans ?_
  refine (zr_istore (n := 5) (l1 := [.ref 430, .int (zi x1), .int (zi x2), .int (zi x3), .int (zi s0), .int (zi (0))]) (by decide +kernel) rfl).trans ?_
  rfl
theorem ze_217_33 {V : zVt} {J : zJt} {d : Nat → Nat → UInt64} (x1 : Int) (x2 : Int) (x3 : Int) (x4 : Int) (x5 : Int) : zGo false 217 33 [.ref 430, .int (zi x1), .int (zi x2), .int (zi x3), .int (zi x4), .int (zi x5)] [] (zm V J d) =
    (if qw (12) ≤ qw x5 then zck (qw x4 = 0 ∨ qw x4 = 1) (some (.inl (some (.int (zi x4))), zm V J d)) else (if qw x4 = 0 then zGo false 217 75 [.ref 430, .int (zi x1), .int (zi x2), .int (zi x3), .int (zi x4), .int (zi x5)] [] (zm V J d) else zck (0 ≤ qw x5 ∧ qw x5 < (12 : Nat)) ((if qw (V 473 (qw x5)) = qw (-1) then zGo false 217 71 [.ref 430, .int (zi x1), .int (zi x2), .int (zi x3), .int (zi x4), .int (zi x5)] [] (zm V J d) else zck (0 ≤ qw (((12) * x1) + x5) ∧ qw (((12) * x1) + x5) < (48 : Nat)) ((if qw (V 462 (qw (((12) * x1) + x5))) ≠ 0 then zGo false 217 75 [.ref 430, .int (zi x1), .int (zi x2), .int (zi x3), .int (zi x4), .int (zi x5)] [] (zm V J d) else zGo false 217 71 [.ref 430, .int (zi x1), .int (zi x2), .int (zi x3), .int (zi x4), .int (zi x5)] [] (zm V J d))))))) := by
  refine (zr_iload (n := 5) (x := zi x5) (by decide +kernel) rfl).trans ?_
  refine (zr_bipush (n := 12) (by decide +kernel) rfl).trans ?_
  refine (zr_cge (off := 47) (a := x5) (b := (12)) (t := 84) (by decide +kernel) rfl).trans (zif_ct (fun _ => ?_) (fun _ => ?_))
  · refine (zr_iload (n := 4) (x := zi x4) (by decide +kernel) rfl).trans ?_
    exact zr_zret (a := x4) (by decide +kernel) rfl
  · refine (zr_iload (n := 4) (x := zi x4) (by decide +kernel) rfl).trans ?_
    refine (zr_ifeq (off := 33) (a := x4) (t := 75) (by decide +kernel) rfl).trans (zif_ct (fun _ => ?_) (fun _ => ?_))
    · rfl
    · refine (zr_aload_n (n := 0) (x := 430) (by decide +kernel) rfl).trans ?_
      refine (zr_getR (i := 138) (c := 12) (k := 58) (r := 473) (by decide +kernel) (by decide +kernel) rfl (by decide +kernel) (zR0_f (o := 430) (c := 12) (n := 0) (k := 58) (j := 43) rfl (by decide) rfl)).trans ?_
      refine (zr_iload (n := 5) (x := zi x5) (by decide +kernel) rfl).trans ?_
      refine (zr_iald (n := 12) (e := x5) (by decide +kernel) rfl).trans (zck_ct fun _ => ?_)
      refine (zr_iconst (n := -1) (by decide +kernel)).trans ?_
      refine (zr_ceq (off := 18) (a := (V 473 (qw x5))) (b := (-1)) (t := 71) (by decide +kernel) rfl).trans (zif_ct (fun _ => ?_) (fun _ => ?_))
      · rfl
      · refine (zr_aload_n (n := 0) (x := 430) (by decide +kernel) rfl).trans ?_
        refine (zr_getR (i := 105) (c := 12) (k := 45) (r := 462) (by decide +kernel) (by decide +kernel) rfl (by decide +kernel) (zR0_f (o := 430) (c := 12) (n := 0) (k := 45) (j := 32) rfl (by decide) rfl)).trans ?_
        refine (zr_bipush (n := 12) (by decide +kernel) rfl).trans ?_
        refine (zr_iload_n (n := 1) (x := zi x1) (by decide +kernel) rfl).trans ?_
        refine (zr_imul (a := (12)) (b := x1) (by decide +kernel)).trans ?_
        refine (zr_iload (n := 5) (x := zi x5) (by decide +kernel) rfl).trans ?_
        refine (zr_iadd (a := ((12) * x1)) (b := x5) (by decide +kernel)).trans ?_
        refine (zr_zald (n := 48) (e := (((12) * x1) + x5)) (by decide +kernel) rfl).trans (zck_ct fun _ => ?_)
        refine (zr_ifne (off := 7) (a := (V 462 (qw (((12) * x1) + x5)))) (t := 75) (by decide +kernel) rfl).trans (zif_ct (fun _ => ?_) (fun _ => ?_))
        · rfl
        · rfl
theorem ze_217_71 {V : zVt} {J : zJt} {d : Nat → Nat → UInt64} (x1 : Int) (x2 : Int) (x3 : Int) (x4 : Int) (x5 : Int) : zGo false 217 71 [.ref 430, .int (zi x1), .int (zi x2), .int (zi x3), .int (zi x4), .int (zi x5)] [] (zm V J d) =
    zGo false 217 76 [.ref 430, .int (zi x1), .int (zi x2), .int (zi x3), .int (zi x4), .int (zi x5)] [.int (zi (1))] (zm V J d) := by
  refine (zr_iconst (n := 1) (by decide +kernel)).trans ?_
  refine (zr_goto (off := 4) (t := 76) (by decide +kernel) rfl).trans ?_
  rfl
theorem ze_217_75 {V : zVt} {J : zJt} {d : Nat → Nat → UInt64} (x1 : Int) (x2 : Int) (x3 : Int) (x4 : Int) (x5 : Int) : zGo false 217 75 [.ref 430, .int (zi x1), .int (zi x2), .int (zi x3), .int (zi x4), .int (zi x5)] [] (zm V J d) =
    zGo false 217 76 [.ref 430, .int (zi x1), .int (zi x2), .int (zi x3), .int (zi x4), .int (zi x5)] [.int (zi (0))] (zm V J d) := by
  refine (zr_iconst (n := 0) (by decide +kernel)).trans ?_
  rfl
theorem ze_217_76 {V : zVt} {J : zJt} {d : Nat → Nat → UInt64} (x1 : Int) (x2 : Int) (x3 : Int) (x4 : Int) (x5 : Int) (s0 : Int) : zGo false 217 76 [.ref 430, .int (zi x1), .int (zi x2), .int (zi x3), .int (zi x4), .int (zi x5)] [.int (zi s0)] (zm V J d) =
    zGo false 217 33 [.ref 430, .int (zi x1), .int (zi x2), .int (zi x3), .int (zi s0), .int (zi (x5 + 1))] [] (zm V J d) := by
  refine (zr_istore (n := 4) (l1 := [.ref 430, .int (zi x1), .int (zi x2), .int (zi x3), .int (zi s0), .int (zi x5)]) (by decide +kernel) rfl).trans ?_
  refine (zr_iinc (n := 5) (k := 1) (x := x5) (l1 := [.ref 430, .int (zi x1), .int (zi x2), .int (zi x3), .int (zi s0), .int (zi (x5 + 1))]) (by decide +kernel) rfl rfl).trans ?_
  refine (zr_goto (off := -48) (t := 33) (by decide +kernel) rfl).trans ?_
  rfl
/-! PartSongDeskModel rehearses (III)V -/
theorem ze_218_0 {V : zVt} {J : zJt} {d : Nat → Nat → UInt64} (x1 : Int) (x2 : Int) (x3 : Int) : zGo false 218 0 [.ref 430, .int (zi x1), .int (zi x2), .int (zi x3), .null] [] (zm V J d) =
    zck ((0 ≤ qw (((4) * x2) + x3) ∧ qw (((4) * x2) + x3) < (16 : Nat)) ∧ (qw (1) = 0 ∨ qw (1) = 1)) (zck (0 ≤ qw x1 ∧ qw x1 < (40 : Nat)) (zGo false 218 34 [.ref 430, .int (zi x1), .int (zi x2), .int (zi x3), .int (zi (0))] [] (zm (vup (vup V 461 (qw (((4) * x2) + x3)) (1)) 467 (qw x1) ((((100) * ((vup V 461 (qw (((4) * x2) + x3)) (1)) 430 46)) + ((10) * x2)) + x3)) J d))) := by
  refine (zr_aload_n (n := 0) (x := 430) (by decide +kernel) rfl).trans ?_
  refine (zr_getR (i := 102) (c := 12) (k := 44) (r := 461) (by decide +kernel) (by decide +kernel) rfl (by decide +kernel) (zR0_f (o := 430) (c := 12) (n := 0) (k := 44) (j := 31) rfl (by decide) rfl)).trans ?_
  refine (zr_iconst (n := 4) (by decide +kernel)).trans ?_
  refine (zr_iload_n (n := 2) (x := zi x2) (by decide +kernel) rfl).trans ?_
  refine (zr_imul (a := (4)) (b := x2) (by decide +kernel)).trans ?_
  refine (zr_iload_n (n := 3) (x := zi x3) (by decide +kernel) rfl).trans ?_
  refine (zr_iadd (a := ((4) * x2)) (b := x3) (by decide +kernel)).trans ?_
  refine (zr_iconst (n := 1) (by decide +kernel)).trans ?_
  refine (zr_zast (n := 16) (e := (((4) * x2) + x3)) (x := (1)) (by decide +kernel) rfl).trans (zck_ct fun _ => ?_)
  refine (zr_aload_n (n := 0) (x := 430) (by decide +kernel) rfl).trans ?_
  refine (zr_getR (i := 120) (c := 12) (k := 51) (r := 467) (by decide +kernel) (by decide +kernel) rfl (by decide +kernel) (zR0_f (o := 430) (c := 12) (n := 0) (k := 51) (j := 37) rfl (by decide) rfl)).trans ?_
  refine (zr_iload_n (n := 1) (x := zi x1) (by decide +kernel) rfl).trans ?_
  refine (zr_bipush (n := 100) (by decide +kernel) rfl).trans ?_
  refine (zr_aload_n (n := 0) (x := 430) (by decide +kernel) rfl).trans ?_
  refine (zr_getI (i := 344) (c := 12) (k := 46) (by decide +kernel) (by decide +kernel) rfl (by decide +kernel)).trans ?_
  refine (zr_imul (a := (100)) (b := ((vup V 461 (qw (((4) * x2) + x3)) (1)) 430 46)) (by decide +kernel)).trans ?_
  refine (zr_bipush (n := 10) (by decide +kernel) rfl).trans ?_
  refine (zr_iload_n (n := 2) (x := zi x2) (by decide +kernel) rfl).trans ?_
  refine (zr_imul (a := (10)) (b := x2) (by decide +kernel)).trans ?_
  refine (zr_iadd (a := ((100) * ((vup V 461 (qw (((4) * x2) + x3)) (1)) 430 46))) (b := ((10) * x2)) (by decide +kernel)).trans ?_
  refine (zr_iload_n (n := 3) (x := zi x3) (by decide +kernel) rfl).trans ?_
  refine (zr_iadd (a := (((100) * ((vup V 461 (qw (((4) * x2) + x3)) (1)) 430 46)) + ((10) * x2))) (b := x3) (by decide +kernel)).trans ?_
  refine (zr_iast (n := 40) (e := x1) (x := ((((100) * ((vup V 461 (qw (((4) * x2) + x3)) (1)) 430 46)) + ((10) * x2)) + x3)) (by decide +kernel) rfl).trans (zck_ct fun _ => ?_)
  refine (zr_iconst (n := 0) (by decide +kernel)).trans ?_
  refine (zr_istore (n := 4) (l1 := [.ref 430, .int (zi x1), .int (zi x2), .int (zi x3), .int (zi (0))]) (by decide +kernel) rfl).trans ?_
  rfl
theorem ze_218_34 {V : zVt} {J : zJt} {d : Nat → Nat → UInt64} (x1 : Int) (x2 : Int) (x3 : Int) (x4 : Int) : zGo false 218 34 [.ref 430, .int (zi x1), .int (zi x2), .int (zi x3), .int (zi x4)] [] (zm V J d) =
    (if qw (12) ≤ qw x4 then some (.inl none, zm V J d) else zck (0 ≤ qw x4 ∧ qw x4 < (12 : Nat)) ((if qw (V 473 (qw x4)) = qw (-1) then zGo false 218 90 [.ref 430, .int (zi x1), .int (zi x2), .int (zi x3), .int (zi x4)] [] (zm V J d) else zck ((0 ≤ qw (((12) * x2) + x4) ∧ qw (((12) * x2) + x4) < (48 : Nat)) ∧ (qw (1) = 0 ∨ qw (1) = 1)) (zck (0 ≤ qw x4 ∧ qw x4 < (12 : Nat)) (zck (0 ≤ qw x1 ∧ qw x1 < (40 : Nat)) (zck (0 ≤ qw x1 ∧ qw x1 < (40 : Nat)) ((zGo false 219 0 [.ref 430, .int (zi x4), .int (zi ((vup V 462 (qw (((12) * x2) + x4)) (1)) 473 (qw x4))), .int (zi ((vup V 462 (qw (((12) * x2) + x4)) (1)) 465 (qw x1))), .int (zi ((vup V 462 (qw (((12) * x2) + x4)) (1)) 466 (qw x1))), .null, .null] [] (zm (vup V 462 (qw (((12) * x2) + x4)) (1)) J d)).bind (zGor false 218 90 [.ref 430, .int (zi x1), .int (zi x2), .int (zi x3), .int (zi x4)] [])))))))) := by
  refine (zr_iload (n := 4) (x := zi x4) (by decide +kernel) rfl).trans ?_
  refine (zr_bipush (n := 12) (by decide +kernel) rfl).trans ?_
  refine (zr_cge (off := 58) (a := x4) (b := (12)) (t := 96) (by decide +kernel) rfl).trans (zif_ct (fun _ => ?_) (fun _ => ?_))
  · exact zr_vret (by decide +kernel) rfl
  · refine (zr_aload_n (n := 0) (x := 430) (by decide +kernel) rfl).trans ?_
    refine (zr_getR (i := 138) (c := 12) (k := 58) (r := 473) (by decide +kernel) (by decide +kernel) rfl (by decide +kernel) (zR0_f (o := 430) (c := 12) (n := 0) (k := 58) (j := 43) rfl (by decide) rfl)).trans ?_
    refine (zr_iload (n := 4) (x := zi x4) (by decide +kernel) rfl).trans ?_
    refine (zr_iald (n := 12) (e := x4) (by decide +kernel) rfl).trans (zck_ct fun _ => ?_)
    refine (zr_iconst (n := -1) (by decide +kernel)).trans ?_
    refine (zr_ceq (off := 41) (a := (V 473 (qw x4))) (b := (-1)) (t := 90) (by decide +kernel) rfl).trans (zif_ct (fun _ => ?_) (fun _ => ?_))
    · rfl
    · refine (zr_aload_n (n := 0) (x := 430) (by decide +kernel) rfl).trans ?_
      refine (zr_getR (i := 105) (c := 12) (k := 45) (r := 462) (by decide +kernel) (by decide +kernel) rfl (by decide +kernel) (zR0_f (o := 430) (c := 12) (n := 0) (k := 45) (j := 32) rfl (by decide) rfl)).trans ?_
      refine (zr_bipush (n := 12) (by decide +kernel) rfl).trans ?_
      refine (zr_iload_n (n := 2) (x := zi x2) (by decide +kernel) rfl).trans ?_
      refine (zr_imul (a := (12)) (b := x2) (by decide +kernel)).trans ?_
      refine (zr_iload (n := 4) (x := zi x4) (by decide +kernel) rfl).trans ?_
      refine (zr_iadd (a := ((12) * x2)) (b := x4) (by decide +kernel)).trans ?_
      refine (zr_iconst (n := 1) (by decide +kernel)).trans ?_
      refine (zr_zast (n := 48) (e := (((12) * x2) + x4)) (x := (1)) (by decide +kernel) rfl).trans (zck_ct fun _ => ?_)
      refine (zr_aload_n (n := 0) (x := 430) (by decide +kernel) rfl).trans ?_
      refine (zr_iload (n := 4) (x := zi x4) (by decide +kernel) rfl).trans ?_
      refine (zr_aload_n (n := 0) (x := 430) (by decide +kernel) rfl).trans ?_
      refine (zr_getR (i := 138) (c := 12) (k := 58) (r := 473) (by decide +kernel) (by decide +kernel) rfl (by decide +kernel) (zR0_f (o := 430) (c := 12) (n := 0) (k := 58) (j := 43) rfl (by decide) rfl)).trans ?_
      refine (zr_iload (n := 4) (x := zi x4) (by decide +kernel) rfl).trans ?_
      refine (zr_iald (n := 12) (e := x4) (by decide +kernel) rfl).trans (zck_ct fun _ => ?_)
      refine (zr_aload_n (n := 0) (x := 430) (by decide +kernel) rfl).trans ?_
      refine (zr_getR (i := 114) (c := 12) (k := 49) (r := 465) (by decide +kernel) (by decide +kernel) rfl (by decide +kernel) (zR0_f (o := 430) (c := 12) (n := 0) (k := 49) (j := 35) rfl (by decide) rfl)).trans ?_
      refine (zr_iload_n (n := 1) (x := zi x1) (by decide +kernel) rfl).trans ?_
      refine (zr_iald (n := 40) (e := x1) (by decide +kernel) rfl).trans (zck_ct fun _ => ?_)
      refine (zr_aload_n (n := 0) (x := 430) (by decide +kernel) rfl).trans ?_
      refine (zr_getR (i := 117) (c := 12) (k := 50) (r := 466) (by decide +kernel) (by decide +kernel) rfl (by decide +kernel) (zR0_f (o := 430) (c := 12) (n := 0) (k := 50) (j := 36) rfl (by decide) rfl)).trans ?_
      refine (zr_iload_n (n := 1) (x := zi x1) (by decide +kernel) rfl).trans ?_
      refine (zr_iald (n := 40) (e := x1) (by decide +kernel) rfl).trans (zck_ct fun _ => ?_)
      exact zr_cV (i := 354) (z := 219) (w := 0) (o := 430) (t := [.int (zi ((vup V 462 (qw (((12) * x2) + x4)) (1)) 466 (qw x1))), .int (zi ((vup V 462 (qw (((12) * x2) + x4)) (1)) 465 (qw x1))), .int (zi ((vup V 462 (qw (((12) * x2) + x4)) (1)) 473 (qw x4))), .int (zi x4)]) (rest := []) (L := [.ref 430, .int (zi x4), .int (zi ((vup V 462 (qw (((12) * x2) + x4)) (1)) 473 (qw x4))), .int (zi ((vup V 462 (qw (((12) * x2) + x4)) (1)) 465 (qw x1))), .int (zi ((vup V 462 (qw (((12) * x2) + x4)) (1)) 466 (qw x1))), .null, .null]) (pc1 := 90) (by decide +kernel) (by decide +kernel) rfl (n := 4) (r := 0) rfl rfl rfl (by decide +kernel) rfl rfl
theorem ze_218_90 {V : zVt} {J : zJt} {d : Nat → Nat → UInt64} (x1 : Int) (x2 : Int) (x3 : Int) (x4 : Int) : zGo false 218 90 [.ref 430, .int (zi x1), .int (zi x2), .int (zi x3), .int (zi x4)] [] (zm V J d) =
    zGo false 218 34 [.ref 430, .int (zi x1), .int (zi x2), .int (zi x3), .int (zi (x4 + 1))] [] (zm V J d) := by
  refine (zr_iinc (n := 4) (k := 1) (x := x4) (l1 := [.ref 430, .int (zi x1), .int (zi x2), .int (zi x3), .int (zi (x4 + 1))]) (by decide +kernel) rfl rfl).trans ?_
  refine (zr_goto (off := -59) (t := 34) (by decide +kernel) rfl).trans ?_
  rfl
/-! PartSongDeskModel learns (IIII)V -/
theorem ze_219_0 {V : zVt} {J : zJt} {d : Nat → Nat → UInt64} (x1 : Int) (x2 : Int) (x3 : Int) (x4 : Int) : zGo false 219 0 [.ref 430, .int (zi x1), .int (zi x2), .int (zi x3), .int (zi x4), .null, .null] [] (zm V J d) =
    (zGo false 198 0 [.ref 430, .int (zi (0)), .int (zi x2)] [] (zm V J d)).bind (zGor false 219 6 [.ref 430, .int (zi x1), .int (zi x2), .int (zi x3), .int (zi x4), .null, .null] []) := by
  refine (zr_aload_n (n := 0) (x := 430) (by decide +kernel) rfl).trans ?_
  refine (zr_iconst (n := 0) (by decide +kernel)).trans ?_
  refine (zr_iload_n (n := 2) (x := zi x2) (by decide +kernel) rfl).trans ?_
  exact zr_cV (i := 316) (z := 198) (w := 0) (o := 430) (t := [.int (zi x2), .int (zi (0))]) (rest := []) (L := [.ref 430, .int (zi (0)), .int (zi x2)]) (pc1 := 6) (by decide +kernel) (by decide +kernel) rfl (n := 2) (r := 0) rfl rfl rfl (by decide +kernel) rfl rfl
theorem ze_219_6 {V : zVt} {J : zJt} {d : Nat → Nat → UInt64} (x1 : Int) (x2 : Int) (x3 : Int) (x4 : Int) (s0 : Int) : zGo false 219 6 [.ref 430, .int (zi x1), .int (zi x2), .int (zi x3), .int (zi x4), .null, .null] [.int (zi s0)] (zm V J d) =
    zGo false 219 10 [.ref 430, .int (zi x1), .int (zi x2), .int (zi x3), .int (zi x4), .int (zi x3), .null] [] (zm V J d) := by
  refine (zr_pop (by decide +kernel) rfl).trans ?_
  refine (zr_iload_n (n := 3) (x := zi x3) (by decide +kernel) rfl).trans ?_
  refine (zr_istore (n := 5) (l1 := [.ref 430, .int (zi x1), .int (zi x2), .int (zi x3), .int (zi x4), .int (zi x3), .null]) (by decide +kernel) rfl).trans ?_
  rfl
theorem ze_219_10 {V : zVt} {J : zJt} {d : Nat → Nat → UInt64} (x1 : Int) (x2 : Int) (x3 : Int) (x4 : Int) (x5 : Int) (x6 : Value) : zGo false 219 10 [.ref 430, .int (zi x1), .int (zi x2), .int (zi x3), .int (zi x4), .int (zi x5), x6] [] (zm V J d) =
    (if qw x4 < qw x5 then some (.inl none, zm V J d) else zck (0 ≤ qw x2 ∧ qw x2 < (40 : Nat)) (zck (0 ≤ qw x2 ∧ qw x2 < (40 : Nat)) ((zGo false 220 0 [.ref 430, .int (zi x1), .int (zi (V 454 (qw x2))), .int (zi x5), .int (zi (0)), .null, .null] [] (zm V J d)).bind (zGor false 219 56 [.ref 430, .int (zi x1), .int (zi x2), .int (zi x3), .int (zi x4), .int (zi x5), .int (zi (((40) * (((12) * x1) + (V 454 (qw x2)))) + x5))] [.int (zi (((40) * (((12) * x1) + (V 454 (qw x2)))) + x5)), .ref 472])))) := by
  refine (zr_iload (n := 5) (x := zi x5) (by decide +kernel) rfl).trans ?_
  refine (zr_iload (n := 4) (x := zi x4) (by decide +kernel) rfl).trans ?_
  refine (zr_cgt (off := 120) (a := x5) (b := x4) (t := 134) (by decide +kernel) rfl).trans (zif_ct (fun _ => ?_) (fun _ => ?_))
  · exact zr_vret (by decide +kernel) rfl
  · refine (zr_bipush (n := 40) (by decide +kernel) rfl).trans ?_
    refine (zr_bipush (n := 12) (by decide +kernel) rfl).trans ?_
    refine (zr_iload_n (n := 1) (x := zi x1) (by decide +kernel) rfl).trans ?_
    refine (zr_imul (a := (12)) (b := x1) (by decide +kernel)).trans ?_
    refine (zr_aload_n (n := 0) (x := 430) (by decide +kernel) rfl).trans ?_
    refine (zr_getR (i := 81) (c := 12) (k := 35) (r := 454) (by decide +kernel) (by decide +kernel) rfl (by decide +kernel) (zR0_f (o := 430) (c := 12) (n := 0) (k := 35) (j := 24) rfl (by decide) rfl)).trans ?_
    refine (zr_iload_n (n := 2) (x := zi x2) (by decide +kernel) rfl).trans ?_
    refine (zr_iald (n := 40) (e := x2) (by decide +kernel) rfl).trans (zck_ct fun _ => ?_)
    refine (zr_iadd (a := ((12) * x1)) (b := (V 454 (qw x2))) (by decide +kernel)).trans ?_
    refine (zr_imul (a := (40)) (b := (((12) * x1) + (V 454 (qw x2)))) (by decide +kernel)).trans ?_
    refine (zr_iload (n := 5) (x := zi x5) (by decide +kernel) rfl).trans ?_
    refine (zr_iadd (a := ((40) * (((12) * x1) + (V 454 (qw x2))))) (b := x5) (by decide +kernel)).trans ?_
    refine (zr_istore (n := 6) (l1 := [.ref 430, .int (zi x1), .int (zi x2), .int (zi x3), .int (zi x4), .int (zi x5), .int (zi (((40) * (((12) * x1) + (V 454 (qw x2)))) + x5))]) (by decide +kernel) rfl).trans ?_
    refine (zr_aload_n (n := 0) (x := 430) (by decide +kernel) rfl).trans ?_
    refine (zr_getR (i := 135) (c := 12) (k := 57) (r := 472) (by decide +kernel) (by decide +kernel) rfl (by decide +kernel) (zR0_f (o := 430) (c := 12) (n := 0) (k := 57) (j := 42) rfl (by decide) rfl)).trans ?_
    refine (zr_iload (n := 6) (x := zi (((40) * (((12) * x1) + (V 454 (qw x2)))) + x5)) (by decide +kernel) rfl).trans ?_
    refine (zr_aload_n (n := 0) (x := 430) (by decide +kernel) rfl).trans ?_
    refine (zr_iload_n (n := 1) (x := zi x1) (by decide +kernel) rfl).trans ?_
    refine (zr_aload_n (n := 0) (x := 430) (by decide +kernel) rfl).trans ?_
    refine (zr_getR (i := 81) (c := 12) (k := 35) (r := 454) (by decide +kernel) (by decide +kernel) rfl (by decide +kernel) (zR0_f (o := 430) (c := 12) (n := 0) (k := 35) (j := 24) rfl (by decide) rfl)).trans ?_
    refine (zr_iload_n (n := 2) (x := zi x2) (by decide +kernel) rfl).trans ?_
    refine (zr_iald (n := 40) (e := x2) (by decide +kernel) rfl).trans (zck_ct fun _ => ?_)
    refine (zr_iload (n := 5) (x := zi x5) (by decide +kernel) rfl).trans ?_
    refine (zr_iconst (n := 0) (by decide +kernel)).trans ?_
    exact zr_cV (i := 350) (z := 220) (w := 0) (o := 430) (t := [.int (zi (0)), .int (zi x5), .int (zi (V 454 (qw x2))), .int (zi x1)]) (rest := [.int (zi (((40) * (((12) * x1) + (V 454 (qw x2)))) + x5)), .ref 472]) (L := [.ref 430, .int (zi x1), .int (zi (V 454 (qw x2))), .int (zi x5), .int (zi (0)), .null, .null]) (pc1 := 56) (by decide +kernel) (by decide +kernel) rfl (n := 4) (r := 2) rfl rfl rfl (by decide +kernel) rfl rfl
theorem ze_219_56 {V : zVt} {J : zJt} {d : Nat → Nat → UInt64} (x1 : Int) (x2 : Int) (x3 : Int) (x4 : Int) (x5 : Int) (x6 : Int) (s1 : Int) (s2 : Int) : zGo false 219 56 [.ref 430, .int (zi x1), .int (zi x2), .int (zi x3), .int (zi x4), .int (zi x5), .int (zi x6)] [.int (zi s2), .int (zi s1), .ref 472] (zm V J d) =
    (if qw s2 = 0 then zGo false 219 72 [.ref 430, .int (zi x1), .int (zi x2), .int (zi x3), .int (zi x4), .int (zi x5), .int (zi x6)] [.int (zi (1)), .int (zi s1), .ref 472] (zm V J d) else zck (0 ≤ qw x6 ∧ qw x6 < (5760 : Nat)) (zGo false 219 72 [.ref 430, .int (zi x1), .int (zi x2), .int (zi x3), .int (zi x4), .int (zi x5), .int (zi x6)] [.int (zi ((V 472 (qw x6)) + (1))), .int (zi s1), .ref 472] (zm V J d))) := by
  refine (zr_ifeq (off := 15) (a := s2) (t := 71) (by decide +kernel) rfl).trans (zif_ct (fun _ => ?_) (fun _ => ?_))
  · refine (zr_iconst (n := 1) (by decide +kernel)).trans ?_
    rfl
  · refine (zr_aload_n (n := 0) (x := 430) (by decide +kernel) rfl).trans ?_
    refine (zr_getR (i := 135) (c := 12) (k := 57) (r := 472) (by decide +kernel) (by decide +kernel) rfl (by decide +kernel) (zR0_f (o := 430) (c := 12) (n := 0) (k := 57) (j := 42) rfl (by decide) rfl)).trans ?_
    refine (zr_iload (n := 6) (x := zi x6) (by decide +kernel) rfl).trans ?_
    refine (zr_iald (n := 5760) (e := x6) (by decide +kernel) rfl).trans (zck_ct fun _ => ?_)
    refine (zr_iconst (n := 1) (by decide +kernel)).trans ?_
    refine (zr_iadd (a := (V 472 (qw x6))) (b := (1)) (by decide +kernel)).trans ?_
    refine (zr_goto (off := 4) (t := 72) (by decide +kernel) rfl).trans ?_
    rfl
theorem ze_219_72 {V : zVt} {J : zJt} {d : Nat → Nat → UInt64} (x1 : Int) (x2 : Int) (x3 : Int) (x4 : Int) (x5 : Int) (x6 : Int) (s1 : Int) (s2 : Int) : zGo false 219 72 [.ref 430, .int (zi x1), .int (zi x2), .int (zi x3), .int (zi x4), .int (zi x5), .int (zi x6)] [.int (zi s2), .int (zi s1), .ref 472] (zm V J d) =
    zck (0 ≤ qw s1 ∧ qw s1 < (5760 : Nat)) (zck (0 ≤ qw (0) ∧ qw (0) < (5 : Nat)) (zck (0 ≤ qw x6 ∧ qw x6 < (5760 : Nat)) (zck (0 ≤ qw x5 ∧ qw x5 < (200 : Nat)) (zck (0 ≤ qw x6 ∧ qw x6 < (5760 : Nat)) (zck (0 ≤ qw x5 ∧ qw x5 < (200 : Nat)) (zck (0 ≤ qw x6 ∧ qw x6 < (5760 : Nat)) (zck (0 ≤ qw x5 ∧ qw x5 < (200 : Nat)) (zck (0 ≤ qw x6 ∧ qw x6 < (5760 : Nat)) (zGo false 219 10 [.ref 430, .int (zi x1), .int (zi x2), .int (zi x3), .int (zi x4), .int (zi (x5 + 1)), .int (zi x6)] [] (zm (vup (vup (vup V 472 (qw s1) s2) 471 (qw x6) ((vup V 472 (qw s1) s2) 450 (qw (0)))) 470 (qw x6) ((vup (vup V 472 (qw s1) s2) 471 (qw x6) ((vup V 472 (qw s1) s2) 450 (qw (0)))) 453 (qw x5))) (jup (jup J 468 (qw x6) (J 451 (qw x5))) 469 (qw x6) ((jup J 468 (qw x6) (J 451 (qw x5))) 452 (qw x5))) d)))))))))) := by
  refine (zr_iast (n := 5760) (e := s1) (x := s2) (by decide +kernel) rfl).trans (zck_ct fun _ => ?_)
  refine (zr_aload_n (n := 0) (x := 430) (by decide +kernel) rfl).trans ?_
  refine (zr_getR (i := 132) (c := 12) (k := 56) (r := 471) (by decide +kernel) (by decide +kernel) rfl (by decide +kernel) (zR0_f (o := 430) (c := 12) (n := 0) (k := 56) (j := 41) rfl (by decide) rfl)).trans ?_
  refine (zr_iload (n := 6) (x := zi x6) (by decide +kernel) rfl).trans ?_
  refine (zr_aload_n (n := 0) (x := 430) (by decide +kernel) rfl).trans ?_
  refine (zr_getR (i := 68) (c := 12) (k := 31) (r := 450) (by decide +kernel) (by decide +kernel) rfl (by decide +kernel) (zR0_f (o := 430) (c := 12) (n := 0) (k := 31) (j := 20) rfl (by decide) rfl)).trans ?_
  refine (zr_iconst (n := 0) (by decide +kernel)).trans ?_
  refine (zr_iald (n := 5) (e := (0)) (by decide +kernel) rfl).trans (zck_ct fun _ => ?_)
  refine (zr_iast (n := 5760) (e := x6) (x := ((vup V 472 (qw s1) s2) 450 (qw (0)))) (by decide +kernel) rfl).trans (zck_ct fun _ => ?_)
  refine (zr_aload_n (n := 0) (x := 430) (by decide +kernel) rfl).trans ?_
  refine (zr_getR (i := 123) (c := 12) (k := 53) (r := 468) (by decide +kernel) (by decide +kernel) rfl (by decide +kernel) (zR0_f (o := 430) (c := 12) (n := 0) (k := 53) (j := 38) rfl (by decide) rfl)).trans ?_
  refine (zr_iload (n := 6) (x := zi x6) (by decide +kernel) rfl).trans ?_
  refine (zr_aload_n (n := 0) (x := 430) (by decide +kernel) rfl).trans ?_
  refine (zr_getR (i := 71) (c := 12) (k := 32) (r := 451) (by decide +kernel) (by decide +kernel) rfl (by decide +kernel) (zR0_f (o := 430) (c := 12) (n := 0) (k := 32) (j := 21) rfl (by decide) rfl)).trans ?_
  refine (zr_iload (n := 5) (x := zi x5) (by decide +kernel) rfl).trans ?_
  refine (zr_lald (n := 200) (e := x5) (by decide +kernel) rfl).trans (zck_ct fun _ => ?_)
  refine (zr_last (n := 5760) (e := x6) (by decide +kernel) rfl).trans (zck_ct fun _ => ?_)
  refine (zr_aload_n (n := 0) (x := 430) (by decide +kernel) rfl).trans ?_
  refine (zr_getR (i := 126) (c := 12) (k := 54) (r := 469) (by decide +kernel) (by decide +kernel) rfl (by decide +kernel) (zR0_f (o := 430) (c := 12) (n := 0) (k := 54) (j := 39) rfl (by decide) rfl)).trans ?_
  refine (zr_iload (n := 6) (x := zi x6) (by decide +kernel) rfl).trans ?_
  refine (zr_aload_n (n := 0) (x := 430) (by decide +kernel) rfl).trans ?_
  refine (zr_getR (i := 75) (c := 12) (k := 33) (r := 452) (by decide +kernel) (by decide +kernel) rfl (by decide +kernel) (zR0_f (o := 430) (c := 12) (n := 0) (k := 33) (j := 22) rfl (by decide) rfl)).trans ?_
  refine (zr_iload (n := 5) (x := zi x5) (by decide +kernel) rfl).trans ?_
  refine (zr_lald (n := 200) (e := x5) (by decide +kernel) rfl).trans (zck_ct fun _ => ?_)
  refine (zr_last (n := 5760) (e := x6) (by decide +kernel) rfl).trans (zck_ct fun _ => ?_)
  refine (zr_aload_n (n := 0) (x := 430) (by decide +kernel) rfl).trans ?_
  refine (zr_getR (i := 129) (c := 12) (k := 55) (r := 470) (by decide +kernel) (by decide +kernel) rfl (by decide +kernel) (zR0_f (o := 430) (c := 12) (n := 0) (k := 55) (j := 40) rfl (by decide) rfl)).trans ?_
  refine (zr_iload (n := 6) (x := zi x6) (by decide +kernel) rfl).trans ?_
  refine (zr_aload_n (n := 0) (x := 430) (by decide +kernel) rfl).trans ?_
  refine (zr_getR (i := 78) (c := 12) (k := 34) (r := 453) (by decide +kernel) (by decide +kernel) rfl (by decide +kernel) (zR0_f (o := 430) (c := 12) (n := 0) (k := 34) (j := 23) rfl (by decide) rfl)).trans ?_
  refine (zr_iload (n := 5) (x := zi x5) (by decide +kernel) rfl).trans ?_
  refine (zr_iald (n := 200) (e := x5) (by decide +kernel) rfl).trans (zck_ct fun _ => ?_)
  refine (zr_iast (n := 5760) (e := x6) (x := ((vup (vup V 472 (qw s1) s2) 471 (qw x6) ((vup V 472 (qw s1) s2) 450 (qw (0)))) 453 (qw x5))) (by decide +kernel) rfl).trans (zck_ct fun _ => ?_)
  refine (zr_iinc (n := 5) (k := 1) (x := x5) (l1 := [.ref 430, .int (zi x1), .int (zi x2), .int (zi x3), .int (zi x4), .int (zi (x5 + 1)), .int (zi x6)]) (by decide +kernel) rfl rfl).trans ?_
  refine (zr_goto (off := -121) (t := 10) (by decide +kernel) rfl).trans ?_
  rfl
/-! PartSongDeskModel isKnown (IIII)Z -/
theorem ze_220_0 {V : zVt} {J : zJt} {d : Nat → Nat → UInt64} (x1 : Int) (x2 : Int) (x3 : Int) (x4 : Int) : zGo false 220 0 [.ref 430, .int (zi x1), .int (zi x2), .int (zi x3), .int (zi x4), .null, .null] [] (zm V J d) =
    zck (0 ≤ qw (((40) * (((12) * x1) + x2)) + x3) ∧ qw (((40) * (((12) * x1) + x2)) + x3) < (5760 : Nat)) ((if qw (V 472 (qw (((40) * (((12) * x1) + x2)) + x3))) ≤ 0 then zGo false 220 106 [.ref 430, .int (zi x1), .int (zi x2), .int (zi x3), .int (zi x4), .int (zi (((40) * (((12) * x1) + x2)) + x3)), .int (zi (((40) * x4) + x3))] [] (zm V J d) else zck (0 ≤ qw (((40) * (((12) * x1) + x2)) + x3) ∧ qw (((40) * (((12) * x1) + x2)) + x3) < (5760 : Nat)) (zck (0 ≤ qw x4 ∧ qw x4 < (5 : Nat)) ((if qw (V 471 (qw (((40) * (((12) * x1) + x2)) + x3))) ≠ qw (V 450 (qw x4)) then zGo false 220 106 [.ref 430, .int (zi x1), .int (zi x2), .int (zi x3), .int (zi x4), .int (zi (((40) * (((12) * x1) + x2)) + x3)), .int (zi (((40) * x4) + x3))] [] (zm V J d) else zck (0 ≤ qw (((40) * (((12) * x1) + x2)) + x3) ∧ qw (((40) * (((12) * x1) + x2)) + x3) < (5760 : Nat)) (zck (0 ≤ qw (((40) * x4) + x3) ∧ qw (((40) * x4) + x3) < (200 : Nat)) ((if qw (lg_cmp (J 468 (qw (((40) * (((12) * x1) + x2)) + x3))) (J 451 (qw (((40) * x4) + x3)))).toInt ≠ 0 then zGo false 220 106 [.ref 430, .int (zi x1), .int (zi x2), .int (zi x3), .int (zi x4), .int (zi (((40) * (((12) * x1) + x2)) + x3)), .int (zi (((40) * x4) + x3))] [] (zm V J d) else zck (0 ≤ qw (((40) * (((12) * x1) + x2)) + x3) ∧ qw (((40) * (((12) * x1) + x2)) + x3) < (5760 : Nat)) (zck (0 ≤ qw (((40) * x4) + x3) ∧ qw (((40) * x4) + x3) < (200 : Nat)) ((if qw (lg_cmp (J 469 (qw (((40) * (((12) * x1) + x2)) + x3))) (J 452 (qw (((40) * x4) + x3)))).toInt ≠ 0 then zGo false 220 106 [.ref 430, .int (zi x1), .int (zi x2), .int (zi x3), .int (zi x4), .int (zi (((40) * (((12) * x1) + x2)) + x3)), .int (zi (((40) * x4) + x3))] [] (zm V J d) else zck (0 ≤ qw (((40) * (((12) * x1) + x2)) + x3) ∧ qw (((40) * (((12) * x1) + x2)) + x3) < (5760 : Nat)) (zck (0 ≤ qw (((40) * x4) + x3) ∧ qw (((40) * x4) + x3) < (200 : Nat)) ((if qw (V 470 (qw (((40) * (((12) * x1) + x2)) + x3))) ≠ qw (V 453 (qw (((40) * x4) + x3))) then zGo false 220 106 [.ref 430, .int (zi x1), .int (zi x2), .int (zi x3), .int (zi x4), .int (zi (((40) * (((12) * x1) + x2)) + x3)), .int (zi (((40) * x4) + x3))] [] (zm V J d) else zGo false 220 107 [.ref 430, .int (zi x1), .int (zi x2), .int (zi x3), .int (zi x4), .int (zi (((40) * (((12) * x1) + x2)) + x3)), .int (zi (((40) * x4) + x3))] [.int (zi (1))] (zm V J d))))))))))))))) := by
  refine (zr_bipush (n := 40) (by decide +kernel) rfl).trans ?_
  refine (zr_bipush (n := 12) (by decide +kernel) rfl).trans ?_
  refine (zr_iload_n (n := 1) (x := zi x1) (by decide +kernel) rfl).trans ?_
  refine (zr_imul (a := (12)) (b := x1) (by decide +kernel)).trans ?_
  refine (zr_iload_n (n := 2) (x := zi x2) (by decide +kernel) rfl).trans ?_
  refine (zr_iadd (a := ((12) * x1)) (b := x2) (by decide +kernel)).trans ?_
  refine (zr_imul (a := (40)) (b := (((12) * x1) + x2)) (by decide +kernel)).trans ?_
  refine (zr_iload_n (n := 3) (x := zi x3) (by decide +kernel) rfl).trans ?_
  refine (zr_iadd (a := ((40) * (((12) * x1) + x2))) (b := x3) (by decide +kernel)).trans ?_
  refine (zr_istore (n := 5) (l1 := [.ref 430, .int (zi x1), .int (zi x2), .int (zi x3), .int (zi x4), .int (zi (((40) * (((12) * x1) + x2)) + x3)), .null]) (by decide +kernel) rfl).trans ?_
  refine (zr_bipush (n := 40) (by decide +kernel) rfl).trans ?_
  refine (zr_iload (n := 4) (x := zi x4) (by decide +kernel) rfl).trans ?_
  refine (zr_imul (a := (40)) (b := x4) (by decide +kernel)).trans ?_
  refine (zr_iload_n (n := 3) (x := zi x3) (by decide +kernel) rfl).trans ?_
  refine (zr_iadd (a := ((40) * x4)) (b := x3) (by decide +kernel)).trans ?_
  refine (zr_istore (n := 6) (l1 := [.ref 430, .int (zi x1), .int (zi x2), .int (zi x3), .int (zi x4), .int (zi (((40) * (((12) * x1) + x2)) + x3)), .int (zi (((40) * x4) + x3))]) (by decide +kernel) rfl).trans ?_
  refine (zr_aload_n (n := 0) (x := 430) (by decide +kernel) rfl).trans ?_
  refine (zr_getR (i := 135) (c := 12) (k := 57) (r := 472) (by decide +kernel) (by decide +kernel) rfl (by decide +kernel) (zR0_f (o := 430) (c := 12) (n := 0) (k := 57) (j := 42) rfl (by decide) rfl)).trans ?_
  refine (zr_iload (n := 5) (x := zi (((40) * (((12) * x1) + x2)) + x3)) (by decide +kernel) rfl).trans ?_
  refine (zr_iald (n := 5760) (e := (((40) * (((12) * x1) + x2)) + x3)) (by decide +kernel) rfl).trans (zck_ct fun _ => ?_)
  refine (zr_ifle (off := 77) (a := (V 472 (qw (((40) * (((12) * x1) + x2)) + x3)))) (t := 106) (by decide +kernel) rfl).trans (zif_ct (fun _ => ?_) (fun _ => ?_))
  · rfl
  · refine (zr_aload_n (n := 0) (x := 430) (by decide +kernel) rfl).trans ?_
    refine (zr_getR (i := 132) (c := 12) (k := 56) (r := 471) (by decide +kernel) (by decide +kernel) rfl (by decide +kernel) (zR0_f (o := 430) (c := 12) (n := 0) (k := 56) (j := 41) rfl (by decide) rfl)).trans ?_
    refine (zr_iload (n := 5) (x := zi (((40) * (((12) * x1) + x2)) + x3)) (by decide +kernel) rfl).trans ?_
    refine (zr_iald (n := 5760) (e := (((40) * (((12) * x1) + x2)) + x3)) (by decide +kernel) rfl).trans (zck_ct fun _ => ?_)
    refine (zr_aload_n (n := 0) (x := 430) (by decide +kernel) rfl).trans ?_
    refine (zr_getR (i := 68) (c := 12) (k := 31) (r := 450) (by decide +kernel) (by decide +kernel) rfl (by decide +kernel) (zR0_f (o := 430) (c := 12) (n := 0) (k := 31) (j := 20) rfl (by decide) rfl)).trans ?_
    refine (zr_iload (n := 4) (x := zi x4) (by decide +kernel) rfl).trans ?_
    refine (zr_iald (n := 5) (e := x4) (by decide +kernel) rfl).trans (zck_ct fun _ => ?_)
    refine (zr_cne (off := 60) (a := (V 471 (qw (((40) * (((12) * x1) + x2)) + x3)))) (b := (V 450 (qw x4))) (t := 106) (by decide +kernel) rfl).trans (zif_ct (fun _ => ?_) (fun _ => ?_))
    · rfl
    · refine (zr_aload_n (n := 0) (x := 430) (by decide +kernel) rfl).trans ?_
      refine (zr_getR (i := 123) (c := 12) (k := 53) (r := 468) (by decide +kernel) (by decide +kernel) rfl (by decide +kernel) (zR0_f (o := 430) (c := 12) (n := 0) (k := 53) (j := 38) rfl (by decide) rfl)).trans ?_
      refine (zr_iload (n := 5) (x := zi (((40) * (((12) * x1) + x2)) + x3)) (by decide +kernel) rfl).trans ?_
      refine (zr_lald (n := 5760) (e := (((40) * (((12) * x1) + x2)) + x3)) (by decide +kernel) rfl).trans (zck_ct fun _ => ?_)
      refine (zr_aload_n (n := 0) (x := 430) (by decide +kernel) rfl).trans ?_
      refine (zr_getR (i := 71) (c := 12) (k := 32) (r := 451) (by decide +kernel) (by decide +kernel) rfl (by decide +kernel) (zR0_f (o := 430) (c := 12) (n := 0) (k := 32) (j := 21) rfl (by decide) rfl)).trans ?_
      refine (zr_iload (n := 6) (x := zi (((40) * x4) + x3)) (by decide +kernel) rfl).trans ?_
      refine (zr_lald (n := 200) (e := (((40) * x4) + x3)) (by decide +kernel) rfl).trans (zck_ct fun _ => ?_)
      refine (zr_lcmp (by decide +kernel)).trans ?_
      refine (zr_ifne (off := 42) (a := (lg_cmp (J 468 (qw (((40) * (((12) * x1) + x2)) + x3))) (J 451 (qw (((40) * x4) + x3)))).toInt) (t := 106) (by decide +kernel) rfl).trans (zif_ct (fun _ => ?_) (fun _ => ?_))
      · rfl
      · refine (zr_aload_n (n := 0) (x := 430) (by decide +kernel) rfl).trans ?_
        refine (zr_getR (i := 126) (c := 12) (k := 54) (r := 469) (by decide +kernel) (by decide +kernel) rfl (by decide +kernel) (zR0_f (o := 430) (c := 12) (n := 0) (k := 54) (j := 39) rfl (by decide) rfl)).trans ?_
        refine (zr_iload (n := 5) (x := zi (((40) * (((12) * x1) + x2)) + x3)) (by decide +kernel) rfl).trans ?_
        refine (zr_lald (n := 5760) (e := (((40) * (((12) * x1) + x2)) + x3)) (by decide +kernel) rfl).trans (zck_ct fun _ => ?_)
        refine (zr_aload_n (n := 0) (x := 430) (by decide +kernel) rfl).trans ?_
        refine (zr_getR (i := 75) (c := 12) (k := 33) (r := 452) (by decide +kernel) (by decide +kernel) rfl (by decide +kernel) (zR0_f (o := 430) (c := 12) (n := 0) (k := 33) (j := 22) rfl (by decide) rfl)).trans ?_
        refine (zr_iload (n := 6) (x := zi (((40) * x4) + x3)) (by decide +kernel) rfl).trans ?_
        refine (zr_lald (n := 200) (e := (((40) * x4) + x3)) (by decide +kernel) rfl).trans (zck_ct fun _ => ?_)
        refine (zr_lcmp (by decide +kernel)).trans ?_
        refine (zr_ifne (off := 24) (a := (lg_cmp (J 469 (qw (((40) * (((12) * x1) + x2)) + x3))) (J 452 (qw (((40) * x4) + x3)))).toInt) (t := 106) (by decide +kernel) rfl).trans (zif_ct (fun _ => ?_) (fun _ => ?_))
        · rfl
        · refine (zr_aload_n (n := 0) (x := 430) (by decide +kernel) rfl).trans ?_
          refine (zr_getR (i := 129) (c := 12) (k := 55) (r := 470) (by decide +kernel) (by decide +kernel) rfl (by decide +kernel) (zR0_f (o := 430) (c := 12) (n := 0) (k := 55) (j := 40) rfl (by decide) rfl)).trans ?_
          refine (zr_iload (n := 5) (x := zi (((40) * (((12) * x1) + x2)) + x3)) (by decide +kernel) rfl).trans ?_
          refine (zr_iald (n := 5760) (e := (((40) * (((12) * x1) + x2)) + x3)) (by decide +kernel) rfl).trans (zck_ct fun _ => ?_)
          refine (zr_aload_n (n := 0) (x := 430) (by decide +kernel) rfl).trans ?_
          refine (zr_getR (i := 78) (c := 12) (k := 34) (r := 453) (by decide +kernel) (by decide +kernel) rfl (by decide +kernel) (zR0_f (o := 430) (c := 12) (n := 0) (k := 34) (j := 23) rfl (by decide) rfl)).trans ?_
          refine (zr_iload (n := 6) (x := zi (((40) * x4) + x3)) (by decide +kernel) rfl).trans ?_
          refine (zr_iald (n := 200) (e := (((40) * x4) + x3)) (by decide +kernel) rfl).trans (zck_ct fun _ => ?_)
          refine (zr_cne (off := 7) (a := (V 470 (qw (((40) * (((12) * x1) + x2)) + x3)))) (b := (V 453 (qw (((40) * x4) + x3)))) (t := 106) (by decide +kernel) rfl).trans (zif_ct (fun _ => ?_) (fun _ => ?_))
          · rfl
          · refine (zr_iconst (n := 1) (by decide +kernel)).trans ?_
            refine (zr_goto (off := 4) (t := 107) (by decide +kernel) rfl).trans ?_
            rfl
theorem ze_220_106 {V : zVt} {J : zJt} {d : Nat → Nat → UInt64} (x1 : Int) (x2 : Int) (x3 : Int) (x4 : Int) (x5 : Int) (x6 : Int) : zGo false 220 106 [.ref 430, .int (zi x1), .int (zi x2), .int (zi x3), .int (zi x4), .int (zi x5), .int (zi x6)] [] (zm V J d) =
    zGo false 220 107 [.ref 430, .int (zi x1), .int (zi x2), .int (zi x3), .int (zi x4), .int (zi x5), .int (zi x6)] [.int (zi (0))] (zm V J d) := by
  refine (zr_iconst (n := 0) (by decide +kernel)).trans ?_
  rfl
theorem ze_220_107 {V : zVt} {J : zJt} {d : Nat → Nat → UInt64} (x1 : Int) (x2 : Int) (x3 : Int) (x4 : Int) (x5 : Int) (x6 : Int) (s0 : Int) : zGo false 220 107 [.ref 430, .int (zi x1), .int (zi x2), .int (zi x3), .int (zi x4), .int (zi x5), .int (zi x6)] [.int (zi s0)] (zm V J d) =
    zck (qw s0 = 0 ∨ qw s0 = 1) (some (.inl (some (.int (zi s0))), zm V J d)) := by
  exact zr_zret (a := s0) (by decide +kernel) rfl
/-! PartSongDeskModel done (I)I -/
theorem ze_221_0 {V : zVt} {J : zJt} {d : Nat → Nat → UInt64} (x1 : Int) : zGo false 221 0 [.ref 430, .int (zi x1)] [] (zm V J d) =
    (zGo false 147 0 [.int (zi x1), .int (zi (V 430 52))] [] (zm V J d)).bind (zGor false 221 9 [.ref 430, .int (zi x1)] [.ref 430]) := by
  refine (zr_aload_n (n := 0) (x := 430) (by decide +kernel) rfl).trans ?_
  refine (zr_iload_n (n := 1) (x := zi x1) (by decide +kernel) rfl).trans ?_
  refine (zr_aload_n (n := 0) (x := 430) (by decide +kernel) rfl).trans ?_
  refine (zr_getI (i := 347) (c := 12) (k := 52) (by decide +kernel) (by decide +kernel) rfl (by decide +kernel)).trans ?_
  exact zr_cS (i := 145) (z := 147) (w := 0) (t := [.int (zi (V 430 52)), .int (zi x1)]) (rest := [.ref 430]) (L := [.int (zi x1), .int (zi (V 430 52))]) (pc1 := 9) (by decide +kernel) (by decide +kernel) (n := 2) (r := 1) rfl rfl rfl (by decide +kernel) rfl rfl
theorem ze_221_9 {V : zVt} {J : zJt} {d : Nat → Nat → UInt64} (x1 : Int) (s1 : Int) : zGo false 221 9 [.ref 430, .int (zi x1)] [.int (zi s1), .ref 430] (zm V J d) =
    (zGo false 150 0 [.ref 430, .int (zi s1), .int (zi (1)), .int (zi (1))] [] (zm V J d)).bind (zGor false 221 14 [.ref 430, .int (zi x1)] []) := by
  refine (zr_iconst (n := 1) (by decide +kernel)).trans ?_
  refine (zr_iconst (n := 1) (by decide +kernel)).trans ?_
  exact zr_cV (i := 289) (z := 150) (w := 0) (o := 430) (t := [.int (zi (1)), .int (zi (1)), .int (zi s1)]) (rest := []) (L := [.ref 430, .int (zi s1), .int (zi (1)), .int (zi (1))]) (pc1 := 14) (by decide +kernel) (by decide +kernel) rfl (n := 3) (r := 0) rfl rfl rfl (by decide +kernel) rfl rfl
theorem ze_221_14 {V : zVt} {J : zJt} {d : Nat → Nat → UInt64} (x1 : Int) (s0 : Int) : zGo false 221 14 [.ref 430, .int (zi x1)] [.int (zi s0)] (zm V J d) =
    (if qw s0 = 0 then zGo false 221 27 [.ref 430, .int (zi x1)] [.int (zi (0))] (zm V J d) else zck (0 ≤ qw x1 ∧ qw x1 < (40 : Nat)) (zGo false 221 27 [.ref 430, .int (zi x1)] [.int (zi (V 467 (qw x1)))] (zm V J d))) := by
  refine (zr_ifeq (off := 12) (a := s0) (t := 26) (by decide +kernel) rfl).trans (zif_ct (fun _ => ?_) (fun _ => ?_))
  · refine (zr_iconst (n := 0) (by decide +kernel)).trans ?_
    rfl
  · refine (zr_aload_n (n := 0) (x := 430) (by decide +kernel) rfl).trans ?_
    refine (zr_getR (i := 120) (c := 12) (k := 51) (r := 467) (by decide +kernel) (by decide +kernel) rfl (by decide +kernel) (zR0_f (o := 430) (c := 12) (n := 0) (k := 51) (j := 37) rfl (by decide) rfl)).trans ?_
    refine (zr_iload_n (n := 1) (x := zi x1) (by decide +kernel) rfl).trans ?_
    refine (zr_iald (n := 40) (e := x1) (by decide +kernel) rfl).trans (zck_ct fun _ => ?_)
    refine (zr_goto (off := 4) (t := 27) (by decide +kernel) rfl).trans ?_
    rfl
theorem ze_221_27 {V : zVt} {J : zJt} {d : Nat → Nat → UInt64} (x1 : Int) (s0 : Int) : zGo false 221 27 [.ref 430, .int (zi x1)] [.int (zi s0)] (zm V J d) =
    some (.inl (some (.int (zi s0))), zm V J d) := by
  exact zr_iret (a := s0) (by decide +kernel) rfl
/-! PartSongDeskModel learned (IIII)I -/
theorem ze_222_0 {V : zVt} {J : zJt} {d : Nat → Nat → UInt64} (x1 : Int) (x2 : Int) (x3 : Int) (x4 : Int) : zGo false 222 0 [.ref 430, .int (zi x1), .int (zi x2), .int (zi x3), .int (zi x4), .null] [] (zm V J d) =
    (zGo false 147 0 [.int (zi x1), .int (zi (12))] [] (zm V J d)).bind (zGor false 222 6 [.ref 430, .int (zi x1), .int (zi x2), .int (zi x3), .int (zi x4), .null] []) := by
  refine (zr_iload_n (n := 1) (x := zi x1) (by decide +kernel) rfl).trans ?_
  refine (zr_bipush (n := 12) (by decide +kernel) rfl).trans ?_
  exact zr_cS (i := 145) (z := 147) (w := 0) (t := [.int (zi (12)), .int (zi x1)]) (rest := []) (L := [.int (zi x1), .int (zi (12))]) (pc1 := 6) (by decide +kernel) (by decide +kernel) (n := 2) (r := 0) rfl rfl rfl (by decide +kernel) rfl rfl
theorem ze_222_6 {V : zVt} {J : zJt} {d : Nat → Nat → UInt64} (x1 : Int) (x2 : Int) (x3 : Int) (x4 : Int) (s0 : Int) : zGo false 222 6 [.ref 430, .int (zi x1), .int (zi x2), .int (zi x3), .int (zi x4), .null] [.int (zi s0)] (zm V J d) =
    (if qw s0 = 0 then zGo false 222 31 [.ref 430, .int (zi x1), .int (zi x2), .int (zi x3), .int (zi x4), .null] [] (zm V J d) else (zGo false 146 0 [.int (zi x2), .int (zi x3)] [] (zm V J d)).bind (zGor false 222 14 [.ref 430, .int (zi x1), .int (zi x2), .int (zi x3), .int (zi x4), .null] [])) := by
  refine (zr_ifeq (off := 25) (a := s0) (t := 31) (by decide +kernel) rfl).trans (zif_ct (fun _ => ?_) (fun _ => ?_))
  · rfl
  · refine (zr_iload_n (n := 2) (x := zi x2) (by decide +kernel) rfl).trans ?_
    refine (zr_iload_n (n := 3) (x := zi x3) (by decide +kernel) rfl).trans ?_
    exact zr_cS (i := 282) (z := 146) (w := 0) (t := [.int (zi x3), .int (zi x2)]) (rest := []) (L := [.int (zi x2), .int (zi x3)]) (pc1 := 14) (by decide +kernel) (by decide +kernel) (n := 2) (r := 0) rfl rfl rfl (by decide +kernel) rfl rfl
theorem ze_222_14 {V : zVt} {J : zJt} {d : Nat → Nat → UInt64} (x1 : Int) (x2 : Int) (x3 : Int) (x4 : Int) (s0 : Int) : zGo false 222 14 [.ref 430, .int (zi x1), .int (zi x2), .int (zi x3), .int (zi x4), .null] [.int (zi s0)] (zm V J d) =
    (if qw s0 = 0 then zGo false 222 31 [.ref 430, .int (zi x1), .int (zi x2), .int (zi x3), .int (zi x4), .null] [] (zm V J d) else (zGo false 147 0 [.int (zi x4), .int (zi (40))] [] (zm V J d)).bind (zGor false 222 24 [.ref 430, .int (zi x1), .int (zi x2), .int (zi x3), .int (zi x4), .null] [])) := by
  refine (zr_ifeq (off := 17) (a := s0) (t := 31) (by decide +kernel) rfl).trans (zif_ct (fun _ => ?_) (fun _ => ?_))
  · rfl
  · refine (zr_iload (n := 4) (x := zi x4) (by decide +kernel) rfl).trans ?_
    refine (zr_bipush (n := 40) (by decide +kernel) rfl).trans ?_
    exact zr_cS (i := 145) (z := 147) (w := 0) (t := [.int (zi (40)), .int (zi x4)]) (rest := []) (L := [.int (zi x4), .int (zi (40))]) (pc1 := 24) (by decide +kernel) (by decide +kernel) (n := 2) (r := 0) rfl rfl rfl (by decide +kernel) rfl rfl
theorem ze_222_24 {V : zVt} {J : zJt} {d : Nat → Nat → UInt64} (x1 : Int) (x2 : Int) (x3 : Int) (x4 : Int) (s0 : Int) : zGo false 222 24 [.ref 430, .int (zi x1), .int (zi x2), .int (zi x3), .int (zi x4), .null] [.int (zi s0)] (zm V J d) =
    (if qw s0 = 0 then zGo false 222 31 [.ref 430, .int (zi x1), .int (zi x2), .int (zi x3), .int (zi x4), .null] [] (zm V J d) else zGo false 222 32 [.ref 430, .int (zi x1), .int (zi x2), .int (zi x3), .int (zi x4), .null] [.int (zi (1))] (zm V J d)) := by
  refine (zr_ifeq (off := 7) (a := s0) (t := 31) (by decide +kernel) rfl).trans (zif_ct (fun _ => ?_) (fun _ => ?_))
  · rfl
  · refine (zr_iconst (n := 1) (by decide +kernel)).trans ?_
    refine (zr_goto (off := 4) (t := 32) (by decide +kernel) rfl).trans ?_
    rfl
theorem ze_222_31 {V : zVt} {J : zJt} {d : Nat → Nat → UInt64} (x1 : Int) (x2 : Int) (x3 : Int) (x4 : Int) : zGo false 222 31 [.ref 430, .int (zi x1), .int (zi x2), .int (zi x3), .int (zi x4), .null] [] (zm V J d) =
    zGo false 222 32 [.ref 430, .int (zi x1), .int (zi x2), .int (zi x3), .int (zi x4), .null] [.int (zi (0))] (zm V J d) := by
  refine (zr_iconst (n := 0) (by decide +kernel)).trans ?_
  rfl
theorem ze_222_32 {V : zVt} {J : zJt} {d : Nat → Nat → UInt64} (x1 : Int) (x2 : Int) (x3 : Int) (x4 : Int) (s0 : Int) : zGo false 222 32 [.ref 430, .int (zi x1), .int (zi x2), .int (zi x3), .int (zi x4), .null] [.int (zi s0)] (zm V J d) =
    (zGo false 150 0 [.ref 430, .int (zi s0), .int (zi (1)), .int (zi (1))] [] (zm V J d)).bind (zGor false 222 42 [.ref 430, .int (zi x1), .int (zi x2), .int (zi x3), .int (zi x4), .int (zi s0)] []) := by
  refine (zr_istore (n := 5) (l1 := [.ref 430, .int (zi x1), .int (zi x2), .int (zi x3), .int (zi x4), .int (zi s0)]) (by decide +kernel) rfl).trans ?_
  refine (zr_aload_n (n := 0) (x := 430) (by decide +kernel) rfl).trans ?_
  refine (zr_iload (n := 5) (x := zi s0) (by decide +kernel) rfl).trans ?_
  refine (zr_iconst (n := 1) (by decide +kernel)).trans ?_
  refine (zr_iconst (n := 1) (by decide +kernel)).trans ?_
  exact zr_cV (i := 289) (z := 150) (w := 0) (o := 430) (t := [.int (zi (1)), .int (zi (1)), .int (zi s0)]) (rest := []) (L := [.ref 430, .int (zi s0), .int (zi (1)), .int (zi (1))]) (pc1 := 42) (by decide +kernel) (by decide +kernel) rfl (n := 3) (r := 0) rfl rfl rfl (by decide +kernel) rfl rfl
theorem ze_222_42 {V : zVt} {J : zJt} {d : Nat → Nat → UInt64} (x1 : Int) (x2 : Int) (x3 : Int) (x4 : Int) (x5 : Int) (s0 : Int) : zGo false 222 42 [.ref 430, .int (zi x1), .int (zi x2), .int (zi x3), .int (zi x4), .int (zi x5)] [.int (zi s0)] (zm V J d) =
    (if qw s0 = 0 then zGo false 222 70 [.ref 430, .int (zi x1), .int (zi x2), .int (zi x3), .int (zi x4), .int (zi x5)] [.int (zi (0))] (zm V J d) else zck (0 ≤ qw (((40) * ((((12) * x1) + ((4) * x2)) + x3)) + x4) ∧ qw (((40) * ((((12) * x1) + ((4) * x2)) + x3)) + x4) < (5760 : Nat)) (zGo false 222 70 [.ref 430, .int (zi x1), .int (zi x2), .int (zi x3), .int (zi x4), .int (zi x5)] [.int (zi (V 472 (qw (((40) * ((((12) * x1) + ((4) * x2)) + x3)) + x4))))] (zm V J d))) := by
  refine (zr_ifeq (off := 27) (a := s0) (t := 69) (by decide +kernel) rfl).trans (zif_ct (fun _ => ?_) (fun _ => ?_))
  · refine (zr_iconst (n := 0) (by decide +kernel)).trans ?_
    rfl
  · refine (zr_aload_n (n := 0) (x := 430) (by decide +kernel) rfl).trans ?_
    refine (zr_getR (i := 135) (c := 12) (k := 57) (r := 472) (by decide +kernel) (by decide +kernel) rfl (by decide +kernel) (zR0_f (o := 430) (c := 12) (n := 0) (k := 57) (j := 42) rfl (by decide) rfl)).trans ?_
    refine (zr_bipush (n := 40) (by decide +kernel) rfl).trans ?_
    refine (zr_bipush (n := 12) (by decide +kernel) rfl).trans ?_
    refine (zr_iload_n (n := 1) (x := zi x1) (by decide +kernel) rfl).trans ?_
    refine (zr_imul (a := (12)) (b := x1) (by decide +kernel)).trans ?_
    refine (zr_iconst (n := 4) (by decide +kernel)).trans ?_
    refine (zr_iload_n (n := 2) (x := zi x2) (by decide +kernel) rfl).trans ?_
    refine (zr_imul (a := (4)) (b := x2) (by decide +kernel)).trans ?_
    refine (zr_iadd (a := ((12) * x1)) (b := ((4) * x2)) (by decide +kernel)).trans ?_
    refine (zr_iload_n (n := 3) (x := zi x3) (by decide +kernel) rfl).trans ?_
    refine (zr_iadd (a := (((12) * x1) + ((4) * x2))) (b := x3) (by decide +kernel)).trans ?_
    refine (zr_imul (a := (40)) (b := ((((12) * x1) + ((4) * x2)) + x3)) (by decide +kernel)).trans ?_
    refine (zr_iload (n := 4) (x := zi x4) (by decide +kernel) rfl).trans ?_
    refine (zr_iadd (a := ((40) * ((((12) * x1) + ((4) * x2)) + x3))) (b := x4) (by decide +kernel)).trans ?_
    refine (zr_iald (n := 5760) (e := (((40) * ((((12) * x1) + ((4) * x2)) + x3)) + x4)) (by decide +kernel) rfl).trans (zck_ct fun _ => ?_)
    refine (zr_goto (off := 4) (t := 70) (by decide +kernel) rfl).trans ?_
    rfl
theorem ze_222_70 {V : zVt} {J : zJt} {d : Nat → Nat → UInt64} (x1 : Int) (x2 : Int) (x3 : Int) (x4 : Int) (x5 : Int) (s0 : Int) : zGo false 222 70 [.ref 430, .int (zi x1), .int (zi x2), .int (zi x3), .int (zi x4), .int (zi x5)] [.int (zi s0)] (zm V J d) =
    some (.inl (some (.int (zi s0))), zm V J d) := by
  exact zr_iret (a := s0) (by decide +kernel) rfl
/-! PartSongDeskModel misled (III)I -/
theorem ze_223_0 {V : zVt} {J : zJt} {d : Nat → Nat → UInt64} (x1 : Int) (x2 : Int) (x3 : Int) : zGo false 223 0 [.ref 430, .int (zi x1), .int (zi x2), .int (zi x3), .null, .null, .null, .null] [] (zm V J d) =
    (zGo false 147 0 [.int (zi x1), .int (zi (12))] [] (zm V J d)).bind (zGor false 223 7 [.ref 430, .int (zi x1), .int (zi x2), .int (zi x3), .null, .null, .null, .null] [.ref 430]) := by
  refine (zr_aload_n (n := 0) (x := 430) (by decide +kernel) rfl).trans ?_
  refine (zr_iload_n (n := 1) (x := zi x1) (by decide +kernel) rfl).trans ?_
  refine (zr_bipush (n := 12) (by decide +kernel) rfl).trans ?_
  exact zr_cS (i := 145) (z := 147) (w := 0) (t := [.int (zi (12)), .int (zi x1)]) (rest := [.ref 430]) (L := [.int (zi x1), .int (zi (12))]) (pc1 := 7) (by decide +kernel) (by decide +kernel) (n := 2) (r := 1) rfl rfl rfl (by decide +kernel) rfl rfl
theorem ze_223_7 {V : zVt} {J : zJt} {d : Nat → Nat → UInt64} (x1 : Int) (x2 : Int) (x3 : Int) (s1 : Int) : zGo false 223 7 [.ref 430, .int (zi x1), .int (zi x2), .int (zi x3), .null, .null, .null, .null] [.int (zi s1), .ref 430] (zm V J d) =
    (if qw s1 = 0 then zGo false 223 22 [.ref 430, .int (zi x1), .int (zi x2), .int (zi x3), .null, .null, .null, .null] [.ref 430] (zm V J d) else (zGo false 146 0 [.int (zi x2), .int (zi x3)] [] (zm V J d)).bind (zGor false 223 15 [.ref 430, .int (zi x1), .int (zi x2), .int (zi x3), .null, .null, .null, .null] [.ref 430])) := by
  refine (zr_ifeq (off := 15) (a := s1) (t := 22) (by decide +kernel) rfl).trans (zif_ct (fun _ => ?_) (fun _ => ?_))
  · rfl
  · refine (zr_iload_n (n := 2) (x := zi x2) (by decide +kernel) rfl).trans ?_
    refine (zr_iload_n (n := 3) (x := zi x3) (by decide +kernel) rfl).trans ?_
    exact zr_cS (i := 282) (z := 146) (w := 0) (t := [.int (zi x3), .int (zi x2)]) (rest := [.ref 430]) (L := [.int (zi x2), .int (zi x3)]) (pc1 := 15) (by decide +kernel) (by decide +kernel) (n := 2) (r := 1) rfl rfl rfl (by decide +kernel) rfl rfl
theorem ze_223_15 {V : zVt} {J : zJt} {d : Nat → Nat → UInt64} (x1 : Int) (x2 : Int) (x3 : Int) (s1 : Int) : zGo false 223 15 [.ref 430, .int (zi x1), .int (zi x2), .int (zi x3), .null, .null, .null, .null] [.int (zi s1), .ref 430] (zm V J d) =
    (if qw s1 = 0 then zGo false 223 22 [.ref 430, .int (zi x1), .int (zi x2), .int (zi x3), .null, .null, .null, .null] [.ref 430] (zm V J d) else zGo false 223 23 [.ref 430, .int (zi x1), .int (zi x2), .int (zi x3), .null, .null, .null, .null] [.int (zi (1)), .ref 430] (zm V J d)) := by
  refine (zr_ifeq (off := 7) (a := s1) (t := 22) (by decide +kernel) rfl).trans (zif_ct (fun _ => ?_) (fun _ => ?_))
  · rfl
  · refine (zr_iconst (n := 1) (by decide +kernel)).trans ?_
    refine (zr_goto (off := 4) (t := 23) (by decide +kernel) rfl).trans ?_
    rfl
theorem ze_223_22 {V : zVt} {J : zJt} {d : Nat → Nat → UInt64} (x1 : Int) (x2 : Int) (x3 : Int) : zGo false 223 22 [.ref 430, .int (zi x1), .int (zi x2), .int (zi x3), .null, .null, .null, .null] [.ref 430] (zm V J d) =
    zGo false 223 23 [.ref 430, .int (zi x1), .int (zi x2), .int (zi x3), .null, .null, .null, .null] [.int (zi (0)), .ref 430] (zm V J d) := by
  refine (zr_iconst (n := 0) (by decide +kernel)).trans ?_
  rfl
theorem ze_223_23 {V : zVt} {J : zJt} {d : Nat → Nat → UInt64} (x1 : Int) (x2 : Int) (x3 : Int) (s1 : Int) : zGo false 223 23 [.ref 430, .int (zi x1), .int (zi x2), .int (zi x3), .null, .null, .null, .null] [.int (zi s1), .ref 430] (zm V J d) =
    (zGo false 150 0 [.ref 430, .int (zi s1), .int (zi (1)), .int (zi (1))] [] (zm V J d)).bind (zGor false 223 28 [.ref 430, .int (zi x1), .int (zi x2), .int (zi x3), .null, .null, .null, .null] []) := by
  refine (zr_iconst (n := 1) (by decide +kernel)).trans ?_
  refine (zr_iconst (n := 1) (by decide +kernel)).trans ?_
  exact zr_cV (i := 289) (z := 150) (w := 0) (o := 430) (t := [.int (zi (1)), .int (zi (1)), .int (zi s1)]) (rest := []) (L := [.ref 430, .int (zi s1), .int (zi (1)), .int (zi (1))]) (pc1 := 28) (by decide +kernel) (by decide +kernel) rfl (n := 3) (r := 0) rfl rfl rfl (by decide +kernel) rfl rfl
theorem ze_223_28 {V : zVt} {J : zJt} {d : Nat → Nat → UInt64} (x1 : Int) (x2 : Int) (x3 : Int) (s0 : Int) : zGo false 223 28 [.ref 430, .int (zi x1), .int (zi x2), .int (zi x3), .null, .null, .null, .null] [.int (zi s0)] (zm V J d) =
    (if qw s0 ≠ 0 then (zGo false 183 0 [.ref 430, .int (zi (0)), .int (zi (((4) * x2) + x3))] [] (zm V J d)).bind (zGor false 223 47 [.ref 430, .int (zi x1), .int (zi x2), .int (zi x3), .int (zi (((4) * x2) + x3)), .null, .null, .null] []) else some (.inl (some (.int (zi (0)))), zm V J d)) := by
  refine (zr_ifne (off := 5) (a := s0) (t := 33) (by decide +kernel) rfl).trans (zif_ct (fun _ => ?_) (fun _ => ?_))
  · refine (zr_iconst (n := 4) (by decide +kernel)).trans ?_
    refine (zr_iload_n (n := 2) (x := zi x2) (by decide +kernel) rfl).trans ?_
    refine (zr_imul (a := (4)) (b := x2) (by decide +kernel)).trans ?_
    refine (zr_iload_n (n := 3) (x := zi x3) (by decide +kernel) rfl).trans ?_
    refine (zr_iadd (a := ((4) * x2)) (b := x3) (by decide +kernel)).trans ?_
    refine (zr_istore (n := 4) (l1 := [.ref 430, .int (zi x1), .int (zi x2), .int (zi x3), .int (zi (((4) * x2) + x3)), .null, .null, .null]) (by decide +kernel) rfl).trans ?_
    refine (zr_aload_n (n := 0) (x := 430) (by decide +kernel) rfl).trans ?_
    refine (zr_iconst (n := 0) (by decide +kernel)).trans ?_
    refine (zr_iload (n := 4) (x := zi (((4) * x2) + x3)) (by decide +kernel) rfl).trans ?_
    exact zr_cV (i := 293) (z := 183) (w := 0) (o := 430) (t := [.int (zi (((4) * x2) + x3)), .int (zi (0))]) (rest := []) (L := [.ref 430, .int (zi (0)), .int (zi (((4) * x2) + x3))]) (pc1 := 47) (by decide +kernel) (by decide +kernel) rfl (n := 2) (r := 0) rfl rfl rfl (by decide +kernel) rfl rfl
  · refine (zr_iconst (n := 0) (by decide +kernel)).trans ?_
    exact zr_iret (a := (0)) (by decide +kernel) rfl
theorem ze_223_47 {V : zVt} {J : zJt} {d : Nat → Nat → UInt64} (x1 : Int) (x2 : Int) (x3 : Int) (x4 : Int) (s0 : Int) : zGo false 223 47 [.ref 430, .int (zi x1), .int (zi x2), .int (zi x3), .int (zi x4), .null, .null, .null] [.int (zi s0)] (zm V J d) =
    zGo false 223 54 [.ref 430, .int (zi x1), .int (zi x2), .int (zi x3), .int (zi x4), .int (zi (0)), .int (zi (0)), .null] [] (zm V J d) := by
  refine (zr_pop (by decide +kernel) rfl).trans ?_
  refine (zr_iconst (n := 0) (by decide +kernel)).trans ?_
  refine (zr_istore (n := 5) (l1 := [.ref 430, .int (zi x1), .int (zi x2), .int (zi x3), .int (zi x4), .int (zi (0)), .null, .null]) (by decide +kernel) rfl).trans ?_
  refine (zr_iconst (n := 0) (by decide +kernel)).trans ?_
  refine (zr_istore (n := 6) (l1 := [.ref 430, .int (zi x1), .int (zi x2), .int (zi x3), .int (zi x4), .int (zi (0)), .int (zi (0)), .null]) (by decide +kernel) rfl).trans ?_
  rfl
theorem ze_223_54 {V : zVt} {J : zJt} {d : Nat → Nat → UInt64} (x1 : Int) (x2 : Int) (x3 : Int) (x4 : Int) (x5 : Int) (x6 : Int) (x7 : Value) : zGo false 223 54 [.ref 430, .int (zi x1), .int (zi x2), .int (zi x3), .int (zi x4), .int (zi x5), .int (zi x6), x7] [] (zm V J d) =
    (if qw (40) ≤ qw x6 then some (.inl (some (.int (zi x5))), zm V J d) else zck (0 ≤ qw (((40) * (((12) * x1) + x4)) + x6) ∧ qw (((40) * (((12) * x1) + x4)) + x6) < (5760 : Nat)) ((if qw (V 472 (qw (((40) * (((12) * x1) + x4)) + x6))) ≤ 0 then zGo false 223 87 [.ref 430, .int (zi x1), .int (zi x2), .int (zi x3), .int (zi x4), .int (zi x5), .int (zi x6), x7] [.int (zi (0))] (zm V J d) else zGo false 223 87 [.ref 430, .int (zi x1), .int (zi x2), .int (zi x3), .int (zi x4), .int (zi x5), .int (zi x6), x7] [.int (zi (1))] (zm V J d)))) := by
  refine (zr_iload (n := 6) (x := zi x6) (by decide +kernel) rfl).trans ?_
  refine (zr_bipush (n := 40) (by decide +kernel) rfl).trans ?_
  refine (zr_cge (off := 76) (a := x6) (b := (40)) (t := 134) (by decide +kernel) rfl).trans (zif_ct (fun _ => ?_) (fun _ => ?_))
  · refine (zr_iload (n := 5) (x := zi x5) (by decide +kernel) rfl).trans ?_
    exact zr_iret (a := x5) (by decide +kernel) rfl
  · refine (zr_aload_n (n := 0) (x := 430) (by decide +kernel) rfl).trans ?_
    refine (zr_getR (i := 135) (c := 12) (k := 57) (r := 472) (by decide +kernel) (by decide +kernel) rfl (by decide +kernel) (zR0_f (o := 430) (c := 12) (n := 0) (k := 57) (j := 42) rfl (by decide) rfl)).trans ?_
    refine (zr_bipush (n := 40) (by decide +kernel) rfl).trans ?_
    refine (zr_bipush (n := 12) (by decide +kernel) rfl).trans ?_
    refine (zr_iload_n (n := 1) (x := zi x1) (by decide +kernel) rfl).trans ?_
    refine (zr_imul (a := (12)) (b := x1) (by decide +kernel)).trans ?_
    refine (zr_iload (n := 4) (x := zi x4) (by decide +kernel) rfl).trans ?_
    refine (zr_iadd (a := ((12) * x1)) (b := x4) (by decide +kernel)).trans ?_
    refine (zr_imul (a := (40)) (b := (((12) * x1) + x4)) (by decide +kernel)).trans ?_
    refine (zr_iload (n := 6) (x := zi x6) (by decide +kernel) rfl).trans ?_
    refine (zr_iadd (a := ((40) * (((12) * x1) + x4))) (b := x6) (by decide +kernel)).trans ?_
    refine (zr_iald (n := 5760) (e := (((40) * (((12) * x1) + x4)) + x6)) (by decide +kernel) rfl).trans (zck_ct fun _ => ?_)
    refine (zr_ifle (off := 7) (a := (V 472 (qw (((40) * (((12) * x1) + x4)) + x6)))) (t := 86) (by decide +kernel) rfl).trans (zif_ct (fun _ => ?_) (fun _ => ?_))
    · refine (zr_iconst (n := 0) (by decide +kernel)).trans ?_
      rfl
    · refine (zr_iconst (n := 1) (by decide +kernel)).trans ?_
      refine (zr_goto (off := 4) (t := 87) (by decide +kernel) rfl).trans ?_
      rfl
theorem ze_223_87 {V : zVt} {J : zJt} {d : Nat → Nat → UInt64} (x1 : Int) (x2 : Int) (x3 : Int) (x4 : Int) (x5 : Int) (x6 : Int) (x7 : Value) (s0 : Int) : zGo false 223 87 [.ref 430, .int (zi x1), .int (zi x2), .int (zi x3), .int (zi x4), .int (zi x5), .int (zi x6), x7] [.int (zi s0)] (zm V J d) =
    (if qw s0 = 0 then zGo false 223 124 [.ref 430, .int (zi x1), .int (zi x2), .int (zi x3), .int (zi x4), .int (zi x5), .int (zi x6), .int (zi s0)] [.int (zi x5)] (zm V J d) else zck (0 ≤ qw (0) ∧ qw (0) < (5 : Nat)) ((if qw (V 449 (qw (0))) ≤ qw x6 then zGo false 223 120 [.ref 430, .int (zi x1), .int (zi x2), .int (zi x3), .int (zi x4), .int (zi x5), .int (zi x6), .int (zi s0)] [.int (zi x5)] (zm V J d) else (zGo false 220 0 [.ref 430, .int (zi x1), .int (zi x4), .int (zi x6), .int (zi (0)), .null, .null] [] (zm V J d)).bind (zGor false 223 117 [.ref 430, .int (zi x1), .int (zi x2), .int (zi x3), .int (zi x4), .int (zi x5), .int (zi x6), .int (zi s0)] [.int (zi x5)])))) := by
  refine (zr_istore (n := 7) (l1 := [.ref 430, .int (zi x1), .int (zi x2), .int (zi x3), .int (zi x4), .int (zi x5), .int (zi x6), .int (zi s0)]) (by decide +kernel) rfl).trans ?_
  refine (zr_iload (n := 5) (x := zi x5) (by decide +kernel) rfl).trans ?_
  refine (zr_iload (n := 7) (x := zi s0) (by decide +kernel) rfl).trans ?_
  refine (zr_ifeq (off := 31) (a := s0) (t := 124) (by decide +kernel) rfl).trans (zif_ct (fun _ => ?_) (fun _ => ?_))
  · rfl
  · refine (zr_iload (n := 6) (x := zi x6) (by decide +kernel) rfl).trans ?_
    refine (zr_aload_n (n := 0) (x := 430) (by decide +kernel) rfl).trans ?_
    refine (zr_getR (i := 65) (c := 12) (k := 30) (r := 449) (by decide +kernel) (by decide +kernel) rfl (by decide +kernel) (zR0_f (o := 430) (c := 12) (n := 0) (k := 30) (j := 19) rfl (by decide) rfl)).trans ?_
    refine (zr_iconst (n := 0) (by decide +kernel)).trans ?_
    refine (zr_iald (n := 5) (e := (0)) (by decide +kernel) rfl).trans (zck_ct fun _ => ?_)
    refine (zr_cge (off := 16) (a := x6) (b := (V 449 (qw (0)))) (t := 120) (by decide +kernel) rfl).trans (zif_ct (fun _ => ?_) (fun _ => ?_))
    · rfl
    · refine (zr_aload_n (n := 0) (x := 430) (by decide +kernel) rfl).trans ?_
      refine (zr_iload_n (n := 1) (x := zi x1) (by decide +kernel) rfl).trans ?_
      refine (zr_iload (n := 4) (x := zi x4) (by decide +kernel) rfl).trans ?_
      refine (zr_iload (n := 6) (x := zi x6) (by decide +kernel) rfl).trans ?_
      refine (zr_iconst (n := 0) (by decide +kernel)).trans ?_
      exact zr_cV (i := 350) (z := 220) (w := 0) (o := 430) (t := [.int (zi (0)), .int (zi x6), .int (zi x4), .int (zi x1)]) (rest := [.int (zi x5)]) (L := [.ref 430, .int (zi x1), .int (zi x4), .int (zi x6), .int (zi (0)), .null, .null]) (pc1 := 117) (by decide +kernel) (by decide +kernel) rfl (n := 4) (r := 1) rfl rfl rfl (by decide +kernel) rfl rfl
theorem ze_223_117 {V : zVt} {J : zJt} {d : Nat → Nat → UInt64} (x1 : Int) (x2 : Int) (x3 : Int) (x4 : Int) (x5 : Int) (x6 : Int) (x7 : Int) (s0 : Int) (s1 : Int) : zGo false 223 117 [.ref 430, .int (zi x1), .int (zi x2), .int (zi x3), .int (zi x4), .int (zi x5), .int (zi x6), .int (zi x7)] [.int (zi s1), .int (zi s0)] (zm V J d) =
    (if qw s1 ≠ 0 then zGo false 223 124 [.ref 430, .int (zi x1), .int (zi x2), .int (zi x3), .int (zi x4), .int (zi x5), .int (zi x6), .int (zi x7)] [.int (zi s0)] (zm V J d) else zGo false 223 120 [.ref 430, .int (zi x1), .int (zi x2), .int (zi x3), .int (zi x4), .int (zi x5), .int (zi x6), .int (zi x7)] [.int (zi s0)] (zm V J d)) := by
  refine (zr_ifne (off := 7) (a := s1) (t := 124) (by decide +kernel) rfl).trans (zif_ct (fun _ => ?_) (fun _ => ?_))
  · rfl
  · rfl
theorem ze_223_120 {V : zVt} {J : zJt} {d : Nat → Nat → UInt64} (x1 : Int) (x2 : Int) (x3 : Int) (x4 : Int) (x5 : Int) (x6 : Int) (x7 : Int) (s0 : Int) : zGo false 223 120 [.ref 430, .int (zi x1), .int (zi x2), .int (zi x3), .int (zi x4), .int (zi x5), .int (zi x6), .int (zi x7)] [.int (zi s0)] (zm V J d) =
    zGo false 223 125 [.ref 430, .int (zi x1), .int (zi x2), .int (zi x3), .int (zi x4), .int (zi x5), .int (zi x6), .int (zi x7)] [.int (zi (1)), .int (zi s0)] (zm V J d) := by
  refine (zr_iconst (n := 1) (by decide +kernel)).trans ?_
  refine (zr_goto (off := 4) (t := 125) (by decide +kernel) rfl).trans ?_
  rfl
theorem ze_223_124 {V : zVt} {J : zJt} {d : Nat → Nat → UInt64} (x1 : Int) (x2 : Int) (x3 : Int) (x4 : Int) (x5 : Int) (x6 : Int) (x7 : Int) (s0 : Int) : zGo false 223 124 [.ref 430, .int (zi x1), .int (zi x2), .int (zi x3), .int (zi x4), .int (zi x5), .int (zi x6), .int (zi x7)] [.int (zi s0)] (zm V J d) =
    zGo false 223 125 [.ref 430, .int (zi x1), .int (zi x2), .int (zi x3), .int (zi x4), .int (zi x5), .int (zi x6), .int (zi x7)] [.int (zi (0)), .int (zi s0)] (zm V J d) := by
  refine (zr_iconst (n := 0) (by decide +kernel)).trans ?_
  rfl
theorem ze_223_125 {V : zVt} {J : zJt} {d : Nat → Nat → UInt64} (x1 : Int) (x2 : Int) (x3 : Int) (x4 : Int) (x5 : Int) (x6 : Int) (x7 : Int) (s0 : Int) (s1 : Int) : zGo false 223 125 [.ref 430, .int (zi x1), .int (zi x2), .int (zi x3), .int (zi x4), .int (zi x5), .int (zi x6), .int (zi x7)] [.int (zi s1), .int (zi s0)] (zm V J d) =
    zGo false 223 54 [.ref 430, .int (zi x1), .int (zi x2), .int (zi x3), .int (zi x4), .int (zi (s0 + s1)), .int (zi (x6 + 1)), .int (zi x7)] [] (zm V J d) := by
  refine (zr_iadd (a := s0) (b := s1) (by decide +kernel)).trans ?_
  refine (zr_istore (n := 5) (l1 := [.ref 430, .int (zi x1), .int (zi x2), .int (zi x3), .int (zi x4), .int (zi (s0 + s1)), .int (zi x6), .int (zi x7)]) (by decide +kernel) rfl).trans ?_
  refine (zr_iinc (n := 6) (k := 1) (x := x6) (l1 := [.ref 430, .int (zi x1), .int (zi x2), .int (zi x3), .int (zi x4), .int (zi (s0 + s1)), .int (zi (x6 + 1)), .int (zi x7)]) (by decide +kernel) rfl rfl).trans ?_
  refine (zr_goto (off := -77) (t := 54) (by decide +kernel) rfl).trans ?_
  rfl
/-! PartSongDeskModel judge (I)I -/
theorem ze_224_0 {V : zVt} {J : zJt} {d : Nat → Nat → UInt64} (x1 : Int) : zGo false 224 0 [.ref 430, .int (zi x1)] [] (zm V J d) =
    (zGo false 147 0 [.int (zi x1), .int (zi (3))] [] (zm V J d)).bind (zGor false 224 6 [.ref 430, .int (zi x1)] [.ref 430]) := by
  refine (zr_aload_n (n := 0) (x := 430) (by decide +kernel) rfl).trans ?_
  refine (zr_iload_n (n := 1) (x := zi x1) (by decide +kernel) rfl).trans ?_
  refine (zr_iconst (n := 3) (by decide +kernel)).trans ?_
  exact zr_cS (i := 145) (z := 147) (w := 0) (t := [.int (zi (3)), .int (zi x1)]) (rest := [.ref 430]) (L := [.int (zi x1), .int (zi (3))]) (pc1 := 6) (by decide +kernel) (by decide +kernel) (n := 2) (r := 1) rfl rfl rfl (by decide +kernel) rfl rfl
theorem ze_224_6 {V : zVt} {J : zJt} {d : Nat → Nat → UInt64} (x1 : Int) (s1 : Int) : zGo false 224 6 [.ref 430, .int (zi x1)] [.int (zi s1), .ref 430] (zm V J d) =
    (zGo false 150 0 [.ref 430, .int (zi s1), .int (zi (1)), .int (zi (1))] [] (zm V J d)).bind (zGor false 224 11 [.ref 430, .int (zi x1)] []) := by
  refine (zr_iconst (n := 1) (by decide +kernel)).trans ?_
  refine (zr_iconst (n := 1) (by decide +kernel)).trans ?_
  exact zr_cV (i := 289) (z := 150) (w := 0) (o := 430) (t := [.int (zi (1)), .int (zi (1)), .int (zi s1)]) (rest := []) (L := [.ref 430, .int (zi s1), .int (zi (1)), .int (zi (1))]) (pc1 := 11) (by decide +kernel) (by decide +kernel) rfl (n := 3) (r := 0) rfl rfl rfl (by decide +kernel) rfl rfl
theorem ze_224_11 {V : zVt} {J : zJt} {d : Nat → Nat → UInt64} (x1 : Int) (s0 : Int) : zGo false 224 11 [.ref 430, .int (zi x1)] [.int (zi s0)] (zm V J d) =
    (if qw s0 = 0 then zGo false 224 23 [.ref 430, .int (zi x1)] [.int (zi (0))] (zm V J d) else (zGo false 225 0 [.ref 430, .int (zi x1), .null, .null, .null] [] (zm V J d)).bind (zGor false 224 19 [.ref 430, .int (zi x1)] [])) := by
  refine (zr_ifeq (off := 11) (a := s0) (t := 22) (by decide +kernel) rfl).trans (zif_ct (fun _ => ?_) (fun _ => ?_))
  · refine (zr_iconst (n := 0) (by decide +kernel)).trans ?_
    rfl
  · refine (zr_aload_n (n := 0) (x := 430) (by decide +kernel) rfl).trans ?_
    refine (zr_iload_n (n := 1) (x := zi x1) (by decide +kernel) rfl).trans ?_
    exact zr_cV (i := 377) (z := 225) (w := 0) (o := 430) (t := [.int (zi x1)]) (rest := []) (L := [.ref 430, .int (zi x1), .null, .null, .null]) (pc1 := 19) (by decide +kernel) (by decide +kernel) rfl (n := 1) (r := 0) rfl rfl rfl (by decide +kernel) rfl rfl
theorem ze_224_19 {V : zVt} {J : zJt} {d : Nat → Nat → UInt64} (x1 : Int) (s0 : Int) : zGo false 224 19 [.ref 430, .int (zi x1)] [.int (zi s0)] (zm V J d) =
    zGo false 224 23 [.ref 430, .int (zi x1)] [.int (zi s0)] (zm V J d) := by
  refine (zr_goto (off := 4) (t := 23) (by decide +kernel) rfl).trans ?_
  rfl
theorem ze_224_23 {V : zVt} {J : zJt} {d : Nat → Nat → UInt64} (x1 : Int) (s0 : Int) : zGo false 224 23 [.ref 430, .int (zi x1)] [.int (zi s0)] (zm V J d) =
    some (.inl (some (.int (zi s0))), zm V J d) := by
  exact zr_iret (a := s0) (by decide +kernel) rfl
/-! PartSongDeskModel judged (I)I -/
theorem ze_225_0 {V : zVt} {J : zJt} {d : Nat → Nat → UInt64} (x1 : Int) : zGo false 225 0 [.ref 430, .int (zi x1), .null, .null, .null] [] (zm V J d) =
    zGo false 225 2 [.ref 430, .int (zi x1), .int (zi (0)), .null, .null] [] (zm V J d) := by
  refine (zr_iconst (n := 0) (by decide +kernel)).trans ?_
  refine (zr_istore_n (n := 2) (l1 := [.ref 430, .int (zi x1), .int (zi (0)), .null, .null]) (by decide +kernel) rfl).trans ?_
  rfl
theorem ze_225_2 {V : zVt} {J : zJt} {d : Nat → Nat → UInt64} (x1 : Int) (x2 : Int) : zGo false 225 2 [.ref 430, .int (zi x1), .int (zi x2), .null, .null] [] (zm V J d) =
    (if qw (4) ≤ qw x2 then zGo false 225 32 [.ref 430, .int (zi x1), .int (zi (0)), .int (zi (0)), .null] [] (zm V J d) else (zGo false 226 0 [.ref 430, .int (zi (((4) * x1) + x2)), .null, .null] [] (zm V J d)).bind (zGor false 225 16 [.ref 430, .int (zi x1), .int (zi x2), .null, .null] [])) := by
  refine (zr_iload_n (n := 2) (x := zi x2) (by decide +kernel) rfl).trans ?_
  refine (zr_iconst (n := 4) (by decide +kernel)).trans ?_
  refine (zr_cge (off := 24) (a := x2) (b := (4)) (t := 28) (by decide +kernel) rfl).trans (zif_ct (fun _ => ?_) (fun _ => ?_))
  · refine (zr_iconst (n := 0) (by decide +kernel)).trans ?_
    refine (zr_istore_n (n := 2) (l1 := [.ref 430, .int (zi x1), .int (zi (0)), .null, .null]) (by decide +kernel) rfl).trans ?_
    refine (zr_iconst (n := 0) (by decide +kernel)).trans ?_
    refine (zr_istore_n (n := 3) (l1 := [.ref 430, .int (zi x1), .int (zi (0)), .int (zi (0)), .null]) (by decide +kernel) rfl).trans ?_
    rfl
  · refine (zr_aload_n (n := 0) (x := 430) (by decide +kernel) rfl).trans ?_
    refine (zr_iconst (n := 4) (by decide +kernel)).trans ?_
    refine (zr_iload_n (n := 1) (x := zi x1) (by decide +kernel) rfl).trans ?_
    refine (zr_imul (a := (4)) (b := x1) (by decide +kernel)).trans ?_
    refine (zr_iload_n (n := 2) (x := zi x2) (by decide +kernel) rfl).trans ?_
    refine (zr_iadd (a := ((4) * x1)) (b := x2) (by decide +kernel)).trans ?_
    exact zr_cV (i := 368) (z := 226) (w := 0) (o := 430) (t := [.int (zi (((4) * x1) + x2))]) (rest := []) (L := [.ref 430, .int (zi (((4) * x1) + x2)), .null, .null]) (pc1 := 16) (by decide +kernel) (by decide +kernel) rfl (n := 1) (r := 0) rfl rfl rfl (by decide +kernel) rfl rfl
theorem ze_225_16 {V : zVt} {J : zJt} {d : Nat → Nat → UInt64} (x1 : Int) (x2 : Int) (s0 : Int) : zGo false 225 16 [.ref 430, .int (zi x1), .int (zi x2), .null, .null] [.int (zi s0)] (zm V J d) =
    (if qw s0 ≠ qw (-1) then zGo false 225 2 [.ref 430, .int (zi x1), .int (zi (x2 + 1)), .null, .null] [] (zm V J d) else some (.inl (some (.int (zi (1)))), zm V J d)) := by
  refine (zr_iconst (n := -1) (by decide +kernel)).trans ?_
  refine (zr_cne (off := 5) (a := s0) (b := (-1)) (t := 22) (by decide +kernel) rfl).trans (zif_ct (fun _ => ?_) (fun _ => ?_))
  · refine (zr_iinc (n := 2) (k := 1) (x := x2) (l1 := [.ref 430, .int (zi x1), .int (zi (x2 + 1)), .null, .null]) (by decide +kernel) rfl rfl).trans ?_
    refine (zr_goto (off := -23) (t := 2) (by decide +kernel) rfl).trans ?_
    rfl
  · refine (zr_iconst (n := 1) (by decide +kernel)).trans ?_
    exact zr_iret (a := (1)) (by decide +kernel) rfl
theorem ze_225_32 {V : zVt} {J : zJt} {d : Nat → Nat → UInt64} (x1 : Int) (x2 : Int) (x3 : Int) : zGo false 225 32 [.ref 430, .int (zi x1), .int (zi x2), .int (zi x3), .null] [] (zm V J d) =
    (if qw (V 430 37) ≤ qw x3 then (if qw x2 = 0 then (zGo false 227 0 [.ref 430, .int (zi x1), .null, .null] [] (zm V J d)).bind (zGor false 225 97 [.ref 430, .int (zi x1), .int (zi x2), .int (zi x3), .null] []) else zGo false 225 97 [.ref 430, .int (zi x1), .int (zi x2), .int (zi x3), .null] [.int (zi (2))] (zm V J d)) else (if qw x2 ≠ 0 then zGo false 225 72 [.ref 430, .int (zi x1), .int (zi x2), .int (zi x3), .null] [] (zm V J d) else (zGo false 190 0 [.ref 430, .int (zi x3)] [] (zm V J d)).bind (zGor false 225 49 [.ref 430, .int (zi x1), .int (zi x2), .int (zi x3), .null] []))) := by
  refine (zr_iload_n (n := 3) (x := zi x3) (by decide +kernel) rfl).trans ?_
  refine (zr_aload_n (n := 0) (x := 430) (by decide +kernel) rfl).trans ?_
  refine (zr_getI (i := 279) (c := 12) (k := 37) (by decide +kernel) (by decide +kernel) rfl (by decide +kernel)).trans ?_
  refine (zr_cge (off := 47) (a := x3) (b := (V 430 37)) (t := 84) (by decide +kernel) rfl).trans (zif_ct (fun _ => ?_) (fun _ => ?_))
  · refine (zr_iload_n (n := 2) (x := zi x2) (by decide +kernel) rfl).trans ?_
    refine (zr_ifeq (off := 7) (a := x2) (t := 92) (by decide +kernel) rfl).trans (zif_ct (fun _ => ?_) (fun _ => ?_))
    · refine (zr_aload_n (n := 0) (x := 430) (by decide +kernel) rfl).trans ?_
      refine (zr_iload_n (n := 1) (x := zi x1) (by decide +kernel) rfl).trans ?_
      exact zr_cV (i := 371) (z := 227) (w := 0) (o := 430) (t := [.int (zi x1)]) (rest := []) (L := [.ref 430, .int (zi x1), .null, .null]) (pc1 := 97) (by decide +kernel) (by decide +kernel) rfl (n := 1) (r := 0) rfl rfl rfl (by decide +kernel) rfl rfl
    · refine (zr_iconst (n := 2) (by decide +kernel)).trans ?_
      refine (zr_goto (off := 8) (t := 97) (by decide +kernel) rfl).trans ?_
      rfl
  · refine (zr_iload_n (n := 2) (x := zi x2) (by decide +kernel) rfl).trans ?_
    refine (zr_ifne (off := 31) (a := x2) (t := 72) (by decide +kernel) rfl).trans (zif_ct (fun _ => ?_) (fun _ => ?_))
    · rfl
    · refine (zr_aload_n (n := 0) (x := 430) (by decide +kernel) rfl).trans ?_
      refine (zr_iload_n (n := 3) (x := zi x3) (by decide +kernel) rfl).trans ?_
      exact zr_cV (i := 301) (z := 190) (w := 0) (o := 430) (t := [.int (zi x3)]) (rest := []) (L := [.ref 430, .int (zi x3)]) (pc1 := 49) (by decide +kernel) (by decide +kernel) rfl (n := 1) (r := 0) rfl rfl rfl (by decide +kernel) rfl rfl
theorem ze_225_49 {V : zVt} {J : zJt} {d : Nat → Nat → UInt64} (x1 : Int) (x2 : Int) (x3 : Int) (s0 : Int) : zGo false 225 49 [.ref 430, .int (zi x1), .int (zi x2), .int (zi x3), .null] [.int (zi s0)] (zm V J d) =
    (if qw s0 ≠ qw x1 then zGo false 225 76 [.ref 430, .int (zi x1), .int (zi x2), .int (zi x3), .null] [] (zm V J d) else zck (0 ≤ qw x3 ∧ qw x3 < (40 : Nat)) ((if qw (V 455 (qw x3)) = qw (-1) then zGo false 225 76 [.ref 430, .int (zi x1), .int (zi x2), .int (zi x3), .null] [] (zm V J d) else (zGo false 198 0 [.ref 430, .int (zi (0)), .int (zi x3)] [] (zm V J d)).bind (zGor false 225 69 [.ref 430, .int (zi x1), .int (zi x2), .int (zi x3), .null] [])))) := by
  refine (zr_iload_n (n := 1) (x := zi x1) (by decide +kernel) rfl).trans ?_
  refine (zr_cne (off := 26) (a := s0) (b := x1) (t := 76) (by decide +kernel) rfl).trans (zif_ct (fun _ => ?_) (fun _ => ?_))
  · rfl
  · refine (zr_aload_n (n := 0) (x := 430) (by decide +kernel) rfl).trans ?_
    refine (zr_getR (i := 84) (c := 12) (k := 36) (r := 455) (by decide +kernel) (by decide +kernel) rfl (by decide +kernel) (zR0_f (o := 430) (c := 12) (n := 0) (k := 36) (j := 25) rfl (by decide) rfl)).trans ?_
    refine (zr_iload_n (n := 3) (x := zi x3) (by decide +kernel) rfl).trans ?_
    refine (zr_iald (n := 40) (e := x3) (by decide +kernel) rfl).trans (zck_ct fun _ => ?_)
    refine (zr_iconst (n := -1) (by decide +kernel)).trans ?_
    refine (zr_ceq (off := 16) (a := (V 455 (qw x3))) (b := (-1)) (t := 76) (by decide +kernel) rfl).trans (zif_ct (fun _ => ?_) (fun _ => ?_))
    · rfl
    · refine (zr_aload_n (n := 0) (x := 430) (by decide +kernel) rfl).trans ?_
      refine (zr_iconst (n := 0) (by decide +kernel)).trans ?_
      refine (zr_iload_n (n := 3) (x := zi x3) (by decide +kernel) rfl).trans ?_
      exact zr_cV (i := 316) (z := 198) (w := 0) (o := 430) (t := [.int (zi x3), .int (zi (0))]) (rest := []) (L := [.ref 430, .int (zi (0)), .int (zi x3)]) (pc1 := 69) (by decide +kernel) (by decide +kernel) rfl (n := 2) (r := 0) rfl rfl rfl (by decide +kernel) rfl rfl
theorem ze_225_69 {V : zVt} {J : zJt} {d : Nat → Nat → UInt64} (x1 : Int) (x2 : Int) (x3 : Int) (s0 : Int) : zGo false 225 69 [.ref 430, .int (zi x1), .int (zi x2), .int (zi x3), .null] [.int (zi s0)] (zm V J d) =
    (if qw s0 = 0 then zGo false 225 76 [.ref 430, .int (zi x1), .int (zi x2), .int (zi x3), .null] [] (zm V J d) else zGo false 225 72 [.ref 430, .int (zi x1), .int (zi x2), .int (zi x3), .null] [] (zm V J d)) := by
  refine (zr_ifeq (off := 7) (a := s0) (t := 76) (by decide +kernel) rfl).trans (zif_ct (fun _ => ?_) (fun _ => ?_))
  · rfl
  · rfl
theorem ze_225_72 {V : zVt} {J : zJt} {d : Nat → Nat → UInt64} (x1 : Int) (x2 : Int) (x3 : Int) : zGo false 225 72 [.ref 430, .int (zi x1), .int (zi x2), .int (zi x3), .null] [] (zm V J d) =
    zGo false 225 77 [.ref 430, .int (zi x1), .int (zi x2), .int (zi x3), .null] [.int (zi (1))] (zm V J d) := by
  refine (zr_iconst (n := 1) (by decide +kernel)).trans ?_
  refine (zr_goto (off := 4) (t := 77) (by decide +kernel) rfl).trans ?_
  rfl
theorem ze_225_76 {V : zVt} {J : zJt} {d : Nat → Nat → UInt64} (x1 : Int) (x2 : Int) (x3 : Int) : zGo false 225 76 [.ref 430, .int (zi x1), .int (zi x2), .int (zi x3), .null] [] (zm V J d) =
    zGo false 225 77 [.ref 430, .int (zi x1), .int (zi x2), .int (zi x3), .null] [.int (zi (0))] (zm V J d) := by
  refine (zr_iconst (n := 0) (by decide +kernel)).trans ?_
  rfl
theorem ze_225_77 {V : zVt} {J : zJt} {d : Nat → Nat → UInt64} (x1 : Int) (x2 : Int) (x3 : Int) (s0 : Int) : zGo false 225 77 [.ref 430, .int (zi x1), .int (zi x2), .int (zi x3), .null] [.int (zi s0)] (zm V J d) =
    zGo false 225 32 [.ref 430, .int (zi x1), .int (zi s0), .int (zi (x3 + 1)), .null] [] (zm V J d) := by
  refine (zr_istore_n (n := 2) (l1 := [.ref 430, .int (zi x1), .int (zi s0), .int (zi x3), .null]) (by decide +kernel) rfl).trans ?_
  refine (zr_iinc (n := 3) (k := 1) (x := x3) (l1 := [.ref 430, .int (zi x1), .int (zi s0), .int (zi (x3 + 1)), .null]) (by decide +kernel) rfl rfl).trans ?_
  refine (zr_goto (off := -49) (t := 32) (by decide +kernel) rfl).trans ?_
  rfl
theorem ze_225_97 {V : zVt} {J : zJt} {d : Nat → Nat → UInt64} (x1 : Int) (x2 : Int) (x3 : Int) (s0 : Int) : zGo false 225 97 [.ref 430, .int (zi x1), .int (zi x2), .int (zi x3), .null] [.int (zi s0)] (zm V J d) =
    zGo false 225 101 [.ref 430, .int (zi x1), .int (zi x2), .int (zi s0), .int (zi (0))] [] (zm V J d) := by
  refine (zr_istore_n (n := 3) (l1 := [.ref 430, .int (zi x1), .int (zi x2), .int (zi s0), .null]) (by decide +kernel) rfl).trans ?_
  refine (zr_iconst (n := 0) (by decide +kernel)).trans ?_
  refine (zr_istore (n := 4) (l1 := [.ref 430, .int (zi x1), .int (zi x2), .int (zi s0), .int (zi (0))]) (by decide +kernel) rfl).trans ?_
  rfl
theorem ze_225_101 {V : zVt} {J : zJt} {d : Nat → Nat → UInt64} (x1 : Int) (x2 : Int) (x3 : Int) (x4 : Int) : zGo false 225 101 [.ref 430, .int (zi x1), .int (zi x2), .int (zi x3), .int (zi x4)] [] (zm V J d) =
    (if qw (V 430 37) ≤ qw x4 then zGo false 225 156 [.ref 430, .int (zi x1), .int (zi x2), .int (zi x3), .int (zi x4)] [] (zm V J d) else (if qw x3 ≠ 0 then zGo false 225 156 [.ref 430, .int (zi x1), .int (zi x2), .int (zi x3), .int (zi x4)] [] (zm V J d) else (zGo false 190 0 [.ref 430, .int (zi x4)] [] (zm V J d)).bind (zGor false 225 120 [.ref 430, .int (zi x1), .int (zi x2), .int (zi x3), .int (zi x4)] []))) := by
  refine (zr_iload (n := 4) (x := zi x4) (by decide +kernel) rfl).trans ?_
  refine (zr_aload_n (n := 0) (x := 430) (by decide +kernel) rfl).trans ?_
  refine (zr_getI (i := 279) (c := 12) (k := 37) (by decide +kernel) (by decide +kernel) rfl (by decide +kernel)).trans ?_
  refine (zr_cge (off := 49) (a := x4) (b := (V 430 37)) (t := 156) (by decide +kernel) rfl).trans (zif_ct (fun _ => ?_) (fun _ => ?_))
  · rfl
  · refine (zr_iload_n (n := 3) (x := zi x3) (by decide +kernel) rfl).trans ?_
    refine (zr_ifne (off := 45) (a := x3) (t := 156) (by decide +kernel) rfl).trans (zif_ct (fun _ => ?_) (fun _ => ?_))
    · rfl
    · refine (zr_aload_n (n := 0) (x := 430) (by decide +kernel) rfl).trans ?_
      refine (zr_iload (n := 4) (x := zi x4) (by decide +kernel) rfl).trans ?_
      exact zr_cV (i := 301) (z := 190) (w := 0) (o := 430) (t := [.int (zi x4)]) (rest := []) (L := [.ref 430, .int (zi x4)]) (pc1 := 120) (by decide +kernel) (by decide +kernel) rfl (n := 1) (r := 0) rfl rfl rfl (by decide +kernel) rfl rfl
theorem ze_225_120 {V : zVt} {J : zJt} {d : Nat → Nat → UInt64} (x1 : Int) (x2 : Int) (x3 : Int) (x4 : Int) (s0 : Int) : zGo false 225 120 [.ref 430, .int (zi x1), .int (zi x2), .int (zi x3), .int (zi x4)] [.int (zi s0)] (zm V J d) =
    (if qw s0 ≠ qw x1 then zGo false 225 148 [.ref 430, .int (zi x1), .int (zi x2), .int (zi x3), .int (zi x4)] [] (zm V J d) else zck (0 ≤ qw x4 ∧ qw x4 < (40 : Nat)) ((if qw (V 455 (qw x4)) = qw (-1) then zGo false 225 148 [.ref 430, .int (zi x1), .int (zi x2), .int (zi x3), .int (zi x4)] [] (zm V J d) else (zGo false 228 0 [.ref 430, .int (zi x4), .null, .null] [] (zm V J d)).bind (zGor false 225 141 [.ref 430, .int (zi x1), .int (zi x2), .int (zi x3), .int (zi x4)] [])))) := by
  refine (zr_iload_n (n := 1) (x := zi x1) (by decide +kernel) rfl).trans ?_
  refine (zr_cne (off := 27) (a := s0) (b := x1) (t := 148) (by decide +kernel) rfl).trans (zif_ct (fun _ => ?_) (fun _ => ?_))
  · rfl
  · refine (zr_aload_n (n := 0) (x := 430) (by decide +kernel) rfl).trans ?_
    refine (zr_getR (i := 84) (c := 12) (k := 36) (r := 455) (by decide +kernel) (by decide +kernel) rfl (by decide +kernel) (zR0_f (o := 430) (c := 12) (n := 0) (k := 36) (j := 25) rfl (by decide) rfl)).trans ?_
    refine (zr_iload (n := 4) (x := zi x4) (by decide +kernel) rfl).trans ?_
    refine (zr_iald (n := 40) (e := x4) (by decide +kernel) rfl).trans (zck_ct fun _ => ?_)
    refine (zr_iconst (n := -1) (by decide +kernel)).trans ?_
    refine (zr_ceq (off := 16) (a := (V 455 (qw x4))) (b := (-1)) (t := 148) (by decide +kernel) rfl).trans (zif_ct (fun _ => ?_) (fun _ => ?_))
    · rfl
    · refine (zr_aload_n (n := 0) (x := 430) (by decide +kernel) rfl).trans ?_
      refine (zr_iload (n := 4) (x := zi x4) (by decide +kernel) rfl).trans ?_
      exact zr_cV (i := 374) (z := 228) (w := 0) (o := 430) (t := [.int (zi x4)]) (rest := []) (L := [.ref 430, .int (zi x4), .null, .null]) (pc1 := 141) (by decide +kernel) (by decide +kernel) rfl (n := 1) (r := 0) rfl rfl rfl (by decide +kernel) rfl rfl
theorem ze_225_141 {V : zVt} {J : zJt} {d : Nat → Nat → UInt64} (x1 : Int) (x2 : Int) (x3 : Int) (x4 : Int) (s0 : Int) : zGo false 225 141 [.ref 430, .int (zi x1), .int (zi x2), .int (zi x3), .int (zi x4)] [.int (zi s0)] (zm V J d) =
    (if qw s0 = 0 then zGo false 225 148 [.ref 430, .int (zi x1), .int (zi x2), .int (zi x3), .int (zi x4)] [] (zm V J d) else zGo false 225 149 [.ref 430, .int (zi x1), .int (zi x2), .int (zi x3), .int (zi x4)] [.int (zi (5))] (zm V J d)) := by
  refine (zr_ifeq (off := 7) (a := s0) (t := 148) (by decide +kernel) rfl).trans (zif_ct (fun _ => ?_) (fun _ => ?_))
  · rfl
  · refine (zr_iconst (n := 5) (by decide +kernel)).trans ?_
    refine (zr_goto (off := 4) (t := 149) (by decide +kernel) rfl).trans ?_
    rfl
theorem ze_225_148 {V : zVt} {J : zJt} {d : Nat → Nat → UInt64} (x1 : Int) (x2 : Int) (x3 : Int) (x4 : Int) : zGo false 225 148 [.ref 430, .int (zi x1), .int (zi x2), .int (zi x3), .int (zi x4)] [] (zm V J d) =
    zGo false 225 149 [.ref 430, .int (zi x1), .int (zi x2), .int (zi x3), .int (zi x4)] [.int (zi x3)] (zm V J d) := by
  refine (zr_iload_n (n := 3) (x := zi x3) (by decide +kernel) rfl).trans ?_
  rfl
theorem ze_225_149 {V : zVt} {J : zJt} {d : Nat → Nat → UInt64} (x1 : Int) (x2 : Int) (x3 : Int) (x4 : Int) (s0 : Int) : zGo false 225 149 [.ref 430, .int (zi x1), .int (zi x2), .int (zi x3), .int (zi x4)] [.int (zi s0)] (zm V J d) =
    zGo false 225 101 [.ref 430, .int (zi x1), .int (zi x2), .int (zi s0), .int (zi (x4 + 1))] [] (zm V J d) := by
  refine (zr_istore_n (n := 3) (l1 := [.ref 430, .int (zi x1), .int (zi x2), .int (zi s0), .int (zi x4)]) (by decide +kernel) rfl).trans ?_
  refine (zr_iinc (n := 4) (k := 1) (x := x4) (l1 := [.ref 430, .int (zi x1), .int (zi x2), .int (zi s0), .int (zi (x4 + 1))]) (by decide +kernel) rfl rfl).trans ?_
  refine (zr_goto (off := -52) (t := 101) (by decide +kernel) rfl).trans ?_
  rfl
theorem ze_225_156 {V : zVt} {J : zJt} {d : Nat → Nat → UInt64} (x1 : Int) (x2 : Int) (x3 : Int) (x4 : Int) : zGo false 225 156 [.ref 430, .int (zi x1), .int (zi x2), .int (zi x3), .int (zi x4)] [] (zm V J d) =
    some (.inl (some (.int (zi x3))), zm V J d) := by
  refine (zr_iload_n (n := 3) (x := zi x3) (by decide +kernel) rfl).trans ?_
  exact zr_iret (a := x3) (by decide +kernel) rfl
/-! PartSongDeskModel firstLent (I)I -/
theorem ze_226_0 {V : zVt} {J : zJt} {d : Nat → Nat → UInt64} (x1 : Int) : zGo false 226 0 [.ref 430, .int (zi x1), .null, .null] [] (zm V J d) =
    zGo false 226 9 [.ref 430, .int (zi x1), .int (zi (-1)), .int (zi ((V 430 37) - (1)))] [] (zm V J d) := by
  refine (zr_iconst (n := -1) (by decide +kernel)).trans ?_
  refine (zr_istore_n (n := 2) (l1 := [.ref 430, .int (zi x1), .int (zi (-1)), .null]) (by decide +kernel) rfl).trans ?_
  refine (zr_aload_n (n := 0) (x := 430) (by decide +kernel) rfl).trans ?_
  refine (zr_getI (i := 279) (c := 12) (k := 37) (by decide +kernel) (by decide +kernel) rfl (by decide +kernel)).trans ?_
  refine (zr_iconst (n := 1) (by decide +kernel)).trans ?_
  refine (zr_isub (a := (V 430 37)) (b := (1)) (by decide +kernel)).trans ?_
  refine (zr_istore_n (n := 3) (l1 := [.ref 430, .int (zi x1), .int (zi (-1)), .int (zi ((V 430 37) - (1)))]) (by decide +kernel) rfl).trans ?_
  rfl
theorem ze_226_9 {V : zVt} {J : zJt} {d : Nat → Nat → UInt64} (x1 : Int) (x2 : Int) (x3 : Int) : zGo false 226 9 [.ref 430, .int (zi x1), .int (zi x2), .int (zi x3)] [] (zm V J d) =
    (if qw x3 < 0 then some (.inl (some (.int (zi x2))), zm V J d) else zck (0 ≤ qw x3 ∧ qw x3 < (40 : Nat)) ((if qw (V 454 (qw x3)) ≠ qw x1 then zGo false 226 37 [.ref 430, .int (zi x1), .int (zi x2), .int (zi x3)] [] (zm V J d) else zck (0 ≤ qw x3 ∧ qw x3 < (40 : Nat)) ((if qw (V 455 (qw x3)) = qw (-1) then zGo false 226 37 [.ref 430, .int (zi x1), .int (zi x2), .int (zi x3)] [] (zm V J d) else zGo false 226 38 [.ref 430, .int (zi x1), .int (zi x2), .int (zi x3)] [.int (zi x3)] (zm V J d)))))) := by
  refine (zr_iload_n (n := 3) (x := zi x3) (by decide +kernel) rfl).trans ?_
  refine (zr_iflt (off := 35) (a := x3) (t := 45) (by decide +kernel) rfl).trans (zif_ct (fun _ => ?_) (fun _ => ?_))
  · refine (zr_iload_n (n := 2) (x := zi x2) (by decide +kernel) rfl).trans ?_
    exact zr_iret (a := x2) (by decide +kernel) rfl
  · refine (zr_aload_n (n := 0) (x := 430) (by decide +kernel) rfl).trans ?_
    refine (zr_getR (i := 81) (c := 12) (k := 35) (r := 454) (by decide +kernel) (by decide +kernel) rfl (by decide +kernel) (zR0_f (o := 430) (c := 12) (n := 0) (k := 35) (j := 24) rfl (by decide) rfl)).trans ?_
    refine (zr_iload_n (n := 3) (x := zi x3) (by decide +kernel) rfl).trans ?_
    refine (zr_iald (n := 40) (e := x3) (by decide +kernel) rfl).trans (zck_ct fun _ => ?_)
    refine (zr_iload_n (n := 1) (x := zi x1) (by decide +kernel) rfl).trans ?_
    refine (zr_cne (off := 17) (a := (V 454 (qw x3))) (b := x1) (t := 37) (by decide +kernel) rfl).trans (zif_ct (fun _ => ?_) (fun _ => ?_))
    · rfl
    · refine (zr_aload_n (n := 0) (x := 430) (by decide +kernel) rfl).trans ?_
      refine (zr_getR (i := 84) (c := 12) (k := 36) (r := 455) (by decide +kernel) (by decide +kernel) rfl (by decide +kernel) (zR0_f (o := 430) (c := 12) (n := 0) (k := 36) (j := 25) rfl (by decide) rfl)).trans ?_
      refine (zr_iload_n (n := 3) (x := zi x3) (by decide +kernel) rfl).trans ?_
      refine (zr_iald (n := 40) (e := x3) (by decide +kernel) rfl).trans (zck_ct fun _ => ?_)
      refine (zr_iconst (n := -1) (by decide +kernel)).trans ?_
      refine (zr_ceq (off := 7) (a := (V 455 (qw x3))) (b := (-1)) (t := 37) (by decide +kernel) rfl).trans (zif_ct (fun _ => ?_) (fun _ => ?_))
      · rfl
      · refine (zr_iload_n (n := 3) (x := zi x3) (by decide +kernel) rfl).trans ?_
        refine (zr_goto (off := 4) (t := 38) (by decide +kernel) rfl).trans ?_
        rfl
theorem ze_226_37 {V : zVt} {J : zJt} {d : Nat → Nat → UInt64} (x1 : Int) (x2 : Int) (x3 : Int) : zGo false 226 37 [.ref 430, .int (zi x1), .int (zi x2), .int (zi x3)] [] (zm V J d) =
    zGo false 226 38 [.ref 430, .int (zi x1), .int (zi x2), .int (zi x3)] [.int (zi x2)] (zm V J d) := by
  refine (zr_iload_n (n := 2) (x := zi x2) (by decide +kernel) rfl).trans ?_
  rfl
theorem ze_226_38 {V : zVt} {J : zJt} {d : Nat → Nat → UInt64} (x1 : Int) (x2 : Int) (x3 : Int) (s0 : Int) : zGo false 226 38 [.ref 430, .int (zi x1), .int (zi x2), .int (zi x3)] [.int (zi s0)] (zm V J d) =
    zGo false 226 9 [.ref 430, .int (zi x1), .int (zi s0), .int (zi (x3 + (-1)))] [] (zm V J d) := by
  refine (zr_istore_n (n := 2) (l1 := [.ref 430, .int (zi x1), .int (zi s0), .int (zi x3)]) (by decide +kernel) rfl).trans ?_
  refine (zr_iinc (n := 3) (k := -1) (x := x3) (l1 := [.ref 430, .int (zi x1), .int (zi s0), .int (zi (x3 + (-1)))]) (by decide +kernel) rfl rfl).trans ?_
  refine (zr_goto (off := -33) (t := 9) (by decide +kernel) rfl).trans ?_
  rfl
