/-! part 28: methods as equations; printed by program (wip/whole/gen/gen_tree.py, gen_trees_all.py) -/
/-! PartSongDeskModel corrects (I)V -/
theorem ze_166_0 {V : zVt} {J : zJt} {d : Nat → Nat → UInt64} (x1 : Int) : zGo false 166 0 [.ref 430, .int (zi x1), .null, .null, .null, .null, .null, .null, .null] [] (zm V J d) =
    zGo false 166 2 [.ref 430, .int (zi x1), .int (zi (0)), .null, .null, .null, .null, .null, .null] [] (zm V J d) := by
  refine (zr_iconst (n := 0) (by decide +kernel)).trans ?_
  refine (zr_istore_n (n := 2) (l1 := [.ref 430, .int (zi x1), .int (zi (0)), .null, .null, .null, .null, .null, .null]) (by decide +kernel) rfl).trans ?_
  rfl
theorem ze_166_2 {V : zVt} {J : zJt} {d : Nat → Nat → UInt64} (x1 : Int) (x2 : Int) (x3 : Value) (x4 : Value) (x5 : Value) (x6 : Value) (x7 : Value) (x8 : Value) : zGo false 166 2 [.ref 430, .int (zi x1), .int (zi x2), x3, x4, x5, x6, x7, x8] [] (zm V J d) =
    (if qw (V 430 10) ≤ qw x2 then zGo false 166 328 [.ref 430, .int (zi x1), .int (zi x2), x3, x4, x5, x6, x7, x8] [] (zm V J d) else (if qw x1 < 0 then zGo false 166 328 [.ref 430, .int (zi x1), .int (zi x2), x3, x4, x5, x6, x7, x8] [] (zm V J d) else zck (0 ≤ qw x2 ∧ qw x2 < (60 : Nat)) (zck (0 ≤ qw x2 ∧ qw x2 < (60 : Nat)) (zck (0 ≤ qw x2 ∧ qw x2 < (60 : Nat)) (zGo false 166 43 [.ref 430, .int (zi x1), .int (zi x2), .int (zi (V 435 (qw x2))), .int (zi (V 436 (qw x2))), .int (zi (V 437 (qw x2))), .int (zi (0)), .int (zi (0)), x8] [] (zm V J d)))))) := by
  refine (zr_iload_n (n := 2) (x := zi x2) (by decide +kernel) rfl).trans ?_
  refine (zr_aload_n (n := 0) (x := 430) (by decide +kernel) rfl).trans ?_
  refine (zr_getI (i := 149) (c := 12) (k := 10) (by decide +kernel) (by decide +kernel) rfl (by decide +kernel)).trans ?_
  refine (zr_cge (off := 321) (a := x2) (b := (V 430 10)) (t := 328) (by decide +kernel) rfl).trans (zif_ct (fun _ => ?_) (fun _ => ?_))
  · rfl
  · refine (zr_iload_n (n := 1) (x := zi x1) (by decide +kernel) rfl).trans ?_
    refine (zr_iflt (off := 317) (a := x1) (t := 328) (by decide +kernel) rfl).trans (zif_ct (fun _ => ?_) (fun _ => ?_))
    · rfl
    · refine (zr_aload_n (n := 0) (x := 430) (by decide +kernel) rfl).trans ?_
      refine (zr_getR (i := 22) (c := 12) (k := 4) (r := 435) (by decide +kernel) (by decide +kernel) rfl (by decide +kernel) (zR0_f (o := 430) (c := 12) (n := 0) (k := 4) (j := 5) rfl (by decide) rfl)).trans ?_
      refine (zr_iload_n (n := 2) (x := zi x2) (by decide +kernel) rfl).trans ?_
      refine (zr_iald (n := 60) (e := x2) (by decide +kernel) rfl).trans (zck_ct fun _ => ?_)
      refine (zr_istore_n (n := 3) (l1 := [.ref 430, .int (zi x1), .int (zi x2), .int (zi (V 435 (qw x2))), x4, x5, x6, x7, x8]) (by decide +kernel) rfl).trans ?_
      refine (zr_aload_n (n := 0) (x := 430) (by decide +kernel) rfl).trans ?_
      refine (zr_getR (i := 25) (c := 12) (k := 5) (r := 436) (by decide +kernel) (by decide +kernel) rfl (by decide +kernel) (zR0_f (o := 430) (c := 12) (n := 0) (k := 5) (j := 6) rfl (by decide) rfl)).trans ?_
      refine (zr_iload_n (n := 2) (x := zi x2) (by decide +kernel) rfl).trans ?_
      refine (zr_iald (n := 60) (e := x2) (by decide +kernel) rfl).trans (zck_ct fun _ => ?_)
      refine (zr_istore (n := 4) (l1 := [.ref 430, .int (zi x1), .int (zi x2), .int (zi (V 435 (qw x2))), .int (zi (V 436 (qw x2))), x5, x6, x7, x8]) (by decide +kernel) rfl).trans ?_
      refine (zr_aload_n (n := 0) (x := 430) (by decide +kernel) rfl).trans ?_
      refine (zr_getR (i := 28) (c := 12) (k := 6) (r := 437) (by decide +kernel) (by decide +kernel) rfl (by decide +kernel) (zR0_f (o := 430) (c := 12) (n := 0) (k := 6) (j := 7) rfl (by decide) rfl)).trans ?_
      refine (zr_iload_n (n := 2) (x := zi x2) (by decide +kernel) rfl).trans ?_
      refine (zr_iald (n := 60) (e := x2) (by decide +kernel) rfl).trans (zck_ct fun _ => ?_)
      refine (zr_istore (n := 5) (l1 := [.ref 430, .int (zi x1), .int (zi x2), .int (zi (V 435 (qw x2))), .int (zi (V 436 (qw x2))), .int (zi (V 437 (qw x2))), x6, x7, x8]) (by decide +kernel) rfl).trans ?_
      refine (zr_iconst (n := 0) (by decide +kernel)).trans ?_
      refine (zr_istore (n := 6) (l1 := [.ref 430, .int (zi x1), .int (zi x2), .int (zi (V 435 (qw x2))), .int (zi (V 436 (qw x2))), .int (zi (V 437 (qw x2))), .int (zi (0)), x7, x8]) (by decide +kernel) rfl).trans ?_
      refine (zr_iconst (n := 0) (by decide +kernel)).trans ?_
      refine (zr_istore (n := 7) (l1 := [.ref 430, .int (zi x1), .int (zi x2), .int (zi (V 435 (qw x2))), .int (zi (V 436 (qw x2))), .int (zi (V 437 (qw x2))), .int (zi (0)), .int (zi (0)), x8]) (by decide +kernel) rfl).trans ?_
      rfl
theorem ze_166_43 {V : zVt} {J : zJt} {d : Nat → Nat → UInt64} (x1 : Int) (x2 : Int) (x3 : Int) (x4 : Int) (x5 : Int) (x6 : Int) (x7 : Int) (x8 : Value) : zGo false 166 43 [.ref 430, .int (zi x1), .int (zi x2), .int (zi x3), .int (zi x4), .int (zi x5), .int (zi x6), .int (zi x7), x8] [] (zm V J d) =
    (if qw (V 430 42) ≤ qw x7 then zck (0 ≤ qw x2 ∧ qw x2 < (60 : Nat)) (zck (0 ≤ qw x2 ∧ qw x2 < (60 : Nat)) (zck (0 ≤ qw x2 ∧ qw x2 < (60 : Nat)) ((if qw x6 = 0 then zck (0 ≤ qw x2 ∧ qw x2 < (60 : Nat)) (zGo false 166 296 [.ref 430, .int (zi x1), .int (zi x2), .int (zi x3), .int (zi x4), .int (zi x5), .int (zi x6), .int (zi x7), x8] [.int (zi ((vup (vup (vup V 435 (qw x2) x3) 436 (qw x2) x4) 437 (qw x2) x5) 433 (qw x2))), .int (zi x2), .ref 433] (zm (vup (vup (vup V 435 (qw x2) x3) 436 (qw x2) x4) 437 (qw x2) x5) J d)) else zGo false 166 296 [.ref 430, .int (zi x1), .int (zi x2), .int (zi x3), .int (zi x4), .int (zi x5), .int (zi x6), .int (zi x7), x8] [.int (zi (4)), .int (zi x2), .ref 433] (zm (vup (vup (vup V 435 (qw x2) x3) 436 (qw x2) x4) 437 (qw x2) x5) J d))))) else zck (0 ≤ qw (((200) * x1) + x7) ∧ qw (((200) * x1) + x7) < (10400 : Nat)) ((if qw (V 456 (qw (((200) * x1) + x7))) = 0 then zGo false 166 247 [.ref 430, .int (zi x1), .int (zi x2), .int (zi x3), .int (zi x4), .int (zi x5), .int (zi x6), .int (zi x7), x8] [] (zm V J d) else zck (0 ≤ qw x7 ∧ qw x7 < (200 : Nat)) ((if qw (V 457 (qw x7)) ≠ qw x2 then zGo false 166 247 [.ref 430, .int (zi x1), .int (zi x2), .int (zi x3), .int (zi x4), .int (zi x5), .int (zi x6), .int (zi x7), x8] [] (zm V J d) else zck (0 ≤ qw x7 ∧ qw x7 < (200 : Nat)) ((if qw (V 459 (qw x7)) ≠ qw (100) then zGo false 166 96 [.ref 430, .int (zi x1), .int (zi x2), .int (zi x3), .int (zi x4), .int (zi x5), .int (zi x6), .int (zi x7), x8] [.int (zi (0))] (zm V J d) else zGo false 166 96 [.ref 430, .int (zi x1), .int (zi x2), .int (zi x3), .int (zi x4), .int (zi x5), .int (zi x6), .int (zi x7), x8] [.int (zi (1))] (zm V J d)))))))) := by
  refine (zr_iload (n := 7) (x := zi x7) (by decide +kernel) rfl).trans ?_
  refine (zr_aload_n (n := 0) (x := 430) (by decide +kernel) rfl).trans ?_
  refine (zr_getI (i := 205) (c := 12) (k := 42) (by decide +kernel) (by decide +kernel) rfl (by decide +kernel)).trans ?_
  refine (zr_cge (off := 204) (a := x7) (b := (V 430 42)) (t := 253) (by decide +kernel) rfl).trans (zif_ct (fun _ => ?_) (fun _ => ?_))
  · refine (zr_aload_n (n := 0) (x := 430) (by decide +kernel) rfl).trans ?_
    refine (zr_getR (i := 22) (c := 12) (k := 4) (r := 435) (by decide +kernel) (by decide +kernel) rfl (by decide +kernel) (zR0_f (o := 430) (c := 12) (n := 0) (k := 4) (j := 5) rfl (by decide) rfl)).trans ?_
    refine (zr_iload_n (n := 2) (x := zi x2) (by decide +kernel) rfl).trans ?_
    refine (zr_iload_n (n := 3) (x := zi x3) (by decide +kernel) rfl).trans ?_
    refine (zr_iast (n := 60) (e := x2) (x := x3) (by decide +kernel) rfl).trans (zck_ct fun _ => ?_)
    refine (zr_aload_n (n := 0) (x := 430) (by decide +kernel) rfl).trans ?_
    refine (zr_getR (i := 25) (c := 12) (k := 5) (r := 436) (by decide +kernel) (by decide +kernel) rfl (by decide +kernel) (zR0_f (o := 430) (c := 12) (n := 0) (k := 5) (j := 6) rfl (by decide) rfl)).trans ?_
    refine (zr_iload_n (n := 2) (x := zi x2) (by decide +kernel) rfl).trans ?_
    refine (zr_iload (n := 4) (x := zi x4) (by decide +kernel) rfl).trans ?_
    refine (zr_iast (n := 60) (e := x2) (x := x4) (by decide +kernel) rfl).trans (zck_ct fun _ => ?_)
    refine (zr_aload_n (n := 0) (x := 430) (by decide +kernel) rfl).trans ?_
    refine (zr_getR (i := 28) (c := 12) (k := 6) (r := 437) (by decide +kernel) (by decide +kernel) rfl (by decide +kernel) (zR0_f (o := 430) (c := 12) (n := 0) (k := 6) (j := 7) rfl (by decide) rfl)).trans ?_
    refine (zr_iload_n (n := 2) (x := zi x2) (by decide +kernel) rfl).trans ?_
    refine (zr_iload (n := 5) (x := zi x5) (by decide +kernel) rfl).trans ?_
    refine (zr_iast (n := 60) (e := x2) (x := x5) (by decide +kernel) rfl).trans (zck_ct fun _ => ?_)
    refine (zr_aload_n (n := 0) (x := 430) (by decide +kernel) rfl).trans ?_
    refine (zr_getR (i := 16) (c := 12) (k := 2) (r := 433) (by decide +kernel) (by decide +kernel) rfl (by decide +kernel) (zR0_f (o := 430) (c := 12) (n := 0) (k := 2) (j := 3) rfl (by decide) rfl)).trans ?_
    refine (zr_iload_n (n := 2) (x := zi x2) (by decide +kernel) rfl).trans ?_
    refine (zr_iload (n := 6) (x := zi x6) (by decide +kernel) rfl).trans ?_
    refine (zr_ifeq (off := 7) (a := x6) (t := 290) (by decide +kernel) rfl).trans (zif_ct (fun _ => ?_) (fun _ => ?_))
    · refine (zr_aload_n (n := 0) (x := 430) (by decide +kernel) rfl).trans ?_
      refine (zr_getR (i := 16) (c := 12) (k := 2) (r := 433) (by decide +kernel) (by decide +kernel) rfl (by decide +kernel) (zR0_f (o := 430) (c := 12) (n := 0) (k := 2) (j := 3) rfl (by decide) rfl)).trans ?_
      refine (zr_iload_n (n := 2) (x := zi x2) (by decide +kernel) rfl).trans ?_
      refine (zr_iald (n := 60) (e := x2) (by decide +kernel) rfl).trans (zck_ct fun _ => ?_)
      rfl
    · refine (zr_iconst (n := 4) (by decide +kernel)).trans ?_
      refine (zr_goto (off := 9) (t := 296) (by decide +kernel) rfl).trans ?_
      rfl
  · refine (zr_aload_n (n := 0) (x := 430) (by decide +kernel) rfl).trans ?_
    refine (zr_getR (i := 87) (c := 12) (k := 38) (r := 456) (by decide +kernel) (by decide +kernel) rfl (by decide +kernel) (zR0_f (o := 430) (c := 12) (n := 0) (k := 38) (j := 26) rfl (by decide) rfl)).trans ?_
    refine (zr_sipush (n := 200) (by decide +kernel) rfl).trans ?_
    refine (zr_iload_n (n := 1) (x := zi x1) (by decide +kernel) rfl).trans ?_
    refine (zr_imul (a := (200)) (b := x1) (by decide +kernel)).trans ?_
    refine (zr_iload (n := 7) (x := zi x7) (by decide +kernel) rfl).trans ?_
    refine (zr_iadd (a := ((200) * x1)) (b := x7) (by decide +kernel)).trans ?_
    refine (zr_zald (n := 10400) (e := (((200) * x1) + x7)) (by decide +kernel) rfl).trans (zck_ct fun _ => ?_)
    refine (zr_ifeq (off := 182) (a := (V 456 (qw (((200) * x1) + x7)))) (t := 247) (by decide +kernel) rfl).trans (zif_ct (fun _ => ?_) (fun _ => ?_))
    · rfl
    · refine (zr_aload_n (n := 0) (x := 430) (by decide +kernel) rfl).trans ?_
      refine (zr_getR (i := 90) (c := 12) (k := 39) (r := 457) (by decide +kernel) (by decide +kernel) rfl (by decide +kernel) (zR0_f (o := 430) (c := 12) (n := 0) (k := 39) (j := 27) rfl (by decide) rfl)).trans ?_
      refine (zr_iload (n := 7) (x := zi x7) (by decide +kernel) rfl).trans ?_
      refine (zr_iald (n := 200) (e := x7) (by decide +kernel) rfl).trans (zck_ct fun _ => ?_)
      refine (zr_iload_n (n := 2) (x := zi x2) (by decide +kernel) rfl).trans ?_
      refine (zr_cne (off := 171) (a := (V 457 (qw x7))) (b := x2) (t := 247) (by decide +kernel) rfl).trans (zif_ct (fun _ => ?_) (fun _ => ?_))
      · rfl
      · refine (zr_aload_n (n := 0) (x := 430) (by decide +kernel) rfl).trans ?_
        refine (zr_getR (i := 96) (c := 12) (k := 41) (r := 459) (by decide +kernel) (by decide +kernel) rfl (by decide +kernel) (zR0_f (o := 430) (c := 12) (n := 0) (k := 41) (j := 29) rfl (by decide) rfl)).trans ?_
        refine (zr_iload (n := 7) (x := zi x7) (by decide +kernel) rfl).trans ?_
        refine (zr_iald (n := 200) (e := x7) (by decide +kernel) rfl).trans (zck_ct fun _ => ?_)
        refine (zr_bipush (n := 100) (by decide +kernel) rfl).trans ?_
        refine (zr_cne (off := 7) (a := (V 459 (qw x7))) (b := (100)) (t := 95) (by decide +kernel) rfl).trans (zif_ct (fun _ => ?_) (fun _ => ?_))
        · refine (zr_iconst (n := 0) (by decide +kernel)).trans ?_
          rfl
        · refine (zr_iconst (n := 1) (by decide +kernel)).trans ?_
          refine (zr_goto (off := 4) (t := 96) (by decide +kernel) rfl).trans ?_
          rfl
theorem ze_166_96 {V : zVt} {J : zJt} {d : Nat → Nat → UInt64} (x1 : Int) (x2 : Int) (x3 : Int) (x4 : Int) (x5 : Int) (x6 : Int) (x7 : Int) (x8 : Value) (s0 : Int) : zGo false 166 96 [.ref 430, .int (zi x1), .int (zi x2), .int (zi x3), .int (zi x4), .int (zi x5), .int (zi x6), .int (zi x7), x8] [.int (zi s0)] (zm V J d) =
    zck (0 ≤ qw x7 ∧ qw x7 < (200 : Nat)) ((if qw (V 458 (qw x7)) ≤ qw (1) then (if qw s0 = 0 then zck (0 ≤ qw x7 ∧ qw x7 < (200 : Nat)) (zGo false 166 134 [.ref 430, .int (zi x1), .int (zi x2), .int (zi x3), .int (zi x4), .int (zi x5), .int (zi x6), .int (zi x7), .int (zi s0)] [.int (zi (V 459 (qw x7)))] (zm V J d)) else zck (0 ≤ qw x2 ∧ qw x2 < (60 : Nat)) (zGo false 166 134 [.ref 430, .int (zi x1), .int (zi x2), .int (zi x3), .int (zi x4), .int (zi x5), .int (zi x6), .int (zi x7), .int (zi s0)] [.int (zi (V 435 (qw x2)))] (zm V J d))) else zGo false 166 134 [.ref 430, .int (zi x1), .int (zi x2), .int (zi x3), .int (zi x4), .int (zi x5), .int (zi x6), .int (zi x7), .int (zi s0)] [.int (zi x3)] (zm V J d))) := by
  refine (zr_istore (n := 8) (l1 := [.ref 430, .int (zi x1), .int (zi x2), .int (zi x3), .int (zi x4), .int (zi x5), .int (zi x6), .int (zi x7), .int (zi s0)]) (by decide +kernel) rfl).trans ?_
  refine (zr_aload_n (n := 0) (x := 430) (by decide +kernel) rfl).trans ?_
  refine (zr_getR (i := 93) (c := 12) (k := 40) (r := 458) (by decide +kernel) (by decide +kernel) rfl (by decide +kernel) (zR0_f (o := 430) (c := 12) (n := 0) (k := 40) (j := 28) rfl (by decide) rfl)).trans ?_
  refine (zr_iload (n := 7) (x := zi x7) (by decide +kernel) rfl).trans ?_
  refine (zr_iald (n := 200) (e := x7) (by decide +kernel) rfl).trans (zck_ct fun _ => ?_)
  refine (zr_iconst (n := 1) (by decide +kernel)).trans ?_
  refine (zr_cle (off := 7) (a := (V 458 (qw x7))) (b := (1)) (t := 113) (by decide +kernel) rfl).trans (zif_ct (fun _ => ?_) (fun _ => ?_))
  · refine (zr_iload (n := 8) (x := zi s0) (by decide +kernel) rfl).trans ?_
    refine (zr_ifeq (off := 12) (a := s0) (t := 127) (by decide +kernel) rfl).trans (zif_ct (fun _ => ?_) (fun _ => ?_))
    · refine (zr_aload_n (n := 0) (x := 430) (by decide +kernel) rfl).trans ?_
      refine (zr_getR (i := 96) (c := 12) (k := 41) (r := 459) (by decide +kernel) (by decide +kernel) rfl (by decide +kernel) (zR0_f (o := 430) (c := 12) (n := 0) (k := 41) (j := 29) rfl (by decide) rfl)).trans ?_
      refine (zr_iload (n := 7) (x := zi x7) (by decide +kernel) rfl).trans ?_
      refine (zr_iald (n := 200) (e := x7) (by decide +kernel) rfl).trans (zck_ct fun _ => ?_)
      rfl
    · refine (zr_aload_n (n := 0) (x := 430) (by decide +kernel) rfl).trans ?_
      refine (zr_getR (i := 22) (c := 12) (k := 4) (r := 435) (by decide +kernel) (by decide +kernel) rfl (by decide +kernel) (zR0_f (o := 430) (c := 12) (n := 0) (k := 4) (j := 5) rfl (by decide) rfl)).trans ?_
      refine (zr_iload_n (n := 2) (x := zi x2) (by decide +kernel) rfl).trans ?_
      refine (zr_iald (n := 60) (e := x2) (by decide +kernel) rfl).trans (zck_ct fun _ => ?_)
      refine (zr_goto (off := 10) (t := 134) (by decide +kernel) rfl).trans ?_
      rfl
  · refine (zr_iload_n (n := 3) (x := zi x3) (by decide +kernel) rfl).trans ?_
    refine (zr_goto (off := 24) (t := 134) (by decide +kernel) rfl).trans ?_
    rfl
theorem ze_166_134 {V : zVt} {J : zJt} {d : Nat → Nat → UInt64} (x1 : Int) (x2 : Int) (x3 : Int) (x4 : Int) (x5 : Int) (x6 : Int) (x7 : Int) (x8 : Int) (s0 : Int) : zGo false 166 134 [.ref 430, .int (zi x1), .int (zi x2), .int (zi x3), .int (zi x4), .int (zi x5), .int (zi x6), .int (zi x7), .int (zi x8)] [.int (zi s0)] (zm V J d) =
    zck (0 ≤ qw x7 ∧ qw x7 < (200 : Nat)) ((if qw (V 458 (qw x7)) = qw (2) then (if qw x8 = 0 then zck (0 ≤ qw x7 ∧ qw x7 < (200 : Nat)) (zGo false 166 172 [.ref 430, .int (zi x1), .int (zi x2), .int (zi s0), .int (zi x4), .int (zi x5), .int (zi x6), .int (zi x7), .int (zi x8)] [.int (zi (V 459 (qw x7)))] (zm V J d)) else zck (0 ≤ qw x2 ∧ qw x2 < (60 : Nat)) (zGo false 166 172 [.ref 430, .int (zi x1), .int (zi x2), .int (zi s0), .int (zi x4), .int (zi x5), .int (zi x6), .int (zi x7), .int (zi x8)] [.int (zi (V 436 (qw x2)))] (zm V J d))) else zGo false 166 172 [.ref 430, .int (zi x1), .int (zi x2), .int (zi s0), .int (zi x4), .int (zi x5), .int (zi x6), .int (zi x7), .int (zi x8)] [.int (zi x4)] (zm V J d))) := by
  refine (zr_istore_n (n := 3) (l1 := [.ref 430, .int (zi x1), .int (zi x2), .int (zi s0), .int (zi x4), .int (zi x5), .int (zi x6), .int (zi x7), .int (zi x8)]) (by decide +kernel) rfl).trans ?_
  refine (zr_aload_n (n := 0) (x := 430) (by decide +kernel) rfl).trans ?_
  refine (zr_getR (i := 93) (c := 12) (k := 40) (r := 458) (by decide +kernel) (by decide +kernel) rfl (by decide +kernel) (zR0_f (o := 430) (c := 12) (n := 0) (k := 40) (j := 28) rfl (by decide) rfl)).trans ?_
  refine (zr_iload (n := 7) (x := zi x7) (by decide +kernel) rfl).trans ?_
  refine (zr_iald (n := 200) (e := x7) (by decide +kernel) rfl).trans (zck_ct fun _ => ?_)
  refine (zr_iconst (n := 2) (by decide +kernel)).trans ?_
  refine (zr_ceq (off := 8) (a := (V 458 (qw x7))) (b := (2)) (t := 151) (by decide +kernel) rfl).trans (zif_ct (fun _ => ?_) (fun _ => ?_))
  · refine (zr_iload (n := 8) (x := zi x8) (by decide +kernel) rfl).trans ?_
    refine (zr_ifeq (off := 12) (a := x8) (t := 165) (by decide +kernel) rfl).trans (zif_ct (fun _ => ?_) (fun _ => ?_))
    · refine (zr_aload_n (n := 0) (x := 430) (by decide +kernel) rfl).trans ?_
      refine (zr_getR (i := 96) (c := 12) (k := 41) (r := 459) (by decide +kernel) (by decide +kernel) rfl (by decide +kernel) (zR0_f (o := 430) (c := 12) (n := 0) (k := 41) (j := 29) rfl (by decide) rfl)).trans ?_
      refine (zr_iload (n := 7) (x := zi x7) (by decide +kernel) rfl).trans ?_
      refine (zr_iald (n := 200) (e := x7) (by decide +kernel) rfl).trans (zck_ct fun _ => ?_)
      rfl
    · refine (zr_aload_n (n := 0) (x := 430) (by decide +kernel) rfl).trans ?_
      refine (zr_getR (i := 25) (c := 12) (k := 5) (r := 436) (by decide +kernel) (by decide +kernel) rfl (by decide +kernel) (zR0_f (o := 430) (c := 12) (n := 0) (k := 5) (j := 6) rfl (by decide) rfl)).trans ?_
      refine (zr_iload_n (n := 2) (x := zi x2) (by decide +kernel) rfl).trans ?_
      refine (zr_iald (n := 60) (e := x2) (by decide +kernel) rfl).trans (zck_ct fun _ => ?_)
      refine (zr_goto (off := 10) (t := 172) (by decide +kernel) rfl).trans ?_
      rfl
  · refine (zr_iload (n := 4) (x := zi x4) (by decide +kernel) rfl).trans ?_
    refine (zr_goto (off := 24) (t := 172) (by decide +kernel) rfl).trans ?_
    rfl
theorem ze_166_172 {V : zVt} {J : zJt} {d : Nat → Nat → UInt64} (x1 : Int) (x2 : Int) (x3 : Int) (x4 : Int) (x5 : Int) (x6 : Int) (x7 : Int) (x8 : Int) (s0 : Int) : zGo false 166 172 [.ref 430, .int (zi x1), .int (zi x2), .int (zi x3), .int (zi x4), .int (zi x5), .int (zi x6), .int (zi x7), .int (zi x8)] [.int (zi s0)] (zm V J d) =
    zck (0 ≤ qw x7 ∧ qw x7 < (200 : Nat)) ((if qw (V 458 (qw x7)) = qw (3) then (if qw x8 = 0 then zck (0 ≤ qw x7 ∧ qw x7 < (200 : Nat)) (zGo false 166 211 [.ref 430, .int (zi x1), .int (zi x2), .int (zi x3), .int (zi s0), .int (zi x5), .int (zi x6), .int (zi x7), .int (zi x8)] [.int (zi (V 459 (qw x7)))] (zm V J d)) else zck (0 ≤ qw x2 ∧ qw x2 < (60 : Nat)) (zGo false 166 211 [.ref 430, .int (zi x1), .int (zi x2), .int (zi x3), .int (zi s0), .int (zi x5), .int (zi x6), .int (zi x7), .int (zi x8)] [.int (zi (V 437 (qw x2)))] (zm V J d))) else zGo false 166 211 [.ref 430, .int (zi x1), .int (zi x2), .int (zi x3), .int (zi s0), .int (zi x5), .int (zi x6), .int (zi x7), .int (zi x8)] [.int (zi x5)] (zm V J d))) := by
  refine (zr_istore (n := 4) (l1 := [.ref 430, .int (zi x1), .int (zi x2), .int (zi x3), .int (zi s0), .int (zi x5), .int (zi x6), .int (zi x7), .int (zi x8)]) (by decide +kernel) rfl).trans ?_
  refine (zr_aload_n (n := 0) (x := 430) (by decide +kernel) rfl).trans ?_
  refine (zr_getR (i := 93) (c := 12) (k := 40) (r := 458) (by decide +kernel) (by decide +kernel) rfl (by decide +kernel) (zR0_f (o := 430) (c := 12) (n := 0) (k := 40) (j := 28) rfl (by decide) rfl)).trans ?_
  refine (zr_iload (n := 7) (x := zi x7) (by decide +kernel) rfl).trans ?_
  refine (zr_iald (n := 200) (e := x7) (by decide +kernel) rfl).trans (zck_ct fun _ => ?_)
  refine (zr_iconst (n := 3) (by decide +kernel)).trans ?_
  refine (zr_ceq (off := 8) (a := (V 458 (qw x7))) (b := (3)) (t := 190) (by decide +kernel) rfl).trans (zif_ct (fun _ => ?_) (fun _ => ?_))
  · refine (zr_iload (n := 8) (x := zi x8) (by decide +kernel) rfl).trans ?_
    refine (zr_ifeq (off := 12) (a := x8) (t := 204) (by decide +kernel) rfl).trans (zif_ct (fun _ => ?_) (fun _ => ?_))
    · refine (zr_aload_n (n := 0) (x := 430) (by decide +kernel) rfl).trans ?_
      refine (zr_getR (i := 96) (c := 12) (k := 41) (r := 459) (by decide +kernel) (by decide +kernel) rfl (by decide +kernel) (zR0_f (o := 430) (c := 12) (n := 0) (k := 41) (j := 29) rfl (by decide) rfl)).trans ?_
      refine (zr_iload (n := 7) (x := zi x7) (by decide +kernel) rfl).trans ?_
      refine (zr_iald (n := 200) (e := x7) (by decide +kernel) rfl).trans (zck_ct fun _ => ?_)
      rfl
    · refine (zr_aload_n (n := 0) (x := 430) (by decide +kernel) rfl).trans ?_
      refine (zr_getR (i := 28) (c := 12) (k := 6) (r := 437) (by decide +kernel) (by decide +kernel) rfl (by decide +kernel) (zR0_f (o := 430) (c := 12) (n := 0) (k := 6) (j := 7) rfl (by decide) rfl)).trans ?_
      refine (zr_iload_n (n := 2) (x := zi x2) (by decide +kernel) rfl).trans ?_
      refine (zr_iald (n := 60) (e := x2) (by decide +kernel) rfl).trans (zck_ct fun _ => ?_)
      refine (zr_goto (off := 10) (t := 211) (by decide +kernel) rfl).trans ?_
      rfl
  · refine (zr_iload (n := 5) (x := zi x5) (by decide +kernel) rfl).trans ?_
    refine (zr_goto (off := 24) (t := 211) (by decide +kernel) rfl).trans ?_
    rfl
theorem ze_166_211 {V : zVt} {J : zJt} {d : Nat → Nat → UInt64} (x1 : Int) (x2 : Int) (x3 : Int) (x4 : Int) (x5 : Int) (x6 : Int) (x7 : Int) (x8 : Int) (s0 : Int) : zGo false 166 211 [.ref 430, .int (zi x1), .int (zi x2), .int (zi x3), .int (zi x4), .int (zi x5), .int (zi x6), .int (zi x7), .int (zi x8)] [.int (zi s0)] (zm V J d) =
    zck (0 ≤ qw x7 ∧ qw x7 < (200 : Nat)) ((if qw (V 458 (qw x7)) = qw (4) then zck (0 ≤ qw x7 ∧ qw x7 < (200 : Nat)) ((if qw (V 459 (qw x7)) ≠ qw (1) then zGo false 166 245 [.ref 430, .int (zi x1), .int (zi x2), .int (zi x3), .int (zi x4), .int (zi s0), .int (zi x6), .int (zi x7), .int (zi x8)] [.int (zi (0))] (zm V J d) else zGo false 166 245 [.ref 430, .int (zi x1), .int (zi x2), .int (zi x3), .int (zi x4), .int (zi s0), .int (zi x6), .int (zi x7), .int (zi x8)] [.int (zi (1))] (zm V J d))) else zGo false 166 245 [.ref 430, .int (zi x1), .int (zi x2), .int (zi x3), .int (zi x4), .int (zi s0), .int (zi x6), .int (zi x7), .int (zi x8)] [.int (zi x6)] (zm V J d))) := by
  refine (zr_istore (n := 5) (l1 := [.ref 430, .int (zi x1), .int (zi x2), .int (zi x3), .int (zi x4), .int (zi s0), .int (zi x6), .int (zi x7), .int (zi x8)]) (by decide +kernel) rfl).trans ?_
  refine (zr_aload_n (n := 0) (x := 430) (by decide +kernel) rfl).trans ?_
  refine (zr_getR (i := 93) (c := 12) (k := 40) (r := 458) (by decide +kernel) (by decide +kernel) rfl (by decide +kernel) (zR0_f (o := 430) (c := 12) (n := 0) (k := 40) (j := 28) rfl (by decide) rfl)).trans ?_
  refine (zr_iload (n := 7) (x := zi x7) (by decide +kernel) rfl).trans ?_
  refine (zr_iald (n := 200) (e := x7) (by decide +kernel) rfl).trans (zck_ct fun _ => ?_)
  refine (zr_iconst (n := 4) (by decide +kernel)).trans ?_
  refine (zr_ceq (off := 8) (a := (V 458 (qw x7))) (b := (4)) (t := 229) (by decide +kernel) rfl).trans (zif_ct (fun _ => ?_) (fun _ => ?_))
  · refine (zr_aload_n (n := 0) (x := 430) (by decide +kernel) rfl).trans ?_
    refine (zr_getR (i := 96) (c := 12) (k := 41) (r := 459) (by decide +kernel) (by decide +kernel) rfl (by decide +kernel) (zR0_f (o := 430) (c := 12) (n := 0) (k := 41) (j := 29) rfl (by decide) rfl)).trans ?_
    refine (zr_iload (n := 7) (x := zi x7) (by decide +kernel) rfl).trans ?_
    refine (zr_iald (n := 200) (e := x7) (by decide +kernel) rfl).trans (zck_ct fun _ => ?_)
    refine (zr_iconst (n := 1) (by decide +kernel)).trans ?_
    refine (zr_cne (off := 7) (a := (V 459 (qw x7))) (b := (1)) (t := 244) (by decide +kernel) rfl).trans (zif_ct (fun _ => ?_) (fun _ => ?_))
    · refine (zr_iconst (n := 0) (by decide +kernel)).trans ?_
      rfl
    · refine (zr_iconst (n := 1) (by decide +kernel)).trans ?_
      refine (zr_goto (off := 4) (t := 245) (by decide +kernel) rfl).trans ?_
      rfl
  · refine (zr_iload (n := 6) (x := zi x6) (by decide +kernel) rfl).trans ?_
    refine (zr_goto (off := 19) (t := 245) (by decide +kernel) rfl).trans ?_
    rfl
theorem ze_166_245 {V : zVt} {J : zJt} {d : Nat → Nat → UInt64} (x1 : Int) (x2 : Int) (x3 : Int) (x4 : Int) (x5 : Int) (x6 : Int) (x7 : Int) (x8 : Int) (s0 : Int) : zGo false 166 245 [.ref 430, .int (zi x1), .int (zi x2), .int (zi x3), .int (zi x4), .int (zi x5), .int (zi x6), .int (zi x7), .int (zi x8)] [.int (zi s0)] (zm V J d) =
    zGo false 166 247 [.ref 430, .int (zi x1), .int (zi x2), .int (zi x3), .int (zi x4), .int (zi x5), .int (zi s0), .int (zi x7), .int (zi x8)] [] (zm V J d) := by
  refine (zr_istore (n := 6) (l1 := [.ref 430, .int (zi x1), .int (zi x2), .int (zi x3), .int (zi x4), .int (zi x5), .int (zi s0), .int (zi x7), .int (zi x8)]) (by decide +kernel) rfl).trans ?_
  rfl
theorem ze_166_247 {V : zVt} {J : zJt} {d : Nat → Nat → UInt64} (x1 : Int) (x2 : Int) (x3 : Int) (x4 : Int) (x5 : Int) (x6 : Int) (x7 : Int) (x8 : Value) : zGo false 166 247 [.ref 430, .int (zi x1), .int (zi x2), .int (zi x3), .int (zi x4), .int (zi x5), .int (zi x6), .int (zi x7), x8] [] (zm V J d) =
    zGo false 166 43 [.ref 430, .int (zi x1), .int (zi x2), .int (zi x3), .int (zi x4), .int (zi x5), .int (zi x6), .int (zi (x7 + 1)), x8] [] (zm V J d) := by
  refine (zr_iinc (n := 7) (k := 1) (x := x7) (l1 := [.ref 430, .int (zi x1), .int (zi x2), .int (zi x3), .int (zi x4), .int (zi x5), .int (zi x6), .int (zi (x7 + 1)), x8]) (by decide +kernel) rfl rfl).trans ?_
  refine (zr_goto (off := -207) (t := 43) (by decide +kernel) rfl).trans ?_
  rfl
theorem ze_166_296 {V : zVt} {J : zJt} {d : Nat → Nat → UInt64} (x1 : Int) (x2 : Int) (x3 : Int) (x4 : Int) (x5 : Int) (x6 : Int) (x7 : Int) (x8 : Value) (s1 : Int) (s2 : Int) : zGo false 166 296 [.ref 430, .int (zi x1), .int (zi x2), .int (zi x3), .int (zi x4), .int (zi x5), .int (zi x6), .int (zi x7), x8] [.int (zi s2), .int (zi s1), .ref 433] (zm V J d) =
    zck (0 ≤ qw s1 ∧ qw s1 < (60 : Nat)) (zck (0 ≤ qw x2 ∧ qw x2 < (60 : Nat)) ((if qw ((vup V 433 (qw s1) s2) 438 (qw x2)) = 0 then zGo false 166 320 [.ref 430, .int (zi x1), .int (zi x2), .int (zi x3), .int (zi x4), .int (zi x5), .int (zi x6), .int (zi x7), x8] [.int (zi x2), .ref 438] (zm (vup V 433 (qw s1) s2) J d) else (if qw x6 ≠ 0 then zGo false 166 320 [.ref 430, .int (zi x1), .int (zi x2), .int (zi x3), .int (zi x4), .int (zi x5), .int (zi x6), .int (zi x7), x8] [.int (zi x2), .ref 438] (zm (vup V 433 (qw s1) s2) J d) else zGo false 166 321 [.ref 430, .int (zi x1), .int (zi x2), .int (zi x3), .int (zi x4), .int (zi x5), .int (zi x6), .int (zi x7), x8] [.int (zi (1)), .int (zi x2), .ref 438] (zm (vup V 433 (qw s1) s2) J d))))) := by
  refine (zr_iast (n := 60) (e := s1) (x := s2) (by decide +kernel) rfl).trans (zck_ct fun _ => ?_)
  refine (zr_aload_n (n := 0) (x := 430) (by decide +kernel) rfl).trans ?_
  refine (zr_getR (i := 31) (c := 12) (k := 7) (r := 438) (by decide +kernel) (by decide +kernel) rfl (by decide +kernel) (zR0_f (o := 430) (c := 12) (n := 0) (k := 7) (j := 8) rfl (by decide) rfl)).trans ?_
  refine (zr_iload_n (n := 2) (x := zi x2) (by decide +kernel) rfl).trans ?_
  refine (zr_aload_n (n := 0) (x := 430) (by decide +kernel) rfl).trans ?_
  refine (zr_getR (i := 31) (c := 12) (k := 7) (r := 438) (by decide +kernel) (by decide +kernel) rfl (by decide +kernel) (zR0_f (o := 430) (c := 12) (n := 0) (k := 7) (j := 8) rfl (by decide) rfl)).trans ?_
  refine (zr_iload_n (n := 2) (x := zi x2) (by decide +kernel) rfl).trans ?_
  refine (zr_zald (n := 60) (e := x2) (by decide +kernel) rfl).trans (zck_ct fun _ => ?_)
  refine (zr_ifeq (off := 12) (a := ((vup V 433 (qw s1) s2) 438 (qw x2))) (t := 320) (by decide +kernel) rfl).trans (zif_ct (fun _ => ?_) (fun _ => ?_))
  · rfl
  · refine (zr_iload (n := 6) (x := zi x6) (by decide +kernel) rfl).trans ?_
    refine (zr_ifne (off := 7) (a := x6) (t := 320) (by decide +kernel) rfl).trans (zif_ct (fun _ => ?_) (fun _ => ?_))
    · rfl
    · refine (zr_iconst (n := 1) (by decide +kernel)).trans ?_
      refine (zr_goto (off := 4) (t := 321) (by decide +kernel) rfl).trans ?_
      rfl
theorem ze_166_320 {V : zVt} {J : zJt} {d : Nat → Nat → UInt64} (x1 : Int) (x2 : Int) (x3 : Int) (x4 : Int) (x5 : Int) (x6 : Int) (x7 : Int) (x8 : Value) (s1 : Int) : zGo false 166 320 [.ref 430, .int (zi x1), .int (zi x2), .int (zi x3), .int (zi x4), .int (zi x5), .int (zi x6), .int (zi x7), x8] [.int (zi s1), .ref 438] (zm V J d) =
    zGo false 166 321 [.ref 430, .int (zi x1), .int (zi x2), .int (zi x3), .int (zi x4), .int (zi x5), .int (zi x6), .int (zi x7), x8] [.int (zi (0)), .int (zi s1), .ref 438] (zm V J d) := by
  refine (zr_iconst (n := 0) (by decide +kernel)).trans ?_
  rfl
theorem ze_166_321 {V : zVt} {J : zJt} {d : Nat → Nat → UInt64} (x1 : Int) (x2 : Int) (x3 : Int) (x4 : Int) (x5 : Int) (x6 : Int) (x7 : Int) (x8 : Value) (s1 : Int) (s2 : Int) : zGo false 166 321 [.ref 430, .int (zi x1), .int (zi x2), .int (zi x3), .int (zi x4), .int (zi x5), .int (zi x6), .int (zi x7), x8] [.int (zi s2), .int (zi s1), .ref 438] (zm V J d) =
    zck ((0 ≤ qw s1 ∧ qw s1 < (60 : Nat)) ∧ (qw s2 = 0 ∨ qw s2 = 1)) (zGo false 166 2 [.ref 430, .int (zi x1), .int (zi (x2 + 1)), .int (zi x3), .int (zi x4), .int (zi x5), .int (zi x6), .int (zi x7), x8] [] (zm (vup V 438 (qw s1) s2) J d)) := by
  refine (zr_zast (n := 60) (e := s1) (x := s2) (by decide +kernel) rfl).trans (zck_ct fun _ => ?_)
  refine (zr_iinc (n := 2) (k := 1) (x := x2) (l1 := [.ref 430, .int (zi x1), .int (zi (x2 + 1)), .int (zi x3), .int (zi x4), .int (zi x5), .int (zi x6), .int (zi x7), x8]) (by decide +kernel) rfl rfl).trans ?_
  refine (zr_goto (off := -323) (t := 2) (by decide +kernel) rfl).trans ?_
  rfl
theorem ze_166_328 {V : zVt} {J : zJt} {d : Nat → Nat → UInt64} (x1 : Int) (x2 : Int) (x3 : Value) (x4 : Value) (x5 : Value) (x6 : Value) (x7 : Value) (x8 : Value) : zGo false 166 328 [.ref 430, .int (zi x1), .int (zi x2), x3, x4, x5, x6, x7, x8] [] (zm V J d) =
    some (.inl none, zm V J d) := by
  exact zr_vret (by decide +kernel) rfl
/-! PartSongDeskModel sings (I)V -/
theorem ze_167_0 {V : zVt} {J : zJt} {d : Nat → Nat → UInt64} (x1 : Int) : zGo false 167 0 [.ref 430, .int (zi x1), .null] [] (zm V J d) =
    zGo false 167 2 [.ref 430, .int (zi x1), .int (zi (0))] [] (zm V J d) := by
  refine (zr_iconst (n := 0) (by decide +kernel)).trans ?_
  refine (zr_istore_n (n := 2) (l1 := [.ref 430, .int (zi x1), .int (zi (0))]) (by decide +kernel) rfl).trans ?_
  rfl
theorem ze_167_2 {V : zVt} {J : zJt} {d : Nat → Nat → UInt64} (x1 : Int) (x2 : Int) : zGo false 167 2 [.ref 430, .int (zi x1), .int (zi x2)] [] (zm V J d) =
    (if qw (V 430 10) ≤ qw x2 then zck (0 ≤ qw (2) ∧ qw (2) < (60 : Nat)) ((zGo false 168 0 [.ref 430, .null] [] (zm (vup (vup (vup (vup (vup V 430 23 (V 435 (qw (2)))) 430 24 (0)) 430 25 (0)) 430 19 (0)) 430 26 (-1)) J d)).bind (zGor false 167 81 [.ref 430, .int (zi x1), .int (zi x2)] [])) else zck (0 ≤ qw x2 ∧ qw x2 < (60 : Nat)) ((if qw (V 433 (qw x2)) = 0 then zGo false 167 28 [.ref 430, .int (zi x1), .int (zi x2)] [.int (zi x2), .ref 439] (zm V J d) else (if qw x2 ≠ 0 then zck (0 ≤ qw (x2 - (1)) ∧ qw (x2 - (1)) < (60 : Nat)) (zGo false 167 40 [.ref 430, .int (zi x1), .int (zi x2)] [.int (zi (V 439 (qw (x2 - (1))))), .int (zi x2), .ref 439] (zm V J d)) else zGo false 167 28 [.ref 430, .int (zi x1), .int (zi x2)] [.int (zi x2), .ref 439] (zm V J d))))) := by
  refine (zr_iload_n (n := 2) (x := zi x2) (by decide +kernel) rfl).trans ?_
  refine (zr_aload_n (n := 0) (x := 430) (by decide +kernel) rfl).trans ?_
  refine (zr_getI (i := 149) (c := 12) (k := 10) (by decide +kernel) (by decide +kernel) rfl (by decide +kernel)).trans ?_
  refine (zr_cge (off := 40) (a := x2) (b := (V 430 10)) (t := 47) (by decide +kernel) rfl).trans (zif_ct (fun _ => ?_) (fun _ => ?_))
  · refine (zr_aload_n (n := 0) (x := 430) (by decide +kernel) rfl).trans ?_
    refine (zr_aload_n (n := 0) (x := 430) (by decide +kernel) rfl).trans ?_
    refine (zr_getR (i := 22) (c := 12) (k := 4) (r := 435) (by decide +kernel) (by decide +kernel) rfl (by decide +kernel) (zR0_f (o := 430) (c := 12) (n := 0) (k := 4) (j := 5) rfl (by decide) rfl)).trans ?_
    refine (zr_iconst (n := 2) (by decide +kernel)).trans ?_
    refine (zr_iald (n := 60) (e := (2)) (by decide +kernel) rfl).trans (zck_ct fun _ => ?_)
    refine (zr_putI (i := 208) (c := 12) (k := 23) (x := (V 435 (qw (2)))) (by decide +kernel) (by decide +kernel) rfl (by decide +kernel)).trans ?_
    refine (zr_aload_n (n := 0) (x := 430) (by decide +kernel) rfl).trans ?_
    refine (zr_iconst (n := 0) (by decide +kernel)).trans ?_
    refine (zr_putI (i := 211) (c := 12) (k := 24) (x := (0)) (by decide +kernel) (by decide +kernel) rfl (by decide +kernel)).trans ?_
    refine (zr_aload_n (n := 0) (x := 430) (by decide +kernel) rfl).trans ?_
    refine (zr_iconst (n := 0) (by decide +kernel)).trans ?_
    refine (zr_putI (i := 214) (c := 12) (k := 25) (x := (0)) (by decide +kernel) (by decide +kernel) rfl (by decide +kernel)).trans ?_
    refine (zr_aload_n (n := 0) (x := 430) (by decide +kernel) rfl).trans ?_
    refine (zr_iconst (n := 0) (by decide +kernel)).trans ?_
    refine (zr_putI (i := 188) (c := 12) (k := 19) (x := (0)) (by decide +kernel) (by decide +kernel) rfl (by decide +kernel)).trans ?_
    refine (zr_aload_n (n := 0) (x := 430) (by decide +kernel) rfl).trans ?_
    refine (zr_iconst (n := -1) (by decide +kernel)).trans ?_
    refine (zr_putI (i := 226) (c := 12) (k := 26) (x := (-1)) (by decide +kernel) (by decide +kernel) rfl (by decide +kernel)).trans ?_
    refine (zr_aload_n (n := 0) (x := 430) (by decide +kernel) rfl).trans ?_
    exact zr_cV (i := 248) (z := 168) (w := 0) (o := 430) (t := []) (rest := []) (L := [.ref 430, .null]) (pc1 := 81) (by decide +kernel) (by decide +kernel) rfl (n := 0) (r := 0) rfl rfl rfl (by decide +kernel) rfl rfl
  · refine (zr_aload_n (n := 0) (x := 430) (by decide +kernel) rfl).trans ?_
    refine (zr_getR (i := 35) (c := 12) (k := 8) (r := 439) (by decide +kernel) (by decide +kernel) rfl (by decide +kernel) (zR0_f (o := 430) (c := 12) (n := 0) (k := 8) (j := 9) rfl (by decide) rfl)).trans ?_
    refine (zr_iload_n (n := 2) (x := zi x2) (by decide +kernel) rfl).trans ?_
    refine (zr_aload_n (n := 0) (x := 430) (by decide +kernel) rfl).trans ?_
    refine (zr_getR (i := 16) (c := 12) (k := 2) (r := 433) (by decide +kernel) (by decide +kernel) rfl (by decide +kernel) (zR0_f (o := 430) (c := 12) (n := 0) (k := 2) (j := 3) rfl (by decide) rfl)).trans ?_
    refine (zr_iload_n (n := 2) (x := zi x2) (by decide +kernel) rfl).trans ?_
    refine (zr_iald (n := 60) (e := x2) (by decide +kernel) rfl).trans (zck_ct fun _ => ?_)
    refine (zr_ifeq (off := 7) (a := (V 433 (qw x2))) (t := 28) (by decide +kernel) rfl).trans (zif_ct (fun _ => ?_) (fun _ => ?_))
    · rfl
    · refine (zr_iload_n (n := 2) (x := zi x2) (by decide +kernel) rfl).trans ?_
      refine (zr_ifne (off := 7) (a := x2) (t := 32) (by decide +kernel) rfl).trans (zif_ct (fun _ => ?_) (fun _ => ?_))
      · refine (zr_aload_n (n := 0) (x := 430) (by decide +kernel) rfl).trans ?_
        refine (zr_getR (i := 35) (c := 12) (k := 8) (r := 439) (by decide +kernel) (by decide +kernel) rfl (by decide +kernel) (zR0_f (o := 430) (c := 12) (n := 0) (k := 8) (j := 9) rfl (by decide) rfl)).trans ?_
        refine (zr_iload_n (n := 2) (x := zi x2) (by decide +kernel) rfl).trans ?_
        refine (zr_iconst (n := 1) (by decide +kernel)).trans ?_
        refine (zr_isub (a := x2) (b := (1)) (by decide +kernel)).trans ?_
        refine (zr_iald (n := 60) (e := (x2 - (1))) (by decide +kernel) rfl).trans (zck_ct fun _ => ?_)
        rfl
      · rfl
theorem ze_167_28 {V : zVt} {J : zJt} {d : Nat → Nat → UInt64} (x1 : Int) (x2 : Int) (s1 : Int) : zGo false 167 28 [.ref 430, .int (zi x1), .int (zi x2)] [.int (zi s1), .ref 439] (zm V J d) =
    zGo false 167 40 [.ref 430, .int (zi x1), .int (zi x2)] [.int (zi x2), .int (zi s1), .ref 439] (zm V J d) := by
  refine (zr_iload_n (n := 2) (x := zi x2) (by decide +kernel) rfl).trans ?_
  refine (zr_goto (off := 11) (t := 40) (by decide +kernel) rfl).trans ?_
  rfl
theorem ze_167_40 {V : zVt} {J : zJt} {d : Nat → Nat → UInt64} (x1 : Int) (x2 : Int) (s1 : Int) (s2 : Int) : zGo false 167 40 [.ref 430, .int (zi x1), .int (zi x2)] [.int (zi s2), .int (zi s1), .ref 439] (zm V J d) =
    zck (0 ≤ qw s1 ∧ qw s1 < (60 : Nat)) (zGo false 167 2 [.ref 430, .int (zi x1), .int (zi (x2 + 1))] [] (zm (vup V 439 (qw s1) s2) J d)) := by
  refine (zr_iast (n := 60) (e := s1) (x := s2) (by decide +kernel) rfl).trans (zck_ct fun _ => ?_)
  refine (zr_iinc (n := 2) (k := 1) (x := x2) (l1 := [.ref 430, .int (zi x1), .int (zi (x2 + 1))]) (by decide +kernel) rfl rfl).trans ?_
  refine (zr_goto (off := -42) (t := 2) (by decide +kernel) rfl).trans ?_
  rfl
theorem ze_167_81 {V : zVt} {J : zJt} {d : Nat → Nat → UInt64} (x1 : Int) (x2 : Int) : zGo false 167 81 [.ref 430, .int (zi x1), .int (zi x2)] [] (zm V J d) =
    zGo false 167 83 [.ref 430, .int (zi x1), .int (zi (3))] [] (zm V J d) := by
  refine (zr_iconst (n := 3) (by decide +kernel)).trans ?_
  refine (zr_istore_n (n := 2) (l1 := [.ref 430, .int (zi x1), .int (zi (3))]) (by decide +kernel) rfl).trans ?_
  rfl
theorem ze_167_83 {V : zVt} {J : zJt} {d : Nat → Nat → UInt64} (x1 : Int) (x2 : Int) : zGo false 167 83 [.ref 430, .int (zi x1), .int (zi x2)] [] (zm V J d) =
    (if qw (V 430 10) ≤ qw x2 then zGo false 167 193 [.ref 430, .int (zi x1), .int (zi x2)] [] (zm V J d) else (if qw (V 430 13) ≠ 0 then zGo false 167 193 [.ref 430, .int (zi x1), .int (zi x2)] [] (zm V J d) else zck (0 ≤ qw x2 ∧ qw x2 < (60 : Nat)) ((if qw (V 433 (qw x2)) ≠ qw (3) then zck (0 ≤ qw x2 ∧ qw x2 < (60 : Nat)) ((if qw (V 433 (qw x2)) ≠ qw (4) then zGo false 167 147 [.ref 430, .int (zi x1), .int (zi x2)] [] (zm V J d) else (if qw (V 430 26) = qw (-1) then zGo false 167 147 [.ref 430, .int (zi x1), .int (zi x2)] [] (zm V J d) else (zGo false 173 0 [.ref 430, .int (zi (9)), .int (zi (V 430 26))] [] (zm V J d)).bind (zGor false 167 144 [.ref 430, .int (zi x1), .int (zi x2)] [])))) else (zGo false 169 0 [.ref 430, .int (zi x2), .null, .null, .null, .null, .null, .null] [] (zm V J d)).bind (zGor false 167 113 [.ref 430, .int (zi x1), .int (zi x2)] []))))) := by
  refine (zr_iload_n (n := 2) (x := zi x2) (by decide +kernel) rfl).trans ?_
  refine (zr_aload_n (n := 0) (x := 430) (by decide +kernel) rfl).trans ?_
  refine (zr_getI (i := 149) (c := 12) (k := 10) (by decide +kernel) (by decide +kernel) rfl (by decide +kernel)).trans ?_
  refine (zr_cge (off := 105) (a := x2) (b := (V 430 10)) (t := 193) (by decide +kernel) rfl).trans (zif_ct (fun _ => ?_) (fun _ => ?_))
  · rfl
  · refine (zr_aload_n (n := 0) (x := 430) (by decide +kernel) rfl).trans ?_
    refine (zr_getI (i := 191) (c := 12) (k := 13) (by decide +kernel) (by decide +kernel) rfl (by decide +kernel)).trans ?_
    refine (zr_ifne (off := 98) (a := (V 430 13)) (t := 193) (by decide +kernel) rfl).trans (zif_ct (fun _ => ?_) (fun _ => ?_))
    · rfl
    · refine (zr_aload_n (n := 0) (x := 430) (by decide +kernel) rfl).trans ?_
      refine (zr_getR (i := 16) (c := 12) (k := 2) (r := 433) (by decide +kernel) (by decide +kernel) rfl (by decide +kernel) (zR0_f (o := 430) (c := 12) (n := 0) (k := 2) (j := 3) rfl (by decide) rfl)).trans ?_
      refine (zr_iload_n (n := 2) (x := zi x2) (by decide +kernel) rfl).trans ?_
      refine (zr_iald (n := 60) (e := x2) (by decide +kernel) rfl).trans (zck_ct fun _ => ?_)
      refine (zr_iconst (n := 3) (by decide +kernel)).trans ?_
      refine (zr_cne (off := 11) (a := (V 433 (qw x2))) (b := (3)) (t := 116) (by decide +kernel) rfl).trans (zif_ct (fun _ => ?_) (fun _ => ?_))
      · refine (zr_aload_n (n := 0) (x := 430) (by decide +kernel) rfl).trans ?_
        refine (zr_getR (i := 16) (c := 12) (k := 2) (r := 433) (by decide +kernel) (by decide +kernel) rfl (by decide +kernel) (zR0_f (o := 430) (c := 12) (n := 0) (k := 2) (j := 3) rfl (by decide) rfl)).trans ?_
        refine (zr_iload_n (n := 2) (x := zi x2) (by decide +kernel) rfl).trans ?_
        refine (zr_iald (n := 60) (e := x2) (by decide +kernel) rfl).trans (zck_ct fun _ => ?_)
        refine (zr_iconst (n := 4) (by decide +kernel)).trans ?_
        refine (zr_cne (off := 24) (a := (V 433 (qw x2))) (b := (4)) (t := 147) (by decide +kernel) rfl).trans (zif_ct (fun _ => ?_) (fun _ => ?_))
        · rfl
        · refine (zr_aload_n (n := 0) (x := 430) (by decide +kernel) rfl).trans ?_
          refine (zr_getI (i := 226) (c := 12) (k := 26) (by decide +kernel) (by decide +kernel) rfl (by decide +kernel)).trans ?_
          refine (zr_iconst (n := -1) (by decide +kernel)).trans ?_
          refine (zr_ceq (off := 16) (a := (V 430 26)) (b := (-1)) (t := 147) (by decide +kernel) rfl).trans (zif_ct (fun _ => ?_) (fun _ => ?_))
          · rfl
          · refine (zr_aload_n (n := 0) (x := 430) (by decide +kernel) rfl).trans ?_
            refine (zr_bipush (n := 9) (by decide +kernel) rfl).trans ?_
            refine (zr_aload_n (n := 0) (x := 430) (by decide +kernel) rfl).trans ?_
            refine (zr_getI (i := 226) (c := 12) (k := 26) (by decide +kernel) (by decide +kernel) rfl (by decide +kernel)).trans ?_
            exact zr_cV (i := 217) (z := 173) (w := 0) (o := 430) (t := [.int (zi (V 430 26)), .int (zi (9))]) (rest := []) (L := [.ref 430, .int (zi (9)), .int (zi (V 430 26))]) (pc1 := 144) (by decide +kernel) (by decide +kernel) rfl (n := 2) (r := 0) rfl rfl rfl (by decide +kernel) rfl rfl
      · refine (zr_aload_n (n := 0) (x := 430) (by decide +kernel) rfl).trans ?_
        refine (zr_iload_n (n := 2) (x := zi x2) (by decide +kernel) rfl).trans ?_
        exact zr_cV (i := 251) (z := 169) (w := 0) (o := 430) (t := [.int (zi x2)]) (rest := []) (L := [.ref 430, .int (zi x2), .null, .null, .null, .null, .null, .null]) (pc1 := 113) (by decide +kernel) (by decide +kernel) rfl (n := 1) (r := 0) rfl rfl rfl (by decide +kernel) rfl rfl
theorem ze_167_113 {V : zVt} {J : zJt} {d : Nat → Nat → UInt64} (x1 : Int) (x2 : Int) : zGo false 167 113 [.ref 430, .int (zi x1), .int (zi x2)] [] (zm V J d) =
    zGo false 167 184 [.ref 430, .int (zi x1), .int (zi x2)] [] (zm V J d) := by
  refine (zr_goto (off := 71) (t := 184) (by decide +kernel) rfl).trans ?_
  rfl
theorem ze_167_144 {V : zVt} {J : zJt} {d : Nat → Nat → UInt64} (x1 : Int) (x2 : Int) : zGo false 167 144 [.ref 430, .int (zi x1), .int (zi x2)] [] (zm V J d) =
    zGo false 167 184 [.ref 430, .int (zi x1), .int (zi x2)] [] (zm V J d) := by
  refine (zr_goto (off := 40) (t := 184) (by decide +kernel) rfl).trans ?_
  rfl
theorem ze_167_147 {V : zVt} {J : zJt} {d : Nat → Nat → UInt64} (x1 : Int) (x2 : Int) : zGo false 167 147 [.ref 430, .int (zi x1), .int (zi x2)] [] (zm V J d) =
    zck (0 ≤ qw x2 ∧ qw x2 < (60 : Nat)) ((if qw (V 433 (qw x2)) ≠ qw (4) then zck (0 ≤ qw x2 ∧ qw x2 < (60 : Nat)) ((if qw (V 433 (qw x2)) ≠ qw (5) then zGo false 167 184 [.ref 430, .int (zi x1), .int (zi x2)] [] (zm V J d) else (zGo false 175 0 [.ref 430, .int (zi x1), .int (zi x2)] [] (zm V J d)).bind (zGor false 167 184 [.ref 430, .int (zi x1), .int (zi x2)] []))) else (zGo false 174 0 [.ref 430, .int (zi x2), .int (zi (-2)), .int (zi (0)), .null] [] (zm V J d)).bind (zGor false 167 165 [.ref 430, .int (zi x1), .int (zi x2)] []))) := by
  refine (zr_aload_n (n := 0) (x := 430) (by decide +kernel) rfl).trans ?_
  refine (zr_getR (i := 16) (c := 12) (k := 2) (r := 433) (by decide +kernel) (by decide +kernel) rfl (by decide +kernel) (zR0_f (o := 430) (c := 12) (n := 0) (k := 2) (j := 3) rfl (by decide) rfl)).trans ?_
  refine (zr_iload_n (n := 2) (x := zi x2) (by decide +kernel) rfl).trans ?_
  refine (zr_iald (n := 60) (e := x2) (by decide +kernel) rfl).trans (zck_ct fun _ => ?_)
  refine (zr_iconst (n := 4) (by decide +kernel)).trans ?_
  refine (zr_cne (off := 14) (a := (V 433 (qw x2))) (b := (4)) (t := 168) (by decide +kernel) rfl).trans (zif_ct (fun _ => ?_) (fun _ => ?_))
  · refine (zr_aload_n (n := 0) (x := 430) (by decide +kernel) rfl).trans ?_
    refine (zr_getR (i := 16) (c := 12) (k := 2) (r := 433) (by decide +kernel) (by decide +kernel) rfl (by decide +kernel) (zR0_f (o := 430) (c := 12) (n := 0) (k := 2) (j := 3) rfl (by decide) rfl)).trans ?_
    refine (zr_iload_n (n := 2) (x := zi x2) (by decide +kernel) rfl).trans ?_
    refine (zr_iald (n := 60) (e := x2) (by decide +kernel) rfl).trans (zck_ct fun _ => ?_)
    refine (zr_iconst (n := 5) (by decide +kernel)).trans ?_
    refine (zr_cne (off := 9) (a := (V 433 (qw x2))) (b := (5)) (t := 184) (by decide +kernel) rfl).trans (zif_ct (fun _ => ?_) (fun _ => ?_))
    · rfl
    · refine (zr_aload_n (n := 0) (x := 430) (by decide +kernel) rfl).trans ?_
      refine (zr_iload_n (n := 1) (x := zi x1) (by decide +kernel) rfl).trans ?_
      refine (zr_iload_n (n := 2) (x := zi x2) (by decide +kernel) rfl).trans ?_
      exact zr_cV (i := 254) (z := 175) (w := 0) (o := 430) (t := [.int (zi x2), .int (zi x1)]) (rest := []) (L := [.ref 430, .int (zi x1), .int (zi x2)]) (pc1 := 184) (by decide +kernel) (by decide +kernel) rfl (n := 2) (r := 0) rfl rfl rfl (by decide +kernel) rfl rfl
  · refine (zr_aload_n (n := 0) (x := 430) (by decide +kernel) rfl).trans ?_
    refine (zr_iload_n (n := 2) (x := zi x2) (by decide +kernel) rfl).trans ?_
    refine (zr_bipush (n := -2) (by decide +kernel) rfl).trans ?_
    refine (zr_iconst (n := 0) (by decide +kernel)).trans ?_
    exact zr_cV (i := 241) (z := 174) (w := 0) (o := 430) (t := [.int (zi (0)), .int (zi (-2)), .int (zi x2)]) (rest := []) (L := [.ref 430, .int (zi x2), .int (zi (-2)), .int (zi (0)), .null]) (pc1 := 165) (by decide +kernel) (by decide +kernel) rfl (n := 3) (r := 0) rfl rfl rfl (by decide +kernel) rfl rfl
theorem ze_167_165 {V : zVt} {J : zJt} {d : Nat → Nat → UInt64} (x1 : Int) (x2 : Int) : zGo false 167 165 [.ref 430, .int (zi x1), .int (zi x2)] [] (zm V J d) =
    zGo false 167 184 [.ref 430, .int (zi x1), .int (zi x2)] [] (zm V J d) := by
  refine (zr_goto (off := 19) (t := 184) (by decide +kernel) rfl).trans ?_
  rfl
theorem ze_167_184 {V : zVt} {J : zJt} {d : Nat → Nat → UInt64} (x1 : Int) (x2 : Int) : zGo false 167 184 [.ref 430, .int (zi x1), .int (zi x2)] [] (zm V J d) =
    (zGo false 177 0 [.ref 430, .int (zi x2), .null] [] (zm V J d)).bind (zGor false 167 189 [.ref 430, .int (zi x1), .int (zi x2)] []) := by
  refine (zr_aload_n (n := 0) (x := 430) (by decide +kernel) rfl).trans ?_
  refine (zr_iload_n (n := 2) (x := zi x2) (by decide +kernel) rfl).trans ?_
  exact zr_cV (i := 257) (z := 177) (w := 0) (o := 430) (t := [.int (zi x2)]) (rest := []) (L := [.ref 430, .int (zi x2), .null]) (pc1 := 189) (by decide +kernel) (by decide +kernel) rfl (n := 1) (r := 0) rfl rfl rfl (by decide +kernel) rfl rfl
theorem ze_167_189 {V : zVt} {J : zJt} {d : Nat → Nat → UInt64} (x1 : Int) (x2 : Int) (s0 : Int) : zGo false 167 189 [.ref 430, .int (zi x1), .int (zi x2)] [.int (zi s0)] (zm V J d) =
    zGo false 167 83 [.ref 430, .int (zi x1), .int (zi s0)] [] (zm V J d) := by
  refine (zr_istore_n (n := 2) (l1 := [.ref 430, .int (zi x1), .int (zi s0)]) (by decide +kernel) rfl).trans ?_
  refine (zr_goto (off := -107) (t := 83) (by decide +kernel) rfl).trans ?_
  rfl
theorem ze_167_193 {V : zVt} {J : zJt} {d : Nat → Nat → UInt64} (x1 : Int) (x2 : Int) : zGo false 167 193 [.ref 430, .int (zi x1), .int (zi x2)] [] (zm V J d) =
    (if qw (V 430 13) ≠ 0 then zGo false 167 205 [.ref 430, .int (zi x1), .int (zi x2)] [] (zm V J d) else (zGo false 178 0 [.ref 430, .int (zi x1)] [] (zm V J d)).bind (zGor false 167 205 [.ref 430, .int (zi x1), .int (zi x2)] [])) := by
  refine (zr_aload_n (n := 0) (x := 430) (by decide +kernel) rfl).trans ?_
  refine (zr_getI (i := 191) (c := 12) (k := 13) (by decide +kernel) (by decide +kernel) rfl (by decide +kernel)).trans ?_
  refine (zr_ifne (off := 8) (a := (V 430 13)) (t := 205) (by decide +kernel) rfl).trans (zif_ct (fun _ => ?_) (fun _ => ?_))
  · rfl
  · refine (zr_aload_n (n := 0) (x := 430) (by decide +kernel) rfl).trans ?_
    refine (zr_iload_n (n := 1) (x := zi x1) (by decide +kernel) rfl).trans ?_
    exact zr_cV (i := 260) (z := 178) (w := 0) (o := 430) (t := [.int (zi x1)]) (rest := []) (L := [.ref 430, .int (zi x1)]) (pc1 := 205) (by decide +kernel) (by decide +kernel) rfl (n := 1) (r := 0) rfl rfl rfl (by decide +kernel) rfl rfl
theorem ze_167_205 {V : zVt} {J : zJt} {d : Nat → Nat → UInt64} (x1 : Int) (x2 : Int) : zGo false 167 205 [.ref 430, .int (zi x1), .int (zi x2)] [] (zm V J d) =
    some (.inl none, zm V J d) := by
  exact zr_vret (by decide +kernel) rfl
/-! PartSongDeskModel forgets ()V -/
theorem ze_168_0 {V : zVt} {J : zJt} {d : Nat → Nat → UInt64} : zGo false 168 0 [.ref 430, .null] [] (zm V J d) =
    zGo false 168 2 [.ref 430, .int (zi (0))] [] (zm V J d) := by
  refine (zr_iconst (n := 0) (by decide +kernel)).trans ?_
  refine (zr_istore_n (n := 1) (l1 := [.ref 430, .int (zi (0))]) (by decide +kernel) rfl).trans ?_
  rfl
theorem ze_168_2 {V : zVt} {J : zJt} {d : Nat → Nat → UInt64} (x1 : Int) : zGo false 168 2 [.ref 430, .int (zi x1)] [] (zm V J d) =
    (if qw (64) ≤ qw x1 then some (.inl none, zm V J d) else zck (0 ≤ qw x1 ∧ qw x1 < (64 : Nat)) (zGo false 168 2 [.ref 430, .int (zi (x1 + 1))] [] (zm (vup V 447 (qw x1) (9)) J d))) := by
  refine (zr_iload_n (n := 1) (x := zi x1) (by decide +kernel) rfl).trans ?_
  refine (zr_bipush (n := 64) (by decide +kernel) rfl).trans ?_
  refine (zr_cge (off := 17) (a := x1) (b := (64)) (t := 22) (by decide +kernel) rfl).trans (zif_ct (fun _ => ?_) (fun _ => ?_))
  · exact zr_vret (by decide +kernel) rfl
  · refine (zr_aload_n (n := 0) (x := 430) (by decide +kernel) rfl).trans ?_
    refine (zr_getR (i := 59) (c := 12) (k := 22) (r := 447) (by decide +kernel) (by decide +kernel) rfl (by decide +kernel) (zR0_f (o := 430) (c := 12) (n := 0) (k := 22) (j := 17) rfl (by decide) rfl)).trans ?_
    refine (zr_iload_n (n := 1) (x := zi x1) (by decide +kernel) rfl).trans ?_
    refine (zr_bipush (n := 9) (by decide +kernel) rfl).trans ?_
    refine (zr_iast (n := 64) (e := x1) (x := (9)) (by decide +kernel) rfl).trans (zck_ct fun _ => ?_)
    refine (zr_iinc (n := 1) (k := 1) (x := x1) (l1 := [.ref 430, .int (zi (x1 + 1))]) (by decide +kernel) rfl rfl).trans ?_
    refine (zr_goto (off := -17) (t := 2) (by decide +kernel) rfl).trans ?_
    rfl
/-! PartSongDeskModel singsNote (I)V -/
theorem ze_169_0 {V : zVt} {J : zJt} {d : Nat → Nat → UInt64} (x1 : Int) : zGo false 169 0 [.ref 430, .int (zi x1), .null, .null, .null, .null, .null, .null] [] (zm V J d) =
    zck (0 ≤ qw x1 ∧ qw x1 < (60 : Nat)) (zck (0 ≤ qw (V 439 (qw x1)) ∧ qw (V 439 (qw x1)) < (60 : Nat)) (zck (0 ≤ qw x1 ∧ qw x1 < (60 : Nat)) ((if qw (V 435 (qw (V 439 (qw x1)))) ≠ 0 then (if qw (V 435 (qw (V 439 (qw x1)))) ≠ qw (1) then zGo false 169 39 [.ref 430, .int (zi x1), .int (zi (V 435 (qw (V 439 (qw x1))))), .null, .null, .null, .null, .null] [.int (zi (24)), .int (zi (V 435 (qw x1)))] (zm V J d) else zGo false 169 39 [.ref 430, .int (zi x1), .int (zi (V 435 (qw (V 439 (qw x1))))), .null, .null, .null, .null, .null] [.int (zi (18)), .int (zi (V 435 (qw x1)))] (zm V J d)) else zGo false 169 39 [.ref 430, .int (zi x1), .int (zi (V 435 (qw (V 439 (qw x1))))), .null, .null, .null, .null, .null] [.int (zi (30)), .int (zi (V 435 (qw x1)))] (zm V J d))))) := by
  refine (zr_aload_n (n := 0) (x := 430) (by decide +kernel) rfl).trans ?_
  refine (zr_getR (i := 22) (c := 12) (k := 4) (r := 435) (by decide +kernel) (by decide +kernel) rfl (by decide +kernel) (zR0_f (o := 430) (c := 12) (n := 0) (k := 4) (j := 5) rfl (by decide) rfl)).trans ?_
  refine (zr_aload_n (n := 0) (x := 430) (by decide +kernel) rfl).trans ?_
  refine (zr_getR (i := 35) (c := 12) (k := 8) (r := 439) (by decide +kernel) (by decide +kernel) rfl (by decide +kernel) (zR0_f (o := 430) (c := 12) (n := 0) (k := 8) (j := 9) rfl (by decide) rfl)).trans ?_
  refine (zr_iload_n (n := 1) (x := zi x1) (by decide +kernel) rfl).trans ?_
  refine (zr_iald (n := 60) (e := x1) (by decide +kernel) rfl).trans (zck_ct fun _ => ?_)
  refine (zr_iald (n := 60) (e := (V 439 (qw x1))) (by decide +kernel) rfl).trans (zck_ct fun _ => ?_)
  refine (zr_istore_n (n := 2) (l1 := [.ref 430, .int (zi x1), .int (zi (V 435 (qw (V 439 (qw x1))))), .null, .null, .null, .null, .null]) (by decide +kernel) rfl).trans ?_
  refine (zr_aload_n (n := 0) (x := 430) (by decide +kernel) rfl).trans ?_
  refine (zr_getR (i := 22) (c := 12) (k := 4) (r := 435) (by decide +kernel) (by decide +kernel) rfl (by decide +kernel) (zR0_f (o := 430) (c := 12) (n := 0) (k := 4) (j := 5) rfl (by decide) rfl)).trans ?_
  refine (zr_iload_n (n := 1) (x := zi x1) (by decide +kernel) rfl).trans ?_
  refine (zr_iald (n := 60) (e := x1) (by decide +kernel) rfl).trans (zck_ct fun _ => ?_)
  refine (zr_iload_n (n := 2) (x := zi (V 435 (qw (V 439 (qw x1))))) (by decide +kernel) rfl).trans ?_
  refine (zr_ifne (off := 8) (a := (V 435 (qw (V 439 (qw x1))))) (t := 27) (by decide +kernel) rfl).trans (zif_ct (fun _ => ?_) (fun _ => ?_))
  · refine (zr_iload_n (n := 2) (x := zi (V 435 (qw (V 439 (qw x1))))) (by decide +kernel) rfl).trans ?_
    refine (zr_iconst (n := 1) (by decide +kernel)).trans ?_
    refine (zr_cne (off := 8) (a := (V 435 (qw (V 439 (qw x1))))) (b := (1)) (t := 37) (by decide +kernel) rfl).trans (zif_ct (fun _ => ?_) (fun _ => ?_))
    · refine (zr_bipush (n := 24) (by decide +kernel) rfl).trans ?_
      rfl
    · refine (zr_bipush (n := 18) (by decide +kernel) rfl).trans ?_
      refine (zr_goto (off := 5) (t := 39) (by decide +kernel) rfl).trans ?_
      rfl
  · refine (zr_bipush (n := 30) (by decide +kernel) rfl).trans ?_
    refine (zr_goto (off := 15) (t := 39) (by decide +kernel) rfl).trans ?_
    rfl
theorem ze_169_39 {V : zVt} {J : zJt} {d : Nat → Nat → UInt64} (x1 : Int) (x2 : Int) (s0 : Int) (s1 : Int) : zGo false 169 39 [.ref 430, .int (zi x1), .int (zi x2), .null, .null, .null, .null, .null] [.int (zi s1), .int (zi s0)] (zm V J d) =
    zck (0 ≤ qw x1 ∧ qw x1 < (60 : Nat)) ((zGo false 170 0 [.int (zi (V 436 (qw x1)))] [] (zm V J d)).bind (zGor false 169 50 [.ref 430, .int (zi x1), .int (zi x2), .int (zi (s0 + s1)), .null, .null, .null, .null] [])) := by
  refine (zr_iadd (a := s0) (b := s1) (by decide +kernel)).trans ?_
  refine (zr_istore_n (n := 3) (l1 := [.ref 430, .int (zi x1), .int (zi x2), .int (zi (s0 + s1)), .null, .null, .null, .null]) (by decide +kernel) rfl).trans ?_
  refine (zr_aload_n (n := 0) (x := 430) (by decide +kernel) rfl).trans ?_
  refine (zr_getR (i := 25) (c := 12) (k := 5) (r := 436) (by decide +kernel) (by decide +kernel) rfl (by decide +kernel) (zR0_f (o := 430) (c := 12) (n := 0) (k := 5) (j := 6) rfl (by decide) rfl)).trans ?_
  refine (zr_iload_n (n := 1) (x := zi x1) (by decide +kernel) rfl).trans ?_
  refine (zr_iald (n := 60) (e := x1) (by decide +kernel) rfl).trans (zck_ct fun _ => ?_)
  exact zr_cS (i := 223) (z := 170) (w := 0) (t := [.int (zi (V 436 (qw x1)))]) (rest := []) (L := [.int (zi (V 436 (qw x1)))]) (pc1 := 50) (by decide +kernel) (by decide +kernel) (n := 1) (r := 0) rfl rfl rfl (by decide +kernel) rfl rfl
theorem ze_169_50 {V : zVt} {J : zJt} {d : Nat → Nat → UInt64} (x1 : Int) (x2 : Int) (x3 : Int) (s0 : Int) : zGo false 169 50 [.ref 430, .int (zi x1), .int (zi x2), .int (zi x3), .null, .null, .null, .null] [.int (zi s0)] (zm V J d) =
    (if qw (V 430 26) = qw (-1) then zGo false 169 65 [.ref 430, .int (zi x1), .int (zi x2), .int (zi x3), .int (zi s0), .null, .null, .null] [.int (zi (0))] (zm V J d) else zGo false 169 65 [.ref 430, .int (zi x1), .int (zi x2), .int (zi x3), .int (zi s0), .null, .null, .null] [.int (zi (1))] (zm V J d)) := by
  refine (zr_istore (n := 4) (l1 := [.ref 430, .int (zi x1), .int (zi x2), .int (zi x3), .int (zi s0), .null, .null, .null]) (by decide +kernel) rfl).trans ?_
  refine (zr_aload_n (n := 0) (x := 430) (by decide +kernel) rfl).trans ?_
  refine (zr_getI (i := 226) (c := 12) (k := 26) (by decide +kernel) (by decide +kernel) rfl (by decide +kernel)).trans ?_
  refine (zr_iconst (n := -1) (by decide +kernel)).trans ?_
  refine (zr_ceq (off := 7) (a := (V 430 26)) (b := (-1)) (t := 64) (by decide +kernel) rfl).trans (zif_ct (fun _ => ?_) (fun _ => ?_))
  · refine (zr_iconst (n := 0) (by decide +kernel)).trans ?_
    rfl
  · refine (zr_iconst (n := 1) (by decide +kernel)).trans ?_
    refine (zr_goto (off := 4) (t := 65) (by decide +kernel) rfl).trans ?_
    rfl
theorem ze_169_65 {V : zVt} {J : zJt} {d : Nat → Nat → UInt64} (x1 : Int) (x2 : Int) (x3 : Int) (x4 : Int) (s0 : Int) : zGo false 169 65 [.ref 430, .int (zi x1), .int (zi x2), .int (zi x3), .int (zi x4), .null, .null, .null] [.int (zi s0)] (zm V J d) =
    (if qw s0 = 0 then zck (0 ≤ qw x1 ∧ qw x1 < (60 : Nat)) ((if qw (V 436 (qw x1)) ≤ 0 then zck (0 ≤ qw x3 ∧ qw x3 < (64 : Nat)) ((if qw (V 447 (qw x3)) = qw (9) then zck (qw (7) ≠ 0) ((zGo false 171 0 [.ref 430, .int (zi (qrem x3 (7))), .null, .null] [] (zm V J d)).bind (zGor false 169 121 [.ref 430, .int (zi x1), .int (zi x2), .int (zi x3), .int (zi x4), .int (zi s0), .null, .null] [])) else zck (0 ≤ qw x3 ∧ qw x3 < (64 : Nat)) (zGo false 169 121 [.ref 430, .int (zi x1), .int (zi x2), .int (zi x3), .int (zi x4), .int (zi s0), .null, .null] [.int (zi (V 447 (qw x3)))] (zm V J d)))) else zGo false 169 121 [.ref 430, .int (zi x1), .int (zi x2), .int (zi x3), .int (zi x4), .int (zi s0), .null, .null] [.int (zi x4)] (zm V J d))) else zGo false 169 121 [.ref 430, .int (zi x1), .int (zi x2), .int (zi x3), .int (zi x4), .int (zi s0), .null, .null] [.int (zi (V 430 28))] (zm V J d)) := by
  refine (zr_istore (n := 5) (l1 := [.ref 430, .int (zi x1), .int (zi x2), .int (zi x3), .int (zi x4), .int (zi s0), .null, .null]) (by decide +kernel) rfl).trans ?_
  refine (zr_iload (n := 5) (x := zi s0) (by decide +kernel) rfl).trans ?_
  refine (zr_ifeq (off := 10) (a := s0) (t := 79) (by decide +kernel) rfl).trans (zif_ct (fun _ => ?_) (fun _ => ?_))
  · refine (zr_aload_n (n := 0) (x := 430) (by decide +kernel) rfl).trans ?_
    refine (zr_getR (i := 25) (c := 12) (k := 5) (r := 436) (by decide +kernel) (by decide +kernel) rfl (by decide +kernel) (zR0_f (o := 430) (c := 12) (n := 0) (k := 5) (j := 6) rfl (by decide) rfl)).trans ?_
    refine (zr_iload_n (n := 1) (x := zi x1) (by decide +kernel) rfl).trans ?_
    refine (zr_iald (n := 60) (e := x1) (by decide +kernel) rfl).trans (zck_ct fun _ => ?_)
    refine (zr_ifle (off := 8) (a := (V 436 (qw x1))) (t := 93) (by decide +kernel) rfl).trans (zif_ct (fun _ => ?_) (fun _ => ?_))
    · refine (zr_aload_n (n := 0) (x := 430) (by decide +kernel) rfl).trans ?_
      refine (zr_getR (i := 59) (c := 12) (k := 22) (r := 447) (by decide +kernel) (by decide +kernel) rfl (by decide +kernel) (zR0_f (o := 430) (c := 12) (n := 0) (k := 22) (j := 17) rfl (by decide) rfl)).trans ?_
      refine (zr_iload_n (n := 3) (x := zi x3) (by decide +kernel) rfl).trans ?_
      refine (zr_iald (n := 64) (e := x3) (by decide +kernel) rfl).trans (zck_ct fun _ => ?_)
      refine (zr_bipush (n := 9) (by decide +kernel) rfl).trans ?_
      refine (zr_ceq (off := 12) (a := (V 447 (qw x3))) (b := (9)) (t := 113) (by decide +kernel) rfl).trans (zif_ct (fun _ => ?_) (fun _ => ?_))
      · refine (zr_aload_n (n := 0) (x := 430) (by decide +kernel) rfl).trans ?_
        refine (zr_iload_n (n := 3) (x := zi x3) (by decide +kernel) rfl).trans ?_
        refine (zr_bipush (n := 7) (by decide +kernel) rfl).trans ?_
        refine (zr_irem (a := x3) (b := (7)) (by decide +kernel)).trans (zck_ct fun _ => ?_)
        exact zr_cV (i := 232) (z := 171) (w := 0) (o := 430) (t := [.int (zi (qrem x3 (7)))]) (rest := []) (L := [.ref 430, .int (zi (qrem x3 (7))), .null, .null]) (pc1 := 121) (by decide +kernel) (by decide +kernel) rfl (n := 1) (r := 0) rfl rfl rfl (by decide +kernel) rfl rfl
      · refine (zr_aload_n (n := 0) (x := 430) (by decide +kernel) rfl).trans ?_
        refine (zr_getR (i := 59) (c := 12) (k := 22) (r := 447) (by decide +kernel) (by decide +kernel) rfl (by decide +kernel) (zR0_f (o := 430) (c := 12) (n := 0) (k := 22) (j := 17) rfl (by decide) rfl)).trans ?_
        refine (zr_iload_n (n := 3) (x := zi x3) (by decide +kernel) rfl).trans ?_
        refine (zr_iald (n := 64) (e := x3) (by decide +kernel) rfl).trans (zck_ct fun _ => ?_)
        refine (zr_goto (off := 11) (t := 121) (by decide +kernel) rfl).trans ?_
        rfl
    · refine (zr_iload (n := 4) (x := zi x4) (by decide +kernel) rfl).trans ?_
      refine (zr_goto (off := 31) (t := 121) (by decide +kernel) rfl).trans ?_
      rfl
  · refine (zr_aload_n (n := 0) (x := 430) (by decide +kernel) rfl).trans ?_
    refine (zr_getI (i := 229) (c := 12) (k := 28) (by decide +kernel) (by decide +kernel) rfl (by decide +kernel)).trans ?_
    refine (zr_goto (off := 45) (t := 121) (by decide +kernel) rfl).trans ?_
    rfl
theorem ze_169_121 {V : zVt} {J : zJt} {d : Nat → Nat → UInt64} (x1 : Int) (x2 : Int) (x3 : Int) (x4 : Int) (x5 : Int) (s0 : Int) : zGo false 169 121 [.ref 430, .int (zi x1), .int (zi x2), .int (zi x3), .int (zi x4), .int (zi x5), .null, .null] [.int (zi s0)] (zm V J d) =
    (zGo false 172 0 [.int (zi x3), .int (zi s0), .null] [] (zm V J d)).bind (zGor false 169 129 [.ref 430, .int (zi x1), .int (zi x2), .int (zi x3), .int (zi x4), .int (zi x5), .int (zi s0), .null] []) := by
  refine (zr_istore (n := 6) (l1 := [.ref 430, .int (zi x1), .int (zi x2), .int (zi x3), .int (zi x4), .int (zi x5), .int (zi s0), .null]) (by decide +kernel) rfl).trans ?_
  refine (zr_iload_n (n := 3) (x := zi x3) (by decide +kernel) rfl).trans ?_
  refine (zr_iload (n := 6) (x := zi s0) (by decide +kernel) rfl).trans ?_
  exact zr_cS (i := 235) (z := 172) (w := 0) (t := [.int (zi s0), .int (zi x3)]) (rest := []) (L := [.int (zi x3), .int (zi s0), .null]) (pc1 := 129) (by decide +kernel) (by decide +kernel) (n := 2) (r := 0) rfl rfl rfl (by decide +kernel) rfl rfl
theorem ze_169_129 {V : zVt} {J : zJt} {d : Nat → Nat → UInt64} (x1 : Int) (x2 : Int) (x3 : Int) (x4 : Int) (x5 : Int) (x6 : Int) (s0 : Int) : zGo false 169 129 [.ref 430, .int (zi x1), .int (zi x2), .int (zi x3), .int (zi x4), .int (zi x5), .int (zi x6), .null] [.int (zi s0)] (zm V J d) =
    (if qw x5 = 0 then zGo false 169 172 [.ref 430, .int (zi x1), .int (zi x2), .int (zi x3), .int (zi x4), .int (zi x5), .int (zi x6), .int (zi s0)] [] (zm V J d) else (if qw s0 ≠ qw (V 430 27) then zGo false 169 161 [.ref 430, .int (zi x1), .int (zi x2), .int (zi x3), .int (zi x4), .int (zi x5), .int (zi x6), .int (zi s0)] [] (zm V J d) else zck (0 ≤ qw x1 ∧ qw x1 < (60 : Nat)) ((if qw (V 436 (qw x1)) ≤ 0 then zGo false 169 172 [.ref 430, .int (zi x1), .int (zi x2), .int (zi x3), .int (zi x4), .int (zi x5), .int (zi x6), .int (zi s0)] [] (zm V J d) else (if qw x4 = qw x6 then zGo false 169 172 [.ref 430, .int (zi x1), .int (zi x2), .int (zi x3), .int (zi x4), .int (zi x5), .int (zi x6), .int (zi s0)] [] (zm V J d) else zGo false 169 161 [.ref 430, .int (zi x1), .int (zi x2), .int (zi x3), .int (zi x4), .int (zi x5), .int (zi x6), .int (zi s0)] [] (zm V J d)))))) := by
  refine (zr_istore (n := 7) (l1 := [.ref 430, .int (zi x1), .int (zi x2), .int (zi x3), .int (zi x4), .int (zi x5), .int (zi x6), .int (zi s0)]) (by decide +kernel) rfl).trans ?_
  refine (zr_iload (n := 5) (x := zi x5) (by decide +kernel) rfl).trans ?_
  refine (zr_ifeq (off := 39) (a := x5) (t := 172) (by decide +kernel) rfl).trans (zif_ct (fun _ => ?_) (fun _ => ?_))
  · rfl
  · refine (zr_iload (n := 7) (x := zi s0) (by decide +kernel) rfl).trans ?_
    refine (zr_aload_n (n := 0) (x := 430) (by decide +kernel) rfl).trans ?_
    refine (zr_getI (i := 238) (c := 12) (k := 27) (by decide +kernel) (by decide +kernel) rfl (by decide +kernel)).trans ?_
    refine (zr_cne (off := 19) (a := s0) (b := (V 430 27)) (t := 161) (by decide +kernel) rfl).trans (zif_ct (fun _ => ?_) (fun _ => ?_))
    · rfl
    · refine (zr_aload_n (n := 0) (x := 430) (by decide +kernel) rfl).trans ?_
      refine (zr_getR (i := 25) (c := 12) (k := 5) (r := 436) (by decide +kernel) (by decide +kernel) rfl (by decide +kernel) (zR0_f (o := 430) (c := 12) (n := 0) (k := 5) (j := 6) rfl (by decide) rfl)).trans ?_
      refine (zr_iload_n (n := 1) (x := zi x1) (by decide +kernel) rfl).trans ?_
      refine (zr_iald (n := 60) (e := x1) (by decide +kernel) rfl).trans (zck_ct fun _ => ?_)
      refine (zr_ifle (off := 21) (a := (V 436 (qw x1))) (t := 172) (by decide +kernel) rfl).trans (zif_ct (fun _ => ?_) (fun _ => ?_))
      · rfl
      · refine (zr_iload (n := 4) (x := zi x4) (by decide +kernel) rfl).trans ?_
        refine (zr_iload (n := 6) (x := zi x6) (by decide +kernel) rfl).trans ?_
        refine (zr_ceq (off := 14) (a := x4) (b := x6) (t := 172) (by decide +kernel) rfl).trans (zif_ct (fun _ => ?_) (fun _ => ?_))
        · rfl
        · rfl
theorem ze_169_161 {V : zVt} {J : zJt} {d : Nat → Nat → UInt64} (x1 : Int) (x2 : Int) (x3 : Int) (x4 : Int) (x5 : Int) (x6 : Int) (x7 : Int) : zGo false 169 161 [.ref 430, .int (zi x1), .int (zi x2), .int (zi x3), .int (zi x4), .int (zi x5), .int (zi x6), .int (zi x7)] [] (zm V J d) =
    (zGo false 173 0 [.ref 430, .int (zi (9)), .int (zi (V 430 26))] [] (zm V J d)).bind (zGor false 169 171 [.ref 430, .int (zi x1), .int (zi x2), .int (zi x3), .int (zi x4), .int (zi x5), .int (zi x6), .int (zi x7)] []) := by
  refine (zr_aload_n (n := 0) (x := 430) (by decide +kernel) rfl).trans ?_
  refine (zr_bipush (n := 9) (by decide +kernel) rfl).trans ?_
  refine (zr_aload_n (n := 0) (x := 430) (by decide +kernel) rfl).trans ?_
  refine (zr_getI (i := 226) (c := 12) (k := 26) (by decide +kernel) (by decide +kernel) rfl (by decide +kernel)).trans ?_
  exact zr_cV (i := 217) (z := 173) (w := 0) (o := 430) (t := [.int (zi (V 430 26)), .int (zi (9))]) (rest := []) (L := [.ref 430, .int (zi (9)), .int (zi (V 430 26))]) (pc1 := 171) (by decide +kernel) (by decide +kernel) rfl (n := 2) (r := 0) rfl rfl rfl (by decide +kernel) rfl rfl
theorem ze_169_171 {V : zVt} {J : zJt} {d : Nat → Nat → UInt64} (x1 : Int) (x2 : Int) (x3 : Int) (x4 : Int) (x5 : Int) (x6 : Int) (x7 : Int) : zGo false 169 171 [.ref 430, .int (zi x1), .int (zi x2), .int (zi x3), .int (zi x4), .int (zi x5), .int (zi x6), .int (zi x7)] [] (zm V J d) =
    some (.inl none, zm V J d) := by
  exact zr_vret (by decide +kernel) rfl
theorem ze_169_172 {V : zVt} {J : zJt} {d : Nat → Nat → UInt64} (x1 : Int) (x2 : Int) (x3 : Int) (x4 : Int) (x5 : Int) (x6 : Int) (x7 : Int) : zGo false 169 172 [.ref 430, .int (zi x1), .int (zi x2), .int (zi x3), .int (zi x4), .int (zi x5), .int (zi x6), .int (zi x7)] [] (zm V J d) =
    (if qw x5 ≠ 0 then zGo false 169 186 [.ref 430, .int (zi x1), .int (zi x2), .int (zi x3), .int (zi x4), .int (zi x5), .int (zi x6), .int (zi x7)] [.int (zi (0)), .int (zi x7), .int (zi x1), .ref 430] (zm V J d) else zGo false 169 186 [.ref 430, .int (zi x1), .int (zi x2), .int (zi x3), .int (zi x4), .int (zi x5), .int (zi x6), .int (zi x7)] [.int (zi (1)), .int (zi x7), .int (zi x1), .ref 430] (zm V J d)) := by
  refine (zr_aload_n (n := 0) (x := 430) (by decide +kernel) rfl).trans ?_
  refine (zr_iload_n (n := 1) (x := zi x1) (by decide +kernel) rfl).trans ?_
  refine (zr_iload (n := 7) (x := zi x7) (by decide +kernel) rfl).trans ?_
  refine (zr_iload (n := 5) (x := zi x5) (by decide +kernel) rfl).trans ?_
  refine (zr_ifne (off := 7) (a := x5) (t := 185) (by decide +kernel) rfl).trans (zif_ct (fun _ => ?_) (fun _ => ?_))
  · refine (zr_iconst (n := 0) (by decide +kernel)).trans ?_
    rfl
  · refine (zr_iconst (n := 1) (by decide +kernel)).trans ?_
    refine (zr_goto (off := 4) (t := 186) (by decide +kernel) rfl).trans ?_
    rfl
theorem ze_169_186 {V : zVt} {J : zJt} {d : Nat → Nat → UInt64} (x1 : Int) (x2 : Int) (x3 : Int) (x4 : Int) (x5 : Int) (x6 : Int) (x7 : Int) (s1 : Int) (s2 : Int) (s3 : Int) : zGo false 169 186 [.ref 430, .int (zi x1), .int (zi x2), .int (zi x3), .int (zi x4), .int (zi x5), .int (zi x6), .int (zi x7)] [.int (zi s3), .int (zi s2), .int (zi s1), .ref 430] (zm V J d) =
    (zGo false 174 0 [.ref 430, .int (zi s1), .int (zi s2), .int (zi s3), .null] [] (zm V J d)).bind (zGor false 169 189 [.ref 430, .int (zi x1), .int (zi x2), .int (zi x3), .int (zi x4), .int (zi x5), .int (zi x6), .int (zi x7)] []) := by
  exact zr_cV (i := 241) (z := 174) (w := 0) (o := 430) (t := [.int (zi s3), .int (zi s2), .int (zi s1)]) (rest := []) (L := [.ref 430, .int (zi s1), .int (zi s2), .int (zi s3), .null]) (pc1 := 189) (by decide +kernel) (by decide +kernel) rfl (n := 3) (r := 0) rfl rfl rfl (by decide +kernel) rfl rfl
theorem ze_169_189 {V : zVt} {J : zJt} {d : Nat → Nat → UInt64} (x1 : Int) (x2 : Int) (x3 : Int) (x4 : Int) (x5 : Int) (x6 : Int) (x7 : Int) : zGo false 169 189 [.ref 430, .int (zi x1), .int (zi x2), .int (zi x3), .int (zi x4), .int (zi x5), .int (zi x6), .int (zi x7)] [] (zm V J d) =
    zck (0 ≤ qw x1 ∧ qw x1 < (60 : Nat)) ((if qw (V 436 (qw x1)) ≤ 0 then zck (0 ≤ qw x3 ∧ qw x3 < (64 : Nat)) (zGo false 169 214 [.ref 430, .int (zi x1), .int (zi x2), .int (zi x3), .int (zi x4), .int (zi x5), .int (zi x6), .int (zi x7)] [.int (zi (V 447 (qw x3))), .int (zi x3), .ref 447] (zm V J d)) else zGo false 169 214 [.ref 430, .int (zi x1), .int (zi x2), .int (zi x3), .int (zi x4), .int (zi x5), .int (zi x6), .int (zi x7)] [.int (zi x4), .int (zi x3), .ref 447] (zm V J d))) := by
  refine (zr_aload_n (n := 0) (x := 430) (by decide +kernel) rfl).trans ?_
  refine (zr_getR (i := 59) (c := 12) (k := 22) (r := 447) (by decide +kernel) (by decide +kernel) rfl (by decide +kernel) (zR0_f (o := 430) (c := 12) (n := 0) (k := 22) (j := 17) rfl (by decide) rfl)).trans ?_
  refine (zr_iload_n (n := 3) (x := zi x3) (by decide +kernel) rfl).trans ?_
  refine (zr_aload_n (n := 0) (x := 430) (by decide +kernel) rfl).trans ?_
  refine (zr_getR (i := 25) (c := 12) (k := 5) (r := 436) (by decide +kernel) (by decide +kernel) rfl (by decide +kernel) (zR0_f (o := 430) (c := 12) (n := 0) (k := 5) (j := 6) rfl (by decide) rfl)).trans ?_
  refine (zr_iload_n (n := 1) (x := zi x1) (by decide +kernel) rfl).trans ?_
  refine (zr_iald (n := 60) (e := x1) (by decide +kernel) rfl).trans (zck_ct fun _ => ?_)
  refine (zr_ifle (off := 8) (a := (V 436 (qw x1))) (t := 208) (by decide +kernel) rfl).trans (zif_ct (fun _ => ?_) (fun _ => ?_))
  · refine (zr_aload_n (n := 0) (x := 430) (by decide +kernel) rfl).trans ?_
    refine (zr_getR (i := 59) (c := 12) (k := 22) (r := 447) (by decide +kernel) (by decide +kernel) rfl (by decide +kernel) (zR0_f (o := 430) (c := 12) (n := 0) (k := 22) (j := 17) rfl (by decide) rfl)).trans ?_
    refine (zr_iload_n (n := 3) (x := zi x3) (by decide +kernel) rfl).trans ?_
    refine (zr_iald (n := 64) (e := x3) (by decide +kernel) rfl).trans (zck_ct fun _ => ?_)
    rfl
  · refine (zr_iload (n := 4) (x := zi x4) (by decide +kernel) rfl).trans ?_
    refine (zr_goto (off := 9) (t := 214) (by decide +kernel) rfl).trans ?_
    rfl
theorem ze_169_214 {V : zVt} {J : zJt} {d : Nat → Nat → UInt64} (x1 : Int) (x2 : Int) (x3 : Int) (x4 : Int) (x5 : Int) (x6 : Int) (x7 : Int) (s1 : Int) (s2 : Int) : zGo false 169 214 [.ref 430, .int (zi x1), .int (zi x2), .int (zi x3), .int (zi x4), .int (zi x5), .int (zi x6), .int (zi x7)] [.int (zi s2), .int (zi s1), .ref 447] (zm V J d) =
    zck (0 ≤ qw s1 ∧ qw s1 < (64 : Nat)) (zck (0 ≤ qw x1 ∧ qw x1 < (60 : Nat)) ((if qw ((vup V 447 (qw s1) s2) 438 (qw x1)) = 0 then zGo false 169 230 [.ref 430, .int (zi x1), .int (zi x2), .int (zi x3), .int (zi x4), .int (zi x5), .int (zi x6), .int (zi x7)] [.int (zi (-1)), .ref 430] (zm (vup V 447 (qw s1) s2) J d) else zGo false 169 230 [.ref 430, .int (zi x1), .int (zi x2), .int (zi x3), .int (zi x4), .int (zi x5), .int (zi x6), .int (zi x7)] [.int (zi x1), .ref 430] (zm (vup V 447 (qw s1) s2) J d)))) := by
  refine (zr_iast (n := 64) (e := s1) (x := s2) (by decide +kernel) rfl).trans (zck_ct fun _ => ?_)
  refine (zr_aload_n (n := 0) (x := 430) (by decide +kernel) rfl).trans ?_
  refine (zr_aload_n (n := 0) (x := 430) (by decide +kernel) rfl).trans ?_
  refine (zr_getR (i := 31) (c := 12) (k := 7) (r := 438) (by decide +kernel) (by decide +kernel) rfl (by decide +kernel) (zR0_f (o := 430) (c := 12) (n := 0) (k := 7) (j := 8) rfl (by decide) rfl)).trans ?_
  refine (zr_iload_n (n := 1) (x := zi x1) (by decide +kernel) rfl).trans ?_
  refine (zr_zald (n := 60) (e := x1) (by decide +kernel) rfl).trans (zck_ct fun _ => ?_)
  refine (zr_ifeq (off := 7) (a := ((vup V 447 (qw s1) s2) 438 (qw x1))) (t := 229) (by decide +kernel) rfl).trans (zif_ct (fun _ => ?_) (fun _ => ?_))
  · refine (zr_iconst (n := -1) (by decide +kernel)).trans ?_
    rfl
  · refine (zr_iload_n (n := 1) (x := zi x1) (by decide +kernel) rfl).trans ?_
    refine (zr_goto (off := 4) (t := 230) (by decide +kernel) rfl).trans ?_
    rfl
theorem ze_169_230 {V : zVt} {J : zJt} {d : Nat → Nat → UInt64} (x1 : Int) (x2 : Int) (x3 : Int) (x4 : Int) (x5 : Int) (x6 : Int) (x7 : Int) (s1 : Int) : zGo false 169 230 [.ref 430, .int (zi x1), .int (zi x2), .int (zi x3), .int (zi x4), .int (zi x5), .int (zi x6), .int (zi x7)] [.int (zi s1), .ref 430] (zm V J d) =
    some (.inl none, zm (vup (vup (vup V 430 26 s1) 430 27 x7) 430 28 x6) J d) := by
  refine (zr_putI (i := 226) (c := 12) (k := 26) (x := s1) (by decide +kernel) (by decide +kernel) rfl (by decide +kernel)).trans ?_
  refine (zr_aload_n (n := 0) (x := 430) (by decide +kernel) rfl).trans ?_
  refine (zr_iload (n := 7) (x := zi x7) (by decide +kernel) rfl).trans ?_
  refine (zr_putI (i := 238) (c := 12) (k := 27) (x := x7) (by decide +kernel) (by decide +kernel) rfl (by decide +kernel)).trans ?_
  refine (zr_aload_n (n := 0) (x := 430) (by decide +kernel) rfl).trans ?_
  refine (zr_iload (n := 6) (x := zi x6) (by decide +kernel) rfl).trans ?_
  refine (zr_putI (i := 229) (c := 12) (k := 28) (x := x6) (by decide +kernel) (by decide +kernel) rfl (by decide +kernel)).trans ?_
  exact zr_vret (by decide +kernel) rfl
/-! PartSongDeskModel changeOf (I)I -/
theorem ze_170_0 {V : zVt} {J : zJt} {d : Nat → Nat → UInt64} (x0 : Int) : zGo false 170 0 [.int (zi x0)] [] (zm V J d) =
    (if qw x0 ≠ qw (1) then (if qw x0 ≠ qw (2) then zGo false 170 19 [.int (zi x0)] [.int (zi (0))] (zm V J d) else zGo false 170 19 [.int (zi x0)] [.int (zi (-1))] (zm V J d)) else zGo false 170 19 [.int (zi x0)] [.int (zi (1))] (zm V J d)) := by
  refine (zr_iload_n (n := 0) (x := zi x0) (by decide +kernel) rfl).trans ?_
  refine (zr_iconst (n := 1) (by decide +kernel)).trans ?_
  refine (zr_cne (off := 7) (a := x0) (b := (1)) (t := 9) (by decide +kernel) rfl).trans (zif_ct (fun _ => ?_) (fun _ => ?_))
  · refine (zr_iload_n (n := 0) (x := zi x0) (by decide +kernel) rfl).trans ?_
    refine (zr_iconst (n := 2) (by decide +kernel)).trans ?_
    refine (zr_cne (off := 7) (a := x0) (b := (2)) (t := 18) (by decide +kernel) rfl).trans (zif_ct (fun _ => ?_) (fun _ => ?_))
    · refine (zr_iconst (n := 0) (by decide +kernel)).trans ?_
      rfl
    · refine (zr_iconst (n := -1) (by decide +kernel)).trans ?_
      refine (zr_goto (off := 4) (t := 19) (by decide +kernel) rfl).trans ?_
      rfl
  · refine (zr_iconst (n := 1) (by decide +kernel)).trans ?_
    refine (zr_goto (off := 13) (t := 19) (by decide +kernel) rfl).trans ?_
    rfl
theorem ze_170_19 {V : zVt} {J : zJt} {d : Nat → Nat → UInt64} (x0 : Int) (s0 : Int) : zGo false 170 19 [.int (zi x0)] [.int (zi s0)] (zm V J d) =
    some (.inl (some (.int (zi s0))), zm V J d) := by
  exact zr_iret (a := s0) (by decide +kernel) rfl
/-! PartSongDeskModel keyChange (I)I -/
theorem ze_171_0 {V : zVt} {J : zJt} {d : Nat → Nat → UInt64} (x1 : Int) : zGo false 171 0 [.ref 430, .int (zi x1), .null, .null] [] (zm V J d) =
    zck (qw (7) ≠ 0) (zck (0 ≤ qw (1) ∧ qw (1) < (60 : Nat)) ((if qw (V 435 (qw (1))) ≤ 0 then zGo false 171 29 [.ref 430, .int (zi x1), .int (zi (qrem (((2) * x1) + (1)) (7))), .int (zi (V 435 (qw (1))))] [] (zm V J d) else (if qw (V 435 (qw (1))) ≤ qw (qrem (((2) * x1) + (1)) (7)) then zGo false 171 29 [.ref 430, .int (zi x1), .int (zi (qrem (((2) * x1) + (1)) (7))), .int (zi (V 435 (qw (1))))] [] (zm V J d) else zGo false 171 47 [.ref 430, .int (zi x1), .int (zi (qrem (((2) * x1) + (1)) (7))), .int (zi (V 435 (qw (1))))] [.int (zi (1))] (zm V J d))))) := by
  refine (zr_iconst (n := 2) (by decide +kernel)).trans ?_
  refine (zr_iload_n (n := 1) (x := zi x1) (by decide +kernel) rfl).trans ?_
  refine (zr_imul (a := (2)) (b := x1) (by decide +kernel)).trans ?_
  refine (zr_iconst (n := 1) (by decide +kernel)).trans ?_
  refine (zr_iadd (a := ((2) * x1)) (b := (1)) (by decide +kernel)).trans ?_
  refine (zr_bipush (n := 7) (by decide +kernel) rfl).trans ?_
  refine (zr_irem (a := (((2) * x1) + (1))) (b := (7)) (by decide +kernel)).trans (zck_ct fun _ => ?_)
  refine (zr_istore_n (n := 2) (l1 := [.ref 430, .int (zi x1), .int (zi (qrem (((2) * x1) + (1)) (7))), .null]) (by decide +kernel) rfl).trans ?_
  refine (zr_aload_n (n := 0) (x := 430) (by decide +kernel) rfl).trans ?_
  refine (zr_getR (i := 22) (c := 12) (k := 4) (r := 435) (by decide +kernel) (by decide +kernel) rfl (by decide +kernel) (zR0_f (o := 430) (c := 12) (n := 0) (k := 4) (j := 5) rfl (by decide) rfl)).trans ?_
  refine (zr_iconst (n := 1) (by decide +kernel)).trans ?_
  refine (zr_iald (n := 60) (e := (1)) (by decide +kernel) rfl).trans (zck_ct fun _ => ?_)
  refine (zr_istore_n (n := 3) (l1 := [.ref 430, .int (zi x1), .int (zi (qrem (((2) * x1) + (1)) (7))), .int (zi (V 435 (qw (1))))]) (by decide +kernel) rfl).trans ?_
  refine (zr_iload_n (n := 3) (x := zi (V 435 (qw (1)))) (by decide +kernel) rfl).trans ?_
  refine (zr_ifle (off := 12) (a := (V 435 (qw (1)))) (t := 29) (by decide +kernel) rfl).trans (zif_ct (fun _ => ?_) (fun _ => ?_))
  · rfl
  · refine (zr_iload_n (n := 2) (x := zi (qrem (((2) * x1) + (1)) (7))) (by decide +kernel) rfl).trans ?_
    refine (zr_iload_n (n := 3) (x := zi (V 435 (qw (1)))) (by decide +kernel) rfl).trans ?_
    refine (zr_cge (off := 7) (a := (qrem (((2) * x1) + (1)) (7))) (b := (V 435 (qw (1)))) (t := 29) (by decide +kernel) rfl).trans (zif_ct (fun _ => ?_) (fun _ => ?_))
    · rfl
    · refine (zr_iconst (n := 1) (by decide +kernel)).trans ?_
      refine (zr_goto (off := 21) (t := 47) (by decide +kernel) rfl).trans ?_
      rfl
theorem ze_171_29 {V : zVt} {J : zJt} {d : Nat → Nat → UInt64} (x1 : Int) (x2 : Int) (x3 : Int) : zGo false 171 29 [.ref 430, .int (zi x1), .int (zi x2), .int (zi x3)] [] (zm V J d) =
    (if 0 ≤ qw x3 then zGo false 171 46 [.ref 430, .int (zi x1), .int (zi x2), .int (zi x3)] [] (zm V J d) else (if qw (-x3) ≤ qw ((6) - x2) then zGo false 171 46 [.ref 430, .int (zi x1), .int (zi x2), .int (zi x3)] [] (zm V J d) else zGo false 171 47 [.ref 430, .int (zi x1), .int (zi x2), .int (zi x3)] [.int (zi (-1))] (zm V J d))) := by
  refine (zr_iload_n (n := 3) (x := zi x3) (by decide +kernel) rfl).trans ?_
  refine (zr_ifge (off := 16) (a := x3) (t := 46) (by decide +kernel) rfl).trans (zif_ct (fun _ => ?_) (fun _ => ?_))
  · rfl
  · refine (zr_bipush (n := 6) (by decide +kernel) rfl).trans ?_
    refine (zr_iload_n (n := 2) (x := zi x2) (by decide +kernel) rfl).trans ?_
    refine (zr_isub (a := (6)) (b := x2) (by decide +kernel)).trans ?_
    refine (zr_iload_n (n := 3) (x := zi x3) (by decide +kernel) rfl).trans ?_
    refine (zr_ineg (a := x3) (by decide +kernel)).trans ?_
    refine (zr_cge (off := 7) (a := ((6) - x2)) (b := (-x3)) (t := 46) (by decide +kernel) rfl).trans (zif_ct (fun _ => ?_) (fun _ => ?_))
    · rfl
    · refine (zr_iconst (n := -1) (by decide +kernel)).trans ?_
      refine (zr_goto (off := 4) (t := 47) (by decide +kernel) rfl).trans ?_
      rfl
theorem ze_171_46 {V : zVt} {J : zJt} {d : Nat → Nat → UInt64} (x1 : Int) (x2 : Int) (x3 : Int) : zGo false 171 46 [.ref 430, .int (zi x1), .int (zi x2), .int (zi x3)] [] (zm V J d) =
    zGo false 171 47 [.ref 430, .int (zi x1), .int (zi x2), .int (zi x3)] [.int (zi (0))] (zm V J d) := by
  refine (zr_iconst (n := 0) (by decide +kernel)).trans ?_
  rfl
theorem ze_171_47 {V : zVt} {J : zJt} {d : Nat → Nat → UInt64} (x1 : Int) (x2 : Int) (x3 : Int) (s0 : Int) : zGo false 171 47 [.ref 430, .int (zi x1), .int (zi x2), .int (zi x3)] [.int (zi s0)] (zm V J d) =
    some (.inl (some (.int (zi s0))), zm V J d) := by
  exact zr_iret (a := s0) (by decide +kernel) rfl
/-! PartSongDeskModel pitchOf (II)I -/
theorem ze_172_0 {V : zVt} {J : zJt} {d : Nat → Nat → UInt64} (x0 : Int) (x1 : Int) : zGo false 172 0 [.int (zi x0), .int (zi x1), .null] [] (zm V J d) =
    zck (qw (7) ≠ 0) (zck (qw (7) ≠ 0) ((if qw (qrem x0 (7)) ≤ qw (2) then zGo false 172 26 [.int (zi x0), .int (zi x1), .int (zi (qrem x0 (7)))] [.int (zi (0)), .int (zi (((12) * (qdiv x0 (7))) + ((2) * (qrem x0 (7)))))] (zm V J d) else zGo false 172 26 [.int (zi x0), .int (zi x1), .int (zi (qrem x0 (7)))] [.int (zi (1)), .int (zi (((12) * (qdiv x0 (7))) + ((2) * (qrem x0 (7)))))] (zm V J d)))) := by
  refine (zr_iload_n (n := 0) (x := zi x0) (by decide +kernel) rfl).trans ?_
  refine (zr_bipush (n := 7) (by decide +kernel) rfl).trans ?_
  refine (zr_irem (a := x0) (b := (7)) (by decide +kernel)).trans (zck_ct fun _ => ?_)
  refine (zr_istore_n (n := 2) (l1 := [.int (zi x0), .int (zi x1), .int (zi (qrem x0 (7)))]) (by decide +kernel) rfl).trans ?_
  refine (zr_bipush (n := 12) (by decide +kernel) rfl).trans ?_
  refine (zr_iload_n (n := 0) (x := zi x0) (by decide +kernel) rfl).trans ?_
  refine (zr_bipush (n := 7) (by decide +kernel) rfl).trans ?_
  refine (zr_idiv (a := x0) (b := (7)) (by decide +kernel)).trans (zck_ct fun _ => ?_)
  refine (zr_imul (a := (12)) (b := (qdiv x0 (7))) (by decide +kernel)).trans ?_
  refine (zr_iconst (n := 2) (by decide +kernel)).trans ?_
  refine (zr_iload_n (n := 2) (x := zi (qrem x0 (7))) (by decide +kernel) rfl).trans ?_
  refine (zr_imul (a := (2)) (b := (qrem x0 (7))) (by decide +kernel)).trans ?_
  refine (zr_iadd (a := ((12) * (qdiv x0 (7)))) (b := ((2) * (qrem x0 (7)))) (by decide +kernel)).trans ?_
  refine (zr_iload_n (n := 2) (x := zi (qrem x0 (7))) (by decide +kernel) rfl).trans ?_
  refine (zr_iconst (n := 2) (by decide +kernel)).trans ?_
  refine (zr_cle (off := 7) (a := (qrem x0 (7))) (b := (2)) (t := 25) (by decide +kernel) rfl).trans (zif_ct (fun _ => ?_) (fun _ => ?_))
  · refine (zr_iconst (n := 0) (by decide +kernel)).trans ?_
    rfl
  · refine (zr_iconst (n := 1) (by decide +kernel)).trans ?_
    refine (zr_goto (off := 4) (t := 26) (by decide +kernel) rfl).trans ?_
    rfl
theorem ze_172_26 {V : zVt} {J : zJt} {d : Nat → Nat → UInt64} (x0 : Int) (x1 : Int) (x2 : Int) (s0 : Int) (s1 : Int) : zGo false 172 26 [.int (zi x0), .int (zi x1), .int (zi x2)] [.int (zi s1), .int (zi s0)] (zm V J d) =
    some (.inl (some (.int (zi ((s0 - s1) + x1)))), zm V J d) := by
  refine (zr_isub (a := s0) (b := s1) (by decide +kernel)).trans ?_
  refine (zr_iload_n (n := 1) (x := zi x1) (by decide +kernel) rfl).trans ?_
  refine (zr_iadd (a := (s0 - s1)) (b := x1) (by decide +kernel)).trans ?_
  exact zr_iret (a := ((s0 - s1) + x1)) (by decide +kernel) rfl
/-! PartSongDeskModel fails (II)V -/
theorem ze_173_0 {V : zVt} {J : zJt} {d : Nat → Nat → UInt64} (x1 : Int) (x2 : Int) : zGo false 173 0 [.ref 430, .int (zi x1), .int (zi x2)] [] (zm V J d) =
    (if qw (V 430 13) ≠ 0 then zGo false 173 17 [.ref 430, .int (zi x1), .int (zi x2)] [] (zm V J d) else zGo false 173 17 [.ref 430, .int (zi x1), .int (zi x2)] [] (zm (vup (vup V 430 13 x1) 430 14 x2) J d)) := by
  refine (zr_aload_n (n := 0) (x := 430) (by decide +kernel) rfl).trans ?_
  refine (zr_getI (i := 191) (c := 12) (k := 13) (by decide +kernel) (by decide +kernel) rfl (by decide +kernel)).trans ?_
  refine (zr_ifne (off := 13) (a := (V 430 13)) (t := 17) (by decide +kernel) rfl).trans (zif_ct (fun _ => ?_) (fun _ => ?_))
  · rfl
  · refine (zr_aload_n (n := 0) (x := 430) (by decide +kernel) rfl).trans ?_
    refine (zr_iload_n (n := 1) (x := zi x1) (by decide +kernel) rfl).trans ?_
    refine (zr_putI (i := 191) (c := 12) (k := 13) (x := x1) (by decide +kernel) (by decide +kernel) rfl (by decide +kernel)).trans ?_
    refine (zr_aload_n (n := 0) (x := 430) (by decide +kernel) rfl).trans ?_
    refine (zr_iload_n (n := 2) (x := zi x2) (by decide +kernel) rfl).trans ?_
    refine (zr_putI (i := 194) (c := 12) (k := 14) (x := x2) (by decide +kernel) (by decide +kernel) rfl (by decide +kernel)).trans ?_
    rfl
theorem ze_173_17 {V : zVt} {J : zJt} {d : Nat → Nat → UInt64} (x1 : Int) (x2 : Int) : zGo false 173 17 [.ref 430, .int (zi x1), .int (zi x2)] [] (zm V J d) =
    some (.inl none, zm V J d) := by
  exact zr_vret (by decide +kernel) rfl
/-! PartSongDeskModel fills (IIZ)V -/
theorem ze_174_0 {V : zVt} {J : zJt} {d : Nat → Nat → UInt64} (x1 : Int) (x2 : Int) (x3 : Int) : zGo false 174 0 [.ref 430, .int (zi x1), .int (zi x2), .int (zi x3), .null] [] (zm V J d) =
    zck (0 ≤ qw x1 ∧ qw x1 < (60 : Nat)) ((if qw ((V 430 24) + (V 437 (qw x1))) ≤ qw (V 430 23) then zGo false 174 29 [.ref 430, .int (zi x1), .int (zi x2), .int (zi x3), .int (zi (0))] [] (zm V J d) else (zGo false 173 0 [.ref 430, .int (zi (7)), .int (zi x1)] [] (zm V J d)).bind (zGor false 174 25 [.ref 430, .int (zi x1), .int (zi x2), .int (zi x3), .null] []))) := by
  refine (zr_aload_n (n := 0) (x := 430) (by decide +kernel) rfl).trans ?_
  refine (zr_getI (i := 211) (c := 12) (k := 24) (by decide +kernel) (by decide +kernel) rfl (by decide +kernel)).trans ?_
  refine (zr_aload_n (n := 0) (x := 430) (by decide +kernel) rfl).trans ?_
  refine (zr_getR (i := 28) (c := 12) (k := 6) (r := 437) (by decide +kernel) (by decide +kernel) rfl (by decide +kernel) (zR0_f (o := 430) (c := 12) (n := 0) (k := 6) (j := 7) rfl (by decide) rfl)).trans ?_
  refine (zr_iload_n (n := 1) (x := zi x1) (by decide +kernel) rfl).trans ?_
  refine (zr_iald (n := 60) (e := x1) (by decide +kernel) rfl).trans (zck_ct fun _ => ?_)
  refine (zr_iadd (a := (V 430 24)) (b := (V 437 (qw x1))) (by decide +kernel)).trans ?_
  refine (zr_aload_n (n := 0) (x := 430) (by decide +kernel) rfl).trans ?_
  refine (zr_getI (i := 208) (c := 12) (k := 23) (by decide +kernel) (by decide +kernel) rfl (by decide +kernel)).trans ?_
  refine (zr_cle (off := 11) (a := ((V 430 24) + (V 437 (qw x1)))) (b := (V 430 23)) (t := 26) (by decide +kernel) rfl).trans (zif_ct (fun _ => ?_) (fun _ => ?_))
  · refine (zr_iconst (n := 0) (by decide +kernel)).trans ?_
    refine (zr_istore (n := 4) (l1 := [.ref 430, .int (zi x1), .int (zi x2), .int (zi x3), .int (zi (0))]) (by decide +kernel) rfl).trans ?_
    rfl
  · refine (zr_aload_n (n := 0) (x := 430) (by decide +kernel) rfl).trans ?_
    refine (zr_bipush (n := 7) (by decide +kernel) rfl).trans ?_
    refine (zr_iload_n (n := 1) (x := zi x1) (by decide +kernel) rfl).trans ?_
    exact zr_cV (i := 217) (z := 173) (w := 0) (o := 430) (t := [.int (zi x1), .int (zi (7))]) (rest := []) (L := [.ref 430, .int (zi (7)), .int (zi x1)]) (pc1 := 25) (by decide +kernel) (by decide +kernel) rfl (n := 2) (r := 0) rfl rfl rfl (by decide +kernel) rfl rfl
theorem ze_174_25 {V : zVt} {J : zJt} {d : Nat → Nat → UInt64} (x1 : Int) (x2 : Int) (x3 : Int) : zGo false 174 25 [.ref 430, .int (zi x1), .int (zi x2), .int (zi x3), .null] [] (zm V J d) =
    some (.inl none, zm V J d) := by
  exact zr_vret (by decide +kernel) rfl
theorem ze_174_29 {V : zVt} {J : zJt} {d : Nat → Nat → UInt64} (x1 : Int) (x2 : Int) (x3 : Int) (x4 : Int) : zGo false 174 29 [.ref 430, .int (zi x1), .int (zi x2), .int (zi x3), .int (zi x4)] [] (zm V J d) =
    zck (0 ≤ qw x1 ∧ qw x1 < (60 : Nat)) ((if qw (V 437 (qw x1)) ≤ qw x4 then some (.inl none, zm V J d) else zck (0 ≤ qw (V 430 24) ∧ qw (V 430 24) < (16 : Nat)) ((if qw x3 = 0 then zGo false 174 71 [.ref 430, .int (zi x1), .int (zi x2), .int (zi x3), .int (zi x4)] [.int (zi ((vup V 445 (qw (V 430 24)) x2) 430 24)), .ref 446] (zm (vup V 445 (qw (V 430 24)) x2) J d) else (if qw x4 ≠ 0 then zGo false 174 71 [.ref 430, .int (zi x1), .int (zi x2), .int (zi x3), .int (zi x4)] [.int (zi ((vup V 445 (qw (V 430 24)) x2) 430 24)), .ref 446] (zm (vup V 445 (qw (V 430 24)) x2) J d) else zGo false 174 72 [.ref 430, .int (zi x1), .int (zi x2), .int (zi x3), .int (zi x4)] [.int (zi (1)), .int (zi ((vup V 445 (qw (V 430 24)) x2) 430 24)), .ref 446] (zm (vup V 445 (qw (V 430 24)) x2) J d)))))) := by
  refine (zr_iload (n := 4) (x := zi x4) (by decide +kernel) rfl).trans ?_
  refine (zr_aload_n (n := 0) (x := 430) (by decide +kernel) rfl).trans ?_
  refine (zr_getR (i := 28) (c := 12) (k := 6) (r := 437) (by decide +kernel) (by decide +kernel) rfl (by decide +kernel) (zR0_f (o := 430) (c := 12) (n := 0) (k := 6) (j := 7) rfl (by decide) rfl)).trans ?_
  refine (zr_iload_n (n := 1) (x := zi x1) (by decide +kernel) rfl).trans ?_
  refine (zr_iald (n := 60) (e := x1) (by decide +kernel) rfl).trans (zck_ct fun _ => ?_)
  refine (zr_cge (off := 52) (a := x4) (b := (V 437 (qw x1))) (t := 89) (by decide +kernel) rfl).trans (zif_ct (fun _ => ?_) (fun _ => ?_))
  · exact zr_vret (by decide +kernel) rfl
  · refine (zr_aload_n (n := 0) (x := 430) (by decide +kernel) rfl).trans ?_
    refine (zr_getR (i := 53) (c := 12) (k := 20) (r := 445) (by decide +kernel) (by decide +kernel) rfl (by decide +kernel) (zR0_f (o := 430) (c := 12) (n := 0) (k := 20) (j := 15) rfl (by decide) rfl)).trans ?_
    refine (zr_aload_n (n := 0) (x := 430) (by decide +kernel) rfl).trans ?_
    refine (zr_getI (i := 211) (c := 12) (k := 24) (by decide +kernel) (by decide +kernel) rfl (by decide +kernel)).trans ?_
    refine (zr_iload_n (n := 2) (x := zi x2) (by decide +kernel) rfl).trans ?_
    refine (zr_iast (n := 16) (e := (V 430 24)) (x := x2) (by decide +kernel) rfl).trans (zck_ct fun _ => ?_)
    refine (zr_aload_n (n := 0) (x := 430) (by decide +kernel) rfl).trans ?_
    refine (zr_getR (i := 56) (c := 12) (k := 21) (r := 446) (by decide +kernel) (by decide +kernel) rfl (by decide +kernel) (zR0_f (o := 430) (c := 12) (n := 0) (k := 21) (j := 16) rfl (by decide) rfl)).trans ?_
    refine (zr_aload_n (n := 0) (x := 430) (by decide +kernel) rfl).trans ?_
    refine (zr_getI (i := 211) (c := 12) (k := 24) (by decide +kernel) (by decide +kernel) rfl (by decide +kernel)).trans ?_
    refine (zr_iload_n (n := 3) (x := zi x3) (by decide +kernel) rfl).trans ?_
    refine (zr_ifeq (off := 12) (a := x3) (t := 71) (by decide +kernel) rfl).trans (zif_ct (fun _ => ?_) (fun _ => ?_))
    · rfl
    · refine (zr_iload (n := 4) (x := zi x4) (by decide +kernel) rfl).trans ?_
      refine (zr_ifne (off := 7) (a := x4) (t := 71) (by decide +kernel) rfl).trans (zif_ct (fun _ => ?_) (fun _ => ?_))
      · rfl
      · refine (zr_iconst (n := 1) (by decide +kernel)).trans ?_
        refine (zr_goto (off := 4) (t := 72) (by decide +kernel) rfl).trans ?_
        rfl
theorem ze_174_71 {V : zVt} {J : zJt} {d : Nat → Nat → UInt64} (x1 : Int) (x2 : Int) (x3 : Int) (x4 : Int) (s1 : Int) : zGo false 174 71 [.ref 430, .int (zi x1), .int (zi x2), .int (zi x3), .int (zi x4)] [.int (zi s1), .ref 446] (zm V J d) =
    zGo false 174 72 [.ref 430, .int (zi x1), .int (zi x2), .int (zi x3), .int (zi x4)] [.int (zi (0)), .int (zi s1), .ref 446] (zm V J d) := by
  refine (zr_iconst (n := 0) (by decide +kernel)).trans ?_
  rfl
theorem ze_174_72 {V : zVt} {J : zJt} {d : Nat → Nat → UInt64} (x1 : Int) (x2 : Int) (x3 : Int) (x4 : Int) (s1 : Int) (s2 : Int) : zGo false 174 72 [.ref 430, .int (zi x1), .int (zi x2), .int (zi x3), .int (zi x4)] [.int (zi s2), .int (zi s1), .ref 446] (zm V J d) =
    zck ((0 ≤ qw s1 ∧ qw s1 < (16 : Nat)) ∧ (qw s2 = 0 ∨ qw s2 = 1)) (zGo false 174 29 [.ref 430, .int (zi x1), .int (zi x2), .int (zi x3), .int (zi (x4 + 1))] [] (zm (vup (vup V 446 (qw s1) s2) 430 24 (((vup V 446 (qw s1) s2) 430 24) + (1))) J d)) := by
  refine (zr_zast (n := 16) (e := s1) (x := s2) (by decide +kernel) rfl).trans (zck_ct fun _ => ?_)
  refine (zr_aload_n (n := 0) (x := 430) (by decide +kernel) rfl).trans ?_
  refine (zr_dup (by decide +kernel) rfl).trans ?_
  refine (zr_getI (i := 211) (c := 12) (k := 24) (by decide +kernel) (by decide +kernel) rfl (by decide +kernel)).trans ?_
  refine (zr_iconst (n := 1) (by decide +kernel)).trans ?_
  refine (zr_iadd (a := ((vup V 446 (qw s1) s2) 430 24)) (b := (1)) (by decide +kernel)).trans ?_
  refine (zr_putI (i := 211) (c := 12) (k := 24) (x := (((vup V 446 (qw s1) s2) 430 24) + (1))) (by decide +kernel) (by decide +kernel) rfl (by decide +kernel)).trans ?_
  refine (zr_iinc (n := 4) (k := 1) (x := x4) (l1 := [.ref 430, .int (zi x1), .int (zi x2), .int (zi x3), .int (zi (x4 + 1))]) (by decide +kernel) rfl rfl).trans ?_
  refine (zr_goto (off := -57) (t := 29) (by decide +kernel) rfl).trans ?_
  rfl
/-! PartSongDeskModel singsBar (II)V -/
theorem ze_175_0 {V : zVt} {J : zJt} {d : Nat → Nat → UInt64} (x1 : Int) (x2 : Int) : zGo false 175 0 [.ref 430, .int (zi x1), .int (zi x2)] [] (zm V J d) =
    (if qw (V 430 24) = qw (V 430 23) then zGo false 175 25 [.ref 430, .int (zi x1), .int (zi x2)] [] (zm V J d) else (if qw (V 430 25) ≠ 0 then zGo false 175 34 [.ref 430, .int (zi x1), .int (zi x2)] [] (zm V J d) else (if qw (V 430 24) ≤ 0 then zGo false 175 34 [.ref 430, .int (zi x1), .int (zi x2)] [] (zm V J d) else zGo false 175 25 [.ref 430, .int (zi x1), .int (zi x2)] [] (zm V J d)))) := by
  refine (zr_aload_n (n := 0) (x := 430) (by decide +kernel) rfl).trans ?_
  refine (zr_getI (i := 211) (c := 12) (k := 24) (by decide +kernel) (by decide +kernel) rfl (by decide +kernel)).trans ?_
  refine (zr_aload_n (n := 0) (x := 430) (by decide +kernel) rfl).trans ?_
  refine (zr_getI (i := 208) (c := 12) (k := 23) (by decide +kernel) (by decide +kernel) rfl (by decide +kernel)).trans ?_
  refine (zr_ceq (off := 17) (a := (V 430 24)) (b := (V 430 23)) (t := 25) (by decide +kernel) rfl).trans (zif_ct (fun _ => ?_) (fun _ => ?_))
  · rfl
  · refine (zr_aload_n (n := 0) (x := 430) (by decide +kernel) rfl).trans ?_
    refine (zr_getI (i := 214) (c := 12) (k := 25) (by decide +kernel) (by decide +kernel) rfl (by decide +kernel)).trans ?_
    refine (zr_ifne (off := 19) (a := (V 430 25)) (t := 34) (by decide +kernel) rfl).trans (zif_ct (fun _ => ?_) (fun _ => ?_))
    · rfl
    · refine (zr_aload_n (n := 0) (x := 430) (by decide +kernel) rfl).trans ?_
      refine (zr_getI (i := 211) (c := 12) (k := 24) (by decide +kernel) (by decide +kernel) rfl (by decide +kernel)).trans ?_
      refine (zr_ifle (off := 12) (a := (V 430 24)) (t := 34) (by decide +kernel) rfl).trans (zif_ct (fun _ => ?_) (fun _ => ?_))
      · rfl
      · rfl
theorem ze_175_25 {V : zVt} {J : zJt} {d : Nat → Nat → UInt64} (x1 : Int) (x2 : Int) : zGo false 175 25 [.ref 430, .int (zi x1), .int (zi x2)] [] (zm V J d) =
    (zGo false 176 0 [.ref 430, .int (zi x1), .int (zi x2), .null, .null, .null, .null, .null, .null, .null, .null, .null] [] (zm V J d)).bind (zGor false 175 31 [.ref 430, .int (zi x1), .int (zi x2)] []) := by
  refine (zr_aload_n (n := 0) (x := 430) (by decide +kernel) rfl).trans ?_
  refine (zr_iload_n (n := 1) (x := zi x1) (by decide +kernel) rfl).trans ?_
  refine (zr_iload_n (n := 2) (x := zi x2) (by decide +kernel) rfl).trans ?_
  exact zr_cV (i := 245) (z := 176) (w := 0) (o := 430) (t := [.int (zi x2), .int (zi x1)]) (rest := []) (L := [.ref 430, .int (zi x1), .int (zi x2), .null, .null, .null, .null, .null, .null, .null, .null, .null]) (pc1 := 31) (by decide +kernel) (by decide +kernel) rfl (n := 2) (r := 0) rfl rfl rfl (by decide +kernel) rfl rfl
theorem ze_175_31 {V : zVt} {J : zJt} {d : Nat → Nat → UInt64} (x1 : Int) (x2 : Int) : zGo false 175 31 [.ref 430, .int (zi x1), .int (zi x2)] [] (zm V J d) =
    zGo false 175 41 [.ref 430, .int (zi x1), .int (zi x2)] [] (zm V J d) := by
  refine (zr_goto (off := 10) (t := 41) (by decide +kernel) rfl).trans ?_
  rfl
theorem ze_175_34 {V : zVt} {J : zJt} {d : Nat → Nat → UInt64} (x1 : Int) (x2 : Int) : zGo false 175 34 [.ref 430, .int (zi x1), .int (zi x2)] [] (zm V J d) =
    (zGo false 173 0 [.ref 430, .int (zi (8)), .int (zi x2)] [] (zm V J d)).bind (zGor false 175 41 [.ref 430, .int (zi x1), .int (zi x2)] []) := by
  refine (zr_aload_n (n := 0) (x := 430) (by decide +kernel) rfl).trans ?_
  refine (zr_bipush (n := 8) (by decide +kernel) rfl).trans ?_
  refine (zr_iload_n (n := 2) (x := zi x2) (by decide +kernel) rfl).trans ?_
  exact zr_cV (i := 217) (z := 173) (w := 0) (o := 430) (t := [.int (zi x2), .int (zi (8))]) (rest := []) (L := [.ref 430, .int (zi (8)), .int (zi x2)]) (pc1 := 41) (by decide +kernel) (by decide +kernel) rfl (n := 2) (r := 0) rfl rfl rfl (by decide +kernel) rfl rfl
theorem ze_175_41 {V : zVt} {J : zJt} {d : Nat → Nat → UInt64} (x1 : Int) (x2 : Int) : zGo false 175 41 [.ref 430, .int (zi x1), .int (zi x2)] [] (zm V J d) =
    (zGo false 168 0 [.ref 430, .null] [] (zm V J d)).bind (zGor false 175 45 [.ref 430, .int (zi x1), .int (zi x2)] []) := by
  refine (zr_aload_n (n := 0) (x := 430) (by decide +kernel) rfl).trans ?_
  exact zr_cV (i := 248) (z := 168) (w := 0) (o := 430) (t := []) (rest := []) (L := [.ref 430, .null]) (pc1 := 45) (by decide +kernel) (by decide +kernel) rfl (n := 0) (r := 0) rfl rfl rfl (by decide +kernel) rfl rfl
theorem ze_175_45 {V : zVt} {J : zJt} {d : Nat → Nat → UInt64} (x1 : Int) (x2 : Int) : zGo false 175 45 [.ref 430, .int (zi x1), .int (zi x2)] [] (zm V J d) =
    some (.inl none, zm V J d) := by
  exact zr_vret (by decide +kernel) rfl
/-! PartSongDeskModel endsBar (II)V -/
theorem ze_176_0 {V : zVt} {J : zJt} {d : Nat → Nat → UInt64} (x1 : Int) (x2 : Int) : zGo false 176 0 [.ref 430, .int (zi x1), .int (zi x2), .null, .null, .null, .null, .null, .null, .null, .null, .null] [] (zm V J d) =
    (if qw (V 430 25) ≠ qw (40) then zGo false 176 44 [.ref 430, .int (zi x1), .int (zi x2), .int (zi ((V 430 23) - (V 430 24))), .long (Int64.ofNat 0), .null, .long (Int64.ofNat 0), .null, .int (zi (0)), .int (zi ((V 430 23) - (1))), .null, .null] [] (zm V J d) else (zGo false 173 0 [.ref 430, .int (zi (10)), .int (zi x2)] [] (zm V J d)).bind (zGor false 176 26 [.ref 430, .int (zi x1), .int (zi x2), .int (zi ((V 430 23) - (V 430 24))), .null, .null, .null, .null, .null, .null, .null, .null] [])) := by
  refine (zr_aload_n (n := 0) (x := 430) (by decide +kernel) rfl).trans ?_
  refine (zr_getI (i := 208) (c := 12) (k := 23) (by decide +kernel) (by decide +kernel) rfl (by decide +kernel)).trans ?_
  refine (zr_aload_n (n := 0) (x := 430) (by decide +kernel) rfl).trans ?_
  refine (zr_getI (i := 211) (c := 12) (k := 24) (by decide +kernel) (by decide +kernel) rfl (by decide +kernel)).trans ?_
  refine (zr_isub (a := (V 430 23)) (b := (V 430 24)) (by decide +kernel)).trans ?_
  refine (zr_istore_n (n := 3) (l1 := [.ref 430, .int (zi x1), .int (zi x2), .int (zi ((V 430 23) - (V 430 24))), .null, .null, .null, .null, .null, .null, .null, .null]) (by decide +kernel) rfl).trans ?_
  refine (zr_aload_n (n := 0) (x := 430) (by decide +kernel) rfl).trans ?_
  refine (zr_getI (i := 214) (c := 12) (k := 25) (by decide +kernel) (by decide +kernel) rfl (by decide +kernel)).trans ?_
  refine (zr_bipush (n := 40) (by decide +kernel) rfl).trans ?_
  refine (zr_cne (off := 11) (a := (V 430 25)) (b := (40)) (t := 27) (by decide +kernel) rfl).trans (zif_ct (fun _ => ?_) (fun _ => ?_))
  · refine (zr_lconst (n := 0) (by decide +kernel)).trans ?_
    refine (zr_lstore (n := 4) (l1 := [.ref 430, .int (zi x1), .int (zi x2), .int (zi ((V 430 23) - (V 430 24))), .long (Int64.ofNat 0), .null, .null, .null, .null, .null, .null, .null]) (by decide +kernel) rfl).trans ?_
    refine (zr_lconst (n := 0) (by decide +kernel)).trans ?_
    refine (zr_lstore (n := 6) (l1 := [.ref 430, .int (zi x1), .int (zi x2), .int (zi ((V 430 23) - (V 430 24))), .long (Int64.ofNat 0), .null, .long (Int64.ofNat 0), .null, .null, .null, .null, .null]) (by decide +kernel) rfl).trans ?_
    refine (zr_iconst (n := 0) (by decide +kernel)).trans ?_
    refine (zr_istore (n := 8) (l1 := [.ref 430, .int (zi x1), .int (zi x2), .int (zi ((V 430 23) - (V 430 24))), .long (Int64.ofNat 0), .null, .long (Int64.ofNat 0), .null, .int (zi (0)), .null, .null, .null]) (by decide +kernel) rfl).trans ?_
    refine (zr_aload_n (n := 0) (x := 430) (by decide +kernel) rfl).trans ?_
    refine (zr_getI (i := 208) (c := 12) (k := 23) (by decide +kernel) (by decide +kernel) rfl (by decide +kernel)).trans ?_
    refine (zr_iconst (n := 1) (by decide +kernel)).trans ?_
    refine (zr_isub (a := (V 430 23)) (b := (1)) (by decide +kernel)).trans ?_
    refine (zr_istore (n := 9) (l1 := [.ref 430, .int (zi x1), .int (zi x2), .int (zi ((V 430 23) - (V 430 24))), .long (Int64.ofNat 0), .null, .long (Int64.ofNat 0), .null, .int (zi (0)), .int (zi ((V 430 23) - (1))), .null, .null]) (by decide +kernel) rfl).trans ?_
    rfl
  · refine (zr_aload_n (n := 0) (x := 430) (by decide +kernel) rfl).trans ?_
    refine (zr_bipush (n := 10) (by decide +kernel) rfl).trans ?_
    refine (zr_iload_n (n := 2) (x := zi x2) (by decide +kernel) rfl).trans ?_
    exact zr_cV (i := 217) (z := 173) (w := 0) (o := 430) (t := [.int (zi x2), .int (zi (10))]) (rest := []) (L := [.ref 430, .int (zi (10)), .int (zi x2)]) (pc1 := 26) (by decide +kernel) (by decide +kernel) rfl (n := 2) (r := 0) rfl rfl rfl (by decide +kernel) rfl rfl
theorem ze_176_26 {V : zVt} {J : zJt} {d : Nat → Nat → UInt64} (x1 : Int) (x2 : Int) (x3 : Int) : zGo false 176 26 [.ref 430, .int (zi x1), .int (zi x2), .int (zi x3), .null, .null, .null, .null, .null, .null, .null, .null] [] (zm V J d) =
    some (.inl none, zm V J d) := by
  exact zr_vret (by decide +kernel) rfl
theorem ze_176_44 {V : zVt} {J : zJt} {d : Nat → Nat → UInt64} (x1 : Int) (x2 : Int) (x3 : Int) (x4 : Int64) (x6 : Int64) (x8 : Int) (x9 : Int) (x10 : Value) (x11 : Value) : zGo false 176 44 [.ref 430, .int (zi x1), .int (zi x2), .int (zi x3), .long x4, .null, .long x6, .null, .int (zi x8), .int (zi x9), x10, x11] [] (zm V J d) =
    (if qw x9 < 0 then zck (0 ≤ qw (((40) * x1) + (V 430 25)) ∧ qw (((40) * x1) + (V 430 25)) < (200 : Nat)) (zck (0 ≤ qw (((40) * x1) + (V 430 25)) ∧ qw (((40) * x1) + (V 430 25)) < (200 : Nat)) (zck (0 ≤ qw (((40) * x1) + (V 430 25)) ∧ qw (((40) * x1) + (V 430 25)) < (200 : Nat)) (some (.inl none, zm (vup (vup (vup V 453 (qw (((40) * x1) + (V 430 25))) x8) 430 25 (((vup V 453 (qw (((40) * x1) + (V 430 25))) x8) 430 25) + (1))) 430 24 (0)) (jup (jup J 451 (qw (((40) * x1) + (V 430 25))) x4) 452 (qw (((40) * x1) + (V 430 25))) x6) d)))) else (if qw x9 < qw x3 then zGo false 176 60 [.ref 430, .int (zi x1), .int (zi x2), .int (zi x3), .long x4, .null, .long x6, .null, .int (zi x8), .int (zi x9), x10, x11] [.int (zi (0))] (zm V J d) else zGo false 176 60 [.ref 430, .int (zi x1), .int (zi x2), .int (zi x3), .long x4, .null, .long x6, .null, .int (zi x8), .int (zi x9), x10, x11] [.int (zi (1))] (zm V J d))) := by
  refine (zr_iload (n := 9) (x := zi x9) (by decide +kernel) rfl).trans ?_
  refine (zr_iflt (off := 136) (a := x9) (t := 182) (by decide +kernel) rfl).trans (zif_ct (fun _ => ?_) (fun _ => ?_))
  · refine (zr_aload_n (n := 0) (x := 430) (by decide +kernel) rfl).trans ?_
    refine (zr_getR (i := 71) (c := 12) (k := 32) (r := 451) (by decide +kernel) (by decide +kernel) rfl (by decide +kernel) (zR0_f (o := 430) (c := 12) (n := 0) (k := 32) (j := 21) rfl (by decide) rfl)).trans ?_
    refine (zr_bipush (n := 40) (by decide +kernel) rfl).trans ?_
    refine (zr_iload_n (n := 1) (x := zi x1) (by decide +kernel) rfl).trans ?_
    refine (zr_imul (a := (40)) (b := x1) (by decide +kernel)).trans ?_
    refine (zr_aload_n (n := 0) (x := 430) (by decide +kernel) rfl).trans ?_
    refine (zr_getI (i := 214) (c := 12) (k := 25) (by decide +kernel) (by decide +kernel) rfl (by decide +kernel)).trans ?_
    refine (zr_iadd (a := ((40) * x1)) (b := (V 430 25)) (by decide +kernel)).trans ?_
    refine (zr_lload (n := 4) (x := x4) (by decide +kernel) rfl).trans ?_
    refine (zr_last (n := 200) (e := (((40) * x1) + (V 430 25))) (by decide +kernel) rfl).trans (zck_ct fun _ => ?_)
    refine (zr_aload_n (n := 0) (x := 430) (by decide +kernel) rfl).trans ?_
    refine (zr_getR (i := 75) (c := 12) (k := 33) (r := 452) (by decide +kernel) (by decide +kernel) rfl (by decide +kernel) (zR0_f (o := 430) (c := 12) (n := 0) (k := 33) (j := 22) rfl (by decide) rfl)).trans ?_
    refine (zr_bipush (n := 40) (by decide +kernel) rfl).trans ?_
    refine (zr_iload_n (n := 1) (x := zi x1) (by decide +kernel) rfl).trans ?_
    refine (zr_imul (a := (40)) (b := x1) (by decide +kernel)).trans ?_
    refine (zr_aload_n (n := 0) (x := 430) (by decide +kernel) rfl).trans ?_
    refine (zr_getI (i := 214) (c := 12) (k := 25) (by decide +kernel) (by decide +kernel) rfl (by decide +kernel)).trans ?_
    refine (zr_iadd (a := ((40) * x1)) (b := (V 430 25)) (by decide +kernel)).trans ?_
    refine (zr_lload (n := 6) (x := x6) (by decide +kernel) rfl).trans ?_
    refine (zr_last (n := 200) (e := (((40) * x1) + (V 430 25))) (by decide +kernel) rfl).trans (zck_ct fun _ => ?_)
    refine (zr_aload_n (n := 0) (x := 430) (by decide +kernel) rfl).trans ?_
    refine (zr_getR (i := 78) (c := 12) (k := 34) (r := 453) (by decide +kernel) (by decide +kernel) rfl (by decide +kernel) (zR0_f (o := 430) (c := 12) (n := 0) (k := 34) (j := 23) rfl (by decide) rfl)).trans ?_
    refine (zr_bipush (n := 40) (by decide +kernel) rfl).trans ?_
    refine (zr_iload_n (n := 1) (x := zi x1) (by decide +kernel) rfl).trans ?_
    refine (zr_imul (a := (40)) (b := x1) (by decide +kernel)).trans ?_
    refine (zr_aload_n (n := 0) (x := 430) (by decide +kernel) rfl).trans ?_
    refine (zr_getI (i := 214) (c := 12) (k := 25) (by decide +kernel) (by decide +kernel) rfl (by decide +kernel)).trans ?_
    refine (zr_iadd (a := ((40) * x1)) (b := (V 430 25)) (by decide +kernel)).trans ?_
    refine (zr_iload (n := 8) (x := zi x8) (by decide +kernel) rfl).trans ?_
    refine (zr_iast (n := 200) (e := (((40) * x1) + (V 430 25))) (x := x8) (by decide +kernel) rfl).trans (zck_ct fun _ => ?_)
    refine (zr_aload_n (n := 0) (x := 430) (by decide +kernel) rfl).trans ?_
    refine (zr_dup (by decide +kernel) rfl).trans ?_
    refine (zr_getI (i := 214) (c := 12) (k := 25) (by decide +kernel) (by decide +kernel) rfl (by decide +kernel)).trans ?_
    refine (zr_iconst (n := 1) (by decide +kernel)).trans ?_
    refine (zr_iadd (a := ((vup V 453 (qw (((40) * x1) + (V 430 25))) x8) 430 25)) (b := (1)) (by decide +kernel)).trans ?_
    refine (zr_putI (i := 214) (c := 12) (k := 25) (x := (((vup V 453 (qw (((40) * x1) + (V 430 25))) x8) 430 25) + (1))) (by decide +kernel) (by decide +kernel) rfl (by decide +kernel)).trans ?_
    refine (zr_aload_n (n := 0) (x := 430) (by decide +kernel) rfl).trans ?_
    refine (zr_iconst (n := 0) (by decide +kernel)).trans ?_
    refine (zr_putI (i := 211) (c := 12) (k := 24) (x := (0)) (by decide +kernel) (by decide +kernel) rfl (by decide +kernel)).trans ?_
    exact zr_vret (by decide +kernel) rfl
  · refine (zr_iload (n := 9) (x := zi x9) (by decide +kernel) rfl).trans ?_
    refine (zr_iload_n (n := 3) (x := zi x3) (by decide +kernel) rfl).trans ?_
    refine (zr_clt (off := 7) (a := x9) (b := x3) (t := 59) (by decide +kernel) rfl).trans (zif_ct (fun _ => ?_) (fun _ => ?_))
    · refine (zr_iconst (n := 0) (by decide +kernel)).trans ?_
      rfl
    · refine (zr_iconst (n := 1) (by decide +kernel)).trans ?_
      refine (zr_goto (off := 4) (t := 60) (by decide +kernel) rfl).trans ?_
      rfl
theorem ze_176_60 {V : zVt} {J : zJt} {d : Nat → Nat → UInt64} (x1 : Int) (x2 : Int) (x3 : Int) (x4 : Int64) (x6 : Int64) (x8 : Int) (x9 : Int) (x10 : Value) (x11 : Value) (s0 : Int) : zGo false 176 60 [.ref 430, .int (zi x1), .int (zi x2), .int (zi x3), .long x4, .null, .long x6, .null, .int (zi x8), .int (zi x9), x10, x11] [.int (zi s0)] (zm V J d) =
    (if qw s0 = 0 then zGo false 176 81 [.ref 430, .int (zi x1), .int (zi x2), .int (zi x3), .long x4, .null, .long x6, .null, .int (zi x8), .int (zi x9), .int (zi s0), x11] [] (zm V J d) else zck (0 ≤ qw (x9 - x3) ∧ qw (x9 - x3) < (16 : Nat)) ((if qw (V 445 (qw (x9 - x3))) ≠ qw (-2) then zck (0 ≤ qw (x9 - x3) ∧ qw (x9 - x3) < (16 : Nat)) (zGo false 176 96 [.ref 430, .int (zi x1), .int (zi x2), .int (zi x3), .long x4, .null, .long x6, .null, .int (zi x8), .int (zi x9), .int (zi s0), x11] [.int (zi ((V 445 (qw (x9 - x3))) + (2)))] (zm V J d)) else zGo false 176 81 [.ref 430, .int (zi x1), .int (zi x2), .int (zi x3), .long x4, .null, .long x6, .null, .int (zi x8), .int (zi x9), .int (zi s0), x11] [] (zm V J d)))) := by
  refine (zr_istore (n := 10) (l1 := [.ref 430, .int (zi x1), .int (zi x2), .int (zi x3), .long x4, .null, .long x6, .null, .int (zi x8), .int (zi x9), .int (zi s0), x11]) (by decide +kernel) rfl).trans ?_
  refine (zr_iload (n := 10) (x := zi s0) (by decide +kernel) rfl).trans ?_
  refine (zr_ifeq (off := 17) (a := s0) (t := 81) (by decide +kernel) rfl).trans (zif_ct (fun _ => ?_) (fun _ => ?_))
  · rfl
  · refine (zr_aload_n (n := 0) (x := 430) (by decide +kernel) rfl).trans ?_
    refine (zr_getR (i := 53) (c := 12) (k := 20) (r := 445) (by decide +kernel) (by decide +kernel) rfl (by decide +kernel) (zR0_f (o := 430) (c := 12) (n := 0) (k := 20) (j := 15) rfl (by decide) rfl)).trans ?_
    refine (zr_iload (n := 9) (x := zi x9) (by decide +kernel) rfl).trans ?_
    refine (zr_iload_n (n := 3) (x := zi x3) (by decide +kernel) rfl).trans ?_
    refine (zr_isub (a := x9) (b := x3) (by decide +kernel)).trans ?_
    refine (zr_iald (n := 16) (e := (x9 - x3)) (by decide +kernel) rfl).trans (zck_ct fun _ => ?_)
    refine (zr_bipush (n := -2) (by decide +kernel) rfl).trans ?_
    refine (zr_cne (off := 7) (a := (V 445 (qw (x9 - x3)))) (b := (-2)) (t := 85) (by decide +kernel) rfl).trans (zif_ct (fun _ => ?_) (fun _ => ?_))
    · refine (zr_aload_n (n := 0) (x := 430) (by decide +kernel) rfl).trans ?_
      refine (zr_getR (i := 53) (c := 12) (k := 20) (r := 445) (by decide +kernel) (by decide +kernel) rfl (by decide +kernel) (zR0_f (o := 430) (c := 12) (n := 0) (k := 20) (j := 15) rfl (by decide) rfl)).trans ?_
      refine (zr_iload (n := 9) (x := zi x9) (by decide +kernel) rfl).trans ?_
      refine (zr_iload_n (n := 3) (x := zi x3) (by decide +kernel) rfl).trans ?_
      refine (zr_isub (a := x9) (b := x3) (by decide +kernel)).trans ?_
      refine (zr_iald (n := 16) (e := (x9 - x3)) (by decide +kernel) rfl).trans (zck_ct fun _ => ?_)
      refine (zr_iconst (n := 2) (by decide +kernel)).trans ?_
      refine (zr_iadd (a := (V 445 (qw (x9 - x3)))) (b := (2)) (by decide +kernel)).trans ?_
      rfl
    · rfl
theorem ze_176_81 {V : zVt} {J : zJt} {d : Nat → Nat → UInt64} (x1 : Int) (x2 : Int) (x3 : Int) (x4 : Int64) (x6 : Int64) (x8 : Int) (x9 : Int) (x10 : Int) (x11 : Value) : zGo false 176 81 [.ref 430, .int (zi x1), .int (zi x2), .int (zi x3), .long x4, .null, .long x6, .null, .int (zi x8), .int (zi x9), .int (zi x10), x11] [] (zm V J d) =
    zGo false 176 96 [.ref 430, .int (zi x1), .int (zi x2), .int (zi x3), .long x4, .null, .long x6, .null, .int (zi x8), .int (zi x9), .int (zi x10), x11] [.int (zi (0))] (zm V J d) := by
  refine (zr_iconst (n := 0) (by decide +kernel)).trans ?_
  refine (zr_goto (off := 14) (t := 96) (by decide +kernel) rfl).trans ?_
  rfl
theorem ze_176_96 {V : zVt} {J : zJt} {d : Nat → Nat → UInt64} (x1 : Int) (x2 : Int) (x3 : Int) (x4 : Int64) (x6 : Int64) (x8 : Int) (x9 : Int) (x10 : Int) (x11 : Value) (s0 : Int) : zGo false 176 96 [.ref 430, .int (zi x1), .int (zi x2), .int (zi x3), .long x4, .null, .long x6, .null, .int (zi x8), .int (zi x9), .int (zi x10), x11] [.int (zi s0)] (zm V J d) =
    (if qw (8) ≤ qw x9 then zGo false 176 120 [.ref 430, .int (zi x1), .int (zi x2), .int (zi x3), .long x4, .null, .long x6, .null, .int (zi x8), .int (zi x9), .int (zi x10), .int (zi s0)] [.long ((x6 * (Int64.ofNat 256)) + (zi s0).toInt64)] (zm V J d) else zGo false 176 120 [.ref 430, .int (zi x1), .int (zi x2), .int (zi x3), .long x4, .null, .long x6, .null, .int (zi x8), .int (zi x9), .int (zi x10), .int (zi s0)] [.long x6] (zm V J d)) := by
  refine (zr_istore (n := 11) (l1 := [.ref 430, .int (zi x1), .int (zi x2), .int (zi x3), .long x4, .null, .long x6, .null, .int (zi x8), .int (zi x9), .int (zi x10), .int (zi s0)]) (by decide +kernel) rfl).trans ?_
  refine (zr_iload (n := 9) (x := zi x9) (by decide +kernel) rfl).trans ?_
  refine (zr_bipush (n := 8) (by decide +kernel) rfl).trans ?_
  refine (zr_cge (off := 8) (a := x9) (b := (8)) (t := 110) (by decide +kernel) rfl).trans (zif_ct (fun _ => ?_) (fun _ => ?_))
  · refine (zr_lload (n := 6) (x := x6) (by decide +kernel) rfl).trans ?_
    refine (zr_ldc2 (i := 221) (v := 256) (w := 0) (by decide +kernel) (by decide +kernel)).trans ?_
    refine (zr_lmul (by decide +kernel)).trans ?_
    refine (zr_iload (n := 11) (x := zi s0) (by decide +kernel) rfl).trans ?_
    refine (zr_i2l (a := s0) (by decide +kernel)).trans ?_
    refine (zr_ladd (by decide +kernel)).trans ?_
    rfl
  · refine (zr_lload (n := 6) (x := x6) (by decide +kernel) rfl).trans ?_
    refine (zr_goto (off := 13) (t := 120) (by decide +kernel) rfl).trans ?_
    rfl
theorem ze_176_120 {V : zVt} {J : zJt} {d : Nat → Nat → UInt64} (x1 : Int) (x2 : Int) (x3 : Int) (x4 : Int64) (x6 : Int64) (x8 : Int) (x9 : Int) (x10 : Int) (x11 : Int) (s0 : Int64) : zGo false 176 120 [.ref 430, .int (zi x1), .int (zi x2), .int (zi x3), .long x4, .null, .long x6, .null, .int (zi x8), .int (zi x9), .int (zi x10), .int (zi x11)] [.long s0] (zm V J d) =
    (if qw (8) ≤ qw x9 then zGo false 176 144 [.ref 430, .int (zi x1), .int (zi x2), .int (zi x3), .long x4, .null, .long s0, .null, .int (zi x8), .int (zi x9), .int (zi x10), .int (zi x11)] [.long x4] (zm V J d) else zGo false 176 144 [.ref 430, .int (zi x1), .int (zi x2), .int (zi x3), .long x4, .null, .long s0, .null, .int (zi x8), .int (zi x9), .int (zi x10), .int (zi x11)] [.long ((x4 * (Int64.ofNat 256)) + (zi x11).toInt64)] (zm V J d)) := by
  refine (zr_lstore (n := 6) (l1 := [.ref 430, .int (zi x1), .int (zi x2), .int (zi x3), .long x4, .null, .long s0, .null, .int (zi x8), .int (zi x9), .int (zi x10), .int (zi x11)]) (by decide +kernel) rfl).trans ?_
  refine (zr_iload (n := 9) (x := zi x9) (by decide +kernel) rfl).trans ?_
  refine (zr_bipush (n := 8) (by decide +kernel) rfl).trans ?_
  refine (zr_cge (off := 16) (a := x9) (b := (8)) (t := 142) (by decide +kernel) rfl).trans (zif_ct (fun _ => ?_) (fun _ => ?_))
  · refine (zr_lload (n := 4) (x := x4) (by decide +kernel) rfl).trans ?_
    rfl
  · refine (zr_lload (n := 4) (x := x4) (by decide +kernel) rfl).trans ?_
    refine (zr_ldc2 (i := 221) (v := 256) (w := 0) (by decide +kernel) (by decide +kernel)).trans ?_
    refine (zr_lmul (by decide +kernel)).trans ?_
    refine (zr_iload (n := 11) (x := zi x11) (by decide +kernel) rfl).trans ?_
    refine (zr_i2l (a := x11) (by decide +kernel)).trans ?_
    refine (zr_ladd (by decide +kernel)).trans ?_
    refine (zr_goto (off := 5) (t := 144) (by decide +kernel) rfl).trans ?_
    rfl
theorem ze_176_144 {V : zVt} {J : zJt} {d : Nat → Nat → UInt64} (x1 : Int) (x2 : Int) (x3 : Int) (x4 : Int64) (x6 : Int64) (x8 : Int) (x9 : Int) (x10 : Int) (x11 : Int) (s0 : Int64) : zGo false 176 144 [.ref 430, .int (zi x1), .int (zi x2), .int (zi x3), .long x4, .null, .long x6, .null, .int (zi x8), .int (zi x9), .int (zi x10), .int (zi x11)] [.long s0] (zm V J d) =
    (if qw x10 = 0 then zGo false 176 172 [.ref 430, .int (zi x1), .int (zi x2), .int (zi x3), .long s0, .null, .long x6, .null, .int (zi x8), .int (zi x9), .int (zi x10), .int (zi x11)] [.int (zi x8)] (zm V J d) else zck (0 ≤ qw (x9 - x3) ∧ qw (x9 - x3) < (16 : Nat)) ((if qw (V 446 (qw (x9 - x3))) = 0 then zGo false 176 172 [.ref 430, .int (zi x1), .int (zi x2), .int (zi x3), .long s0, .null, .long x6, .null, .int (zi x8), .int (zi x9), .int (zi x10), .int (zi x11)] [.int (zi x8)] (zm V J d) else zGo false 176 173 [.ref 430, .int (zi x1), .int (zi x2), .int (zi x3), .long s0, .null, .long x6, .null, .int (zi x8), .int (zi x9), .int (zi x10), .int (zi x11)] [.int (zi (qshl (1) x9)), .int (zi x8)] (zm V J d)))) := by
  refine (zr_lstore (n := 4) (l1 := [.ref 430, .int (zi x1), .int (zi x2), .int (zi x3), .long s0, .null, .long x6, .null, .int (zi x8), .int (zi x9), .int (zi x10), .int (zi x11)]) (by decide +kernel) rfl).trans ?_
  refine (zr_iload (n := 8) (x := zi x8) (by decide +kernel) rfl).trans ?_
  refine (zr_iload (n := 10) (x := zi x10) (by decide +kernel) rfl).trans ?_
  refine (zr_ifeq (off := 22) (a := x10) (t := 172) (by decide +kernel) rfl).trans (zif_ct (fun _ => ?_) (fun _ => ?_))
  · rfl
  · refine (zr_aload_n (n := 0) (x := 430) (by decide +kernel) rfl).trans ?_
    refine (zr_getR (i := 56) (c := 12) (k := 21) (r := 446) (by decide +kernel) (by decide +kernel) rfl (by decide +kernel) (zR0_f (o := 430) (c := 12) (n := 0) (k := 21) (j := 16) rfl (by decide) rfl)).trans ?_
    refine (zr_iload (n := 9) (x := zi x9) (by decide +kernel) rfl).trans ?_
    refine (zr_iload_n (n := 3) (x := zi x3) (by decide +kernel) rfl).trans ?_
    refine (zr_isub (a := x9) (b := x3) (by decide +kernel)).trans ?_
    refine (zr_zald (n := 16) (e := (x9 - x3)) (by decide +kernel) rfl).trans (zck_ct fun _ => ?_)
    refine (zr_ifeq (off := 10) (a := (V 446 (qw (x9 - x3)))) (t := 172) (by decide +kernel) rfl).trans (zif_ct (fun _ => ?_) (fun _ => ?_))
    · rfl
    · refine (zr_iconst (n := 1) (by decide +kernel)).trans ?_
      refine (zr_iload (n := 9) (x := zi x9) (by decide +kernel) rfl).trans ?_
      refine (zr_ishl (a := (1)) (b := x9) (by decide +kernel)).trans ?_
      refine (zr_goto (off := 4) (t := 173) (by decide +kernel) rfl).trans ?_
      rfl
theorem ze_176_172 {V : zVt} {J : zJt} {d : Nat → Nat → UInt64} (x1 : Int) (x2 : Int) (x3 : Int) (x4 : Int64) (x6 : Int64) (x8 : Int) (x9 : Int) (x10 : Int) (x11 : Int) (s0 : Int) : zGo false 176 172 [.ref 430, .int (zi x1), .int (zi x2), .int (zi x3), .long x4, .null, .long x6, .null, .int (zi x8), .int (zi x9), .int (zi x10), .int (zi x11)] [.int (zi s0)] (zm V J d) =
    zGo false 176 173 [.ref 430, .int (zi x1), .int (zi x2), .int (zi x3), .long x4, .null, .long x6, .null, .int (zi x8), .int (zi x9), .int (zi x10), .int (zi x11)] [.int (zi (0)), .int (zi s0)] (zm V J d) := by
  refine (zr_iconst (n := 0) (by decide +kernel)).trans ?_
  rfl
theorem ze_176_173 {V : zVt} {J : zJt} {d : Nat → Nat → UInt64} (x1 : Int) (x2 : Int) (x3 : Int) (x4 : Int64) (x6 : Int64) (x8 : Int) (x9 : Int) (x10 : Int) (x11 : Int) (s0 : Int) (s1 : Int) : zGo false 176 173 [.ref 430, .int (zi x1), .int (zi x2), .int (zi x3), .long x4, .null, .long x6, .null, .int (zi x8), .int (zi x9), .int (zi x10), .int (zi x11)] [.int (zi s1), .int (zi s0)] (zm V J d) =
    zGo false 176 44 [.ref 430, .int (zi x1), .int (zi x2), .int (zi x3), .long x4, .null, .long x6, .null, .int (zi (qor s0 s1)), .int (zi (x9 + (-1))), .int (zi x10), .int (zi x11)] [] (zm V J d) := by
  refine (zr_ior (a := s0) (b := s1) (by decide +kernel)).trans ?_
  refine (zr_istore (n := 8) (l1 := [.ref 430, .int (zi x1), .int (zi x2), .int (zi x3), .long x4, .null, .long x6, .null, .int (zi (qor s0 s1)), .int (zi x9), .int (zi x10), .int (zi x11)]) (by decide +kernel) rfl).trans ?_
  refine (zr_iinc (n := 9) (k := -1) (x := x9) (l1 := [.ref 430, .int (zi x1), .int (zi x2), .int (zi x3), .long x4, .null, .long x6, .null, .int (zi (qor s0 s1)), .int (zi (x9 + (-1))), .int (zi x10), .int (zi x11)]) (by decide +kernel) rfl rfl).trans ?_
  refine (zr_goto (off := -135) (t := 44) (by decide +kernel) rfl).trans ?_
  rfl
/-! PartSongDeskModel goesOn (I)I -/
theorem ze_177_0 {V : zVt} {J : zJt} {d : Nat → Nat → UInt64} (x1 : Int) : zGo false 177 0 [.ref 430, .int (zi x1), .null] [] (zm V J d) =
    zck (0 ≤ qw x1 ∧ qw x1 < (60 : Nat)) ((if qw (V 433 (qw x1)) ≠ qw (6) then (if qw (V 433 (qw x1)) ≠ qw (7) then zGo false 177 101 [.ref 430, .int (zi x1), .int (zi (V 433 (qw x1)))] [] (zm V J d) else zck (0 ≤ qw ((V 430 19) - (1)) ∧ qw ((V 430 19) - (1)) < (3 : Nat)) (zck (0 ≤ qw x1 ∧ qw x1 < (60 : Nat)) ((if qw (V 435 (qw x1)) ≤ qw (V 442 (qw ((V 430 19) - (1)))) then zGo false 177 101 [.ref 430, .int (zi x1), .int (zi (V 433 (qw x1)))] [] (zm V J d) else zck (0 ≤ qw ((V 430 19) - (1)) ∧ qw ((V 430 19) - (1)) < (3 : Nat)) (zck (0 ≤ qw ((V 430 19) - (1)) ∧ qw ((V 430 19) - (1)) < (3 : Nat)) (zck (0 ≤ qw (((vup V 442 (qw ((V 430 19) - (1))) ((V 442 (qw ((V 430 19) - (1)))) + (1))) 430 19) - (1)) ∧ qw (((vup V 442 (qw ((V 430 19) - (1))) ((V 442 (qw ((V 430 19) - (1)))) + (1))) 430 19) - (1)) < (3 : Nat)) (some (.inl (some (.int (zi (((vup V 442 (qw ((V 430 19) - (1))) ((V 442 (qw ((V 430 19) - (1)))) + (1))) 441 (qw (((vup V 442 (qw ((V 430 19) - (1))) ((V 442 (qw ((V 430 19) - (1)))) + (1))) 430 19) - (1)))) + (1))))), zm (vup V 442 (qw ((V 430 19) - (1))) ((V 442 (qw ((V 430 19) - (1)))) + (1))) J d)))))))) else zck (0 ≤ qw (V 430 19) ∧ qw (V 430 19) < (3 : Nat)) (zck (0 ≤ qw ((vup V 441 (qw (V 430 19)) x1) 430 19) ∧ qw ((vup V 441 (qw (V 430 19)) x1) 430 19) < (3 : Nat)) (zGo false 177 155 [.ref 430, .int (zi x1), .int (zi (V 433 (qw x1)))] [] (zm (vup (vup (vup V 441 (qw (V 430 19)) x1) 442 (qw ((vup V 441 (qw (V 430 19)) x1) 430 19)) (1)) 430 19 (((vup (vup V 441 (qw (V 430 19)) x1) 442 (qw ((vup V 441 (qw (V 430 19)) x1) 430 19)) (1)) 430 19) + (1))) J d))))) := by
  refine (zr_aload_n (n := 0) (x := 430) (by decide +kernel) rfl).trans ?_
  refine (zr_getR (i := 16) (c := 12) (k := 2) (r := 433) (by decide +kernel) (by decide +kernel) rfl (by decide +kernel) (zR0_f (o := 430) (c := 12) (n := 0) (k := 2) (j := 3) rfl (by decide) rfl)).trans ?_
  refine (zr_iload_n (n := 1) (x := zi x1) (by decide +kernel) rfl).trans ?_
  refine (zr_iald (n := 60) (e := x1) (by decide +kernel) rfl).trans (zck_ct fun _ => ?_)
  refine (zr_istore_n (n := 2) (l1 := [.ref 430, .int (zi x1), .int (zi (V 433 (qw x1)))]) (by decide +kernel) rfl).trans ?_
  refine (zr_iload_n (n := 2) (x := zi (V 433 (qw x1))) (by decide +kernel) rfl).trans ?_
  refine (zr_bipush (n := 6) (by decide +kernel) rfl).trans ?_
  refine (zr_cne (off := 36) (a := (V 433 (qw x1))) (b := (6)) (t := 46) (by decide +kernel) rfl).trans (zif_ct (fun _ => ?_) (fun _ => ?_))
  · refine (zr_iload_n (n := 2) (x := zi (V 433 (qw x1))) (by decide +kernel) rfl).trans ?_
    refine (zr_bipush (n := 7) (by decide +kernel) rfl).trans ?_
    refine (zr_cne (off := 52) (a := (V 433 (qw x1))) (b := (7)) (t := 101) (by decide +kernel) rfl).trans (zif_ct (fun _ => ?_) (fun _ => ?_))
    · rfl
    · refine (zr_aload_n (n := 0) (x := 430) (by decide +kernel) rfl).trans ?_
      refine (zr_getR (i := 44) (c := 12) (k := 16) (r := 442) (by decide +kernel) (by decide +kernel) rfl (by decide +kernel) (zR0_f (o := 430) (c := 12) (n := 0) (k := 16) (j := 12) rfl (by decide) rfl)).trans ?_
      refine (zr_aload_n (n := 0) (x := 430) (by decide +kernel) rfl).trans ?_
      refine (zr_getI (i := 188) (c := 12) (k := 19) (by decide +kernel) (by decide +kernel) rfl (by decide +kernel)).trans ?_
      refine (zr_iconst (n := 1) (by decide +kernel)).trans ?_
      refine (zr_isub (a := (V 430 19)) (b := (1)) (by decide +kernel)).trans ?_
      refine (zr_iald (n := 3) (e := ((V 430 19) - (1))) (by decide +kernel) rfl).trans (zck_ct fun _ => ?_)
      refine (zr_aload_n (n := 0) (x := 430) (by decide +kernel) rfl).trans ?_
      refine (zr_getR (i := 22) (c := 12) (k := 4) (r := 435) (by decide +kernel) (by decide +kernel) rfl (by decide +kernel) (zR0_f (o := 430) (c := 12) (n := 0) (k := 4) (j := 5) rfl (by decide) rfl)).trans ?_
      refine (zr_iload_n (n := 1) (x := zi x1) (by decide +kernel) rfl).trans ?_
      refine (zr_iald (n := 60) (e := x1) (by decide +kernel) rfl).trans (zck_ct fun _ => ?_)
      refine (zr_cge (off := 32) (a := (V 442 (qw ((V 430 19) - (1))))) (b := (V 435 (qw x1))) (t := 101) (by decide +kernel) rfl).trans (zif_ct (fun _ => ?_) (fun _ => ?_))
      · rfl
      · refine (zr_aload_n (n := 0) (x := 430) (by decide +kernel) rfl).trans ?_
        refine (zr_getR (i := 44) (c := 12) (k := 16) (r := 442) (by decide +kernel) (by decide +kernel) rfl (by decide +kernel) (zR0_f (o := 430) (c := 12) (n := 0) (k := 16) (j := 12) rfl (by decide) rfl)).trans ?_
        refine (zr_aload_n (n := 0) (x := 430) (by decide +kernel) rfl).trans ?_
        refine (zr_getI (i := 188) (c := 12) (k := 19) (by decide +kernel) (by decide +kernel) rfl (by decide +kernel)).trans ?_
        refine (zr_iconst (n := 1) (by decide +kernel)).trans ?_
        refine (zr_isub (a := (V 430 19)) (b := (1)) (by decide +kernel)).trans ?_
        refine (zr_dup2 (by decide +kernel) rfl rfl).trans ?_
        refine (zr_iald (n := 3) (e := ((V 430 19) - (1))) (by decide +kernel) rfl).trans (zck_ct fun _ => ?_)
        refine (zr_iconst (n := 1) (by decide +kernel)).trans ?_
        refine (zr_iadd (a := (V 442 (qw ((V 430 19) - (1))))) (b := (1)) (by decide +kernel)).trans ?_
        refine (zr_iast (n := 3) (e := ((V 430 19) - (1))) (x := ((V 442 (qw ((V 430 19) - (1)))) + (1))) (by decide +kernel) rfl).trans (zck_ct fun _ => ?_)
        refine (zr_aload_n (n := 0) (x := 430) (by decide +kernel) rfl).trans ?_
        refine (zr_getR (i := 41) (c := 12) (k := 15) (r := 441) (by decide +kernel) (by decide +kernel) rfl (by decide +kernel) (zR0_f (o := 430) (c := 12) (n := 0) (k := 15) (j := 11) rfl (by decide) rfl)).trans ?_
        refine (zr_aload_n (n := 0) (x := 430) (by decide +kernel) rfl).trans ?_
        refine (zr_getI (i := 188) (c := 12) (k := 19) (by decide +kernel) (by decide +kernel) rfl (by decide +kernel)).trans ?_
        refine (zr_iconst (n := 1) (by decide +kernel)).trans ?_
        refine (zr_isub (a := ((vup V 442 (qw ((V 430 19) - (1))) ((V 442 (qw ((V 430 19) - (1)))) + (1))) 430 19)) (b := (1)) (by decide +kernel)).trans ?_
        refine (zr_iald (n := 3) (e := (((vup V 442 (qw ((V 430 19) - (1))) ((V 442 (qw ((V 430 19) - (1)))) + (1))) 430 19) - (1))) (by decide +kernel) rfl).trans (zck_ct fun _ => ?_)
        refine (zr_iconst (n := 1) (by decide +kernel)).trans ?_
        refine (zr_iadd (a := ((vup V 442 (qw ((V 430 19) - (1))) ((V 442 (qw ((V 430 19) - (1)))) + (1))) 441 (qw (((vup V 442 (qw ((V 430 19) - (1))) ((V 442 (qw ((V 430 19) - (1)))) + (1))) 430 19) - (1))))) (b := (1)) (by decide +kernel)).trans ?_
        exact zr_iret (a := (((vup V 442 (qw ((V 430 19) - (1))) ((V 442 (qw ((V 430 19) - (1)))) + (1))) 441 (qw (((vup V 442 (qw ((V 430 19) - (1))) ((V 442 (qw ((V 430 19) - (1)))) + (1))) 430 19) - (1)))) + (1))) (by decide +kernel) rfl
  · refine (zr_aload_n (n := 0) (x := 430) (by decide +kernel) rfl).trans ?_
    refine (zr_getR (i := 41) (c := 12) (k := 15) (r := 441) (by decide +kernel) (by decide +kernel) rfl (by decide +kernel) (zR0_f (o := 430) (c := 12) (n := 0) (k := 15) (j := 11) rfl (by decide) rfl)).trans ?_
    refine (zr_aload_n (n := 0) (x := 430) (by decide +kernel) rfl).trans ?_
    refine (zr_getI (i := 188) (c := 12) (k := 19) (by decide +kernel) (by decide +kernel) rfl (by decide +kernel)).trans ?_
    refine (zr_iload_n (n := 1) (x := zi x1) (by decide +kernel) rfl).trans ?_
    refine (zr_iast (n := 3) (e := (V 430 19)) (x := x1) (by decide +kernel) rfl).trans (zck_ct fun _ => ?_)
    refine (zr_aload_n (n := 0) (x := 430) (by decide +kernel) rfl).trans ?_
    refine (zr_getR (i := 44) (c := 12) (k := 16) (r := 442) (by decide +kernel) (by decide +kernel) rfl (by decide +kernel) (zR0_f (o := 430) (c := 12) (n := 0) (k := 16) (j := 12) rfl (by decide) rfl)).trans ?_
    refine (zr_aload_n (n := 0) (x := 430) (by decide +kernel) rfl).trans ?_
    refine (zr_getI (i := 188) (c := 12) (k := 19) (by decide +kernel) (by decide +kernel) rfl (by decide +kernel)).trans ?_
    refine (zr_iconst (n := 1) (by decide +kernel)).trans ?_
    refine (zr_iast (n := 3) (e := ((vup V 441 (qw (V 430 19)) x1) 430 19)) (x := (1)) (by decide +kernel) rfl).trans (zck_ct fun _ => ?_)
    refine (zr_aload_n (n := 0) (x := 430) (by decide +kernel) rfl).trans ?_
    refine (zr_dup (by decide +kernel) rfl).trans ?_
    refine (zr_getI (i := 188) (c := 12) (k := 19) (by decide +kernel) (by decide +kernel) rfl (by decide +kernel)).trans ?_
    refine (zr_iconst (n := 1) (by decide +kernel)).trans ?_
    refine (zr_iadd (a := ((vup (vup V 441 (qw (V 430 19)) x1) 442 (qw ((vup V 441 (qw (V 430 19)) x1) 430 19)) (1)) 430 19)) (b := (1)) (by decide +kernel)).trans ?_
    refine (zr_putI (i := 188) (c := 12) (k := 19) (x := (((vup (vup V 441 (qw (V 430 19)) x1) 442 (qw ((vup V 441 (qw (V 430 19)) x1) 430 19)) (1)) 430 19) + (1))) (by decide +kernel) (by decide +kernel) rfl (by decide +kernel)).trans ?_
    refine (zr_goto (off := 112) (t := 155) (by decide +kernel) rfl).trans ?_
    rfl
theorem ze_177_101 {V : zVt} {J : zJt} {d : Nat → Nat → UInt64} (x1 : Int) (x2 : Int) : zGo false 177 101 [.ref 430, .int (zi x1), .int (zi x2)] [] (zm V J d) =
    (if qw x2 ≠ qw (7) then (if qw x2 ≠ qw (8) then zGo false 177 155 [.ref 430, .int (zi x1), .int (zi x2)] [] (zm V J d) else zck (0 ≤ qw x1 ∧ qw x1 < (60 : Nat)) (zck (0 ≤ qw ((V 430 19) - (1)) ∧ qw ((V 430 19) - (1)) < (3 : Nat)) ((if qw (V 435 (qw x1)) = qw (V 442 (qw ((V 430 19) - (1)))) then zGo false 177 155 [.ref 430, .int (zi x1), .int (zi x2)] [] (zm V J d) else zck (0 ≤ qw x1 ∧ qw x1 < (60 : Nat)) (some (.inl (some (.int (zi ((V 440 (qw x1)) + (1))))), zm V J d)))))) else zGo false 177 155 [.ref 430, .int (zi x1), .int (zi x2)] [] (zm (vup V 430 19 ((V 430 19) - (1))) J d)) := by
  refine (zr_iload_n (n := 2) (x := zi x2) (by decide +kernel) rfl).trans ?_
  refine (zr_bipush (n := 7) (by decide +kernel) rfl).trans ?_
  refine (zr_cne (off := 16) (a := x2) (b := (7)) (t := 120) (by decide +kernel) rfl).trans (zif_ct (fun _ => ?_) (fun _ => ?_))
  · refine (zr_iload_n (n := 2) (x := zi x2) (by decide +kernel) rfl).trans ?_
    refine (zr_bipush (n := 8) (by decide +kernel) rfl).trans ?_
    refine (zr_cne (off := 32) (a := x2) (b := (8)) (t := 155) (by decide +kernel) rfl).trans (zif_ct (fun _ => ?_) (fun _ => ?_))
    · rfl
    · refine (zr_aload_n (n := 0) (x := 430) (by decide +kernel) rfl).trans ?_
      refine (zr_getR (i := 22) (c := 12) (k := 4) (r := 435) (by decide +kernel) (by decide +kernel) rfl (by decide +kernel) (zR0_f (o := 430) (c := 12) (n := 0) (k := 4) (j := 5) rfl (by decide) rfl)).trans ?_
      refine (zr_iload_n (n := 1) (x := zi x1) (by decide +kernel) rfl).trans ?_
      refine (zr_iald (n := 60) (e := x1) (by decide +kernel) rfl).trans (zck_ct fun _ => ?_)
      refine (zr_aload_n (n := 0) (x := 430) (by decide +kernel) rfl).trans ?_
      refine (zr_getR (i := 44) (c := 12) (k := 16) (r := 442) (by decide +kernel) (by decide +kernel) rfl (by decide +kernel) (zR0_f (o := 430) (c := 12) (n := 0) (k := 16) (j := 12) rfl (by decide) rfl)).trans ?_
      refine (zr_aload_n (n := 0) (x := 430) (by decide +kernel) rfl).trans ?_
      refine (zr_getI (i := 188) (c := 12) (k := 19) (by decide +kernel) (by decide +kernel) rfl (by decide +kernel)).trans ?_
      refine (zr_iconst (n := 1) (by decide +kernel)).trans ?_
      refine (zr_isub (a := (V 430 19)) (b := (1)) (by decide +kernel)).trans ?_
      refine (zr_iald (n := 3) (e := ((V 430 19) - (1))) (by decide +kernel) rfl).trans (zck_ct fun _ => ?_)
      refine (zr_ceq (off := 12) (a := (V 435 (qw x1))) (b := (V 442 (qw ((V 430 19) - (1))))) (t := 155) (by decide +kernel) rfl).trans (zif_ct (fun _ => ?_) (fun _ => ?_))
      · rfl
      · refine (zr_aload_n (n := 0) (x := 430) (by decide +kernel) rfl).trans ?_
        refine (zr_getR (i := 38) (c := 12) (k := 9) (r := 440) (by decide +kernel) (by decide +kernel) rfl (by decide +kernel) (zR0_f (o := 430) (c := 12) (n := 0) (k := 9) (j := 10) rfl (by decide) rfl)).trans ?_
        refine (zr_iload_n (n := 1) (x := zi x1) (by decide +kernel) rfl).trans ?_
        refine (zr_iald (n := 60) (e := x1) (by decide +kernel) rfl).trans (zck_ct fun _ => ?_)
        refine (zr_iconst (n := 1) (by decide +kernel)).trans ?_
        refine (zr_iadd (a := (V 440 (qw x1))) (b := (1)) (by decide +kernel)).trans ?_
        exact zr_iret (a := ((V 440 (qw x1)) + (1))) (by decide +kernel) rfl
  · refine (zr_aload_n (n := 0) (x := 430) (by decide +kernel) rfl).trans ?_
    refine (zr_dup (by decide +kernel) rfl).trans ?_
    refine (zr_getI (i := 188) (c := 12) (k := 19) (by decide +kernel) (by decide +kernel) rfl (by decide +kernel)).trans ?_
    refine (zr_iconst (n := 1) (by decide +kernel)).trans ?_
    refine (zr_isub (a := (V 430 19)) (b := (1)) (by decide +kernel)).trans ?_
    refine (zr_putI (i := 188) (c := 12) (k := 19) (x := ((V 430 19) - (1))) (by decide +kernel) (by decide +kernel) rfl (by decide +kernel)).trans ?_
    refine (zr_goto (off := 38) (t := 155) (by decide +kernel) rfl).trans ?_
    rfl
theorem ze_177_155 {V : zVt} {J : zJt} {d : Nat → Nat → UInt64} (x1 : Int) (x2 : Int) : zGo false 177 155 [.ref 430, .int (zi x1), .int (zi x2)] [] (zm V J d) =
    some (.inl (some (.int (zi (x1 + (1))))), zm V J d) := by
  refine (zr_iload_n (n := 1) (x := zi x1) (by decide +kernel) rfl).trans ?_
  refine (zr_iconst (n := 1) (by decide +kernel)).trans ?_
  refine (zr_iadd (a := x1) (b := (1)) (by decide +kernel)).trans ?_
  exact zr_iret (a := (x1 + (1))) (by decide +kernel) rfl
/-! PartSongDeskModel endsAll (I)V -/
theorem ze_178_0 {V : zVt} {J : zJt} {d : Nat → Nat → UInt64} (x1 : Int) : zGo false 178 0 [.ref 430, .int (zi x1)] [] (zm V J d) =
    (if qw (V 430 26) = qw (-1) then (if qw (V 430 24) ≤ 0 then zGo false 178 56 [.ref 430, .int (zi x1)] [] (zm V J d) else (if qw (V 430 23) ≤ qw (V 430 24) then zGo false 178 56 [.ref 430, .int (zi x1)] [] (zm V J d) else (if qw (V 430 25) ≤ 0 then zGo false 178 56 [.ref 430, .int (zi x1)] [] (zm V J d) else (zGo false 173 0 [.ref 430, .int (zi (8)), .int (zi (-1))] [] (zm V J d)).bind (zGor false 178 53 [.ref 430, .int (zi x1)] [])))) else (zGo false 173 0 [.ref 430, .int (zi (9)), .int (zi (V 430 26))] [] (zm V J d)).bind (zGor false 178 18 [.ref 430, .int (zi x1)] [])) := by
  refine (zr_aload_n (n := 0) (x := 430) (by decide +kernel) rfl).trans ?_
  refine (zr_getI (i := 226) (c := 12) (k := 26) (by decide +kernel) (by decide +kernel) rfl (by decide +kernel)).trans ?_
  refine (zr_iconst (n := -1) (by decide +kernel)).trans ?_
  refine (zr_ceq (off := 16) (a := (V 430 26)) (b := (-1)) (t := 21) (by decide +kernel) rfl).trans (zif_ct (fun _ => ?_) (fun _ => ?_))
  · refine (zr_aload_n (n := 0) (x := 430) (by decide +kernel) rfl).trans ?_
    refine (zr_getI (i := 211) (c := 12) (k := 24) (by decide +kernel) (by decide +kernel) rfl (by decide +kernel)).trans ?_
    refine (zr_ifle (off := 31) (a := (V 430 24)) (t := 56) (by decide +kernel) rfl).trans (zif_ct (fun _ => ?_) (fun _ => ?_))
    · rfl
    · refine (zr_aload_n (n := 0) (x := 430) (by decide +kernel) rfl).trans ?_
      refine (zr_getI (i := 211) (c := 12) (k := 24) (by decide +kernel) (by decide +kernel) rfl (by decide +kernel)).trans ?_
      refine (zr_aload_n (n := 0) (x := 430) (by decide +kernel) rfl).trans ?_
      refine (zr_getI (i := 208) (c := 12) (k := 23) (by decide +kernel) (by decide +kernel) rfl (by decide +kernel)).trans ?_
      refine (zr_cge (off := 20) (a := (V 430 24)) (b := (V 430 23)) (t := 56) (by decide +kernel) rfl).trans (zif_ct (fun _ => ?_) (fun _ => ?_))
      · rfl
      · refine (zr_aload_n (n := 0) (x := 430) (by decide +kernel) rfl).trans ?_
        refine (zr_getI (i := 214) (c := 12) (k := 25) (by decide +kernel) (by decide +kernel) rfl (by decide +kernel)).trans ?_
        refine (zr_ifle (off := 13) (a := (V 430 25)) (t := 56) (by decide +kernel) rfl).trans (zif_ct (fun _ => ?_) (fun _ => ?_))
        · rfl
        · refine (zr_aload_n (n := 0) (x := 430) (by decide +kernel) rfl).trans ?_
          refine (zr_bipush (n := 8) (by decide +kernel) rfl).trans ?_
          refine (zr_iconst (n := -1) (by decide +kernel)).trans ?_
          exact zr_cV (i := 217) (z := 173) (w := 0) (o := 430) (t := [.int (zi (-1)), .int (zi (8))]) (rest := []) (L := [.ref 430, .int (zi (8)), .int (zi (-1))]) (pc1 := 53) (by decide +kernel) (by decide +kernel) rfl (n := 2) (r := 0) rfl rfl rfl (by decide +kernel) rfl rfl
  · refine (zr_aload_n (n := 0) (x := 430) (by decide +kernel) rfl).trans ?_
    refine (zr_bipush (n := 9) (by decide +kernel) rfl).trans ?_
    refine (zr_aload_n (n := 0) (x := 430) (by decide +kernel) rfl).trans ?_
    refine (zr_getI (i := 226) (c := 12) (k := 26) (by decide +kernel) (by decide +kernel) rfl (by decide +kernel)).trans ?_
    exact zr_cV (i := 217) (z := 173) (w := 0) (o := 430) (t := [.int (zi (V 430 26)), .int (zi (9))]) (rest := []) (L := [.ref 430, .int (zi (9)), .int (zi (V 430 26))]) (pc1 := 18) (by decide +kernel) (by decide +kernel) rfl (n := 2) (r := 0) rfl rfl rfl (by decide +kernel) rfl rfl
theorem ze_178_18 {V : zVt} {J : zJt} {d : Nat → Nat → UInt64} (x1 : Int) : zGo false 178 18 [.ref 430, .int (zi x1)] [] (zm V J d) =
    zGo false 178 69 [.ref 430, .int (zi x1)] [] (zm V J d) := by
  refine (zr_goto (off := 51) (t := 69) (by decide +kernel) rfl).trans ?_
  rfl
theorem ze_178_53 {V : zVt} {J : zJt} {d : Nat → Nat → UInt64} (x1 : Int) : zGo false 178 53 [.ref 430, .int (zi x1)] [] (zm V J d) =
    zGo false 178 69 [.ref 430, .int (zi x1)] [] (zm V J d) := by
  refine (zr_goto (off := 16) (t := 69) (by decide +kernel) rfl).trans ?_
  rfl
theorem ze_178_56 {V : zVt} {J : zJt} {d : Nat → Nat → UInt64} (x1 : Int) : zGo false 178 56 [.ref 430, .int (zi x1)] [] (zm V J d) =
    (if qw (V 430 24) ≤ 0 then zGo false 178 69 [.ref 430, .int (zi x1)] [] (zm V J d) else (zGo false 176 0 [.ref 430, .int (zi x1), .int (zi (-1)), .null, .null, .null, .null, .null, .null, .null, .null, .null] [] (zm V J d)).bind (zGor false 178 69 [.ref 430, .int (zi x1)] [])) := by
  refine (zr_aload_n (n := 0) (x := 430) (by decide +kernel) rfl).trans ?_
  refine (zr_getI (i := 211) (c := 12) (k := 24) (by decide +kernel) (by decide +kernel) rfl (by decide +kernel)).trans ?_
  refine (zr_ifle (off := 9) (a := (V 430 24)) (t := 69) (by decide +kernel) rfl).trans (zif_ct (fun _ => ?_) (fun _ => ?_))
  · rfl
  · refine (zr_aload_n (n := 0) (x := 430) (by decide +kernel) rfl).trans ?_
    refine (zr_iload_n (n := 1) (x := zi x1) (by decide +kernel) rfl).trans ?_
    refine (zr_iconst (n := -1) (by decide +kernel)).trans ?_
    exact zr_cV (i := 245) (z := 176) (w := 0) (o := 430) (t := [.int (zi (-1)), .int (zi x1)]) (rest := []) (L := [.ref 430, .int (zi x1), .int (zi (-1)), .null, .null, .null, .null, .null, .null, .null, .null, .null]) (pc1 := 69) (by decide +kernel) (by decide +kernel) rfl (n := 2) (r := 0) rfl rfl rfl (by decide +kernel) rfl rfl
theorem ze_178_69 {V : zVt} {J : zJt} {d : Nat → Nat → UInt64} (x1 : Int) : zGo false 178 69 [.ref 430, .int (zi x1)] [] (zm V J d) =
    some (.inl none, zm V J d) := by
  exact zr_vret (by decide +kernel) rfl
/-! PartSongDeskModel errorAt (II)I -/
theorem ze_179_0 {V : zVt} {J : zJt} {d : Nat → Nat → UInt64} (x1 : Int) (x2 : Int) : zGo false 179 0 [.ref 430, .int (zi x1), .int (zi x2), .null] [] (zm V J d) =
    (zGo false 146 0 [.int (zi x1), .int (zi x2)] [] (zm V J d)).bind (zGor false 179 6 [.ref 430, .int (zi x1), .int (zi x2), .null] [.ref 430]) := by
  refine (zr_aload_n (n := 0) (x := 430) (by decide +kernel) rfl).trans ?_
  refine (zr_iload_n (n := 1) (x := zi x1) (by decide +kernel) rfl).trans ?_
  refine (zr_iload_n (n := 2) (x := zi x2) (by decide +kernel) rfl).trans ?_
  exact zr_cS (i := 282) (z := 146) (w := 0) (t := [.int (zi x2), .int (zi x1)]) (rest := [.ref 430]) (L := [.int (zi x1), .int (zi x2)]) (pc1 := 6) (by decide +kernel) (by decide +kernel) (n := 2) (r := 1) rfl rfl rfl (by decide +kernel) rfl rfl
theorem ze_179_6 {V : zVt} {J : zJt} {d : Nat → Nat → UInt64} (x1 : Int) (x2 : Int) (s1 : Int) : zGo false 179 6 [.ref 430, .int (zi x1), .int (zi x2), .null] [.int (zi s1), .ref 430] (zm V J d) =
    (zGo false 150 0 [.ref 430, .int (zi s1), .int (zi (1)), .int (zi (1))] [] (zm V J d)).bind (zGor false 179 11 [.ref 430, .int (zi x1), .int (zi x2), .null] []) := by
  refine (zr_iconst (n := 1) (by decide +kernel)).trans ?_
  refine (zr_iconst (n := 1) (by decide +kernel)).trans ?_
  exact zr_cV (i := 289) (z := 150) (w := 0) (o := 430) (t := [.int (zi (1)), .int (zi (1)), .int (zi s1)]) (rest := []) (L := [.ref 430, .int (zi s1), .int (zi (1)), .int (zi (1))]) (pc1 := 11) (by decide +kernel) (by decide +kernel) rfl (n := 3) (r := 0) rfl rfl rfl (by decide +kernel) rfl rfl
theorem ze_179_11 {V : zVt} {J : zJt} {d : Nat → Nat → UInt64} (x1 : Int) (x2 : Int) (s0 : Int) : zGo false 179 11 [.ref 430, .int (zi x1), .int (zi x2), .null] [.int (zi s0)] (zm V J d) =
    (if qw s0 ≠ 0 then (zGo false 153 0 [.ref 430, .int (zi (0)), .int (zi (((4) * x1) + x2)), .int (zi (-1))] [] (zm V J d)).bind (zGor false 179 29 [.ref 430, .int (zi x1), .int (zi x2), .int (zi (((4) * x1) + x2))] []) else some (.inl (some (.int (zi (0)))), zm V J d)) := by
  refine (zr_ifne (off := 5) (a := s0) (t := 16) (by decide +kernel) rfl).trans (zif_ct (fun _ => ?_) (fun _ => ?_))
  · refine (zr_iconst (n := 4) (by decide +kernel)).trans ?_
    refine (zr_iload_n (n := 1) (x := zi x1) (by decide +kernel) rfl).trans ?_
    refine (zr_imul (a := (4)) (b := x1) (by decide +kernel)).trans ?_
    refine (zr_iload_n (n := 2) (x := zi x2) (by decide +kernel) rfl).trans ?_
    refine (zr_iadd (a := ((4) * x1)) (b := x2) (by decide +kernel)).trans ?_
    refine (zr_istore_n (n := 3) (l1 := [.ref 430, .int (zi x1), .int (zi x2), .int (zi (((4) * x1) + x2))]) (by decide +kernel) rfl).trans ?_
    refine (zr_aload_n (n := 0) (x := 430) (by decide +kernel) rfl).trans ?_
    refine (zr_iconst (n := 0) (by decide +kernel)).trans ?_
    refine (zr_iload_n (n := 3) (x := zi (((4) * x1) + x2)) (by decide +kernel) rfl).trans ?_
    refine (zr_iconst (n := -1) (by decide +kernel)).trans ?_
    exact zr_cV (i := 274) (z := 153) (w := 0) (o := 430) (t := [.int (zi (-1)), .int (zi (((4) * x1) + x2)), .int (zi (0))]) (rest := []) (L := [.ref 430, .int (zi (0)), .int (zi (((4) * x1) + x2)), .int (zi (-1))]) (pc1 := 29) (by decide +kernel) (by decide +kernel) rfl (n := 3) (r := 0) rfl rfl rfl (by decide +kernel) rfl rfl
  · refine (zr_iconst (n := 0) (by decide +kernel)).trans ?_
    exact zr_iret (a := (0)) (by decide +kernel) rfl
theorem ze_179_29 {V : zVt} {J : zJt} {d : Nat → Nat → UInt64} (x1 : Int) (x2 : Int) (x3 : Int) (s0 : Int) : zGo false 179 29 [.ref 430, .int (zi x1), .int (zi x2), .int (zi x3)] [.int (zi s0)] (zm V J d) =
    (if qw (V 430 13) ≠ 0 then (if qw (V 430 13) ≠ qw (1) then (if qw (V 430 14) ≠ qw (-1) then zck (0 ≤ qw (V 430 14) ∧ qw (V 430 14) < (60 : Nat)) (zGo false 179 82 [.ref 430, .int (zi x1), .int (zi x2), .int (zi x3)] [.int (zi (V 434 (qw (V 430 14))))] (zm V J d)) else zck (0 ≤ qw x3 ∧ qw x3 < (12 : Nat)) (zGo false 179 82 [.ref 430, .int (zi x1), .int (zi x2), .int (zi x3)] [.int (zi (V 432 (qw x3)))] (zm V J d))) else zGo false 179 82 [.ref 430, .int (zi x1), .int (zi x2), .int (zi x3)] [.int (zi (V 430 11))] (zm V J d)) else zGo false 179 82 [.ref 430, .int (zi x1), .int (zi x2), .int (zi x3)] [.int (zi (-1))] (zm V J d)) := by
  refine (zr_pop (by decide +kernel) rfl).trans ?_
  refine (zr_aload_n (n := 0) (x := 430) (by decide +kernel) rfl).trans ?_
  refine (zr_getI (i := 191) (c := 12) (k := 13) (by decide +kernel) (by decide +kernel) rfl (by decide +kernel)).trans ?_
  refine (zr_ifne (off := 7) (a := (V 430 13)) (t := 41) (by decide +kernel) rfl).trans (zif_ct (fun _ => ?_) (fun _ => ?_))
  · refine (zr_aload_n (n := 0) (x := 430) (by decide +kernel) rfl).trans ?_
    refine (zr_getI (i := 191) (c := 12) (k := 13) (by decide +kernel) (by decide +kernel) rfl (by decide +kernel)).trans ?_
    refine (zr_iconst (n := 1) (by decide +kernel)).trans ?_
    refine (zr_cne (off := 10) (a := (V 430 13)) (b := (1)) (t := 56) (by decide +kernel) rfl).trans (zif_ct (fun _ => ?_) (fun _ => ?_))
    · refine (zr_aload_n (n := 0) (x := 430) (by decide +kernel) rfl).trans ?_
      refine (zr_getI (i := 194) (c := 12) (k := 14) (by decide +kernel) (by decide +kernel) rfl (by decide +kernel)).trans ?_
      refine (zr_iconst (n := -1) (by decide +kernel)).trans ?_
      refine (zr_cne (off := 12) (a := (V 430 14)) (b := (-1)) (t := 73) (by decide +kernel) rfl).trans (zif_ct (fun _ => ?_) (fun _ => ?_))
      · refine (zr_aload_n (n := 0) (x := 430) (by decide +kernel) rfl).trans ?_
        refine (zr_getR (i := 19) (c := 12) (k := 3) (r := 434) (by decide +kernel) (by decide +kernel) rfl (by decide +kernel) (zR0_f (o := 430) (c := 12) (n := 0) (k := 3) (j := 4) rfl (by decide) rfl)).trans ?_
        refine (zr_aload_n (n := 0) (x := 430) (by decide +kernel) rfl).trans ?_
        refine (zr_getI (i := 194) (c := 12) (k := 14) (by decide +kernel) (by decide +kernel) rfl (by decide +kernel)).trans ?_
        refine (zr_iald (n := 60) (e := (V 430 14)) (by decide +kernel) rfl).trans (zck_ct fun _ => ?_)
        rfl
      · refine (zr_aload_n (n := 0) (x := 430) (by decide +kernel) rfl).trans ?_
        refine (zr_getR (i := 13) (c := 12) (k := 1) (r := 432) (by decide +kernel) (by decide +kernel) rfl (by decide +kernel) (zR0_f (o := 430) (c := 12) (n := 0) (k := 1) (j := 2) rfl (by decide) rfl)).trans ?_
        refine (zr_iload_n (n := 3) (x := zi x3) (by decide +kernel) rfl).trans ?_
        refine (zr_iald (n := 12) (e := x3) (by decide +kernel) rfl).trans (zck_ct fun _ => ?_)
        refine (zr_goto (off := 12) (t := 82) (by decide +kernel) rfl).trans ?_
        rfl
    · refine (zr_aload_n (n := 0) (x := 430) (by decide +kernel) rfl).trans ?_
      refine (zr_getI (i := 182) (c := 12) (k := 11) (by decide +kernel) (by decide +kernel) rfl (by decide +kernel)).trans ?_
      refine (zr_goto (off := 29) (t := 82) (by decide +kernel) rfl).trans ?_
      rfl
  · refine (zr_iconst (n := -1) (by decide +kernel)).trans ?_
    refine (zr_goto (off := 44) (t := 82) (by decide +kernel) rfl).trans ?_
    rfl
theorem ze_179_82 {V : zVt} {J : zJt} {d : Nat → Nat → UInt64} (x1 : Int) (x2 : Int) (x3 : Int) (s0 : Int) : zGo false 179 82 [.ref 430, .int (zi x1), .int (zi x2), .int (zi x3)] [.int (zi s0)] (zm V J d) =
    some (.inl (some (.int (zi s0))), zm V J d) := by
  exact zr_iret (a := s0) (by decide +kernel) rfl
/-! PartSongDeskModel tokens (II)I -/
theorem ze_180_0 {V : zVt} {J : zJt} {d : Nat → Nat → UInt64} (x1 : Int) (x2 : Int) : zGo false 180 0 [.ref 430, .int (zi x1), .int (zi x2)] [] (zm V J d) =
    (zGo false 146 0 [.int (zi x1), .int (zi x2)] [] (zm V J d)).bind (zGor false 180 6 [.ref 430, .int (zi x1), .int (zi x2)] [.ref 430]) := by
  refine (zr_aload_n (n := 0) (x := 430) (by decide +kernel) rfl).trans ?_
  refine (zr_iload_n (n := 1) (x := zi x1) (by decide +kernel) rfl).trans ?_
  refine (zr_iload_n (n := 2) (x := zi x2) (by decide +kernel) rfl).trans ?_
  exact zr_cS (i := 282) (z := 146) (w := 0) (t := [.int (zi x2), .int (zi x1)]) (rest := [.ref 430]) (L := [.int (zi x1), .int (zi x2)]) (pc1 := 6) (by decide +kernel) (by decide +kernel) (n := 2) (r := 1) rfl rfl rfl (by decide +kernel) rfl rfl
theorem ze_180_6 {V : zVt} {J : zJt} {d : Nat → Nat → UInt64} (x1 : Int) (x2 : Int) (s1 : Int) : zGo false 180 6 [.ref 430, .int (zi x1), .int (zi x2)] [.int (zi s1), .ref 430] (zm V J d) =
    (zGo false 150 0 [.ref 430, .int (zi s1), .int (zi (1)), .int (zi (1))] [] (zm V J d)).bind (zGor false 180 11 [.ref 430, .int (zi x1), .int (zi x2)] []) := by
  refine (zr_iconst (n := 1) (by decide +kernel)).trans ?_
  refine (zr_iconst (n := 1) (by decide +kernel)).trans ?_
  exact zr_cV (i := 289) (z := 150) (w := 0) (o := 430) (t := [.int (zi (1)), .int (zi (1)), .int (zi s1)]) (rest := []) (L := [.ref 430, .int (zi s1), .int (zi (1)), .int (zi (1))]) (pc1 := 11) (by decide +kernel) (by decide +kernel) rfl (n := 3) (r := 0) rfl rfl rfl (by decide +kernel) rfl rfl
theorem ze_180_11 {V : zVt} {J : zJt} {d : Nat → Nat → UInt64} (x1 : Int) (x2 : Int) (s0 : Int) : zGo false 180 11 [.ref 430, .int (zi x1), .int (zi x2)] [.int (zi s0)] (zm V J d) =
    (if qw s0 ≠ 0 then (zGo false 154 0 [.ref 430, .int (zi (((4) * x1) + x2)), .null, .null] [] (zm V J d)).bind (zGor false 180 25 [.ref 430, .int (zi x1), .int (zi x2)] []) else some (.inl (some (.int (zi (0)))), zm V J d)) := by
  refine (zr_ifne (off := 5) (a := s0) (t := 16) (by decide +kernel) rfl).trans (zif_ct (fun _ => ?_) (fun _ => ?_))
  · refine (zr_aload_n (n := 0) (x := 430) (by decide +kernel) rfl).trans ?_
    refine (zr_iconst (n := 4) (by decide +kernel)).trans ?_
    refine (zr_iload_n (n := 1) (x := zi x1) (by decide +kernel) rfl).trans ?_
    refine (zr_imul (a := (4)) (b := x1) (by decide +kernel)).trans ?_
    refine (zr_iload_n (n := 2) (x := zi x2) (by decide +kernel) rfl).trans ?_
    refine (zr_iadd (a := ((4) * x1)) (b := x2) (by decide +kernel)).trans ?_
    exact zr_cV (i := 263) (z := 154) (w := 0) (o := 430) (t := [.int (zi (((4) * x1) + x2))]) (rest := []) (L := [.ref 430, .int (zi (((4) * x1) + x2)), .null, .null]) (pc1 := 25) (by decide +kernel) (by decide +kernel) rfl (n := 1) (r := 0) rfl rfl rfl (by decide +kernel) rfl rfl
  · refine (zr_iconst (n := 0) (by decide +kernel)).trans ?_
    exact zr_iret (a := (0)) (by decide +kernel) rfl
theorem ze_180_25 {V : zVt} {J : zJt} {d : Nat → Nat → UInt64} (x1 : Int) (x2 : Int) : zGo false 180 25 [.ref 430, .int (zi x1), .int (zi x2)] [] (zm V J d) =
    some (.inl (some (.int (zi (V 430 10)))), zm V J d) := by
  refine (zr_aload_n (n := 0) (x := 430) (by decide +kernel) rfl).trans ?_
  refine (zr_getI (i := 149) (c := 12) (k := 10) (by decide +kernel) (by decide +kernel) rfl (by decide +kernel)).trans ?_
  exact zr_iret (a := (V 430 10)) (by decide +kernel) rfl
/-! PartSongDeskModel token (III)I -/
theorem ze_181_0 {V : zVt} {J : zJt} {d : Nat → Nat → UInt64} (x1 : Int) (x2 : Int) (x3 : Int) : zGo false 181 0 [.ref 430, .int (zi x1), .int (zi x2), .int (zi x3), .null] [] (zm V J d) =
    (zGo false 146 0 [.int (zi x1), .int (zi x2)] [] (zm V J d)).bind (zGor false 181 5 [.ref 430, .int (zi x1), .int (zi x2), .int (zi x3), .null] []) := by
  refine (zr_iload_n (n := 1) (x := zi x1) (by decide +kernel) rfl).trans ?_
  refine (zr_iload_n (n := 2) (x := zi x2) (by decide +kernel) rfl).trans ?_
  exact zr_cS (i := 282) (z := 146) (w := 0) (t := [.int (zi x2), .int (zi x1)]) (rest := []) (L := [.int (zi x1), .int (zi x2)]) (pc1 := 5) (by decide +kernel) (by decide +kernel) (n := 2) (r := 0) rfl rfl rfl (by decide +kernel) rfl rfl
theorem ze_181_5 {V : zVt} {J : zJt} {d : Nat → Nat → UInt64} (x1 : Int) (x2 : Int) (x3 : Int) (s0 : Int) : zGo false 181 5 [.ref 430, .int (zi x1), .int (zi x2), .int (zi x3), .null] [.int (zi s0)] (zm V J d) =
    (if qw s0 = 0 then zGo false 181 21 [.ref 430, .int (zi x1), .int (zi x2), .int (zi x3), .int (zi s0)] [] (zm V J d) else (zGo false 154 0 [.ref 430, .int (zi (((4) * x1) + x2)), .null, .null] [] (zm V J d)).bind (zGor false 181 21 [.ref 430, .int (zi x1), .int (zi x2), .int (zi x3), .int (zi s0)] [])) := by
  refine (zr_istore (n := 4) (l1 := [.ref 430, .int (zi x1), .int (zi x2), .int (zi x3), .int (zi s0)]) (by decide +kernel) rfl).trans ?_
  refine (zr_iload (n := 4) (x := zi s0) (by decide +kernel) rfl).trans ?_
  refine (zr_ifeq (off := 12) (a := s0) (t := 21) (by decide +kernel) rfl).trans (zif_ct (fun _ => ?_) (fun _ => ?_))
  · rfl
  · refine (zr_aload_n (n := 0) (x := 430) (by decide +kernel) rfl).trans ?_
    refine (zr_iconst (n := 4) (by decide +kernel)).trans ?_
    refine (zr_iload_n (n := 1) (x := zi x1) (by decide +kernel) rfl).trans ?_
    refine (zr_imul (a := (4)) (b := x1) (by decide +kernel)).trans ?_
    refine (zr_iload_n (n := 2) (x := zi x2) (by decide +kernel) rfl).trans ?_
    refine (zr_iadd (a := ((4) * x1)) (b := x2) (by decide +kernel)).trans ?_
    exact zr_cV (i := 263) (z := 154) (w := 0) (o := 430) (t := [.int (zi (((4) * x1) + x2))]) (rest := []) (L := [.ref 430, .int (zi (((4) * x1) + x2)), .null, .null]) (pc1 := 21) (by decide +kernel) (by decide +kernel) rfl (n := 1) (r := 0) rfl rfl rfl (by decide +kernel) rfl rfl
theorem ze_181_21 {V : zVt} {J : zJt} {d : Nat → Nat → UInt64} (x1 : Int) (x2 : Int) (x3 : Int) (x4 : Int) : zGo false 181 21 [.ref 430, .int (zi x1), .int (zi x2), .int (zi x3), .int (zi x4)] [] (zm V J d) =
    (if qw x4 = 0 then zGo false 181 42 [.ref 430, .int (zi x1), .int (zi x2), .int (zi x3), .int (zi x4)] [.ref 430] (zm V J d) else (zGo false 147 0 [.int (zi x3), .int (zi (V 430 10))] [] (zm V J d)).bind (zGor false 181 35 [.ref 430, .int (zi x1), .int (zi x2), .int (zi x3), .int (zi x4)] [.ref 430])) := by
  refine (zr_aload_n (n := 0) (x := 430) (by decide +kernel) rfl).trans ?_
  refine (zr_iload (n := 4) (x := zi x4) (by decide +kernel) rfl).trans ?_
  refine (zr_ifeq (off := 18) (a := x4) (t := 42) (by decide +kernel) rfl).trans (zif_ct (fun _ => ?_) (fun _ => ?_))
  · rfl
  · refine (zr_iload_n (n := 3) (x := zi x3) (by decide +kernel) rfl).trans ?_
    refine (zr_aload_n (n := 0) (x := 430) (by decide +kernel) rfl).trans ?_
    refine (zr_getI (i := 149) (c := 12) (k := 10) (by decide +kernel) (by decide +kernel) rfl (by decide +kernel)).trans ?_
    exact zr_cS (i := 145) (z := 147) (w := 0) (t := [.int (zi (V 430 10)), .int (zi x3)]) (rest := [.ref 430]) (L := [.int (zi x3), .int (zi (V 430 10))]) (pc1 := 35) (by decide +kernel) (by decide +kernel) (n := 2) (r := 1) rfl rfl rfl (by decide +kernel) rfl rfl
theorem ze_181_35 {V : zVt} {J : zJt} {d : Nat → Nat → UInt64} (x1 : Int) (x2 : Int) (x3 : Int) (x4 : Int) (s1 : Int) : zGo false 181 35 [.ref 430, .int (zi x1), .int (zi x2), .int (zi x3), .int (zi x4)] [.int (zi s1), .ref 430] (zm V J d) =
    (if qw s1 = 0 then zGo false 181 42 [.ref 430, .int (zi x1), .int (zi x2), .int (zi x3), .int (zi x4)] [.ref 430] (zm V J d) else zGo false 181 43 [.ref 430, .int (zi x1), .int (zi x2), .int (zi x3), .int (zi x4)] [.int (zi (1)), .ref 430] (zm V J d)) := by
  refine (zr_ifeq (off := 7) (a := s1) (t := 42) (by decide +kernel) rfl).trans (zif_ct (fun _ => ?_) (fun _ => ?_))
  · rfl
  · refine (zr_iconst (n := 1) (by decide +kernel)).trans ?_
    refine (zr_goto (off := 4) (t := 43) (by decide +kernel) rfl).trans ?_
    rfl
theorem ze_181_42 {V : zVt} {J : zJt} {d : Nat → Nat → UInt64} (x1 : Int) (x2 : Int) (x3 : Int) (x4 : Int) : zGo false 181 42 [.ref 430, .int (zi x1), .int (zi x2), .int (zi x3), .int (zi x4)] [.ref 430] (zm V J d) =
    zGo false 181 43 [.ref 430, .int (zi x1), .int (zi x2), .int (zi x3), .int (zi x4)] [.int (zi (0)), .ref 430] (zm V J d) := by
  refine (zr_iconst (n := 0) (by decide +kernel)).trans ?_
  rfl
theorem ze_181_43 {V : zVt} {J : zJt} {d : Nat → Nat → UInt64} (x1 : Int) (x2 : Int) (x3 : Int) (x4 : Int) (s1 : Int) : zGo false 181 43 [.ref 430, .int (zi x1), .int (zi x2), .int (zi x3), .int (zi x4)] [.int (zi s1), .ref 430] (zm V J d) =
    (zGo false 150 0 [.ref 430, .int (zi s1), .int (zi (1)), .int (zi (1))] [] (zm V J d)).bind (zGor false 181 48 [.ref 430, .int (zi x1), .int (zi x2), .int (zi x3), .int (zi x4)] []) := by
  refine (zr_iconst (n := 1) (by decide +kernel)).trans ?_
  refine (zr_iconst (n := 1) (by decide +kernel)).trans ?_
  exact zr_cV (i := 289) (z := 150) (w := 0) (o := 430) (t := [.int (zi (1)), .int (zi (1)), .int (zi s1)]) (rest := []) (L := [.ref 430, .int (zi s1), .int (zi (1)), .int (zi (1))]) (pc1 := 48) (by decide +kernel) (by decide +kernel) rfl (n := 3) (r := 0) rfl rfl rfl (by decide +kernel) rfl rfl
theorem ze_181_48 {V : zVt} {J : zJt} {d : Nat → Nat → UInt64} (x1 : Int) (x2 : Int) (x3 : Int) (x4 : Int) (s0 : Int) : zGo false 181 48 [.ref 430, .int (zi x1), .int (zi x2), .int (zi x3), .int (zi x4)] [.int (zi s0)] (zm V J d) =
    (if qw s0 = 0 then zGo false 181 61 [.ref 430, .int (zi x1), .int (zi x2), .int (zi x3), .int (zi x4)] [.int (zi (0))] (zm V J d) else zck (0 ≤ qw x3 ∧ qw x3 < (60 : Nat)) (zGo false 181 61 [.ref 430, .int (zi x1), .int (zi x2), .int (zi x3), .int (zi x4)] [.int (zi (V 433 (qw x3)))] (zm V J d))) := by
  refine (zr_ifeq (off := 12) (a := s0) (t := 60) (by decide +kernel) rfl).trans (zif_ct (fun _ => ?_) (fun _ => ?_))
  · refine (zr_iconst (n := 0) (by decide +kernel)).trans ?_
    rfl
  · refine (zr_aload_n (n := 0) (x := 430) (by decide +kernel) rfl).trans ?_
    refine (zr_getR (i := 16) (c := 12) (k := 2) (r := 433) (by decide +kernel) (by decide +kernel) rfl (by decide +kernel) (zR0_f (o := 430) (c := 12) (n := 0) (k := 2) (j := 3) rfl (by decide) rfl)).trans ?_
    refine (zr_iload_n (n := 3) (x := zi x3) (by decide +kernel) rfl).trans ?_
    refine (zr_iald (n := 60) (e := x3) (by decide +kernel) rfl).trans (zck_ct fun _ => ?_)
    refine (zr_goto (off := 4) (t := 61) (by decide +kernel) rfl).trans ?_
    rfl
theorem ze_181_61 {V : zVt} {J : zJt} {d : Nat → Nat → UInt64} (x1 : Int) (x2 : Int) (x3 : Int) (x4 : Int) (s0 : Int) : zGo false 181 61 [.ref 430, .int (zi x1), .int (zi x2), .int (zi x3), .int (zi x4)] [.int (zi s0)] (zm V J d) =
    some (.inl (some (.int (zi s0))), zm V J d) := by
  exact zr_iret (a := s0) (by decide +kernel) rfl
/-! PartSongDeskModel bars (II)I -/
theorem ze_182_0 {V : zVt} {J : zJt} {d : Nat → Nat → UInt64} (x1 : Int) (x2 : Int) : zGo false 182 0 [.ref 430, .int (zi x1), .int (zi x2)] [] (zm V J d) =
    (zGo false 146 0 [.int (zi x1), .int (zi x2)] [] (zm V J d)).bind (zGor false 182 6 [.ref 430, .int (zi x1), .int (zi x2)] [.ref 430]) := by
  refine (zr_aload_n (n := 0) (x := 430) (by decide +kernel) rfl).trans ?_
  refine (zr_iload_n (n := 1) (x := zi x1) (by decide +kernel) rfl).trans ?_
  refine (zr_iload_n (n := 2) (x := zi x2) (by decide +kernel) rfl).trans ?_
  exact zr_cS (i := 282) (z := 146) (w := 0) (t := [.int (zi x2), .int (zi x1)]) (rest := [.ref 430]) (L := [.int (zi x1), .int (zi x2)]) (pc1 := 6) (by decide +kernel) (by decide +kernel) (n := 2) (r := 1) rfl rfl rfl (by decide +kernel) rfl rfl
theorem ze_182_6 {V : zVt} {J : zJt} {d : Nat → Nat → UInt64} (x1 : Int) (x2 : Int) (s1 : Int) : zGo false 182 6 [.ref 430, .int (zi x1), .int (zi x2)] [.int (zi s1), .ref 430] (zm V J d) =
    (zGo false 150 0 [.ref 430, .int (zi s1), .int (zi (1)), .int (zi (1))] [] (zm V J d)).bind (zGor false 182 11 [.ref 430, .int (zi x1), .int (zi x2)] []) := by
  refine (zr_iconst (n := 1) (by decide +kernel)).trans ?_
  refine (zr_iconst (n := 1) (by decide +kernel)).trans ?_
  exact zr_cV (i := 289) (z := 150) (w := 0) (o := 430) (t := [.int (zi (1)), .int (zi (1)), .int (zi s1)]) (rest := []) (L := [.ref 430, .int (zi s1), .int (zi (1)), .int (zi (1))]) (pc1 := 11) (by decide +kernel) (by decide +kernel) rfl (n := 3) (r := 0) rfl rfl rfl (by decide +kernel) rfl rfl
theorem ze_182_11 {V : zVt} {J : zJt} {d : Nat → Nat → UInt64} (x1 : Int) (x2 : Int) (s0 : Int) : zGo false 182 11 [.ref 430, .int (zi x1), .int (zi x2)] [.int (zi s0)] (zm V J d) =
    (if qw s0 ≠ 0 then (zGo false 183 0 [.ref 430, .int (zi (0)), .int (zi (((4) * x1) + x2))] [] (zm V J d)).bind (zGor false 182 26 [.ref 430, .int (zi x1), .int (zi x2)] []) else some (.inl (some (.int (zi (0)))), zm V J d)) := by
  refine (zr_ifne (off := 5) (a := s0) (t := 16) (by decide +kernel) rfl).trans (zif_ct (fun _ => ?_) (fun _ => ?_))
  · refine (zr_aload_n (n := 0) (x := 430) (by decide +kernel) rfl).trans ?_
    refine (zr_iconst (n := 0) (by decide +kernel)).trans ?_
    refine (zr_iconst (n := 4) (by decide +kernel)).trans ?_
    refine (zr_iload_n (n := 1) (x := zi x1) (by decide +kernel) rfl).trans ?_
    refine (zr_imul (a := (4)) (b := x1) (by decide +kernel)).trans ?_
    refine (zr_iload_n (n := 2) (x := zi x2) (by decide +kernel) rfl).trans ?_
    refine (zr_iadd (a := ((4) * x1)) (b := x2) (by decide +kernel)).trans ?_
    exact zr_cV (i := 293) (z := 183) (w := 0) (o := 430) (t := [.int (zi (((4) * x1) + x2)), .int (zi (0))]) (rest := []) (L := [.ref 430, .int (zi (0)), .int (zi (((4) * x1) + x2))]) (pc1 := 26) (by decide +kernel) (by decide +kernel) rfl (n := 2) (r := 0) rfl rfl rfl (by decide +kernel) rfl rfl
  · refine (zr_iconst (n := 0) (by decide +kernel)).trans ?_
    exact zr_iret (a := (0)) (by decide +kernel) rfl
theorem ze_182_26 {V : zVt} {J : zJt} {d : Nat → Nat → UInt64} (x1 : Int) (x2 : Int) (s0 : Int) : zGo false 182 26 [.ref 430, .int (zi x1), .int (zi x2)] [.int (zi s0)] (zm V J d) =
    (if qw s0 ≠ 0 then zGo false 182 39 [.ref 430, .int (zi x1), .int (zi x2)] [.int (zi (-1))] (zm V J d) else zck (0 ≤ qw (0) ∧ qw (0) < (5 : Nat)) (zGo false 182 39 [.ref 430, .int (zi x1), .int (zi x2)] [.int (zi (V 449 (qw (0))))] (zm V J d))) := by
  refine (zr_ifne (off := 12) (a := s0) (t := 38) (by decide +kernel) rfl).trans (zif_ct (fun _ => ?_) (fun _ => ?_))
  · refine (zr_iconst (n := -1) (by decide +kernel)).trans ?_
    rfl
  · refine (zr_aload_n (n := 0) (x := 430) (by decide +kernel) rfl).trans ?_
    refine (zr_getR (i := 65) (c := 12) (k := 30) (r := 449) (by decide +kernel) (by decide +kernel) rfl (by decide +kernel) (zR0_f (o := 430) (c := 12) (n := 0) (k := 30) (j := 19) rfl (by decide) rfl)).trans ?_
    refine (zr_iconst (n := 0) (by decide +kernel)).trans ?_
    refine (zr_iald (n := 5) (e := (0)) (by decide +kernel) rfl).trans (zck_ct fun _ => ?_)
    refine (zr_goto (off := 4) (t := 39) (by decide +kernel) rfl).trans ?_
    rfl
theorem ze_182_39 {V : zVt} {J : zJt} {d : Nat → Nat → UInt64} (x1 : Int) (x2 : Int) (s0 : Int) : zGo false 182 39 [.ref 430, .int (zi x1), .int (zi x2)] [.int (zi s0)] (zm V J d) =
    some (.inl (some (.int (zi s0))), zm V J d) := by
  exact zr_iret (a := s0) (by decide +kernel) rfl
/-! PartSongDeskModel libraryMusic (II)I -/
theorem ze_183_0 {V : zVt} {J : zJt} {d : Nat → Nat → UInt64} (x1 : Int) (x2 : Int) : zGo false 183 0 [.ref 430, .int (zi x1), .int (zi x2)] [] (zm V J d) =
    (zGo false 153 0 [.ref 430, .int (zi x1), .int (zi x2), .int (zi ((40) + x2))] [] (zm V J d)).bind (zGor false 183 10 [.ref 430, .int (zi x1), .int (zi x2)] []) := by
  refine (zr_aload_n (n := 0) (x := 430) (by decide +kernel) rfl).trans ?_
  refine (zr_iload_n (n := 1) (x := zi x1) (by decide +kernel) rfl).trans ?_
  refine (zr_iload_n (n := 2) (x := zi x2) (by decide +kernel) rfl).trans ?_
  refine (zr_bipush (n := 40) (by decide +kernel) rfl).trans ?_
  refine (zr_iload_n (n := 2) (x := zi x2) (by decide +kernel) rfl).trans ?_
  refine (zr_iadd (a := (40)) (b := x2) (by decide +kernel)).trans ?_
  exact zr_cV (i := 274) (z := 153) (w := 0) (o := 430) (t := [.int (zi ((40) + x2)), .int (zi x2), .int (zi x1)]) (rest := []) (L := [.ref 430, .int (zi x1), .int (zi x2), .int (zi ((40) + x2))]) (pc1 := 10) (by decide +kernel) (by decide +kernel) rfl (n := 3) (r := 0) rfl rfl rfl (by decide +kernel) rfl rfl
theorem ze_183_10 {V : zVt} {J : zJt} {d : Nat → Nat → UInt64} (x1 : Int) (x2 : Int) (s0 : Int) : zGo false 183 10 [.ref 430, .int (zi x1), .int (zi x2)] [.int (zi s0)] (zm V J d) =
    some (.inl (some (.int (zi s0))), zm V J d) := by
  exact zr_iret (a := s0) (by decide +kernel) rfl
/-! PartSongDeskModel pitch (IIII)I -/
theorem ze_184_0 {V : zVt} {J : zJt} {d : Nat → Nat → UInt64} (x1 : Int) (x2 : Int) (x3 : Int) (x4 : Int) : zGo false 184 0 [.ref 430, .int (zi x1), .int (zi x2), .int (zi x3), .int (zi x4), .null, .null] [] (zm V J d) =
    (zGo false 146 0 [.int (zi x1), .int (zi x2)] [] (zm V J d)).bind (zGor false 184 5 [.ref 430, .int (zi x1), .int (zi x2), .int (zi x3), .int (zi x4), .null, .null] []) := by
  refine (zr_iload_n (n := 1) (x := zi x1) (by decide +kernel) rfl).trans ?_
  refine (zr_iload_n (n := 2) (x := zi x2) (by decide +kernel) rfl).trans ?_
  exact zr_cS (i := 282) (z := 146) (w := 0) (t := [.int (zi x2), .int (zi x1)]) (rest := []) (L := [.int (zi x1), .int (zi x2)]) (pc1 := 5) (by decide +kernel) (by decide +kernel) (n := 2) (r := 0) rfl rfl rfl (by decide +kernel) rfl rfl
theorem ze_184_5 {V : zVt} {J : zJt} {d : Nat → Nat → UInt64} (x1 : Int) (x2 : Int) (x3 : Int) (x4 : Int) (s0 : Int) : zGo false 184 5 [.ref 430, .int (zi x1), .int (zi x2), .int (zi x3), .int (zi x4), .null, .null] [.int (zi s0)] (zm V J d) =
    (if qw s0 = 0 then zGo false 184 23 [.ref 430, .int (zi x1), .int (zi x2), .int (zi x3), .int (zi x4), .int (zi s0), .null] [] (zm V J d) else (zGo false 183 0 [.ref 430, .int (zi (0)), .int (zi (((4) * x1) + x2))] [] (zm V J d)).bind (zGor false 184 22 [.ref 430, .int (zi x1), .int (zi x2), .int (zi x3), .int (zi x4), .int (zi s0), .null] [])) := by
  refine (zr_istore (n := 5) (l1 := [.ref 430, .int (zi x1), .int (zi x2), .int (zi x3), .int (zi x4), .int (zi s0), .null]) (by decide +kernel) rfl).trans ?_
  refine (zr_iload (n := 5) (x := zi s0) (by decide +kernel) rfl).trans ?_
  refine (zr_ifeq (off := 14) (a := s0) (t := 23) (by decide +kernel) rfl).trans (zif_ct (fun _ => ?_) (fun _ => ?_))
  · rfl
  · refine (zr_aload_n (n := 0) (x := 430) (by decide +kernel) rfl).trans ?_
    refine (zr_iconst (n := 0) (by decide +kernel)).trans ?_
    refine (zr_iconst (n := 4) (by decide +kernel)).trans ?_
    refine (zr_iload_n (n := 1) (x := zi x1) (by decide +kernel) rfl).trans ?_
    refine (zr_imul (a := (4)) (b := x1) (by decide +kernel)).trans ?_
    refine (zr_iload_n (n := 2) (x := zi x2) (by decide +kernel) rfl).trans ?_
    refine (zr_iadd (a := ((4) * x1)) (b := x2) (by decide +kernel)).trans ?_
    exact zr_cV (i := 293) (z := 183) (w := 0) (o := 430) (t := [.int (zi (((4) * x1) + x2)), .int (zi (0))]) (rest := []) (L := [.ref 430, .int (zi (0)), .int (zi (((4) * x1) + x2))]) (pc1 := 22) (by decide +kernel) (by decide +kernel) rfl (n := 2) (r := 0) rfl rfl rfl (by decide +kernel) rfl rfl
theorem ze_184_22 {V : zVt} {J : zJt} {d : Nat → Nat → UInt64} (x1 : Int) (x2 : Int) (x3 : Int) (x4 : Int) (x5 : Int) (s0 : Int) : zGo false 184 22 [.ref 430, .int (zi x1), .int (zi x2), .int (zi x3), .int (zi x4), .int (zi x5), .null] [.int (zi s0)] (zm V J d) =
    zGo false 184 23 [.ref 430, .int (zi x1), .int (zi x2), .int (zi x3), .int (zi x4), .int (zi x5), .null] [] (zm V J d) := by
  refine (zr_pop (by decide +kernel) rfl).trans ?_
  rfl
theorem ze_184_23 {V : zVt} {J : zJt} {d : Nat → Nat → UInt64} (x1 : Int) (x2 : Int) (x3 : Int) (x4 : Int) (x5 : Int) : zGo false 184 23 [.ref 430, .int (zi x1), .int (zi x2), .int (zi x3), .int (zi x4), .int (zi x5), .null] [] (zm V J d) =
    (if qw x5 = 0 then zGo false 184 59 [.ref 430, .int (zi x1), .int (zi x2), .int (zi x3), .int (zi x4), .int (zi x5), .null] [] (zm V J d) else zck (0 ≤ qw (0) ∧ qw (0) < (5 : Nat)) ((zGo false 147 0 [.int (zi x3), .int (zi (V 449 (qw (0))))] [] (zm V J d)).bind (zGor false 184 38 [.ref 430, .int (zi x1), .int (zi x2), .int (zi x3), .int (zi x4), .int (zi x5), .null] []))) := by
  refine (zr_iload (n := 5) (x := zi x5) (by decide +kernel) rfl).trans ?_
  refine (zr_ifeq (off := 34) (a := x5) (t := 59) (by decide +kernel) rfl).trans (zif_ct (fun _ => ?_) (fun _ => ?_))
  · rfl
  · refine (zr_iload_n (n := 3) (x := zi x3) (by decide +kernel) rfl).trans ?_
    refine (zr_aload_n (n := 0) (x := 430) (by decide +kernel) rfl).trans ?_
    refine (zr_getR (i := 65) (c := 12) (k := 30) (r := 449) (by decide +kernel) (by decide +kernel) rfl (by decide +kernel) (zR0_f (o := 430) (c := 12) (n := 0) (k := 30) (j := 19) rfl (by decide) rfl)).trans ?_
    refine (zr_iconst (n := 0) (by decide +kernel)).trans ?_
    refine (zr_iald (n := 5) (e := (0)) (by decide +kernel) rfl).trans (zck_ct fun _ => ?_)
    exact zr_cS (i := 145) (z := 147) (w := 0) (t := [.int (zi (V 449 (qw (0)))), .int (zi x3)]) (rest := []) (L := [.int (zi x3), .int (zi (V 449 (qw (0))))]) (pc1 := 38) (by decide +kernel) (by decide +kernel) (n := 2) (r := 0) rfl rfl rfl (by decide +kernel) rfl rfl
theorem ze_184_38 {V : zVt} {J : zJt} {d : Nat → Nat → UInt64} (x1 : Int) (x2 : Int) (x3 : Int) (x4 : Int) (x5 : Int) (s0 : Int) : zGo false 184 38 [.ref 430, .int (zi x1), .int (zi x2), .int (zi x3), .int (zi x4), .int (zi x5), .null] [.int (zi s0)] (zm V J d) =
    (if qw s0 = 0 then zGo false 184 59 [.ref 430, .int (zi x1), .int (zi x2), .int (zi x3), .int (zi x4), .int (zi x5), .null] [] (zm V J d) else zck (0 ≤ qw (0) ∧ qw (0) < (5 : Nat)) ((zGo false 147 0 [.int (zi x4), .int (zi (V 450 (qw (0))))] [] (zm V J d)).bind (zGor false 184 52 [.ref 430, .int (zi x1), .int (zi x2), .int (zi x3), .int (zi x4), .int (zi x5), .null] []))) := by
  refine (zr_ifeq (off := 21) (a := s0) (t := 59) (by decide +kernel) rfl).trans (zif_ct (fun _ => ?_) (fun _ => ?_))
  · rfl
  · refine (zr_iload (n := 4) (x := zi x4) (by decide +kernel) rfl).trans ?_
    refine (zr_aload_n (n := 0) (x := 430) (by decide +kernel) rfl).trans ?_
    refine (zr_getR (i := 68) (c := 12) (k := 31) (r := 450) (by decide +kernel) (by decide +kernel) rfl (by decide +kernel) (zR0_f (o := 430) (c := 12) (n := 0) (k := 31) (j := 20) rfl (by decide) rfl)).trans ?_
    refine (zr_iconst (n := 0) (by decide +kernel)).trans ?_
    refine (zr_iald (n := 5) (e := (0)) (by decide +kernel) rfl).trans (zck_ct fun _ => ?_)
    exact zr_cS (i := 145) (z := 147) (w := 0) (t := [.int (zi (V 450 (qw (0)))), .int (zi x4)]) (rest := []) (L := [.int (zi x4), .int (zi (V 450 (qw (0))))]) (pc1 := 52) (by decide +kernel) (by decide +kernel) (n := 2) (r := 0) rfl rfl rfl (by decide +kernel) rfl rfl
theorem ze_184_52 {V : zVt} {J : zJt} {d : Nat → Nat → UInt64} (x1 : Int) (x2 : Int) (x3 : Int) (x4 : Int) (x5 : Int) (s0 : Int) : zGo false 184 52 [.ref 430, .int (zi x1), .int (zi x2), .int (zi x3), .int (zi x4), .int (zi x5), .null] [.int (zi s0)] (zm V J d) =
    (if qw s0 = 0 then zGo false 184 59 [.ref 430, .int (zi x1), .int (zi x2), .int (zi x3), .int (zi x4), .int (zi x5), .null] [] (zm V J d) else zGo false 184 60 [.ref 430, .int (zi x1), .int (zi x2), .int (zi x3), .int (zi x4), .int (zi x5), .null] [.int (zi (1))] (zm V J d)) := by
  refine (zr_ifeq (off := 7) (a := s0) (t := 59) (by decide +kernel) rfl).trans (zif_ct (fun _ => ?_) (fun _ => ?_))
  · rfl
  · refine (zr_iconst (n := 1) (by decide +kernel)).trans ?_
    refine (zr_goto (off := 4) (t := 60) (by decide +kernel) rfl).trans ?_
    rfl
theorem ze_184_59 {V : zVt} {J : zJt} {d : Nat → Nat → UInt64} (x1 : Int) (x2 : Int) (x3 : Int) (x4 : Int) (x5 : Int) : zGo false 184 59 [.ref 430, .int (zi x1), .int (zi x2), .int (zi x3), .int (zi x4), .int (zi x5), .null] [] (zm V J d) =
    zGo false 184 60 [.ref 430, .int (zi x1), .int (zi x2), .int (zi x3), .int (zi x4), .int (zi x5), .null] [.int (zi (0))] (zm V J d) := by
  refine (zr_iconst (n := 0) (by decide +kernel)).trans ?_
  rfl
theorem ze_184_60 {V : zVt} {J : zJt} {d : Nat → Nat → UInt64} (x1 : Int) (x2 : Int) (x3 : Int) (x4 : Int) (x5 : Int) (s0 : Int) : zGo false 184 60 [.ref 430, .int (zi x1), .int (zi x2), .int (zi x3), .int (zi x4), .int (zi x5), .null] [.int (zi s0)] (zm V J d) =
    (zGo false 150 0 [.ref 430, .int (zi s0), .int (zi (1)), .int (zi (1))] [] (zm V J d)).bind (zGor false 184 70 [.ref 430, .int (zi x1), .int (zi x2), .int (zi x3), .int (zi x4), .int (zi x5), .int (zi s0)] []) := by
  refine (zr_istore (n := 6) (l1 := [.ref 430, .int (zi x1), .int (zi x2), .int (zi x3), .int (zi x4), .int (zi x5), .int (zi s0)]) (by decide +kernel) rfl).trans ?_
  refine (zr_aload_n (n := 0) (x := 430) (by decide +kernel) rfl).trans ?_
  refine (zr_iload (n := 6) (x := zi s0) (by decide +kernel) rfl).trans ?_
  refine (zr_iconst (n := 1) (by decide +kernel)).trans ?_
  refine (zr_iconst (n := 1) (by decide +kernel)).trans ?_
  exact zr_cV (i := 289) (z := 150) (w := 0) (o := 430) (t := [.int (zi (1)), .int (zi (1)), .int (zi s0)]) (rest := []) (L := [.ref 430, .int (zi s0), .int (zi (1)), .int (zi (1))]) (pc1 := 70) (by decide +kernel) (by decide +kernel) rfl (n := 3) (r := 0) rfl rfl rfl (by decide +kernel) rfl rfl
theorem ze_184_70 {V : zVt} {J : zJt} {d : Nat → Nat → UInt64} (x1 : Int) (x2 : Int) (x3 : Int) (x4 : Int) (x5 : Int) (x6 : Int) (s0 : Int) : zGo false 184 70 [.ref 430, .int (zi x1), .int (zi x2), .int (zi x3), .int (zi x4), .int (zi x5), .int (zi x6)] [.int (zi s0)] (zm V J d) =
    (if qw s0 = 0 then zGo false 184 85 [.ref 430, .int (zi x1), .int (zi x2), .int (zi x3), .int (zi x4), .int (zi x5), .int (zi x6)] [.int (zi (0))] (zm V J d) else (zGo false 185 0 [.ref 430, .int (zi (0)), .int (zi x3), .int (zi x4), .null, .null, .null] [] (zm V J d)).bind (zGor false 184 81 [.ref 430, .int (zi x1), .int (zi x2), .int (zi x3), .int (zi x4), .int (zi x5), .int (zi x6)] [])) := by
  refine (zr_ifeq (off := 14) (a := s0) (t := 84) (by decide +kernel) rfl).trans (zif_ct (fun _ => ?_) (fun _ => ?_))
  · refine (zr_iconst (n := 0) (by decide +kernel)).trans ?_
    rfl
  · refine (zr_aload_n (n := 0) (x := 430) (by decide +kernel) rfl).trans ?_
    refine (zr_iconst (n := 0) (by decide +kernel)).trans ?_
    refine (zr_iload_n (n := 3) (x := zi x3) (by decide +kernel) rfl).trans ?_
    refine (zr_iload (n := 4) (x := zi x4) (by decide +kernel) rfl).trans ?_
    exact zr_cV (i := 296) (z := 185) (w := 0) (o := 430) (t := [.int (zi x4), .int (zi x3), .int (zi (0))]) (rest := []) (L := [.ref 430, .int (zi (0)), .int (zi x3), .int (zi x4), .null, .null, .null]) (pc1 := 81) (by decide +kernel) (by decide +kernel) rfl (n := 3) (r := 0) rfl rfl rfl (by decide +kernel) rfl rfl
theorem ze_184_81 {V : zVt} {J : zJt} {d : Nat → Nat → UInt64} (x1 : Int) (x2 : Int) (x3 : Int) (x4 : Int) (x5 : Int) (x6 : Int) (s0 : Int) : zGo false 184 81 [.ref 430, .int (zi x1), .int (zi x2), .int (zi x3), .int (zi x4), .int (zi x5), .int (zi x6)] [.int (zi s0)] (zm V J d) =
    zGo false 184 85 [.ref 430, .int (zi x1), .int (zi x2), .int (zi x3), .int (zi x4), .int (zi x5), .int (zi x6)] [.int (zi s0)] (zm V J d) := by
  refine (zr_goto (off := 4) (t := 85) (by decide +kernel) rfl).trans ?_
  rfl
theorem ze_184_85 {V : zVt} {J : zJt} {d : Nat → Nat → UInt64} (x1 : Int) (x2 : Int) (x3 : Int) (x4 : Int) (x5 : Int) (x6 : Int) (s0 : Int) : zGo false 184 85 [.ref 430, .int (zi x1), .int (zi x2), .int (zi x3), .int (zi x4), .int (zi x5), .int (zi x6)] [.int (zi s0)] (zm V J d) =
    some (.inl (some (.int (zi s0))), zm V J d) := by
  exact zr_iret (a := s0) (by decide +kernel) rfl
/-! PartSongDeskModel pitchAt (III)I -/
theorem ze_185_0 {V : zVt} {J : zJt} {d : Nat → Nat → UInt64} (x1 : Int) (x2 : Int) (x3 : Int) : zGo false 185 0 [.ref 430, .int (zi x1), .int (zi x2), .int (zi x3), .null, .null, .null] [] (zm V J d) =
    (if qw (8) ≤ qw x3 then zck (0 ≤ qw (((40) * x1) + x2) ∧ qw (((40) * x1) + x2) < (200 : Nat)) (zGo false 185 44 [.ref 430, .int (zi x1), .int (zi x2), .int (zi x3), .null, .null, .null] [.long ((J 452 (qw (((40) * x1) + x2))) >>> ((zi ((8) * (x3 - (8)))).toInt64 &&& 63))] (zm V J d)) else zck (0 ≤ qw (((40) * x1) + x2) ∧ qw (((40) * x1) + x2) < (200 : Nat)) (zGo false 185 44 [.ref 430, .int (zi x1), .int (zi x2), .int (zi x3), .null, .null, .null] [.long ((J 451 (qw (((40) * x1) + x2))) >>> ((zi ((8) * x3)).toInt64 &&& 63))] (zm V J d))) := by
  refine (zr_iload_n (n := 3) (x := zi x3) (by decide +kernel) rfl).trans ?_
  refine (zr_bipush (n := 8) (by decide +kernel) rfl).trans ?_
  refine (zr_cge (off := 22) (a := x3) (b := (8)) (t := 25) (by decide +kernel) rfl).trans (zif_ct (fun _ => ?_) (fun _ => ?_))
  · refine (zr_aload_n (n := 0) (x := 430) (by decide +kernel) rfl).trans ?_
    refine (zr_getR (i := 75) (c := 12) (k := 33) (r := 452) (by decide +kernel) (by decide +kernel) rfl (by decide +kernel) (zR0_f (o := 430) (c := 12) (n := 0) (k := 33) (j := 22) rfl (by decide) rfl)).trans ?_
    refine (zr_bipush (n := 40) (by decide +kernel) rfl).trans ?_
    refine (zr_iload_n (n := 1) (x := zi x1) (by decide +kernel) rfl).trans ?_
    refine (zr_imul (a := (40)) (b := x1) (by decide +kernel)).trans ?_
    refine (zr_iload_n (n := 2) (x := zi x2) (by decide +kernel) rfl).trans ?_
    refine (zr_iadd (a := ((40) * x1)) (b := x2) (by decide +kernel)).trans ?_
    refine (zr_lald (n := 200) (e := (((40) * x1) + x2)) (by decide +kernel) rfl).trans (zck_ct fun _ => ?_)
    refine (zr_bipush (n := 8) (by decide +kernel) rfl).trans ?_
    refine (zr_iload_n (n := 3) (x := zi x3) (by decide +kernel) rfl).trans ?_
    refine (zr_bipush (n := 8) (by decide +kernel) rfl).trans ?_
    refine (zr_isub (a := x3) (b := (8)) (by decide +kernel)).trans ?_
    refine (zr_imul (a := (8)) (b := (x3 - (8))) (by decide +kernel)).trans ?_
    refine (zr_lshr (b := ((8) * (x3 - (8)))) (by decide +kernel)).trans ?_
    rfl
  · refine (zr_aload_n (n := 0) (x := 430) (by decide +kernel) rfl).trans ?_
    refine (zr_getR (i := 71) (c := 12) (k := 32) (r := 451) (by decide +kernel) (by decide +kernel) rfl (by decide +kernel) (zR0_f (o := 430) (c := 12) (n := 0) (k := 32) (j := 21) rfl (by decide) rfl)).trans ?_
    refine (zr_bipush (n := 40) (by decide +kernel) rfl).trans ?_
    refine (zr_iload_n (n := 1) (x := zi x1) (by decide +kernel) rfl).trans ?_
    refine (zr_imul (a := (40)) (b := x1) (by decide +kernel)).trans ?_
    refine (zr_iload_n (n := 2) (x := zi x2) (by decide +kernel) rfl).trans ?_
    refine (zr_iadd (a := ((40) * x1)) (b := x2) (by decide +kernel)).trans ?_
    refine (zr_lald (n := 200) (e := (((40) * x1) + x2)) (by decide +kernel) rfl).trans (zck_ct fun _ => ?_)
    refine (zr_bipush (n := 8) (by decide +kernel) rfl).trans ?_
    refine (zr_iload_n (n := 3) (x := zi x3) (by decide +kernel) rfl).trans ?_
    refine (zr_imul (a := (8)) (b := x3) (by decide +kernel)).trans ?_
    refine (zr_lshr (b := ((8) * x3)) (by decide +kernel)).trans ?_
    refine (zr_goto (off := 22) (t := 44) (by decide +kernel) rfl).trans ?_
    rfl
theorem ze_185_44 {V : zVt} {J : zJt} {d : Nat → Nat → UInt64} (x1 : Int) (x2 : Int) (x3 : Int) (s0 : Int64) : zGo false 185 44 [.ref 430, .int (zi x1), .int (zi x2), .int (zi x3), .null, .null, .null] [.long s0] (zm V J d) =
    (if qw ((s0 &&& (Int64.ofNat 255))).toInt32.toInt ≠ 0 then zGo false 185 69 [.ref 430, .int (zi x1), .int (zi x2), .int (zi x3), .long s0, .null, .int (zi ((s0 &&& (Int64.ofNat 255))).toInt32.toInt)] [.int (zi (((s0 &&& (Int64.ofNat 255))).toInt32.toInt - (2)))] (zm V J d) else zGo false 185 69 [.ref 430, .int (zi x1), .int (zi x2), .int (zi x3), .long s0, .null, .int (zi ((s0 &&& (Int64.ofNat 255))).toInt32.toInt)] [.int (zi (-2))] (zm V J d)) := by
  refine (zr_lstore (n := 4) (l1 := [.ref 430, .int (zi x1), .int (zi x2), .int (zi x3), .long s0, .null, .null]) (by decide +kernel) rfl).trans ?_
  refine (zr_lload (n := 4) (x := s0) (by decide +kernel) rfl).trans ?_
  refine (zr_ldc2 (i := 277) (v := 255) (w := 0) (by decide +kernel) (by decide +kernel)).trans ?_
  refine (zr_land (by decide +kernel)).trans ?_
  refine (zr_l2i (by decide +kernel)).trans ?_
  refine (zr_istore (n := 6) (l1 := [.ref 430, .int (zi x1), .int (zi x2), .int (zi x3), .long s0, .null, .int (zi ((s0 &&& (Int64.ofNat 255))).toInt32.toInt)]) (by decide +kernel) rfl).trans ?_
  refine (zr_iload (n := 6) (x := zi ((s0 &&& (Int64.ofNat 255))).toInt32.toInt) (by decide +kernel) rfl).trans ?_
  refine (zr_ifne (off := 8) (a := ((s0 &&& (Int64.ofNat 255))).toInt32.toInt) (t := 65) (by decide +kernel) rfl).trans (zif_ct (fun _ => ?_) (fun _ => ?_))
  · refine (zr_iload (n := 6) (x := zi ((s0 &&& (Int64.ofNat 255))).toInt32.toInt) (by decide +kernel) rfl).trans ?_
    refine (zr_iconst (n := 2) (by decide +kernel)).trans ?_
    refine (zr_isub (a := ((s0 &&& (Int64.ofNat 255))).toInt32.toInt) (b := (2)) (by decide +kernel)).trans ?_
    rfl
  · refine (zr_bipush (n := -2) (by decide +kernel) rfl).trans ?_
    refine (zr_goto (off := 7) (t := 69) (by decide +kernel) rfl).trans ?_
    rfl
theorem ze_185_69 {V : zVt} {J : zJt} {d : Nat → Nat → UInt64} (x1 : Int) (x2 : Int) (x3 : Int) (x4 : Int64) (x6 : Int) (s0 : Int) : zGo false 185 69 [.ref 430, .int (zi x1), .int (zi x2), .int (zi x3), .long x4, .null, .int (zi x6)] [.int (zi s0)] (zm V J d) =
    some (.inl (some (.int (zi s0))), zm V J d) := by
  exact zr_iret (a := s0) (by decide +kernel) rfl
