/-! part 23: shapes of the blocks; methods as equations; printed by program (wip/whole/gen/gen_tree.py) -/
theorem zb6_0 {T : Nat} (h : zBk 6 T) : zS0 (T) = (6, 0) := h 0 _ rfl
theorem zb6_1 {T : Nat} (h : zBk 6 T) : zS0 (T + 1) = (15, 160) := h 1 _ rfl
theorem zb6_2 {T : Nat} (h : zBk 6 T) : zS0 (T + 2) = (10, 0) := h 2 _ rfl
theorem zb6_3 {T : Nat} (h : zBk 6 T) : zS0 (T + 3) = (13, 60) := h 3 _ rfl
theorem zb6_4 {T : Nat} (h : zBk 6 T) : zS0 (T + 4) = (13, 60) := h 4 _ rfl
theorem zb6_5 {T : Nat} (h : zBk 6 T) : zS0 (T + 5) = (13, 60) := h 5 _ rfl
theorem zb6_6 {T : Nat} (h : zBk 6 T) : zS0 (T + 6) = (13, 60) := h 6 _ rfl
theorem zb6_7 {T : Nat} (h : zBk 6 T) : zS0 (T + 7) = (13, 60) := h 7 _ rfl
theorem zb6_8 {T : Nat} (h : zBk 6 T) : zS0 (T + 8) = (13, 60) := h 8 _ rfl
theorem zb6_9 {T : Nat} (h : zBk 6 T) : zS0 (T + 9) = (14, 60) := h 9 _ rfl
theorem zb6_10 {T : Nat} (h : zBk 6 T) : zS0 (T + 10) = (13, 60) := h 10 _ rfl
theorem zb6_11 {T : Nat} (h : zBk 6 T) : zS0 (T + 11) = (4, 0) := h 11 _ rfl
theorem zb6_12 {T : Nat} (h : zBk 6 T) : zS0 (T + 12) = (14, 200) := h 12 _ rfl
theorem zb6_13 {T : Nat} (h : zBk 6 T) : zS0 (T + 13) = (5, 0) := h 13 _ rfl
theorem zb6_14 {T : Nat} (h : zBk 6 T) : zS0 (T + 14) = (16, 80) := h 14 _ rfl
theorem zb10_0 {T : Nat} (h : zBk 10 T) : zS0 (T) = (10, 0) := h 0 _ rfl
theorem zb10_1 {T : Nat} (h : zBk 10 T) : zS0 (T + 1) = (13, 60) := h 1 _ rfl
theorem zb10_2 {T : Nat} (h : zBk 10 T) : zS0 (T + 2) = (13, 60) := h 2 _ rfl
theorem zb10_3 {T : Nat} (h : zBk 10 T) : zS0 (T + 3) = (13, 60) := h 3 _ rfl
theorem zb10_4 {T : Nat} (h : zBk 10 T) : zS0 (T + 4) = (13, 60) := h 4 _ rfl
theorem zb10_5 {T : Nat} (h : zBk 10 T) : zS0 (T + 5) = (13, 60) := h 5 _ rfl
theorem zb10_6 {T : Nat} (h : zBk 10 T) : zS0 (T + 6) = (13, 60) := h 6 _ rfl
theorem zb10_7 {T : Nat} (h : zBk 10 T) : zS0 (T + 7) = (14, 60) := h 7 _ rfl
theorem zb10_8 {T : Nat} (h : zBk 10 T) : zS0 (T + 8) = (13, 60) := h 8 _ rfl
theorem zb4_0 {T : Nat} (h : zBk 4 T) : zS0 (T) = (4, 0) := h 0 _ rfl
theorem zb4_1 {T : Nat} (h : zBk 4 T) : zS0 (T + 1) = (14, 200) := h 1 _ rfl
theorem zb5_0 {T : Nat} (h : zBk 5 T) : zS0 (T) = (5, 0) := h 0 _ rfl
theorem zb5_1 {T : Nat} (h : zBk 5 T) : zS0 (T + 1) = (16, 80) := h 1 _ rfl
theorem zb0_0 {T : Nat} (h : zBk 0 T) : zS0 (T) = (0, 0) := h 0 _ rfl
theorem zb0_1 {T : Nat} (h : zBk 0 T) : zS0 (T + 1) = (4, 0) := h 1 _ rfl
theorem zb0_2 {T : Nat} (h : zBk 0 T) : zS0 (T + 2) = (14, 200) := h 2 _ rfl
theorem zb0_3 {T : Nat} (h : zBk 0 T) : zS0 (T + 3) = (5, 0) := h 3 _ rfl
theorem zb0_4 {T : Nat} (h : zBk 0 T) : zS0 (T + 4) = (16, 80) := h 4 _ rfl
/-! PartSongDeskModel at (II)I -/
theorem ze_155_0 {V : zVt} {J : zJt} {d : Nat → Nat → UInt64} (x1 : Int) (x2 : Int) : zGo false 155 0 [.ref 430, .int (zi x1), .int (zi x2)] [] (zm V J d) =
    zck (0 ≤ qw x1 ∧ qw x1 < (12 : Nat)) ((if qw (V 432 (qw x1)) ≤ qw x2 then zGo false 155 26 [.ref 430, .int (zi x1), .int (zi x2)] [.int (zi (0))] (zm V J d) else zck (0 ≤ qw (((160) * x1) + x2) ∧ qw (((160) * x1) + x2) < (1920 : Nat)) (zGo false 155 26 [.ref 430, .int (zi x1), .int (zi x2)] [.int (zi (V 431 (qw (((160) * x1) + x2))))] (zm V J d)))) := by
  refine (zr_iload_n (n := 2) (x := zi x2) (by decide +kernel) rfl).trans ?_
  refine (zr_aload_n (n := 0) (x := 430) (by decide +kernel) rfl).trans ?_
  refine (zr_getR (i := 13) (c := 12) (k := 1) (r := 432) (by decide +kernel) (by decide +kernel) rfl (by decide +kernel) (zR0_f (o := 430) (c := 12) (n := 0) (k := 1) (j := 2) rfl (by decide) rfl)).trans ?_
  refine (zr_iload_n (n := 1) (x := zi x1) (by decide +kernel) rfl).trans ?_
  refine (zr_iald (n := 12) (e := x1) (by decide +kernel) rfl).trans (zck_ct fun _ => ?_)
  refine (zr_cge (off := 18) (a := x2) (b := (V 432 (qw x1))) (t := 25) (by decide +kernel) rfl).trans (zif_ct (fun _ => ?_) (fun _ => ?_))
  · refine (zr_iconst (n := 0) (by decide +kernel)).trans ?_
    rfl
  · refine (zr_aload_n (n := 0) (x := 430) (by decide +kernel) rfl).trans ?_
    refine (zr_getR (i := 7) (c := 12) (k := 0) (r := 431) (by decide +kernel) (by decide +kernel) rfl (by decide +kernel) (zR0_f (o := 430) (c := 12) (n := 0) (k := 0) (j := 1) rfl (by decide) rfl)).trans ?_
    refine (zr_sipush (n := 160) (by decide +kernel) rfl).trans ?_
    refine (zr_iload_n (n := 1) (x := zi x1) (by decide +kernel) rfl).trans ?_
    refine (zr_imul (a := (160)) (b := x1) (by decide +kernel)).trans ?_
    refine (zr_iload_n (n := 2) (x := zi x2) (by decide +kernel) rfl).trans ?_
    refine (zr_iadd (a := ((160) * x1)) (b := x2) (by decide +kernel)).trans ?_
    refine (zr_iald (n := 1920) (e := (((160) * x1) + x2)) (by decide +kernel) rfl).trans (zck_ct fun _ => ?_)
    refine (zr_goto (off := 4) (t := 26) (by decide +kernel) rfl).trans ?_
    rfl
theorem ze_155_26 {V : zVt} {J : zJt} {d : Nat → Nat → UInt64} (x1 : Int) (x2 : Int) (s0 : Int) : zGo false 155 26 [.ref 430, .int (zi x1), .int (zi x2)] [.int (zi s0)] (zm V J d) =
    some (.inl (some (.int (zi s0))), zm V J d) := by
  exact zr_iret (a := s0) (by decide +kernel) rfl
/-! PartSongDeskModel isFigure (III)Z -/
theorem ze_158_0 {V : zVt} {J : zJt} {d : Nat → Nat → UInt64} (x0 : Int) (x1 : Int) (x2 : Int) : zGo false 158 0 [.int (zi x0), .int (zi x1), .int (zi x2)] [] (zm V J d) =
    (if qw x0 < qw ((48) + x1) then zGo false 158 20 [.int (zi x0), .int (zi x1), .int (zi x2)] [] (zm V J d) else (if qw ((48) + x2) < qw x0 then zGo false 158 20 [.int (zi x0), .int (zi x1), .int (zi x2)] [] (zm V J d) else zGo false 158 21 [.int (zi x0), .int (zi x1), .int (zi x2)] [.int (zi (1))] (zm V J d))) := by
  refine (zr_iload_n (n := 0) (x := zi x0) (by decide +kernel) rfl).trans ?_
  refine (zr_bipush (n := 48) (by decide +kernel) rfl).trans ?_
  refine (zr_iload_n (n := 1) (x := zi x1) (by decide +kernel) rfl).trans ?_
  refine (zr_iadd (a := (48)) (b := x1) (by decide +kernel)).trans ?_
  refine (zr_clt (off := 15) (a := x0) (b := ((48) + x1)) (t := 20) (by decide +kernel) rfl).trans (zif_ct (fun _ => ?_) (fun _ => ?_))
  · rfl
  · refine (zr_iload_n (n := 0) (x := zi x0) (by decide +kernel) rfl).trans ?_
    refine (zr_bipush (n := 48) (by decide +kernel) rfl).trans ?_
    refine (zr_iload_n (n := 2) (x := zi x2) (by decide +kernel) rfl).trans ?_
    refine (zr_iadd (a := (48)) (b := x2) (by decide +kernel)).trans ?_
    refine (zr_cgt (off := 7) (a := x0) (b := ((48) + x2)) (t := 20) (by decide +kernel) rfl).trans (zif_ct (fun _ => ?_) (fun _ => ?_))
    · rfl
    · refine (zr_iconst (n := 1) (by decide +kernel)).trans ?_
      refine (zr_goto (off := 4) (t := 21) (by decide +kernel) rfl).trans ?_
      rfl
theorem ze_158_20 {V : zVt} {J : zJt} {d : Nat → Nat → UInt64} (x0 : Int) (x1 : Int) (x2 : Int) : zGo false 158 20 [.int (zi x0), .int (zi x1), .int (zi x2)] [] (zm V J d) =
    zGo false 158 21 [.int (zi x0), .int (zi x1), .int (zi x2)] [.int (zi (0))] (zm V J d) := by
  refine (zr_iconst (n := 0) (by decide +kernel)).trans ?_
  rfl
theorem ze_158_21 {V : zVt} {J : zJt} {d : Nat → Nat → UInt64} (x0 : Int) (x1 : Int) (x2 : Int) (s0 : Int) : zGo false 158 21 [.int (zi x0), .int (zi x1), .int (zi x2)] [.int (zi s0)] (zm V J d) =
    zck (qw s0 = 0 ∨ qw s0 = 1) (some (.inl (some (.int (zi s0))), zm V J d)) := by
  exact zr_zret (a := s0) (by decide +kernel) rfl
/-! PartSongDeskModel readLength (II)I -/
theorem ze_161_0 {V : zVt} {J : zJt} {d : Nat → Nat → UInt64} (x1 : Int) (x2 : Int) : zGo false 161 0 [.ref 430, .int (zi x1), .int (zi x2), .null] [] (zm V J d) =
    (zGo false 155 0 [.ref 430, .int (zi x1), .int (zi x2)] [] (zm V J d)).bind (zGor false 161 6 [.ref 430, .int (zi x1), .int (zi x2), .null] []) := by
  refine (zr_aload_n (n := 0) (x := 430) (by decide +kernel) rfl).trans ?_
  refine (zr_iload_n (n := 1) (x := zi x1) (by decide +kernel) rfl).trans ?_
  refine (zr_iload_n (n := 2) (x := zi x2) (by decide +kernel) rfl).trans ?_
  exact zr_cV (i := 152) (z := 155) (w := 0) (o := 430) (t := [.int (zi x2), .int (zi x1)]) (rest := []) (L := [.ref 430, .int (zi x1), .int (zi x2)]) (pc1 := 6) (by decide +kernel) (by decide +kernel) rfl (n := 2) (r := 0) rfl rfl rfl (by decide +kernel) rfl rfl
theorem ze_161_6 {V : zVt} {J : zJt} {d : Nat → Nat → UInt64} (x1 : Int) (x2 : Int) (s0 : Int) : zGo false 161 6 [.ref 430, .int (zi x1), .int (zi x2), .null] [.int (zi s0)] (zm V J d) =
    (if qw s0 ≠ qw (119) then (if qw s0 ≠ qw (104) then (if qw s0 ≠ qw (113) then (if qw s0 ≠ qw (101) then (if qw s0 ≠ qw (115) then zGo false 161 61 [.ref 430, .int (zi x1), .int (zi x2), .int (zi s0)] [.int (zi (0)), .ref 430] (zm V J d) else zGo false 161 61 [.ref 430, .int (zi x1), .int (zi x2), .int (zi s0)] [.int (zi (1)), .ref 430] (zm V J d)) else zGo false 161 61 [.ref 430, .int (zi x1), .int (zi x2), .int (zi s0)] [.int (zi (2)), .ref 430] (zm V J d)) else zGo false 161 61 [.ref 430, .int (zi x1), .int (zi x2), .int (zi s0)] [.int (zi (4)), .ref 430] (zm V J d)) else zGo false 161 61 [.ref 430, .int (zi x1), .int (zi x2), .int (zi s0)] [.int (zi (8)), .ref 430] (zm V J d)) else zGo false 161 61 [.ref 430, .int (zi x1), .int (zi x2), .int (zi s0)] [.int (zi (16)), .ref 430] (zm V J d)) := by
  refine (zr_istore_n (n := 3) (l1 := [.ref 430, .int (zi x1), .int (zi x2), .int (zi s0)]) (by decide +kernel) rfl).trans ?_
  refine (zr_aload_n (n := 0) (x := 430) (by decide +kernel) rfl).trans ?_
  refine (zr_iload_n (n := 3) (x := zi s0) (by decide +kernel) rfl).trans ?_
  refine (zr_bipush (n := 119) (by decide +kernel) rfl).trans ?_
  refine (zr_cne (off := 8) (a := s0) (b := (119)) (t := 19) (by decide +kernel) rfl).trans (zif_ct (fun _ => ?_) (fun _ => ?_))
  · refine (zr_iload_n (n := 3) (x := zi s0) (by decide +kernel) rfl).trans ?_
    refine (zr_bipush (n := 104) (by decide +kernel) rfl).trans ?_
    refine (zr_cne (off := 8) (a := s0) (b := (104)) (t := 30) (by decide +kernel) rfl).trans (zif_ct (fun _ => ?_) (fun _ => ?_))
    · refine (zr_iload_n (n := 3) (x := zi s0) (by decide +kernel) rfl).trans ?_
      refine (zr_bipush (n := 113) (by decide +kernel) rfl).trans ?_
      refine (zr_cne (off := 7) (a := s0) (b := (113)) (t := 40) (by decide +kernel) rfl).trans (zif_ct (fun _ => ?_) (fun _ => ?_))
      · refine (zr_iload_n (n := 3) (x := zi s0) (by decide +kernel) rfl).trans ?_
        refine (zr_bipush (n := 101) (by decide +kernel) rfl).trans ?_
        refine (zr_cne (off := 7) (a := s0) (b := (101)) (t := 50) (by decide +kernel) rfl).trans (zif_ct (fun _ => ?_) (fun _ => ?_))
        · refine (zr_iload_n (n := 3) (x := zi s0) (by decide +kernel) rfl).trans ?_
          refine (zr_bipush (n := 115) (by decide +kernel) rfl).trans ?_
          refine (zr_cne (off := 7) (a := s0) (b := (115)) (t := 60) (by decide +kernel) rfl).trans (zif_ct (fun _ => ?_) (fun _ => ?_))
          · refine (zr_iconst (n := 0) (by decide +kernel)).trans ?_
            rfl
          · refine (zr_iconst (n := 1) (by decide +kernel)).trans ?_
            refine (zr_goto (off := 4) (t := 61) (by decide +kernel) rfl).trans ?_
            rfl
        · refine (zr_iconst (n := 2) (by decide +kernel)).trans ?_
          refine (zr_goto (off := 14) (t := 61) (by decide +kernel) rfl).trans ?_
          rfl
      · refine (zr_iconst (n := 4) (by decide +kernel)).trans ?_
        refine (zr_goto (off := 24) (t := 61) (by decide +kernel) rfl).trans ?_
        rfl
    · refine (zr_bipush (n := 8) (by decide +kernel) rfl).trans ?_
      refine (zr_goto (off := 34) (t := 61) (by decide +kernel) rfl).trans ?_
      rfl
  · refine (zr_bipush (n := 16) (by decide +kernel) rfl).trans ?_
    refine (zr_goto (off := 45) (t := 61) (by decide +kernel) rfl).trans ?_
    rfl
theorem ze_161_61 {V : zVt} {J : zJt} {d : Nat → Nat → UInt64} (x1 : Int) (x2 : Int) (x3 : Int) (s1 : Int) : zGo false 161 61 [.ref 430, .int (zi x1), .int (zi x2), .int (zi x3)] [.int (zi s1), .ref 430] (zm V J d) =
    (if qw ((vup V 430 12 s1) 430 12) ≤ qw (1) then zGo false 161 104 [.ref 430, .int (zi x1), .int (zi x2), .int (zi x3)] [] (zm (vup V 430 12 s1) J d) else (zGo false 155 0 [.ref 430, .int (zi x1), .int (zi (x2 + (1)))] [] (zm (vup V 430 12 s1) J d)).bind (zGor false 161 80 [.ref 430, .int (zi x1), .int (zi x2), .int (zi x3)] [])) := by
  refine (zr_putI (i := 156) (c := 12) (k := 12) (x := s1) (by decide +kernel) (by decide +kernel) rfl (by decide +kernel)).trans ?_
  refine (zr_aload_n (n := 0) (x := 430) (by decide +kernel) rfl).trans ?_
  refine (zr_getI (i := 156) (c := 12) (k := 12) (by decide +kernel) (by decide +kernel) rfl (by decide +kernel)).trans ?_
  refine (zr_iconst (n := 1) (by decide +kernel)).trans ?_
  refine (zr_cle (off := 35) (a := ((vup V 430 12 s1) 430 12)) (b := (1)) (t := 104) (by decide +kernel) rfl).trans (zif_ct (fun _ => ?_) (fun _ => ?_))
  · rfl
  · refine (zr_aload_n (n := 0) (x := 430) (by decide +kernel) rfl).trans ?_
    refine (zr_iload_n (n := 1) (x := zi x1) (by decide +kernel) rfl).trans ?_
    refine (zr_iload_n (n := 2) (x := zi x2) (by decide +kernel) rfl).trans ?_
    refine (zr_iconst (n := 1) (by decide +kernel)).trans ?_
    refine (zr_iadd (a := x2) (b := (1)) (by decide +kernel)).trans ?_
    exact zr_cV (i := 152) (z := 155) (w := 0) (o := 430) (t := [.int (zi (x2 + (1))), .int (zi x1)]) (rest := []) (L := [.ref 430, .int (zi x1), .int (zi (x2 + (1)))]) (pc1 := 80) (by decide +kernel) (by decide +kernel) rfl (n := 2) (r := 0) rfl rfl rfl (by decide +kernel) rfl rfl
theorem ze_161_80 {V : zVt} {J : zJt} {d : Nat → Nat → UInt64} (x1 : Int) (x2 : Int) (x3 : Int) (s0 : Int) : zGo false 161 80 [.ref 430, .int (zi x1), .int (zi x2), .int (zi x3)] [.int (zi s0)] (zm V J d) =
    (if qw s0 ≠ qw (46) then zGo false 161 104 [.ref 430, .int (zi x1), .int (zi x2), .int (zi x3)] [] (zm V J d) else zck (qw (2) ≠ 0) (some (.inl (some (.int (zi (x2 + (2))))), zm (vup V 430 12 ((V 430 12) + (qdiv (V 430 12) (2)))) J d))) := by
  refine (zr_bipush (n := 46) (by decide +kernel) rfl).trans ?_
  refine (zr_cne (off := 22) (a := s0) (b := (46)) (t := 104) (by decide +kernel) rfl).trans (zif_ct (fun _ => ?_) (fun _ => ?_))
  · rfl
  · refine (zr_aload_n (n := 0) (x := 430) (by decide +kernel) rfl).trans ?_
    refine (zr_dup (by decide +kernel) rfl).trans ?_
    refine (zr_getI (i := 156) (c := 12) (k := 12) (by decide +kernel) (by decide +kernel) rfl (by decide +kernel)).trans ?_
    refine (zr_aload_n (n := 0) (x := 430) (by decide +kernel) rfl).trans ?_
    refine (zr_getI (i := 156) (c := 12) (k := 12) (by decide +kernel) (by decide +kernel) rfl (by decide +kernel)).trans ?_
    refine (zr_iconst (n := 2) (by decide +kernel)).trans ?_
    refine (zr_idiv (a := (V 430 12)) (b := (2)) (by decide +kernel)).trans (zck_ct fun _ => ?_)
    refine (zr_iadd (a := (V 430 12)) (b := (qdiv (V 430 12) (2))) (by decide +kernel)).trans ?_
    refine (zr_putI (i := 156) (c := 12) (k := 12) (x := ((V 430 12) + (qdiv (V 430 12) (2)))) (by decide +kernel) (by decide +kernel) rfl (by decide +kernel)).trans ?_
    refine (zr_iload_n (n := 2) (x := zi x2) (by decide +kernel) rfl).trans ?_
    refine (zr_iconst (n := 2) (by decide +kernel)).trans ?_
    refine (zr_iadd (a := x2) (b := (2)) (by decide +kernel)).trans ?_
    exact zr_iret (a := (x2 + (2))) (by decide +kernel) rfl
theorem ze_161_104 {V : zVt} {J : zJt} {d : Nat → Nat → UInt64} (x1 : Int) (x2 : Int) (x3 : Int) : zGo false 161 104 [.ref 430, .int (zi x1), .int (zi x2), .int (zi x3)] [] (zm V J d) =
    (if qw (V 430 12) ≠ 0 then zGo false 161 118 [.ref 430, .int (zi x1), .int (zi x2), .int (zi x3)] [.int (zi (x2 + (1)))] (zm V J d) else zGo false 161 118 [.ref 430, .int (zi x1), .int (zi x2), .int (zi x3)] [.int (zi (-1))] (zm V J d)) := by
  refine (zr_aload_n (n := 0) (x := 430) (by decide +kernel) rfl).trans ?_
  refine (zr_getI (i := 156) (c := 12) (k := 12) (by decide +kernel) (by decide +kernel) rfl (by decide +kernel)).trans ?_
  refine (zr_ifne (off := 7) (a := (V 430 12)) (t := 115) (by decide +kernel) rfl).trans (zif_ct (fun _ => ?_) (fun _ => ?_))
  · refine (zr_iload_n (n := 2) (x := zi x2) (by decide +kernel) rfl).trans ?_
    refine (zr_iconst (n := 1) (by decide +kernel)).trans ?_
    refine (zr_iadd (a := x2) (b := (1)) (by decide +kernel)).trans ?_
    rfl
  · refine (zr_iconst (n := -1) (by decide +kernel)).trans ?_
    refine (zr_goto (off := 6) (t := 118) (by decide +kernel) rfl).trans ?_
    rfl
theorem ze_161_118 {V : zVt} {J : zJt} {d : Nat → Nat → UInt64} (x1 : Int) (x2 : Int) (x3 : Int) (s0 : Int) : zGo false 161 118 [.ref 430, .int (zi x1), .int (zi x2), .int (zi x3)] [.int (zi s0)] (zm V J d) =
    some (.inl (some (.int (zi s0))), zm V J d) := by
  exact zr_iret (a := s0) (by decide +kernel) rfl
/-! PartSongDeskModel is (III)I -/
theorem ze_157_0 {V : zVt} {J : zJt} {d : Nat → Nat → UInt64} (x1 : Int) (x2 : Int) (x3 : Int) : zGo false 157 0 [.ref 430, .int (zi x1), .int (zi x2), .int (zi x3)] [] (zm V J d) =
    zck (0 ≤ qw (V 430 10) ∧ qw (V 430 10) < (60 : Nat)) (zck (0 ≤ qw ((vup V 433 (qw (V 430 10)) x1) 430 10) ∧ qw ((vup V 433 (qw (V 430 10)) x1) 430 10) < (60 : Nat)) (zck (0 ≤ qw ((vup (vup V 433 (qw (V 430 10)) x1) 435 (qw ((vup V 433 (qw (V 430 10)) x1) 430 10)) x2) 430 10) ∧ qw ((vup (vup V 433 (qw (V 430 10)) x1) 435 (qw ((vup V 433 (qw (V 430 10)) x1) 430 10)) x2) 430 10) < (60 : Nat)) (zck (0 ≤ qw ((vup (vup (vup V 433 (qw (V 430 10)) x1) 435 (qw ((vup V 433 (qw (V 430 10)) x1) 430 10)) x2) 436 (qw ((vup (vup V 433 (qw (V 430 10)) x1) 435 (qw ((vup V 433 (qw (V 430 10)) x1) 430 10)) x2) 430 10)) (0)) 430 10) ∧ qw ((vup (vup (vup V 433 (qw (V 430 10)) x1) 435 (qw ((vup V 433 (qw (V 430 10)) x1) 430 10)) x2) 436 (qw ((vup (vup V 433 (qw (V 430 10)) x1) 435 (qw ((vup V 433 (qw (V 430 10)) x1) 430 10)) x2) 430 10)) (0)) 430 10) < (60 : Nat)) (zck ((0 ≤ qw ((vup (vup (vup (vup V 433 (qw (V 430 10)) x1) 435 (qw ((vup V 433 (qw (V 430 10)) x1) 430 10)) x2) 436 (qw ((vup (vup V 433 (qw (V 430 10)) x1) 435 (qw ((vup V 433 (qw (V 430 10)) x1) 430 10)) x2) 430 10)) (0)) 437 (qw ((vup (vup (vup V 433 (qw (V 430 10)) x1) 435 (qw ((vup V 433 (qw (V 430 10)) x1) 430 10)) x2) 436 (qw ((vup (vup V 433 (qw (V 430 10)) x1) 435 (qw ((vup V 433 (qw (V 430 10)) x1) 430 10)) x2) 430 10)) (0)) 430 10)) (0)) 430 10) ∧ qw ((vup (vup (vup (vup V 433 (qw (V 430 10)) x1) 435 (qw ((vup V 433 (qw (V 430 10)) x1) 430 10)) x2) 436 (qw ((vup (vup V 433 (qw (V 430 10)) x1) 435 (qw ((vup V 433 (qw (V 430 10)) x1) 430 10)) x2) 430 10)) (0)) 437 (qw ((vup (vup (vup V 433 (qw (V 430 10)) x1) 435 (qw ((vup V 433 (qw (V 430 10)) x1) 430 10)) x2) 436 (qw ((vup (vup V 433 (qw (V 430 10)) x1) 435 (qw ((vup V 433 (qw (V 430 10)) x1) 430 10)) x2) 430 10)) (0)) 430 10)) (0)) 430 10) < (60 : Nat)) ∧ (qw (0) = 0 ∨ qw (0) = 1)) (some (.inl (some (.int (zi x3))), zm (vup (vup (vup (vup (vup V 433 (qw (V 430 10)) x1) 435 (qw ((vup V 433 (qw (V 430 10)) x1) 430 10)) x2) 436 (qw ((vup (vup V 433 (qw (V 430 10)) x1) 435 (qw ((vup V 433 (qw (V 430 10)) x1) 430 10)) x2) 430 10)) (0)) 437 (qw ((vup (vup (vup V 433 (qw (V 430 10)) x1) 435 (qw ((vup V 433 (qw (V 430 10)) x1) 430 10)) x2) 436 (qw ((vup (vup V 433 (qw (V 430 10)) x1) 435 (qw ((vup V 433 (qw (V 430 10)) x1) 430 10)) x2) 430 10)) (0)) 430 10)) (0)) 438 (qw ((vup (vup (vup (vup V 433 (qw (V 430 10)) x1) 435 (qw ((vup V 433 (qw (V 430 10)) x1) 430 10)) x2) 436 (qw ((vup (vup V 433 (qw (V 430 10)) x1) 435 (qw ((vup V 433 (qw (V 430 10)) x1) 430 10)) x2) 430 10)) (0)) 437 (qw ((vup (vup (vup V 433 (qw (V 430 10)) x1) 435 (qw ((vup V 433 (qw (V 430 10)) x1) 430 10)) x2) 436 (qw ((vup (vup V 433 (qw (V 430 10)) x1) 435 (qw ((vup V 433 (qw (V 430 10)) x1) 430 10)) x2) 430 10)) (0)) 430 10)) (0)) 430 10)) (0)) J d)))))) := by
  refine (zr_aload_n (n := 0) (x := 430) (by decide +kernel) rfl).trans ?_
  refine (zr_getR (i := 16) (c := 12) (k := 2) (r := 433) (by decide +kernel) (by decide +kernel) rfl (by decide +kernel) (zR0_f (o := 430) (c := 12) (n := 0) (k := 2) (j := 3) rfl (by decide) rfl)).trans ?_
  refine (zr_aload_n (n := 0) (x := 430) (by decide +kernel) rfl).trans ?_
  refine (zr_getI (i := 149) (c := 12) (k := 10) (by decide +kernel) (by decide +kernel) rfl (by decide +kernel)).trans ?_
  refine (zr_iload_n (n := 1) (x := zi x1) (by decide +kernel) rfl).trans ?_
  refine (zr_iast (n := 60) (e := (V 430 10)) (x := x1) (by decide +kernel) rfl).trans (zck_ct fun _ => ?_)
  refine (zr_aload_n (n := 0) (x := 430) (by decide +kernel) rfl).trans ?_
  refine (zr_getR (i := 22) (c := 12) (k := 4) (r := 435) (by decide +kernel) (by decide +kernel) rfl (by decide +kernel) (zR0_f (o := 430) (c := 12) (n := 0) (k := 4) (j := 5) rfl (by decide) rfl)).trans ?_
  refine (zr_aload_n (n := 0) (x := 430) (by decide +kernel) rfl).trans ?_
  refine (zr_getI (i := 149) (c := 12) (k := 10) (by decide +kernel) (by decide +kernel) rfl (by decide +kernel)).trans ?_
  refine (zr_iload_n (n := 2) (x := zi x2) (by decide +kernel) rfl).trans ?_
  refine (zr_iast (n := 60) (e := ((vup V 433 (qw (V 430 10)) x1) 430 10)) (x := x2) (by decide +kernel) rfl).trans (zck_ct fun _ => ?_)
  refine (zr_aload_n (n := 0) (x := 430) (by decide +kernel) rfl).trans ?_
  refine (zr_getR (i := 25) (c := 12) (k := 5) (r := 436) (by decide +kernel) (by decide +kernel) rfl (by decide +kernel) (zR0_f (o := 430) (c := 12) (n := 0) (k := 5) (j := 6) rfl (by decide) rfl)).trans ?_
  refine (zr_aload_n (n := 0) (x := 430) (by decide +kernel) rfl).trans ?_
  refine (zr_getI (i := 149) (c := 12) (k := 10) (by decide +kernel) (by decide +kernel) rfl (by decide +kernel)).trans ?_
  refine (zr_iconst (n := 0) (by decide +kernel)).trans ?_
  refine (zr_iast (n := 60) (e := ((vup (vup V 433 (qw (V 430 10)) x1) 435 (qw ((vup V 433 (qw (V 430 10)) x1) 430 10)) x2) 430 10)) (x := (0)) (by decide +kernel) rfl).trans (zck_ct fun _ => ?_)
  refine (zr_aload_n (n := 0) (x := 430) (by decide +kernel) rfl).trans ?_
  refine (zr_getR (i := 28) (c := 12) (k := 6) (r := 437) (by decide +kernel) (by decide +kernel) rfl (by decide +kernel) (zR0_f (o := 430) (c := 12) (n := 0) (k := 6) (j := 7) rfl (by decide) rfl)).trans ?_
  refine (zr_aload_n (n := 0) (x := 430) (by decide +kernel) rfl).trans ?_
  refine (zr_getI (i := 149) (c := 12) (k := 10) (by decide +kernel) (by decide +kernel) rfl (by decide +kernel)).trans ?_
  refine (zr_iconst (n := 0) (by decide +kernel)).trans ?_
  refine (zr_iast (n := 60) (e := ((vup (vup (vup V 433 (qw (V 430 10)) x1) 435 (qw ((vup V 433 (qw (V 430 10)) x1) 430 10)) x2) 436 (qw ((vup (vup V 433 (qw (V 430 10)) x1) 435 (qw ((vup V 433 (qw (V 430 10)) x1) 430 10)) x2) 430 10)) (0)) 430 10)) (x := (0)) (by decide +kernel) rfl).trans (zck_ct fun _ => ?_)
  refine (zr_aload_n (n := 0) (x := 430) (by decide +kernel) rfl).trans ?_
  refine (zr_getR (i := 31) (c := 12) (k := 7) (r := 438) (by decide +kernel) (by decide +kernel) rfl (by decide +kernel) (zR0_f (o := 430) (c := 12) (n := 0) (k := 7) (j := 8) rfl (by decide) rfl)).trans ?_
  refine (zr_aload_n (n := 0) (x := 430) (by decide +kernel) rfl).trans ?_
  refine (zr_getI (i := 149) (c := 12) (k := 10) (by decide +kernel) (by decide +kernel) rfl (by decide +kernel)).trans ?_
  refine (zr_iconst (n := 0) (by decide +kernel)).trans ?_
  refine (zr_zast (n := 60) (e := ((vup (vup (vup (vup V 433 (qw (V 430 10)) x1) 435 (qw ((vup V 433 (qw (V 430 10)) x1) 430 10)) x2) 436 (qw ((vup (vup V 433 (qw (V 430 10)) x1) 435 (qw ((vup V 433 (qw (V 430 10)) x1) 430 10)) x2) 430 10)) (0)) 437 (qw ((vup (vup (vup V 433 (qw (V 430 10)) x1) 435 (qw ((vup V 433 (qw (V 430 10)) x1) 430 10)) x2) 436 (qw ((vup (vup V 433 (qw (V 430 10)) x1) 435 (qw ((vup V 433 (qw (V 430 10)) x1) 430 10)) x2) 430 10)) (0)) 430 10)) (0)) 430 10)) (x := (0)) (by decide +kernel) rfl).trans (zck_ct fun _ => ?_)
  refine (zr_iload_n (n := 3) (x := zi x3) (by decide +kernel) rfl).trans ?_
  exact zr_iret (a := x3) (by decide +kernel) rfl
/-! PartSongDeskModel readRest (II)I -/
theorem ze_160_0 {V : zVt} {J : zJt} {d : Nat → Nat → UInt64} (x1 : Int) (x2 : Int) : zGo false 160 0 [.ref 430, .int (zi x1), .int (zi x2), .null] [] (zm V J d) =
    (zGo false 161 0 [.ref 430, .int (zi x1), .int (zi (x2 + (1))), .null] [] (zm V J d)).bind (zGor false 160 8 [.ref 430, .int (zi x1), .int (zi x2), .null] []) := by
  refine (zr_aload_n (n := 0) (x := 430) (by decide +kernel) rfl).trans ?_
  refine (zr_iload_n (n := 1) (x := zi x1) (by decide +kernel) rfl).trans ?_
  refine (zr_iload_n (n := 2) (x := zi x2) (by decide +kernel) rfl).trans ?_
  refine (zr_iconst (n := 1) (by decide +kernel)).trans ?_
  refine (zr_iadd (a := x2) (b := (1)) (by decide +kernel)).trans ?_
  exact zr_cV (i := 159) (z := 161) (w := 0) (o := 430) (t := [.int (zi (x2 + (1))), .int (zi x1)]) (rest := []) (L := [.ref 430, .int (zi x1), .int (zi (x2 + (1))), .null]) (pc1 := 8) (by decide +kernel) (by decide +kernel) rfl (n := 2) (r := 0) rfl rfl rfl (by decide +kernel) rfl rfl
theorem ze_160_8 {V : zVt} {J : zJt} {d : Nat → Nat → UInt64} (x1 : Int) (x2 : Int) (s0 : Int) : zGo false 160 8 [.ref 430, .int (zi x1), .int (zi x2), .null] [.int (zi s0)] (zm V J d) =
    (if qw s0 ≠ qw (-1) then (zGo false 157 0 [.ref 430, .int (zi (4)), .int (zi (0)), .int (zi s0)] [] (zm V J d)).bind (zGor false 160 23 [.ref 430, .int (zi x1), .int (zi x2), .int (zi s0)] []) else some (.inl (some (.int (zi (-1)))), zm V J d)) := by
  refine (zr_istore_n (n := 3) (l1 := [.ref 430, .int (zi x1), .int (zi x2), .int (zi s0)]) (by decide +kernel) rfl).trans ?_
  refine (zr_iload_n (n := 3) (x := zi s0) (by decide +kernel) rfl).trans ?_
  refine (zr_iconst (n := -1) (by decide +kernel)).trans ?_
  refine (zr_cne (off := 5) (a := s0) (b := (-1)) (t := 16) (by decide +kernel) rfl).trans (zif_ct (fun _ => ?_) (fun _ => ?_))
  · refine (zr_aload_n (n := 0) (x := 430) (by decide +kernel) rfl).trans ?_
    refine (zr_iconst (n := 4) (by decide +kernel)).trans ?_
    refine (zr_iconst (n := 0) (by decide +kernel)).trans ?_
    refine (zr_iload_n (n := 3) (x := zi s0) (by decide +kernel) rfl).trans ?_
    exact zr_cV (i := 162) (z := 157) (w := 0) (o := 430) (t := [.int (zi s0), .int (zi (0)), .int (zi (4))]) (rest := []) (L := [.ref 430, .int (zi (4)), .int (zi (0)), .int (zi s0)]) (pc1 := 23) (by decide +kernel) (by decide +kernel) rfl (n := 3) (r := 0) rfl rfl rfl (by decide +kernel) rfl rfl
  · refine (zr_iconst (n := -1) (by decide +kernel)).trans ?_
    exact zr_iret (a := (-1)) (by decide +kernel) rfl
theorem ze_160_23 {V : zVt} {J : zJt} {d : Nat → Nat → UInt64} (x1 : Int) (x2 : Int) (x3 : Int) (s0 : Int) : zGo false 160 23 [.ref 430, .int (zi x1), .int (zi x2), .int (zi x3)] [.int (zi s0)] (zm V J d) =
    zck (0 ≤ qw (V 430 10) ∧ qw (V 430 10) < (60 : Nat)) (some (.inl (some (.int (zi x3))), zm (vup V 437 (qw (V 430 10)) (V 430 12)) J d)) := by
  refine (zr_pop (by decide +kernel) rfl).trans ?_
  refine (zr_aload_n (n := 0) (x := 430) (by decide +kernel) rfl).trans ?_
  refine (zr_getR (i := 28) (c := 12) (k := 6) (r := 437) (by decide +kernel) (by decide +kernel) rfl (by decide +kernel) (zR0_f (o := 430) (c := 12) (n := 0) (k := 6) (j := 7) rfl (by decide) rfl)).trans ?_
  refine (zr_aload_n (n := 0) (x := 430) (by decide +kernel) rfl).trans ?_
  refine (zr_getI (i := 149) (c := 12) (k := 10) (by decide +kernel) (by decide +kernel) rfl (by decide +kernel)).trans ?_
  refine (zr_aload_n (n := 0) (x := 430) (by decide +kernel) rfl).trans ?_
  refine (zr_getI (i := 156) (c := 12) (k := 12) (by decide +kernel) (by decide +kernel) rfl (by decide +kernel)).trans ?_
  refine (zr_iast (n := 60) (e := (V 430 10)) (x := (V 430 12)) (by decide +kernel) rfl).trans (zck_ct fun _ => ?_)
  refine (zr_iload_n (n := 3) (x := zi x3) (by decide +kernel) rfl).trans ?_
  exact zr_iret (a := x3) (by decide +kernel) rfl
/-! PartSongDesk$Tokens has (I)Z -/
theorem ze_86_0 {V : zVt} {J : zJt} {d : Nat → Nat → UInt64} (x0 : Nat) (x1 : Int) (h0 : zBk 10 x0) : zGo false 86 0 [.ref x0, .int (zi x1)] [] (zm V J d) =
    (if qw x1 < 0 then zGo false 86 16 [.ref x0, .int (zi x1)] [] (zm V J d) else (if qw (V x0 0) ≤ qw x1 then zGo false 86 16 [.ref x0, .int (zi x1)] [] (zm V J d) else zGo false 86 17 [.ref x0, .int (zi x1)] [.int (zi (1))] (zm V J d))) := by
  refine (zr_iload_n (n := 1) (x := zi x1) (by decide +kernel) rfl).trans ?_
  refine (zr_iflt (off := 15) (a := x1) (t := 16) (by decide +kernel) rfl).trans (zif_ct (fun _ => ?_) (fun _ => ?_))
  · rfl
  · refine (zr_iload_n (n := 1) (x := zi x1) (by decide +kernel) rfl).trans ?_
    refine (zr_aload_n (n := 0) (x := x0) (by decide +kernel) rfl).trans ?_
    refine (zr_getI (i := 37) (c := 10) (k := 0) (by decide +kernel) (by decide +kernel) (zb10_0 h0) (by decide +kernel)).trans ?_
    refine (zr_cge (off := 7) (a := x1) (b := (V x0 0)) (t := 16) (by decide +kernel) rfl).trans (zif_ct (fun _ => ?_) (fun _ => ?_))
    · rfl
    · refine (zr_iconst (n := 1) (by decide +kernel)).trans ?_
      refine (zr_goto (off := 4) (t := 17) (by decide +kernel) rfl).trans ?_
      rfl
theorem ze_86_16 {V : zVt} {J : zJt} {d : Nat → Nat → UInt64} (x0 : Nat) (x1 : Int) (h0 : zBk 10 x0) : zGo false 86 16 [.ref x0, .int (zi x1)] [] (zm V J d) =
    zGo false 86 17 [.ref x0, .int (zi x1)] [.int (zi (0))] (zm V J d) := by
  refine (zr_iconst (n := 0) (by decide +kernel)).trans ?_
  rfl
theorem ze_86_17 {V : zVt} {J : zJt} {d : Nat → Nat → UInt64} (x0 : Nat) (x1 : Int) (s0 : Int) (h0 : zBk 10 x0) : zGo false 86 17 [.ref x0, .int (zi x1)] [.int (zi s0)] (zm V J d) =
    zck (qw s0 = 0 ∨ qw s0 = 1) (some (.inl (some (.int (zi s0))), zm V J d)) := by
  exact zr_zret (a := s0) (by decide +kernel) rfl
/-! PartSongDesk$Part isHeld ()Z -/
theorem ze_44_0 {V : zVt} {J : zJt} {d : Nat → Nat → UInt64} (x0 : Nat) (h0 : zBk 6 x0) : zGo false 44 0 [.ref x0] [] (zm V J d) =
    (if qw (V x0 3) = 0 then zGo false 44 21 [.ref x0] [] (zm V J d) else (if qw (V (x0 + 13) 0) ≠ 0 then zGo false 44 21 [.ref x0] [] (zm V J d) else zGo false 44 22 [.ref x0] [.int (zi (1))] (zm V J d))) := by
  refine (zr_aload_n (n := 0) (x := x0) (by decide +kernel) rfl).trans ?_
  refine (zr_getI (i := 36) (c := 6) (k := 3) (by decide +kernel) (by decide +kernel) (zb6_0 h0) (by decide +kernel)).trans ?_
  refine (zr_ifeq (off := 17) (a := (V x0 3)) (t := 21) (by decide +kernel) rfl).trans (zif_ct (fun _ => ?_) (fun _ => ?_))
  · rfl
  · refine (zr_aload_n (n := 0) (x := x0) (by decide +kernel) rfl).trans ?_
    refine (zr_getR (i := 32) (c := 6) (k := 8) (r := (x0 + 13)) (by decide +kernel) (by decide +kernel) (zb6_0 h0) (by decide +kernel) (zR0_f (o := x0) (c := 6) (n := 0) (k := 8) (j := 13) (zb6_0 h0) (by decide) rfl)).trans ?_
    refine (zr_getI (i := 40) (c := 5) (k := 0) (by decide +kernel) (by decide +kernel) (zb5_0 (zBk_6music h0)) (by decide +kernel)).trans ?_
    refine (zr_ifne (off := 7) (a := (V (x0 + 13) 0)) (t := 21) (by decide +kernel) rfl).trans (zif_ct (fun _ => ?_) (fun _ => ?_))
    · rfl
    · refine (zr_iconst (n := 1) (by decide +kernel)).trans ?_
      refine (zr_goto (off := 4) (t := 22) (by decide +kernel) rfl).trans ?_
      rfl
theorem ze_44_21 {V : zVt} {J : zJt} {d : Nat → Nat → UInt64} (x0 : Nat) (h0 : zBk 6 x0) : zGo false 44 21 [.ref x0] [] (zm V J d) =
    zGo false 44 22 [.ref x0] [.int (zi (0))] (zm V J d) := by
  refine (zr_iconst (n := 0) (by decide +kernel)).trans ?_
  rfl
theorem ze_44_22 {V : zVt} {J : zJt} {d : Nat → Nat → UInt64} (x0 : Nat) (s0 : Int) (h0 : zBk 6 x0) : zGo false 44 22 [.ref x0] [.int (zi s0)] (zm V J d) =
    zck (qw s0 = 0 ∨ qw s0 = 1) (some (.inl (some (.int (zi s0))), zm V J d)) := by
  exact zr_zret (a := s0) (by decide +kernel) rfl
/-! PartSongDesk$Music pitchAt (II)I -/
theorem ze_36_0 {V : zVt} {J : zJt} {d : Nat → Nat → UInt64} (x0 : Nat) (x1 : Int) (x2 : Int) (h0 : zBk 5 x0) : zGo false 36 0 [.ref x0, .int (zi x1), .int (zi x2), .null] [] (zm V J d) =
    (zGo false 37 0 [.ref x0, .int (zi x1), .int (zi x2), .null, .null] [] (zm V J d)).bind (zGor false 36 6 [.ref x0, .int (zi x1), .int (zi x2), .null] []) := by
  refine (zr_aload_n (n := 0) (x := x0) (by decide +kernel) rfl).trans ?_
  refine (zr_iload_n (n := 1) (x := zi x1) (by decide +kernel) rfl).trans ?_
  refine (zr_iload_n (n := 2) (x := zi x2) (by decide +kernel) rfl).trans ?_
  exact zr_cV (i := 39) (z := 37) (w := 0) (o := x0) (t := [.int (zi x2), .int (zi x1)]) (rest := []) (L := [.ref x0, .int (zi x1), .int (zi x2), .null, .null]) (pc1 := 6) (by decide +kernel) (by decide +kernel) (zb5_0 h0) (n := 2) (r := 0) rfl rfl rfl (by decide +kernel) rfl rfl
theorem ze_36_6 {V : zVt} {J : zJt} {d : Nat → Nat → UInt64} (x0 : Nat) (x1 : Int) (x2 : Int) (s0 : Int) (h0 : zBk 5 x0) : zGo false 36 6 [.ref x0, .int (zi x1), .int (zi x2), .null] [.int (zi s0)] (zm V J d) =
    (if qw s0 ≠ 0 then zGo false 36 20 [.ref x0, .int (zi x1), .int (zi x2), .int (zi s0)] [.int (zi (qand s0 (127)))] (zm V J d) else zGo false 36 20 [.ref x0, .int (zi x1), .int (zi x2), .int (zi s0)] [.int (zi (-2))] (zm V J d)) := by
  refine (zr_istore_n (n := 3) (l1 := [.ref x0, .int (zi x1), .int (zi x2), .int (zi s0)]) (by decide +kernel) rfl).trans ?_
  refine (zr_iload_n (n := 3) (x := zi s0) (by decide +kernel) rfl).trans ?_
  refine (zr_ifne (off := 8) (a := s0) (t := 16) (by decide +kernel) rfl).trans (zif_ct (fun _ => ?_) (fun _ => ?_))
  · refine (zr_iload_n (n := 3) (x := zi s0) (by decide +kernel) rfl).trans ?_
    refine (zr_bipush (n := 127) (by decide +kernel) rfl).trans ?_
    refine (zr_iand (a := s0) (b := (127)) (by decide +kernel)).trans ?_
    rfl
  · refine (zr_bipush (n := -2) (by decide +kernel) rfl).trans ?_
    refine (zr_goto (off := 7) (t := 20) (by decide +kernel) rfl).trans ?_
    rfl
theorem ze_36_20 {V : zVt} {J : zJt} {d : Nat → Nat → UInt64} (x0 : Nat) (x1 : Int) (x2 : Int) (x3 : Int) (s0 : Int) (h0 : zBk 5 x0) : zGo false 36 20 [.ref x0, .int (zi x1), .int (zi x2), .int (zi x3)] [.int (zi s0)] (zm V J d) =
    some (.inl (some (.int (zi s0))), zm V J d) := by
  exact zr_iret (a := s0) (by decide +kernel) rfl
/-! PartSongDesk$Music soundAt (II)I -/
theorem ze_37_0 {V : zVt} {J : zJt} {d : Nat → Nat → UInt64} (x0 : Nat) (x1 : Int) (x2 : Int) (h0 : zBk 5 x0) : zGo false 37 0 [.ref x0, .int (zi x1), .int (zi x2), .null, .null] [] (zm V J d) =
    (if qw (8) ≤ qw x2 then (zGo false 32 0 [.ref x0, .int (zi x1)] [] (zm V J d)).bind (zGor false 37 19 [.ref x0, .int (zi x1), .int (zi x2), .null, .null] []) else (zGo false 31 0 [.ref x0, .int (zi x1)] [] (zm V J d)).bind (zGor false 37 11 [.ref x0, .int (zi x1), .int (zi x2), .null, .null] [])) := by
  refine (zr_iload_n (n := 2) (x := zi x2) (by decide +kernel) rfl).trans ?_
  refine (zr_bipush (n := 8) (by decide +kernel) rfl).trans ?_
  refine (zr_cge (off := 11) (a := x2) (b := (8)) (t := 14) (by decide +kernel) rfl).trans (zif_ct (fun _ => ?_) (fun _ => ?_))
  · refine (zr_aload_n (n := 0) (x := x0) (by decide +kernel) rfl).trans ?_
    refine (zr_iload_n (n := 1) (x := zi x1) (by decide +kernel) rfl).trans ?_
    exact zr_cV (i := 36) (z := 32) (w := 0) (o := x0) (t := [.int (zi x1)]) (rest := []) (L := [.ref x0, .int (zi x1)]) (pc1 := 19) (by decide +kernel) (by decide +kernel) (zb5_0 h0) (n := 1) (r := 0) rfl rfl rfl (by decide +kernel) rfl rfl
  · refine (zr_aload_n (n := 0) (x := x0) (by decide +kernel) rfl).trans ?_
    refine (zr_iload_n (n := 1) (x := zi x1) (by decide +kernel) rfl).trans ?_
    exact zr_cV (i := 32) (z := 31) (w := 0) (o := x0) (t := [.int (zi x1)]) (rest := []) (L := [.ref x0, .int (zi x1)]) (pc1 := 11) (by decide +kernel) (by decide +kernel) (zb5_0 h0) (n := 1) (r := 0) rfl rfl rfl (by decide +kernel) rfl rfl
theorem ze_37_11 {V : zVt} {J : zJt} {d : Nat → Nat → UInt64} (x0 : Nat) (x1 : Int) (x2 : Int) (s0 : Int64) (h0 : zBk 5 x0) : zGo false 37 11 [.ref x0, .int (zi x1), .int (zi x2), .null, .null] [.long s0] (zm V J d) =
    zGo false 37 19 [.ref x0, .int (zi x1), .int (zi x2), .null, .null] [.long s0] (zm V J d) := by
  refine (zr_goto (off := 8) (t := 19) (by decide +kernel) rfl).trans ?_
  rfl
theorem ze_37_19 {V : zVt} {J : zJt} {d : Nat → Nat → UInt64} (x0 : Nat) (x1 : Int) (x2 : Int) (s0 : Int64) (h0 : zBk 5 x0) : zGo false 37 19 [.ref x0, .int (zi x1), .int (zi x2), .null, .null] [.long s0] (zm V J d) =
    some (.inl (some (.int (zi (qand (((s0).toUInt64 >>> ((zi ((8) * (qand x2 (7)))).toInt64.toUInt64 &&& Int64.toUInt64 63)).toInt64).toInt32.toInt (255))))), zm V J d) := by
  refine (zr_lstore_n (n := 3) (l1 := [.ref x0, .int (zi x1), .int (zi x2), .long s0, .null]) (by decide +kernel) rfl).trans ?_
  refine (zr_lload_n (n := 3) (x := s0) (by decide +kernel) rfl).trans ?_
  refine (zr_bipush (n := 8) (by decide +kernel) rfl).trans ?_
  refine (zr_iload_n (n := 2) (x := zi x2) (by decide +kernel) rfl).trans ?_
  refine (zr_bipush (n := 7) (by decide +kernel) rfl).trans ?_
  refine (zr_iand (a := x2) (b := (7)) (by decide +kernel)).trans ?_
  refine (zr_imul (a := (8)) (b := (qand x2 (7))) (by decide +kernel)).trans ?_
  refine (zr_lushr (b := ((8) * (qand x2 (7)))) (by decide +kernel)).trans ?_
  refine (zr_l2i (by decide +kernel)).trans ?_
  refine (zr_sipush (n := 255) (by decide +kernel) rfl).trans ?_
  refine (zr_iand (a := (((s0).toUInt64 >>> ((zi ((8) * (qand x2 (7)))).toInt64.toUInt64 &&& Int64.toUInt64 63)).toInt64).toInt32.toInt) (b := (255)) (by decide +kernel)).trans ?_
  exact zr_iret (a := (qand (((s0).toUInt64 >>> ((zi ((8) * (qand x2 (7)))).toInt64.toUInt64 &&& Int64.toUInt64 63)).toInt64).toInt32.toInt (255))) (by decide +kernel) rfl
/-! PartSongDesk partOf (II)LPartSongDesk$Part; -/
theorem ze_97_0 {V : zVt} {J : zJt} {d : Nat → Nat → UInt64} (x1 : Int) (x2 : Int) : zGo false 97 0 [.ref 0, .int (zi x1), .int (zi x2)] [] (zm V J d) =
    (if qw x1 < 0 then zGo false 97 18 [.ref 0, .int (zi x1), .int (zi x2)] [] (zm V J d) else (if qw (3) ≤ qw x1 then zGo false 97 18 [.ref 0, .int (zi x1), .int (zi x2)] [] (zm V J d) else (if qw x2 < 0 then zGo false 97 18 [.ref 0, .int (zi x1), .int (zi x2)] [] (zm V J d) else (if qw x2 < qw (4) then zck (0 ≤ qw ((x1 * (4)) + x2) ∧ qw ((x1 * (4)) + x2) < 12) (some (.inl (some (.ref (50 + 15 * (qw ((x1 * (4)) + x2)).toNat))), zm V J d)) else zGo false 97 18 [.ref 0, .int (zi x1), .int (zi x2)] [] (zm V J d))))) := by
  refine (zr_iload_n (n := 1) (x := zi x1) (by decide +kernel) rfl).trans ?_
  refine (zr_iflt (off := 17) (a := x1) (t := 18) (by decide +kernel) rfl).trans (zif_ct (fun _ => ?_) (fun _ => ?_))
  · rfl
  · refine (zr_iload_n (n := 1) (x := zi x1) (by decide +kernel) rfl).trans ?_
    refine (zr_iconst (n := 3) (by decide +kernel)).trans ?_
    refine (zr_cge (off := 12) (a := x1) (b := (3)) (t := 18) (by decide +kernel) rfl).trans (zif_ct (fun _ => ?_) (fun _ => ?_))
    · rfl
    · refine (zr_iload_n (n := 2) (x := zi x2) (by decide +kernel) rfl).trans ?_
      refine (zr_iflt (off := 8) (a := x2) (t := 18) (by decide +kernel) rfl).trans (zif_ct (fun _ => ?_) (fun _ => ?_))
      · rfl
      · refine (zr_iload_n (n := 2) (x := zi x2) (by decide +kernel) rfl).trans ?_
        refine (zr_iconst (n := 4) (by decide +kernel)).trans ?_
        refine (zr_clt (off := 14) (a := x2) (b := (4)) (t := 29) (by decide +kernel) rfl).trans (zif_ct (fun _ => ?_) (fun _ => ?_))
        · refine (zr_aload_n (n := 0) (x := 0) (by decide +kernel) rfl).trans ?_
          refine (zr_getR (i := 11) (c := 11) (k := 0) (r := 1) (by decide +kernel) (by decide +kernel) rfl (by decide +kernel) (zR0_f (o := 0) (c := 11) (n := 0) (k := 0) (j := 1) rfl (by decide) rfl)).trans ?_
          refine (zr_iload_n (n := 1) (x := zi x1) (by decide +kernel) rfl).trans ?_
          refine (zr_iconst (n := 4) (by decide +kernel)).trans ?_
          refine (zr_imul (a := x1) (b := (4)) (by decide +kernel)).trans ?_
          refine (zr_iload_n (n := 2) (x := zi x2) (by decide +kernel) rfl).trans ?_
          refine (zr_iadd (a := (x1 * (4))) (b := x2) (by decide +kernel)).trans ?_
          refine (zr_parts (e := ((x1 * (4)) + x2)) (by decide +kernel)).trans (zck_ct fun q38 => ?_)
          exact zr_aret (n := "PartSongDesk$Part") (by decide +kernel) rfl
        · rfl
theorem ze_97_18 {V : zVt} {J : zJt} {d : Nat → Nat → UInt64} (x1 : Int) (x2 : Int) : zGo false 97 18 [.ref 0, .int (zi x1), .int (zi x2)] [] (zm V J d) =
    some (.inr 0, zm V J d) := by
  exact zr_thr (i := 139) (e := 0) (w := 0) (by decide +kernel) (by decide +kernel) (by decide +kernel) (by decide)
