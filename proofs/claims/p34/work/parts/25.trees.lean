/-! part 25: methods as equations; printed by program (wip/p34/gen/gen_tree.py, gen_trees_all.py) -/
/-! PartSongDesk$Singing changeByKey (I)I -/
theorem ze_75_0 {V : zVt} {J : zJt} {d : Nat → Nat → UInt64} (x1 : Int) : zGo false 75 0 [.ref 12, .int (zi x1)] [] (zm V J d) =
    (if qw x1 < 0 then zGo false 75 12 [.ref 12, .int (zi x1)] [] (zm V J d) else (if qw x1 < qw (7 : Nat) then zck (0 ≤ qw x1 ∧ qw x1 < 7) ((if qw (V 12 8) ≤ qw (ztab 22 (qw x1).toNat).toInt then zck (0 ≤ qw x1 ∧ qw x1 < 7) ((if qw (-(V 12 8)) ≤ qw ((6) - (ztab 22 (qw x1).toNat).toInt) then zGo false 75 51 [.ref 12, .int (zi x1)] [.int (zi (0))] (zm V J d) else zGo false 75 51 [.ref 12, .int (zi x1)] [.int (zi (-1))] (zm V J d))) else zGo false 75 51 [.ref 12, .int (zi x1)] [.int (zi (1))] (zm V J d))) else zGo false 75 12 [.ref 12, .int (zi x1)] [] (zm V J d))) := by
  refine (zr_iload_n (n := 1) (x := zi x1) (by decide +kernel) rfl).trans ?_
  refine (zr_iflt (off := 11) (a := x1) (t := 12) (by decide +kernel) rfl).trans (zif_ct (fun _ => ?_) (fun _ => ?_))
  · rfl
  · refine (zr_iload_n (n := 1) (x := zi x1) (by decide +kernel) rfl).trans ?_
    refine (zr_gets1 (i := 186) (w := 0) (by decide +kernel) (by decide +kernel)).trans ?_
    refine (zr_alen (by decide +kernel) rfl (by decide)).trans ?_
    refine (zr_clt (off := 5) (a := x1) (b := (7 : Nat)) (t := 14) (by decide +kernel) rfl).trans (zif_ct (fun _ => ?_) (fun _ => ?_))
    · refine (zr_gets1 (i := 186) (w := 0) (by decide +kernel) (by decide +kernel)).trans ?_
      refine (zr_iload_n (n := 1) (x := zi x1) (by decide +kernel) rfl).trans ?_
      refine (zr_tald (e := x1) (by decide +kernel) rfl (by decide)).trans (zck_ct fun _ => ?_)
      refine (zr_aload_n (n := 0) (x := 12) (by decide +kernel) rfl).trans ?_
      refine (zr_getI (i := 81) (c := 9) (k := 8) (by decide +kernel) (by decide +kernel) rfl (by decide +kernel)).trans ?_
      refine (zr_cge (off := 7) (a := (ztab 22 (qw x1).toNat).toInt) (b := (V 12 8)) (t := 30) (by decide +kernel) rfl).trans (zif_ct (fun _ => ?_) (fun _ => ?_))
      · refine (zr_bipush (n := 6) (by decide +kernel) rfl).trans ?_
        refine (zr_gets1 (i := 186) (w := 0) (by decide +kernel) (by decide +kernel)).trans ?_
        refine (zr_iload_n (n := 1) (x := zi x1) (by decide +kernel) rfl).trans ?_
        refine (zr_tald (e := x1) (by decide +kernel) rfl (by decide)).trans (zck_ct fun _ => ?_)
        refine (zr_isub (a := (6)) (b := (ztab 22 (qw x1).toNat).toInt) (by decide +kernel)).trans ?_
        refine (zr_aload_n (n := 0) (x := 12) (by decide +kernel) rfl).trans ?_
        refine (zr_getI (i := 81) (c := 9) (k := 8) (by decide +kernel) (by decide +kernel) rfl (by decide +kernel)).trans ?_
        refine (zr_ineg (a := (V 12 8)) (by decide +kernel)).trans ?_
        refine (zr_cge (off := 7) (a := ((6) - (ztab 22 (qw x1).toNat).toInt)) (b := (-(V 12 8))) (t := 50) (by decide +kernel) rfl).trans (zif_ct (fun _ => ?_) (fun _ => ?_))
        · refine (zr_iconst (n := 0) (by decide +kernel)).trans ?_
          rfl
        · refine (zr_iconst (n := -1) (by decide +kernel)).trans ?_
          refine (zr_goto (off := 4) (t := 51) (by decide +kernel) rfl).trans ?_
          rfl
      · refine (zr_iconst (n := 1) (by decide +kernel)).trans ?_
        refine (zr_goto (off := 24) (t := 51) (by decide +kernel) rfl).trans ?_
        rfl
    · rfl
theorem ze_75_12 {V : zVt} {J : zJt} {d : Nat → Nat → UInt64} (x1 : Int) : zGo false 75 12 [.ref 12, .int (zi x1)] [] (zm V J d) =
    some (.inl (some (.int (zi (0)))), zm V J d) := by
  refine (zr_iconst (n := 0) (by decide +kernel)).trans ?_
  exact zr_iret (a := (0)) (by decide +kernel) rfl
theorem ze_75_51 {V : zVt} {J : zJt} {d : Nat → Nat → UInt64} (x1 : Int) (s0 : Int) : zGo false 75 51 [.ref 12, .int (zi x1)] [.int (zi s0)] (zm V J d) =
    some (.inl (some (.int (zi s0))), zm V J d) := by
  exact zr_iret (a := s0) (by decide +kernel) rfl
/-! PartSongDesk$Singing failTie (LPartSongDesk$Music;)V -/
theorem ze_76_0 {V : zVt} {J : zJt} {d : Nat → Nat → UInt64} (x1 : Nat) (h1 : zBk 5 x1) : zGo false 76 0 [.ref 12, .ref x1] [] (zm V J d) =
    (zGo false 86 0 [.ref 13, .int (zi (V 12 9))] [] (zm V J d)).bind (zGor false 76 14 [.ref 12, .ref x1] [.int (zi (9)), .ref x1]) := by
  refine (zr_aload_n (n := 1) (x := x1) (by decide +kernel) rfl).trans ?_
  refine (zr_bipush (n := 9) (by decide +kernel) rfl).trans ?_
  refine (zr_aload_n (n := 0) (x := 12) (by decide +kernel) rfl).trans ?_
  refine (zr_getR (i := 12) (c := 9) (k := 0) (r := 13) (by decide +kernel) (by decide +kernel) rfl (by decide +kernel) (zR0_f (o := 12) (c := 9) (n := 0) (k := 0) (j := 1) rfl (by decide) rfl)).trans ?_
  refine (zr_aload_n (n := 0) (x := 12) (by decide +kernel) rfl).trans ?_
  refine (zr_getI (i := 90) (c := 9) (k := 9) (by decide +kernel) (by decide +kernel) rfl (by decide +kernel)).trans ?_
  exact zr_cV (i := 69) (z := 86) (w := 0) (o := 13) (t := [.int (zi (V 12 9))]) (rest := [.int (zi (9)), .ref x1]) (L := [.ref 13, .int (zi (V 12 9))]) (pc1 := 14) (by decide +kernel) (by decide +kernel) (zb10_0 zBk_13) (n := 1) (r := 2) rfl rfl rfl (by decide +kernel) rfl rfl
theorem ze_76_14 {V : zVt} {J : zJt} {d : Nat → Nat → UInt64} (x1 : Nat) (s0 : Nat) (s1 : Int) (s2 : Int) (h1 : zBk 5 x1) (g0 : zBk 5 s0) : zGo false 76 14 [.ref 12, .ref x1] [.int (zi s2), .int (zi s1), .ref s0] (zm V J d) =
    (if qw s2 = 0 then zGo false 76 33 [.ref 12, .ref x1] [.int (zi (-1)), .int (zi s1), .ref s0] (zm V J d) else zck (0 ≤ qw (V 12 9) ∧ qw (V 12 9) < (60 : Nat)) (zGo false 76 33 [.ref 12, .ref x1] [.int (zi (V (13 + 2) (qw (V 12 9)))), .int (zi s1), .ref s0] (zm V J d))) := by
  refine (zr_ifeq (off := 18) (a := s2) (t := 32) (by decide +kernel) rfl).trans (zif_ct (fun _ => ?_) (fun _ => ?_))
  · refine (zr_iconst (n := -1) (by decide +kernel)).trans ?_
    rfl
  · refine (zr_aload_n (n := 0) (x := 12) (by decide +kernel) rfl).trans ?_
    refine (zr_getR (i := 12) (c := 9) (k := 0) (r := 13) (by decide +kernel) (by decide +kernel) rfl (by decide +kernel) (zR0_f (o := 12) (c := 9) (n := 0) (k := 0) (j := 1) rfl (by decide) rfl)).trans ?_
    refine (zr_getR (i := 114) (c := 10) (k := 5) (r := (13 + 2)) (by decide +kernel) (by decide +kernel) (zb10_0 zBk_13) (by decide +kernel) (zR0_f (o := 13) (c := 10) (n := 0) (k := 5) (j := 2) (zb10_0 zBk_13) (by decide) rfl)).trans ?_
    refine (zr_aload_n (n := 0) (x := 12) (by decide +kernel) rfl).trans ?_
    refine (zr_getI (i := 90) (c := 9) (k := 9) (by decide +kernel) (by decide +kernel) rfl (by decide +kernel)).trans ?_
    refine (zr_iald (n := 60) (e := (V 12 9)) (by decide +kernel) (zb10_2 zBk_13)).trans (zck_ct fun _ => ?_)
    refine (zr_goto (off := 4) (t := 33) (by decide +kernel) rfl).trans ?_
    rfl
theorem ze_76_33 {V : zVt} {J : zJt} {d : Nat → Nat → UInt64} (x1 : Nat) (s0 : Nat) (s1 : Int) (s2 : Int) (h1 : zBk 5 x1) (g0 : zBk 5 s0) : zGo false 76 33 [.ref 12, .ref x1] [.int (zi s2), .int (zi s1), .ref s0] (zm V J d) =
    (zGo false 34 0 [.ref s0, .int (zi s1), .int (zi s2)] [] (zm V J d)).bind (zGor false 76 36 [.ref 12, .ref x1] []) := by
  exact zr_cV (i := 49) (z := 34) (w := 0) (o := s0) (t := [.int (zi s2), .int (zi s1)]) (rest := []) (L := [.ref s0, .int (zi s1), .int (zi s2)]) (pc1 := 36) (by decide +kernel) (by decide +kernel) (zb5_0 g0) (n := 2) (r := 0) rfl rfl rfl (by decide +kernel) rfl rfl
theorem ze_76_36 {V : zVt} {J : zJt} {d : Nat → Nat → UInt64} (x1 : Nat) (h1 : zBk 5 x1) : zGo false 76 36 [.ref 12, .ref x1] [] (zm V J d) =
    some (.inl none, zm V J d) := by
  exact zr_vret (by decide +kernel) rfl
/-! PartSongDesk$Singing fill (LPartSongDesk$Music;II)Z -/
theorem ze_77_0 {V : zVt} {J : zJt} {d : Nat → Nat → UInt64} (x1 : Nat) (x2 : Int) (x3 : Int) (h1 : zBk 5 x1) : zGo false 77 0 [.ref 12, .ref x1, .int (zi x2), .int (zi x3), .null, .null] [] (zm V J d) =
    zck (0 ≤ qw (V 12 7) ∧ qw (V 12 7) < (60 : Nat)) ((if qw (V x1 3) < qw ((V 12 4) + (V (13 + 6) (qw (V 12 7)))) then zGo false 77 35 [.ref 12, .ref x1, .int (zi x2), .int (zi x3), .int (zi ((V 12 4) + (V (13 + 6) (qw (V 12 7))))), .null] [] (zm V J d) else (if qw ((V 12 4) + (V (13 + 6) (qw (V 12 7)))) ≤ qw (16) then zGo false 77 61 [.ref 12, .ref x1, .int (zi x2), .int (zi x3), .int (zi ((V 12 4) + (V (13 + 6) (qw (V 12 7))))), .int (zi (V 12 4))] [] (zm V J d) else zGo false 77 35 [.ref 12, .ref x1, .int (zi x2), .int (zi x3), .int (zi ((V 12 4) + (V (13 + 6) (qw (V 12 7))))), .null] [] (zm V J d)))) := by
  refine (zr_aload_n (n := 0) (x := 12) (by decide +kernel) rfl).trans ?_
  refine (zr_getI (i := 84) (c := 9) (k := 4) (by decide +kernel) (by decide +kernel) rfl (by decide +kernel)).trans ?_
  refine (zr_aload_n (n := 0) (x := 12) (by decide +kernel) rfl).trans ?_
  refine (zr_getR (i := 12) (c := 9) (k := 0) (r := 13) (by decide +kernel) (by decide +kernel) rfl (by decide +kernel) (zR0_f (o := 12) (c := 9) (n := 0) (k := 0) (j := 1) rfl (by decide) rfl)).trans ?_
  refine (zr_getR (i := 168) (c := 10) (k := 9) (r := (13 + 6)) (by decide +kernel) (by decide +kernel) (zb10_0 zBk_13) (by decide +kernel) (zR0_f (o := 13) (c := 10) (n := 0) (k := 9) (j := 6) (zb10_0 zBk_13) (by decide) rfl)).trans ?_
  refine (zr_aload_n (n := 0) (x := 12) (by decide +kernel) rfl).trans ?_
  refine (zr_getI (i := 66) (c := 9) (k := 7) (by decide +kernel) (by decide +kernel) rfl (by decide +kernel)).trans ?_
  refine (zr_iald (n := 60) (e := (V 12 7)) (by decide +kernel) (zb10_6 zBk_13)).trans (zck_ct fun _ => ?_)
  refine (zr_iadd (a := (V 12 4)) (b := (V (13 + 6) (qw (V 12 7)))) (by decide +kernel)).trans ?_
  refine (zr_istore (n := 4) (l1 := [.ref 12, .ref x1, .int (zi x2), .int (zi x3), .int (zi ((V 12 4) + (V (13 + 6) (qw (V 12 7))))), .null]) (by decide +kernel) rfl).trans ?_
  refine (zr_iload (n := 4) (x := zi ((V 12 4) + (V (13 + 6) (qw (V 12 7))))) (by decide +kernel) rfl).trans ?_
  refine (zr_aload_n (n := 1) (x := x1) (by decide +kernel) rfl).trans ?_
  refine (zr_getI (i := 171) (c := 5) (k := 3) (by decide +kernel) (by decide +kernel) (zb5_0 h1) (by decide +kernel)).trans ?_
  refine (zr_cgt (off := 10) (a := ((V 12 4) + (V (13 + 6) (qw (V 12 7))))) (b := (V x1 3)) (t := 35) (by decide +kernel) rfl).trans (zif_ct (fun _ => ?_) (fun _ => ?_))
  · rfl
  · refine (zr_iload (n := 4) (x := zi ((V 12 4) + (V (13 + 6) (qw (V 12 7))))) (by decide +kernel) rfl).trans ?_
    refine (zr_bipush (n := 16) (by decide +kernel) rfl).trans ?_
    refine (zr_cle (off := 23) (a := ((V 12 4) + (V (13 + 6) (qw (V 12 7))))) (b := (16)) (t := 55) (by decide +kernel) rfl).trans (zif_ct (fun _ => ?_) (fun _ => ?_))
    · refine (zr_aload_n (n := 0) (x := 12) (by decide +kernel) rfl).trans ?_
      refine (zr_getI (i := 84) (c := 9) (k := 4) (by decide +kernel) (by decide +kernel) rfl (by decide +kernel)).trans ?_
      refine (zr_istore (n := 5) (l1 := [.ref 12, .ref x1, .int (zi x2), .int (zi x3), .int (zi ((V 12 4) + (V (13 + 6) (qw (V 12 7))))), .int (zi (V 12 4))]) (by decide +kernel) rfl).trans ?_
      rfl
    · rfl
theorem ze_77_35 {V : zVt} {J : zJt} {d : Nat → Nat → UInt64} (x1 : Nat) (x2 : Int) (x3 : Int) (x4 : Int) (h1 : zBk 5 x1) : zGo false 77 35 [.ref 12, .ref x1, .int (zi x2), .int (zi x3), .int (zi x4), .null] [] (zm V J d) =
    zck (0 ≤ qw (V 12 7) ∧ qw (V 12 7) < (60 : Nat)) ((zGo false 34 0 [.ref x1, .int (zi (7)), .int (zi (V (13 + 2) (qw (V 12 7))))] [] (zm V J d)).bind (zGor false 77 53 [.ref 12, .ref x1, .int (zi x2), .int (zi x3), .int (zi x4), .null] [])) := by
  refine (zr_aload_n (n := 1) (x := x1) (by decide +kernel) rfl).trans ?_
  refine (zr_bipush (n := 7) (by decide +kernel) rfl).trans ?_
  refine (zr_aload_n (n := 0) (x := 12) (by decide +kernel) rfl).trans ?_
  refine (zr_getR (i := 12) (c := 9) (k := 0) (r := 13) (by decide +kernel) (by decide +kernel) rfl (by decide +kernel) (zR0_f (o := 12) (c := 9) (n := 0) (k := 0) (j := 1) rfl (by decide) rfl)).trans ?_
  refine (zr_getR (i := 114) (c := 10) (k := 5) (r := (13 + 2)) (by decide +kernel) (by decide +kernel) (zb10_0 zBk_13) (by decide +kernel) (zR0_f (o := 13) (c := 10) (n := 0) (k := 5) (j := 2) (zb10_0 zBk_13) (by decide) rfl)).trans ?_
  refine (zr_aload_n (n := 0) (x := 12) (by decide +kernel) rfl).trans ?_
  refine (zr_getI (i := 66) (c := 9) (k := 7) (by decide +kernel) (by decide +kernel) rfl (by decide +kernel)).trans ?_
  refine (zr_iald (n := 60) (e := (V 12 7)) (by decide +kernel) (zb10_2 zBk_13)).trans (zck_ct fun _ => ?_)
  exact zr_cV (i := 49) (z := 34) (w := 0) (o := x1) (t := [.int (zi (V (13 + 2) (qw (V 12 7)))), .int (zi (7))]) (rest := []) (L := [.ref x1, .int (zi (7)), .int (zi (V (13 + 2) (qw (V 12 7))))]) (pc1 := 53) (by decide +kernel) (by decide +kernel) (zb5_0 h1) (n := 2) (r := 0) rfl rfl rfl (by decide +kernel) rfl rfl
theorem ze_77_53 {V : zVt} {J : zJt} {d : Nat → Nat → UInt64} (x1 : Nat) (x2 : Int) (x3 : Int) (x4 : Int) (h1 : zBk 5 x1) : zGo false 77 53 [.ref 12, .ref x1, .int (zi x2), .int (zi x3), .int (zi x4), .null] [] (zm V J d) =
    zck (qw (0) = 0 ∨ qw (0) = 1) (some (.inl (some (.int (zi (0)))), zm V J d)) := by
  refine (zr_iconst (n := 0) (by decide +kernel)).trans ?_
  exact zr_zret (a := (0)) (by decide +kernel) rfl
theorem ze_77_61 {V : zVt} {J : zJt} {d : Nat → Nat → UInt64} (x1 : Nat) (x2 : Int) (x3 : Int) (x4 : Int) (x5 : Int) (h1 : zBk 5 x1) : zGo false 77 61 [.ref 12, .ref x1, .int (zi x2), .int (zi x3), .int (zi x4), .int (zi x5)] [] (zm V J d) =
    (if qw x4 ≤ qw x5 then zck (qw (1) = 0 ∨ qw (1) = 1) (some (.inl (some (.int (zi (1)))), zm (vup V 12 4 x4) J d)) else (if qw x5 ≠ qw (V 12 4) then zGo false 77 88 [.ref 12, .ref x1, .int (zi x2), .int (zi x3), .int (zi x4), .int (zi x5)] [.int (zi x3), .int (zi x5), .ref 24] (zm V J d) else zGo false 77 88 [.ref 12, .ref x1, .int (zi x2), .int (zi x3), .int (zi x4), .int (zi x5)] [.int (zi x2), .int (zi x5), .ref 24] (zm V J d))) := by
  refine (zr_iload (n := 5) (x := zi x5) (by decide +kernel) rfl).trans ?_
  refine (zr_iload (n := 4) (x := zi x4) (by decide +kernel) rfl).trans ?_
  refine (zr_cge (off := 30) (a := x5) (b := x4) (t := 95) (by decide +kernel) rfl).trans (zif_ct (fun _ => ?_) (fun _ => ?_))
  · refine (zr_aload_n (n := 0) (x := 12) (by decide +kernel) rfl).trans ?_
    refine (zr_iload (n := 4) (x := zi x4) (by decide +kernel) rfl).trans ?_
    refine (zr_putI (i := 84) (c := 9) (k := 4) (x := x4) (by decide +kernel) (by decide +kernel) rfl (by decide +kernel)).trans ?_
    refine (zr_iconst (n := 1) (by decide +kernel)).trans ?_
    exact zr_zret (a := (1)) (by decide +kernel) rfl
  · refine (zr_aload_n (n := 0) (x := 12) (by decide +kernel) rfl).trans ?_
    refine (zr_getR (i := 25) (c := 9) (k := 3) (r := 24) (by decide +kernel) (by decide +kernel) rfl (by decide +kernel) (zR0_f (o := 12) (c := 9) (n := 0) (k := 3) (j := 12) rfl (by decide) rfl)).trans ?_
    refine (zr_iload (n := 5) (x := zi x5) (by decide +kernel) rfl).trans ?_
    refine (zr_iload (n := 5) (x := zi x5) (by decide +kernel) rfl).trans ?_
    refine (zr_aload_n (n := 0) (x := 12) (by decide +kernel) rfl).trans ?_
    refine (zr_getI (i := 84) (c := 9) (k := 4) (by decide +kernel) (by decide +kernel) rfl (by decide +kernel)).trans ?_
    refine (zr_cne (off := 7) (a := x5) (b := (V 12 4)) (t := 87) (by decide +kernel) rfl).trans (zif_ct (fun _ => ?_) (fun _ => ?_))
    · refine (zr_iload_n (n := 3) (x := zi x3) (by decide +kernel) rfl).trans ?_
      rfl
    · refine (zr_iload_n (n := 2) (x := zi x2) (by decide +kernel) rfl).trans ?_
      refine (zr_goto (off := 4) (t := 88) (by decide +kernel) rfl).trans ?_
      rfl
theorem ze_77_88 {V : zVt} {J : zJt} {d : Nat → Nat → UInt64} (x1 : Nat) (x2 : Int) (x3 : Int) (x4 : Int) (x5 : Int) (s1 : Int) (s2 : Int) (h1 : zBk 5 x1) : zGo false 77 88 [.ref 12, .ref x1, .int (zi x2), .int (zi x3), .int (zi x4), .int (zi x5)] [.int (zi s2), .int (zi s1), .ref 24] (zm V J d) =
    zck (0 ≤ qw s1 ∧ qw s1 < (16 : Nat)) (zGo false 77 61 [.ref 12, .ref x1, .int (zi x2), .int (zi x3), .int (zi x4), .int (zi (x5 + 1))] [] (zm (vup V 24 (qw s1) s2) J d)) := by
  refine (zr_iast (n := 16) (e := s1) (x := s2) (by decide +kernel) rfl).trans (zck_ct fun _ => ?_)
  refine (zr_iinc (n := 5) (k := 1) (x := x5) (l1 := [.ref 12, .ref x1, .int (zi x2), .int (zi x3), .int (zi x4), .int (zi (x5 + 1))]) (by decide +kernel) rfl rfl).trans ?_
  refine (zr_goto (off := -31) (t := 61) (by decide +kernel) rfl).trans ?_
  rfl
/-! PartSongDesk$Singing singRest (LPartSongDesk$Music;)V -/
theorem ze_78_0 {V : zVt} {J : zJt} {d : Nat → Nat → UInt64} (x1 : Nat) (h1 : zBk 5 x1) : zGo false 78 0 [.ref 12, .ref x1] [] (zm V J d) =
    (if qw (V 12 9) = qw (-1) then (zGo false 77 0 [.ref 12, .ref x1, .int (zi (0)), .int (zi (0)), .null, .null] [] (zm V J d)).bind (zGor false 78 21 [.ref 12, .ref x1] []) else (zGo false 76 0 [.ref 12, .ref x1] [] (zm V J d)).bind (zGor false 78 13 [.ref 12, .ref x1] [])) := by
  refine (zr_aload_n (n := 0) (x := 12) (by decide +kernel) rfl).trans ?_
  refine (zr_getI (i := 90) (c := 9) (k := 9) (by decide +kernel) (by decide +kernel) rfl (by decide +kernel)).trans ?_
  refine (zr_iconst (n := -1) (by decide +kernel)).trans ?_
  refine (zr_ceq (off := 9) (a := (V 12 9)) (b := (-1)) (t := 14) (by decide +kernel) rfl).trans (zif_ct (fun _ => ?_) (fun _ => ?_))
  · refine (zr_aload_n (n := 0) (x := 12) (by decide +kernel) rfl).trans ?_
    refine (zr_aload_n (n := 1) (x := x1) (by decide +kernel) rfl).trans ?_
    refine (zr_iconst (n := 0) (by decide +kernel)).trans ?_
    refine (zr_iconst (n := 0) (by decide +kernel)).trans ?_
    exact zr_cV (i := 161) (z := 77) (w := 0) (o := 12) (t := [.int (zi (0)), .int (zi (0)), .ref x1]) (rest := []) (L := [.ref 12, .ref x1, .int (zi (0)), .int (zi (0)), .null, .null]) (pc1 := 21) (by decide +kernel) (by decide +kernel) rfl (n := 3) (r := 0) rfl rfl rfl (by decide +kernel) rfl rfl
  · refine (zr_aload_n (n := 0) (x := 12) (by decide +kernel) rfl).trans ?_
    refine (zr_aload_n (n := 1) (x := x1) (by decide +kernel) rfl).trans ?_
    exact zr_cV (i := 158) (z := 76) (w := 0) (o := 12) (t := [.ref x1]) (rest := []) (L := [.ref 12, .ref x1]) (pc1 := 13) (by decide +kernel) (by decide +kernel) rfl (n := 1) (r := 0) rfl rfl rfl (by decide +kernel) rfl rfl
theorem ze_78_13 {V : zVt} {J : zJt} {d : Nat → Nat → UInt64} (x1 : Nat) (h1 : zBk 5 x1) : zGo false 78 13 [.ref 12, .ref x1] [] (zm V J d) =
    some (.inl none, zm V J d) := by
  exact zr_vret (by decide +kernel) rfl
theorem ze_78_21 {V : zVt} {J : zJt} {d : Nat → Nat → UInt64} (x1 : Nat) (s0 : Int) (h1 : zBk 5 x1) : zGo false 78 21 [.ref 12, .ref x1] [.int (zi s0)] (zm V J d) =
    some (.inl none, zm V J d) := by
  refine (zr_pop (by decide +kernel) rfl).trans ?_
  exact zr_vret (by decide +kernel) rfl
/-! PartSongDesk$Singing endBar (LPartSongDesk$Music;I)V -/
theorem ze_79_0 {V : zVt} {J : zJt} {d : Nat → Nat → UInt64} (x1 : Nat) (x2 : Int) (h1 : zBk 5 x1) : zGo false 79 0 [.ref 12, .ref x1, .int (zi x2)] [] (zm V J d) =
    (if qw (V 12 4) = 0 then zGo false 79 25 [.ref 12, .ref x1, .int (zi x2)] [] (zm V J d) else (if qw (V x1 3) ≤ qw (V 12 4) then zGo false 79 35 [.ref 12, .ref x1, .int (zi x2)] [] (zm V J d) else (if qw (V x1 2) ≤ 0 then zGo false 79 35 [.ref 12, .ref x1, .int (zi x2)] [] (zm V J d) else zGo false 79 25 [.ref 12, .ref x1, .int (zi x2)] [] (zm V J d)))) := by
  refine (zr_aload_n (n := 0) (x := 12) (by decide +kernel) rfl).trans ?_
  refine (zr_getI (i := 84) (c := 9) (k := 4) (by decide +kernel) (by decide +kernel) rfl (by decide +kernel)).trans ?_
  refine (zr_ifeq (off := 21) (a := (V 12 4)) (t := 25) (by decide +kernel) rfl).trans (zif_ct (fun _ => ?_) (fun _ => ?_))
  · rfl
  · refine (zr_aload_n (n := 0) (x := 12) (by decide +kernel) rfl).trans ?_
    refine (zr_getI (i := 84) (c := 9) (k := 4) (by decide +kernel) (by decide +kernel) rfl (by decide +kernel)).trans ?_
    refine (zr_aload_n (n := 1) (x := x1) (by decide +kernel) rfl).trans ?_
    refine (zr_getI (i := 171) (c := 5) (k := 3) (by decide +kernel) (by decide +kernel) (zb5_0 h1) (by decide +kernel)).trans ?_
    refine (zr_cge (off := 20) (a := (V 12 4)) (b := (V x1 3)) (t := 35) (by decide +kernel) rfl).trans (zif_ct (fun _ => ?_) (fun _ => ?_))
    · rfl
    · refine (zr_aload_n (n := 1) (x := x1) (by decide +kernel) rfl).trans ?_
      refine (zr_getI (i := 174) (c := 5) (k := 2) (by decide +kernel) (by decide +kernel) (zb5_0 h1) (by decide +kernel)).trans ?_
      refine (zr_ifle (off := 13) (a := (V x1 2)) (t := 35) (by decide +kernel) rfl).trans (zif_ct (fun _ => ?_) (fun _ => ?_))
      · rfl
      · rfl
theorem ze_79_25 {V : zVt} {J : zJt} {d : Nat → Nat → UInt64} (x1 : Nat) (x2 : Int) (h1 : zBk 5 x1) : zGo false 79 25 [.ref 12, .ref x1, .int (zi x2)] [] (zm V J d) =
    (zGo false 34 0 [.ref x1, .int (zi (8)), .int (zi x2)] [] (zm V J d)).bind (zGor false 79 32 [.ref 12, .ref x1, .int (zi x2)] []) := by
  refine (zr_aload_n (n := 1) (x := x1) (by decide +kernel) rfl).trans ?_
  refine (zr_bipush (n := 8) (by decide +kernel) rfl).trans ?_
  refine (zr_iload_n (n := 2) (x := zi x2) (by decide +kernel) rfl).trans ?_
  exact zr_cV (i := 49) (z := 34) (w := 0) (o := x1) (t := [.int (zi x2), .int (zi (8))]) (rest := []) (L := [.ref x1, .int (zi (8)), .int (zi x2)]) (pc1 := 32) (by decide +kernel) (by decide +kernel) (zb5_0 h1) (n := 2) (r := 0) rfl rfl rfl (by decide +kernel) rfl rfl
theorem ze_79_32 {V : zVt} {J : zJt} {d : Nat → Nat → UInt64} (x1 : Nat) (x2 : Int) (h1 : zBk 5 x1) : zGo false 79 32 [.ref 12, .ref x1, .int (zi x2)] [] (zm V J d) =
    zGo false 79 80 [.ref 12, .ref x1, .int (zi x2)] [] (zm V J d) := by
  refine (zr_goto (off := 48) (t := 80) (by decide +kernel) rfl).trans ?_
  rfl
theorem ze_79_35 {V : zVt} {J : zJt} {d : Nat → Nat → UInt64} (x1 : Nat) (x2 : Int) (h1 : zBk 5 x1) : zGo false 79 35 [.ref 12, .ref x1, .int (zi x2)] [] (zm V J d) =
    (if qw (V x1 2) < qw (40) then (zGo false 35 0 [.ref x1, .ref 24, .int (zi (V 12 4)), .null, .null] [] (zm V J d)).bind (zGor false 79 66 [.ref 12, .ref x1, .int (zi x2)] []) else (zGo false 34 0 [.ref x1, .int (zi (10)), .int (zi x2)] [] (zm V J d)).bind (zGor false 79 51 [.ref 12, .ref x1, .int (zi x2)] [])) := by
  refine (zr_aload_n (n := 1) (x := x1) (by decide +kernel) rfl).trans ?_
  refine (zr_getI (i := 174) (c := 5) (k := 2) (by decide +kernel) (by decide +kernel) (zb5_0 h1) (by decide +kernel)).trans ?_
  refine (zr_bipush (n := 40) (by decide +kernel) rfl).trans ?_
  refine (zr_clt (off := 13) (a := (V x1 2)) (b := (40)) (t := 54) (by decide +kernel) rfl).trans (zif_ct (fun _ => ?_) (fun _ => ?_))
  · refine (zr_aload_n (n := 1) (x := x1) (by decide +kernel) rfl).trans ?_
    refine (zr_aload_n (n := 0) (x := 12) (by decide +kernel) rfl).trans ?_
    refine (zr_getR (i := 25) (c := 9) (k := 3) (r := 24) (by decide +kernel) (by decide +kernel) rfl (by decide +kernel) (zR0_f (o := 12) (c := 9) (n := 0) (k := 3) (j := 12) rfl (by decide) rfl)).trans ?_
    refine (zr_aload_n (n := 0) (x := 12) (by decide +kernel) rfl).trans ?_
    refine (zr_getI (i := 84) (c := 9) (k := 4) (by decide +kernel) (by decide +kernel) rfl (by decide +kernel)).trans ?_
    exact zr_cV (i := 177) (z := 35) (w := 0) (o := x1) (t := [.int (zi (V 12 4)), .ref 24]) (rest := []) (L := [.ref x1, .ref 24, .int (zi (V 12 4)), .null, .null]) (pc1 := 66) (by decide +kernel) (by decide +kernel) (zb5_0 h1) (n := 2) (r := 0) rfl rfl rfl (by decide +kernel) rfl rfl
  · refine (zr_aload_n (n := 1) (x := x1) (by decide +kernel) rfl).trans ?_
    refine (zr_bipush (n := 10) (by decide +kernel) rfl).trans ?_
    refine (zr_iload_n (n := 2) (x := zi x2) (by decide +kernel) rfl).trans ?_
    exact zr_cV (i := 49) (z := 34) (w := 0) (o := x1) (t := [.int (zi x2), .int (zi (10))]) (rest := []) (L := [.ref x1, .int (zi (10)), .int (zi x2)]) (pc1 := 51) (by decide +kernel) (by decide +kernel) (zb5_0 h1) (n := 2) (r := 0) rfl rfl rfl (by decide +kernel) rfl rfl
theorem ze_79_51 {V : zVt} {J : zJt} {d : Nat → Nat → UInt64} (x1 : Nat) (x2 : Int) (h1 : zBk 5 x1) : zGo false 79 51 [.ref 12, .ref x1, .int (zi x2)] [] (zm V J d) =
    zGo false 79 80 [.ref 12, .ref x1, .int (zi x2)] [] (zm V J d) := by
  refine (zr_goto (off := 29) (t := 80) (by decide +kernel) rfl).trans ?_
  rfl
theorem ze_79_66 {V : zVt} {J : zJt} {d : Nat → Nat → UInt64} (x1 : Nat) (x2 : Int) (h1 : zBk 5 x1) : zGo false 79 66 [.ref 12, .ref x1, .int (zi x2)] [] (zm V J d) =
    (zGo false 236 0 [.ref 23, .int (zi (9)), .null, .null] [] (zm (vup V 12 4 (0)) J d)).bind (zGor false 79 80 [.ref 12, .ref x1, .int (zi x2)] []) := by
  refine (zr_aload_n (n := 0) (x := 12) (by decide +kernel) rfl).trans ?_
  refine (zr_iconst (n := 0) (by decide +kernel)).trans ?_
  refine (zr_putI (i := 84) (c := 9) (k := 4) (x := (0)) (by decide +kernel) (by decide +kernel) rfl (by decide +kernel)).trans ?_
  refine (zr_aload_n (n := 0) (x := 12) (by decide +kernel) rfl).trans ?_
  refine (zr_getR (i := 22) (c := 9) (k := 2) (r := 23) (by decide +kernel) (by decide +kernel) rfl (by decide +kernel) (zR0_f (o := 12) (c := 9) (n := 0) (k := 2) (j := 11) rfl (by decide) rfl)).trans ?_
  refine (zr_bipush (n := 9) (by decide +kernel) rfl).trans ?_
  exact zr_cS (i := 93) (z := 236) (w := 0) (t := [.int (zi (9)), .ref 23]) (rest := []) (L := [.ref 23, .int (zi (9)), .null, .null]) (pc1 := 80) (by decide +kernel) (by decide +kernel) (n := 2) (r := 0) rfl rfl rfl (by decide +kernel) rfl rfl
theorem ze_79_80 {V : zVt} {J : zJt} {d : Nat → Nat → UInt64} (x1 : Nat) (x2 : Int) (h1 : zBk 5 x1) : zGo false 79 80 [.ref 12, .ref x1, .int (zi x2)] [] (zm V J d) =
    some (.inl none, zm V J d) := by
  exact zr_vret (by decide +kernel) rfl
/-! PartSongDesk$Singing openRepeat ()V -/
theorem ze_80_0 {V : zVt} {J : zJt} {d : Nat → Nat → UInt64} : zGo false 80 0 [.ref 12] [] (zm V J d) =
    (if qw (3) ≤ qw (V 12 6) then zGo false 80 28 [.ref 12] [] (zm V J d) else zck (0 ≤ qw ((vup V 12 6 ((V 12 6) + (1))) 12 6) ∧ qw ((vup V 12 6 ((V 12 6) + (1))) 12 6) < (4 : Nat)) (zGo false 80 28 [.ref 12] [] (zm (vup (vup V 12 6 ((V 12 6) + (1))) 25 (qw ((vup V 12 6 ((V 12 6) + (1))) 12 6)) (1)) J d))) := by
  refine (zr_aload_n (n := 0) (x := 12) (by decide +kernel) rfl).trans ?_
  refine (zr_getI (i := 87) (c := 9) (k := 6) (by decide +kernel) (by decide +kernel) rfl (by decide +kernel)).trans ?_
  refine (zr_iconst (n := 3) (by decide +kernel)).trans ?_
  refine (zr_cge (off := 23) (a := (V 12 6)) (b := (3)) (t := 28) (by decide +kernel) rfl).trans (zif_ct (fun _ => ?_) (fun _ => ?_))
  · rfl
  · refine (zr_aload_n (n := 0) (x := 12) (by decide +kernel) rfl).trans ?_
    refine (zr_dup (by decide +kernel) rfl).trans ?_
    refine (zr_getI (i := 87) (c := 9) (k := 6) (by decide +kernel) (by decide +kernel) rfl (by decide +kernel)).trans ?_
    refine (zr_iconst (n := 1) (by decide +kernel)).trans ?_
    refine (zr_iadd (a := (V 12 6)) (b := (1)) (by decide +kernel)).trans ?_
    refine (zr_putI (i := 87) (c := 9) (k := 6) (x := ((V 12 6) + (1))) (by decide +kernel) (by decide +kernel) rfl (by decide +kernel)).trans ?_
    refine (zr_aload_n (n := 0) (x := 12) (by decide +kernel) rfl).trans ?_
    refine (zr_getR (i := 30) (c := 9) (k := 5) (r := 25) (by decide +kernel) (by decide +kernel) rfl (by decide +kernel) (zR0_f (o := 12) (c := 9) (n := 0) (k := 5) (j := 13) rfl (by decide) rfl)).trans ?_
    refine (zr_aload_n (n := 0) (x := 12) (by decide +kernel) rfl).trans ?_
    refine (zr_getI (i := 87) (c := 9) (k := 6) (by decide +kernel) (by decide +kernel) rfl (by decide +kernel)).trans ?_
    refine (zr_iconst (n := 1) (by decide +kernel)).trans ?_
    refine (zr_iast (n := 4) (e := ((vup V 12 6 ((V 12 6) + (1))) 12 6)) (x := (1)) (by decide +kernel) rfl).trans (zck_ct fun _ => ?_)
    rfl
theorem ze_80_28 {V : zVt} {J : zJt} {d : Nat → Nat → UInt64} : zGo false 80 28 [.ref 12] [] (zm V J d) =
    some (.inl none, zm V J d) := by
  exact zr_vret (by decide +kernel) rfl
/-! PartSongDesk$Singing closeRepeat ()V -/
theorem ze_81_0 {V : zVt} {J : zJt} {d : Nat → Nat → UInt64} : zGo false 81 0 [.ref 12] [] (zm V J d) =
    zck (0 ≤ qw (V 12 6) ∧ qw (V 12 6) < (4 : Nat)) (zck (0 ≤ qw (V 12 7) ∧ qw (V 12 7) < (60 : Nat)) ((if qw (V (13 + 3) (qw (V 12 7))) ≤ qw (V 25 (qw (V 12 6))) then (zGo false 231 0 [.int (zi (0)), .int (zi ((V 12 6) - (1)))] [] (zm V J d)).bind (zGor false 81 69 [.ref 12] [.ref 12]) else zck (0 ≤ qw (V 12 6) ∧ qw (V 12 6) < (4 : Nat)) (zck (0 ≤ qw (V 12 6) ∧ qw (V 12 6) < (4 : Nat)) (zck (0 ≤ qw ((vup V 25 (qw (V 12 6)) ((V 25 (qw (V 12 6))) + (1))) 12 7) ∧ qw ((vup V 25 (qw (V 12 6)) ((V 25 (qw (V 12 6))) + (1))) 12 7) < (60 : Nat)) (zGo false 81 82 [.ref 12] [] (zm (vup (vup V 25 (qw (V 12 6)) ((V 25 (qw (V 12 6))) + (1))) 12 7 (((vup V 25 (qw (V 12 6)) ((V 25 (qw (V 12 6))) + (1))) (13 + 8) (qw ((vup V 25 (qw (V 12 6)) ((V 25 (qw (V 12 6))) + (1))) 12 7))) + (1))) J d))))))) := by
  refine (zr_aload_n (n := 0) (x := 12) (by decide +kernel) rfl).trans ?_
  refine (zr_getR (i := 30) (c := 9) (k := 5) (r := 25) (by decide +kernel) (by decide +kernel) rfl (by decide +kernel) (zR0_f (o := 12) (c := 9) (n := 0) (k := 5) (j := 13) rfl (by decide) rfl)).trans ?_
  refine (zr_aload_n (n := 0) (x := 12) (by decide +kernel) rfl).trans ?_
  refine (zr_getI (i := 87) (c := 9) (k := 6) (by decide +kernel) (by decide +kernel) rfl (by decide +kernel)).trans ?_
  refine (zr_iald (n := 4) (e := (V 12 6)) (by decide +kernel) rfl).trans (zck_ct fun _ => ?_)
  refine (zr_aload_n (n := 0) (x := 12) (by decide +kernel) rfl).trans ?_
  refine (zr_getR (i := 12) (c := 9) (k := 0) (r := 13) (by decide +kernel) (by decide +kernel) rfl (by decide +kernel) (zR0_f (o := 12) (c := 9) (n := 0) (k := 0) (j := 1) rfl (by decide) rfl)).trans ?_
  refine (zr_getR (i := 62) (c := 10) (k := 6) (r := (13 + 3)) (by decide +kernel) (by decide +kernel) (zb10_0 zBk_13) (by decide +kernel) (zR0_f (o := 13) (c := 10) (n := 0) (k := 6) (j := 3) (zb10_0 zBk_13) (by decide) rfl)).trans ?_
  refine (zr_aload_n (n := 0) (x := 12) (by decide +kernel) rfl).trans ?_
  refine (zr_getI (i := 66) (c := 9) (k := 7) (by decide +kernel) (by decide +kernel) rfl (by decide +kernel)).trans ?_
  refine (zr_iald (n := 60) (e := (V 12 7)) (by decide +kernel) (zb10_3 zBk_13)).trans (zck_ct fun _ => ?_)
  refine (zr_cge (off := 37) (a := (V 25 (qw (V 12 6)))) (b := (V (13 + 3) (qw (V 12 7)))) (t := 58) (by decide +kernel) rfl).trans (zif_ct (fun _ => ?_) (fun _ => ?_))
  · refine (zr_aload_n (n := 0) (x := 12) (by decide +kernel) rfl).trans ?_
    refine (zr_iconst (n := 0) (by decide +kernel)).trans ?_
    refine (zr_aload_n (n := 0) (x := 12) (by decide +kernel) rfl).trans ?_
    refine (zr_getI (i := 87) (c := 9) (k := 6) (by decide +kernel) (by decide +kernel) rfl (by decide +kernel)).trans ?_
    refine (zr_iconst (n := 1) (by decide +kernel)).trans ?_
    refine (zr_isub (a := (V 12 6)) (b := (1)) (by decide +kernel)).trans ?_
    exact zr_cS (i := 130) (z := 231) (w := 0) (t := [.int (zi ((V 12 6) - (1))), .int (zi (0))]) (rest := [.ref 12]) (L := [.int (zi (0)), .int (zi ((V 12 6) - (1)))]) (pc1 := 69) (by decide +kernel) (by decide +kernel) (n := 2) (r := 1) rfl rfl rfl (by decide +kernel) rfl rfl
  · refine (zr_aload_n (n := 0) (x := 12) (by decide +kernel) rfl).trans ?_
    refine (zr_getR (i := 30) (c := 9) (k := 5) (r := 25) (by decide +kernel) (by decide +kernel) rfl (by decide +kernel) (zR0_f (o := 12) (c := 9) (n := 0) (k := 5) (j := 13) rfl (by decide) rfl)).trans ?_
    refine (zr_aload_n (n := 0) (x := 12) (by decide +kernel) rfl).trans ?_
    refine (zr_getI (i := 87) (c := 9) (k := 6) (by decide +kernel) (by decide +kernel) rfl (by decide +kernel)).trans ?_
    refine (zr_dup2 (by decide +kernel) rfl rfl).trans ?_
    refine (zr_iald (n := 4) (e := (V 12 6)) (by decide +kernel) rfl).trans (zck_ct fun _ => ?_)
    refine (zr_iconst (n := 1) (by decide +kernel)).trans ?_
    refine (zr_iadd (a := (V 25 (qw (V 12 6)))) (b := (1)) (by decide +kernel)).trans ?_
    refine (zr_iast (n := 4) (e := (V 12 6)) (x := ((V 25 (qw (V 12 6))) + (1))) (by decide +kernel) rfl).trans (zck_ct fun _ => ?_)
    refine (zr_aload_n (n := 0) (x := 12) (by decide +kernel) rfl).trans ?_
    refine (zr_aload_n (n := 0) (x := 12) (by decide +kernel) rfl).trans ?_
    refine (zr_getR (i := 12) (c := 9) (k := 0) (r := 13) (by decide +kernel) (by decide +kernel) rfl (by decide +kernel) (zR0_f (o := 12) (c := 9) (n := 0) (k := 0) (j := 1) rfl (by decide) rfl)).trans ?_
    refine (zr_getR (i := 127) (c := 10) (k := 11) (r := (13 + 8)) (by decide +kernel) (by decide +kernel) (zb10_0 zBk_13) (by decide +kernel) (zR0_f (o := 13) (c := 10) (n := 0) (k := 11) (j := 8) (zb10_0 zBk_13) (by decide) rfl)).trans ?_
    refine (zr_aload_n (n := 0) (x := 12) (by decide +kernel) rfl).trans ?_
    refine (zr_getI (i := 66) (c := 9) (k := 7) (by decide +kernel) (by decide +kernel) rfl (by decide +kernel)).trans ?_
    refine (zr_iald (n := 60) (e := ((vup V 25 (qw (V 12 6)) ((V 25 (qw (V 12 6))) + (1))) 12 7)) (by decide +kernel) (zb10_8 zBk_13)).trans (zck_ct fun _ => ?_)
    refine (zr_iconst (n := 1) (by decide +kernel)).trans ?_
    refine (zr_iadd (a := ((vup V 25 (qw (V 12 6)) ((V 25 (qw (V 12 6))) + (1))) (13 + 8) (qw ((vup V 25 (qw (V 12 6)) ((V 25 (qw (V 12 6))) + (1))) 12 7)))) (b := (1)) (by decide +kernel)).trans ?_
    refine (zr_putI (i := 66) (c := 9) (k := 7) (x := (((vup V 25 (qw (V 12 6)) ((V 25 (qw (V 12 6))) + (1))) (13 + 8) (qw ((vup V 25 (qw (V 12 6)) ((V 25 (qw (V 12 6))) + (1))) 12 7))) + (1))) (by decide +kernel) (by decide +kernel) rfl (by decide +kernel)).trans ?_
    refine (zr_goto (off := 27) (t := 82) (by decide +kernel) rfl).trans ?_
    rfl
theorem ze_81_69 {V : zVt} {J : zJt} {d : Nat → Nat → UInt64} (s1 : Int) : zGo false 81 69 [.ref 12] [.int (zi s1), .ref 12] (zm V J d) =
    zGo false 81 82 [.ref 12] [] (zm (vup (vup V 12 6 s1) 12 7 (((vup V 12 6 s1) 12 7) + (1))) J d) := by
  refine (zr_putI (i := 87) (c := 9) (k := 6) (x := s1) (by decide +kernel) (by decide +kernel) rfl (by decide +kernel)).trans ?_
  refine (zr_aload_n (n := 0) (x := 12) (by decide +kernel) rfl).trans ?_
  refine (zr_dup (by decide +kernel) rfl).trans ?_
  refine (zr_getI (i := 66) (c := 9) (k := 7) (by decide +kernel) (by decide +kernel) rfl (by decide +kernel)).trans ?_
  refine (zr_iconst (n := 1) (by decide +kernel)).trans ?_
  refine (zr_iadd (a := ((vup V 12 6 s1) 12 7)) (b := (1)) (by decide +kernel)).trans ?_
  refine (zr_putI (i := 66) (c := 9) (k := 7) (x := (((vup V 12 6 s1) 12 7) + (1))) (by decide +kernel) (by decide +kernel) rfl (by decide +kernel)).trans ?_
  rfl
theorem ze_81_82 {V : zVt} {J : zJt} {d : Nat → Nat → UInt64} : zGo false 81 82 [.ref 12] [] (zm V J d) =
    some (.inl none, zm V J d) := by
  exact zr_vret (by decide +kernel) rfl
/-! PartSongDesk$Singing finish (LPartSongDesk$Music;)V -/
theorem ze_82_0 {V : zVt} {J : zJt} {d : Nat → Nat → UInt64} (x1 : Nat) (h1 : zBk 5 x1) : zGo false 82 0 [.ref 12, .ref x1] [] (zm V J d) =
    (if qw (V 12 9) = qw (-1) then (if qw (V 12 4) ≤ 0 then zGo false 82 35 [.ref 12, .ref x1] [] (zm V J d) else (zGo false 79 0 [.ref 12, .ref x1, .int (zi (V 13 1))] [] (zm V J d)).bind (zGor false 82 35 [.ref 12, .ref x1] [])) else (zGo false 76 0 [.ref 12, .ref x1] [] (zm V J d)).bind (zGor false 82 13 [.ref 12, .ref x1] [])) := by
  refine (zr_aload_n (n := 0) (x := 12) (by decide +kernel) rfl).trans ?_
  refine (zr_getI (i := 90) (c := 9) (k := 9) (by decide +kernel) (by decide +kernel) rfl (by decide +kernel)).trans ?_
  refine (zr_iconst (n := -1) (by decide +kernel)).trans ?_
  refine (zr_ceq (off := 11) (a := (V 12 9)) (b := (-1)) (t := 16) (by decide +kernel) rfl).trans (zif_ct (fun _ => ?_) (fun _ => ?_))
  · refine (zr_aload_n (n := 0) (x := 12) (by decide +kernel) rfl).trans ?_
    refine (zr_getI (i := 84) (c := 9) (k := 4) (by decide +kernel) (by decide +kernel) rfl (by decide +kernel)).trans ?_
    refine (zr_ifle (off := 15) (a := (V 12 4)) (t := 35) (by decide +kernel) rfl).trans (zif_ct (fun _ => ?_) (fun _ => ?_))
    · rfl
    · refine (zr_aload_n (n := 0) (x := 12) (by decide +kernel) rfl).trans ?_
      refine (zr_aload_n (n := 1) (x := x1) (by decide +kernel) rfl).trans ?_
      refine (zr_aload_n (n := 0) (x := 12) (by decide +kernel) rfl).trans ?_
      refine (zr_getR (i := 12) (c := 9) (k := 0) (r := 13) (by decide +kernel) (by decide +kernel) rfl (by decide +kernel) (zR0_f (o := 12) (c := 9) (n := 0) (k := 0) (j := 1) rfl (by decide) rfl)).trans ?_
      refine (zr_getI (i := 180) (c := 10) (k := 1) (by decide +kernel) (by decide +kernel) (zb10_0 zBk_13) (by decide +kernel)).trans ?_
      exact zr_cV (i := 117) (z := 79) (w := 0) (o := 12) (t := [.int (zi (V 13 1)), .ref x1]) (rest := []) (L := [.ref 12, .ref x1, .int (zi (V 13 1))]) (pc1 := 35) (by decide +kernel) (by decide +kernel) rfl (n := 2) (r := 0) rfl rfl rfl (by decide +kernel) rfl rfl
  · refine (zr_aload_n (n := 0) (x := 12) (by decide +kernel) rfl).trans ?_
    refine (zr_aload_n (n := 1) (x := x1) (by decide +kernel) rfl).trans ?_
    exact zr_cV (i := 158) (z := 76) (w := 0) (o := 12) (t := [.ref x1]) (rest := []) (L := [.ref 12, .ref x1]) (pc1 := 13) (by decide +kernel) (by decide +kernel) rfl (n := 1) (r := 0) rfl rfl rfl (by decide +kernel) rfl rfl
theorem ze_82_13 {V : zVt} {J : zJt} {d : Nat → Nat → UInt64} (x1 : Nat) (h1 : zBk 5 x1) : zGo false 82 13 [.ref 12, .ref x1] [] (zm V J d) =
    zGo false 82 35 [.ref 12, .ref x1] [] (zm V J d) := by
  refine (zr_goto (off := 22) (t := 35) (by decide +kernel) rfl).trans ?_
  rfl
theorem ze_82_35 {V : zVt} {J : zJt} {d : Nat → Nat → UInt64} (x1 : Nat) (h1 : zBk 5 x1) : zGo false 82 35 [.ref 12, .ref x1] [] (zm V J d) =
    some (.inl none, zm V J d) := by
  exact zr_vret (by decide +kernel) rfl
/-! PartSongDesk$Tokens clear (I)V -/
theorem ze_84_0 {V : zVt} {J : zJt} {d : Nat → Nat → UInt64} (x0 : Nat) (x1 : Int) (h0 : zBk 10 x0) : zGo false 84 0 [.ref x0, .int (zi x1)] [] (zm V J d) =
    some (.inl none, zm (vup (vup (vup (vup V x0 0 (0)) x0 1 x1) x0 2 (0)) x0 3 (-1)) J d) := by
  refine (zr_aload_n (n := 0) (x := x0) (by decide +kernel) rfl).trans ?_
  refine (zr_iconst (n := 0) (by decide +kernel)).trans ?_
  refine (zr_putI (i := 37) (c := 10) (k := 0) (x := (0)) (by decide +kernel) (by decide +kernel) (zb10_0 h0) (by decide +kernel)).trans ?_
  refine (zr_aload_n (n := 0) (x := x0) (by decide +kernel) rfl).trans ?_
  refine (zr_iload_n (n := 1) (x := zi x1) (by decide +kernel) rfl).trans ?_
  refine (zr_putI (i := 41) (c := 10) (k := 1) (x := x1) (by decide +kernel) (by decide +kernel) (zb10_0 h0) (by decide +kernel)).trans ?_
  refine (zr_aload_n (n := 0) (x := x0) (by decide +kernel) rfl).trans ?_
  refine (zr_iconst (n := 0) (by decide +kernel)).trans ?_
  refine (zr_putI (i := 44) (c := 10) (k := 2) (x := (0)) (by decide +kernel) (by decide +kernel) (zb10_0 h0) (by decide +kernel)).trans ?_
  refine (zr_aload_n (n := 0) (x := x0) (by decide +kernel) rfl).trans ?_
  refine (zr_iconst (n := -1) (by decide +kernel)).trans ?_
  refine (zr_putI (i := 47) (c := 10) (k := 3) (x := (-1)) (by decide +kernel) (by decide +kernel) (zb10_0 h0) (by decide +kernel)).trans ?_
  exact zr_vret (by decide +kernel) rfl
/-! PartSongDesk$Tokens add (III)V -/
theorem ze_85_0 {V : zVt} {J : zJt} {d : Nat → Nat → UInt64} (x0 : Nat) (x1 : Int) (x2 : Int) (x3 : Int) (h0 : zBk 10 x0) : zGo false 85 0 [.ref x0, .int (zi x1), .int (zi x2), .int (zi x3)] [] (zm V J d) =
    (if qw (V x0 0) < qw (60) then zck (0 ≤ qw (V x0 0) ∧ qw (V x0 0) < (60 : Nat)) (zck (0 ≤ qw ((vup V (x0 + 1) (qw (V x0 0)) x1) x0 0) ∧ qw ((vup V (x0 + 1) (qw (V x0 0)) x1) x0 0) < (60 : Nat)) (zck (0 ≤ qw ((vup (vup V (x0 + 1) (qw (V x0 0)) x1) (x0 + 2) (qw ((vup V (x0 + 1) (qw (V x0 0)) x1) x0 0)) x2) x0 0) ∧ qw ((vup (vup V (x0 + 1) (qw (V x0 0)) x1) (x0 + 2) (qw ((vup V (x0 + 1) (qw (V x0 0)) x1) x0 0)) x2) x0 0) < (60 : Nat)) (zck (0 ≤ qw ((vup (vup (vup V (x0 + 1) (qw (V x0 0)) x1) (x0 + 2) (qw ((vup V (x0 + 1) (qw (V x0 0)) x1) x0 0)) x2) (x0 + 3) (qw ((vup (vup V (x0 + 1) (qw (V x0 0)) x1) (x0 + 2) (qw ((vup V (x0 + 1) (qw (V x0 0)) x1) x0 0)) x2) x0 0)) x3) x0 0) ∧ qw ((vup (vup (vup V (x0 + 1) (qw (V x0 0)) x1) (x0 + 2) (qw ((vup V (x0 + 1) (qw (V x0 0)) x1) x0 0)) x2) (x0 + 3) (qw ((vup (vup V (x0 + 1) (qw (V x0 0)) x1) (x0 + 2) (qw ((vup V (x0 + 1) (qw (V x0 0)) x1) x0 0)) x2) x0 0)) x3) x0 0) < (60 : Nat)) (zck (0 ≤ qw ((vup (vup (vup (vup V (x0 + 1) (qw (V x0 0)) x1) (x0 + 2) (qw ((vup V (x0 + 1) (qw (V x0 0)) x1) x0 0)) x2) (x0 + 3) (qw ((vup (vup V (x0 + 1) (qw (V x0 0)) x1) (x0 + 2) (qw ((vup V (x0 + 1) (qw (V x0 0)) x1) x0 0)) x2) x0 0)) x3) (x0 + 4) (qw ((vup (vup (vup V (x0 + 1) (qw (V x0 0)) x1) (x0 + 2) (qw ((vup V (x0 + 1) (qw (V x0 0)) x1) x0 0)) x2) (x0 + 3) (qw ((vup (vup V (x0 + 1) (qw (V x0 0)) x1) (x0 + 2) (qw ((vup V (x0 + 1) (qw (V x0 0)) x1) x0 0)) x2) x0 0)) x3) x0 0)) (0)) x0 0) ∧ qw ((vup (vup (vup (vup V (x0 + 1) (qw (V x0 0)) x1) (x0 + 2) (qw ((vup V (x0 + 1) (qw (V x0 0)) x1) x0 0)) x2) (x0 + 3) (qw ((vup (vup V (x0 + 1) (qw (V x0 0)) x1) (x0 + 2) (qw ((vup V (x0 + 1) (qw (V x0 0)) x1) x0 0)) x2) x0 0)) x3) (x0 + 4) (qw ((vup (vup (vup V (x0 + 1) (qw (V x0 0)) x1) (x0 + 2) (qw ((vup V (x0 + 1) (qw (V x0 0)) x1) x0 0)) x2) (x0 + 3) (qw ((vup (vup V (x0 + 1) (qw (V x0 0)) x1) (x0 + 2) (qw ((vup V (x0 + 1) (qw (V x0 0)) x1) x0 0)) x2) x0 0)) x3) x0 0)) (0)) x0 0) < (60 : Nat)) (zck (0 ≤ qw ((vup (vup (vup (vup (vup V (x0 + 1) (qw (V x0 0)) x1) (x0 + 2) (qw ((vup V (x0 + 1) (qw (V x0 0)) x1) x0 0)) x2) (x0 + 3) (qw ((vup (vup V (x0 + 1) (qw (V x0 0)) x1) (x0 + 2) (qw ((vup V (x0 + 1) (qw (V x0 0)) x1) x0 0)) x2) x0 0)) x3) (x0 + 4) (qw ((vup (vup (vup V (x0 + 1) (qw (V x0 0)) x1) (x0 + 2) (qw ((vup V (x0 + 1) (qw (V x0 0)) x1) x0 0)) x2) (x0 + 3) (qw ((vup (vup V (x0 + 1) (qw (V x0 0)) x1) (x0 + 2) (qw ((vup V (x0 + 1) (qw (V x0 0)) x1) x0 0)) x2) x0 0)) x3) x0 0)) (0)) (x0 + 5) (qw ((vup (vup (vup (vup V (x0 + 1) (qw (V x0 0)) x1) (x0 + 2) (qw ((vup V (x0 + 1) (qw (V x0 0)) x1) x0 0)) x2) (x0 + 3) (qw ((vup (vup V (x0 + 1) (qw (V x0 0)) x1) (x0 + 2) (qw ((vup V (x0 + 1) (qw (V x0 0)) x1) x0 0)) x2) x0 0)) x3) (x0 + 4) (qw ((vup (vup (vup V (x0 + 1) (qw (V x0 0)) x1) (x0 + 2) (qw ((vup V (x0 + 1) (qw (V x0 0)) x1) x0 0)) x2) (x0 + 3) (qw ((vup (vup V (x0 + 1) (qw (V x0 0)) x1) (x0 + 2) (qw ((vup V (x0 + 1) (qw (V x0 0)) x1) x0 0)) x2) x0 0)) x3) x0 0)) (0)) x0 0)) (0)) x0 0) ∧ qw ((vup (vup (vup (vup (vup V (x0 + 1) (qw (V x0 0)) x1) (x0 + 2) (qw ((vup V (x0 + 1) (qw (V x0 0)) x1) x0 0)) x2) (x0 + 3) (qw ((vup (vup V (x0 + 1) (qw (V x0 0)) x1) (x0 + 2) (qw ((vup V (x0 + 1) (qw (V x0 0)) x1) x0 0)) x2) x0 0)) x3) (x0 + 4) (qw ((vup (vup (vup V (x0 + 1) (qw (V x0 0)) x1) (x0 + 2) (qw ((vup V (x0 + 1) (qw (V x0 0)) x1) x0 0)) x2) (x0 + 3) (qw ((vup (vup V (x0 + 1) (qw (V x0 0)) x1) (x0 + 2) (qw ((vup V (x0 + 1) (qw (V x0 0)) x1) x0 0)) x2) x0 0)) x3) x0 0)) (0)) (x0 + 5) (qw ((vup (vup (vup (vup V (x0 + 1) (qw (V x0 0)) x1) (x0 + 2) (qw ((vup V (x0 + 1) (qw (V x0 0)) x1) x0 0)) x2) (x0 + 3) (qw ((vup (vup V (x0 + 1) (qw (V x0 0)) x1) (x0 + 2) (qw ((vup V (x0 + 1) (qw (V x0 0)) x1) x0 0)) x2) x0 0)) x3) (x0 + 4) (qw ((vup (vup (vup V (x0 + 1) (qw (V x0 0)) x1) (x0 + 2) (qw ((vup V (x0 + 1) (qw (V x0 0)) x1) x0 0)) x2) (x0 + 3) (qw ((vup (vup V (x0 + 1) (qw (V x0 0)) x1) (x0 + 2) (qw ((vup V (x0 + 1) (qw (V x0 0)) x1) x0 0)) x2) x0 0)) x3) x0 0)) (0)) x0 0)) (0)) x0 0) < (60 : Nat)) (zck ((0 ≤ qw ((vup (vup (vup (vup (vup (vup V (x0 + 1) (qw (V x0 0)) x1) (x0 + 2) (qw ((vup V (x0 + 1) (qw (V x0 0)) x1) x0 0)) x2) (x0 + 3) (qw ((vup (vup V (x0 + 1) (qw (V x0 0)) x1) (x0 + 2) (qw ((vup V (x0 + 1) (qw (V x0 0)) x1) x0 0)) x2) x0 0)) x3) (x0 + 4) (qw ((vup (vup (vup V (x0 + 1) (qw (V x0 0)) x1) (x0 + 2) (qw ((vup V (x0 + 1) (qw (V x0 0)) x1) x0 0)) x2) (x0 + 3) (qw ((vup (vup V (x0 + 1) (qw (V x0 0)) x1) (x0 + 2) (qw ((vup V (x0 + 1) (qw (V x0 0)) x1) x0 0)) x2) x0 0)) x3) x0 0)) (0)) (x0 + 5) (qw ((vup (vup (vup (vup V (x0 + 1) (qw (V x0 0)) x1) (x0 + 2) (qw ((vup V (x0 + 1) (qw (V x0 0)) x1) x0 0)) x2) (x0 + 3) (qw ((vup (vup V (x0 + 1) (qw (V x0 0)) x1) (x0 + 2) (qw ((vup V (x0 + 1) (qw (V x0 0)) x1) x0 0)) x2) x0 0)) x3) (x0 + 4) (qw ((vup (vup (vup V (x0 + 1) (qw (V x0 0)) x1) (x0 + 2) (qw ((vup V (x0 + 1) (qw (V x0 0)) x1) x0 0)) x2) (x0 + 3) (qw ((vup (vup V (x0 + 1) (qw (V x0 0)) x1) (x0 + 2) (qw ((vup V (x0 + 1) (qw (V x0 0)) x1) x0 0)) x2) x0 0)) x3) x0 0)) (0)) x0 0)) (0)) (x0 + 6) (qw ((vup (vup (vup (vup (vup V (x0 + 1) (qw (V x0 0)) x1) (x0 + 2) (qw ((vup V (x0 + 1) (qw (V x0 0)) x1) x0 0)) x2) (x0 + 3) (qw ((vup (vup V (x0 + 1) (qw (V x0 0)) x1) (x0 + 2) (qw ((vup V (x0 + 1) (qw (V x0 0)) x1) x0 0)) x2) x0 0)) x3) (x0 + 4) (qw ((vup (vup (vup V (x0 + 1) (qw (V x0 0)) x1) (x0 + 2) (qw ((vup V (x0 + 1) (qw (V x0 0)) x1) x0 0)) x2) (x0 + 3) (qw ((vup (vup V (x0 + 1) (qw (V x0 0)) x1) (x0 + 2) (qw ((vup V (x0 + 1) (qw (V x0 0)) x1) x0 0)) x2) x0 0)) x3) x0 0)) (0)) (x0 + 5) (qw ((vup (vup (vup (vup V (x0 + 1) (qw (V x0 0)) x1) (x0 + 2) (qw ((vup V (x0 + 1) (qw (V x0 0)) x1) x0 0)) x2) (x0 + 3) (qw ((vup (vup V (x0 + 1) (qw (V x0 0)) x1) (x0 + 2) (qw ((vup V (x0 + 1) (qw (V x0 0)) x1) x0 0)) x2) x0 0)) x3) (x0 + 4) (qw ((vup (vup (vup V (x0 + 1) (qw (V x0 0)) x1) (x0 + 2) (qw ((vup V (x0 + 1) (qw (V x0 0)) x1) x0 0)) x2) (x0 + 3) (qw ((vup (vup V (x0 + 1) (qw (V x0 0)) x1) (x0 + 2) (qw ((vup V (x0 + 1) (qw (V x0 0)) x1) x0 0)) x2) x0 0)) x3) x0 0)) (0)) x0 0)) (0)) x0 0)) (0)) x0 0) ∧ qw ((vup (vup (vup (vup (vup (vup V (x0 + 1) (qw (V x0 0)) x1) (x0 + 2) (qw ((vup V (x0 + 1) (qw (V x0 0)) x1) x0 0)) x2) (x0 + 3) (qw ((vup (vup V (x0 + 1) (qw (V x0 0)) x1) (x0 + 2) (qw ((vup V (x0 + 1) (qw (V x0 0)) x1) x0 0)) x2) x0 0)) x3) (x0 + 4) (qw ((vup (vup (vup V (x0 + 1) (qw (V x0 0)) x1) (x0 + 2) (qw ((vup V (x0 + 1) (qw (V x0 0)) x1) x0 0)) x2) (x0 + 3) (qw ((vup (vup V (x0 + 1) (qw (V x0 0)) x1) (x0 + 2) (qw ((vup V (x0 + 1) (qw (V x0 0)) x1) x0 0)) x2) x0 0)) x3) x0 0)) (0)) (x0 + 5) (qw ((vup (vup (vup (vup V (x0 + 1) (qw (V x0 0)) x1) (x0 + 2) (qw ((vup V (x0 + 1) (qw (V x0 0)) x1) x0 0)) x2) (x0 + 3) (qw ((vup (vup V (x0 + 1) (qw (V x0 0)) x1) (x0 + 2) (qw ((vup V (x0 + 1) (qw (V x0 0)) x1) x0 0)) x2) x0 0)) x3) (x0 + 4) (qw ((vup (vup (vup V (x0 + 1) (qw (V x0 0)) x1) (x0 + 2) (qw ((vup V (x0 + 1) (qw (V x0 0)) x1) x0 0)) x2) (x0 + 3) (qw ((vup (vup V (x0 + 1) (qw (V x0 0)) x1) (x0 + 2) (qw ((vup V (x0 + 1) (qw (V x0 0)) x1) x0 0)) x2) x0 0)) x3) x0 0)) (0)) x0 0)) (0)) (x0 + 6) (qw ((vup (vup (vup (vup (vup V (x0 + 1) (qw (V x0 0)) x1) (x0 + 2) (qw ((vup V (x0 + 1) (qw (V x0 0)) x1) x0 0)) x2) (x0 + 3) (qw ((vup (vup V (x0 + 1) (qw (V x0 0)) x1) (x0 + 2) (qw ((vup V (x0 + 1) (qw (V x0 0)) x1) x0 0)) x2) x0 0)) x3) (x0 + 4) (qw ((vup (vup (vup V (x0 + 1) (qw (V x0 0)) x1) (x0 + 2) (qw ((vup V (x0 + 1) (qw (V x0 0)) x1) x0 0)) x2) (x0 + 3) (qw ((vup (vup V (x0 + 1) (qw (V x0 0)) x1) (x0 + 2) (qw ((vup V (x0 + 1) (qw (V x0 0)) x1) x0 0)) x2) x0 0)) x3) x0 0)) (0)) (x0 + 5) (qw ((vup (vup (vup (vup V (x0 + 1) (qw (V x0 0)) x1) (x0 + 2) (qw ((vup V (x0 + 1) (qw (V x0 0)) x1) x0 0)) x2) (x0 + 3) (qw ((vup (vup V (x0 + 1) (qw (V x0 0)) x1) (x0 + 2) (qw ((vup V (x0 + 1) (qw (V x0 0)) x1) x0 0)) x2) x0 0)) x3) (x0 + 4) (qw ((vup (vup (vup V (x0 + 1) (qw (V x0 0)) x1) (x0 + 2) (qw ((vup V (x0 + 1) (qw (V x0 0)) x1) x0 0)) x2) (x0 + 3) (qw ((vup (vup V (x0 + 1) (qw (V x0 0)) x1) (x0 + 2) (qw ((vup V (x0 + 1) (qw (V x0 0)) x1) x0 0)) x2) x0 0)) x3) x0 0)) (0)) x0 0)) (0)) x0 0)) (0)) x0 0) < (60 : Nat)) ∧ (qw (0) = 0 ∨ qw (0) = 1)) (zck (0 ≤ qw ((vup (vup (vup (vup (vup (vup (vup V (x0 + 1) (qw (V x0 0)) x1) (x0 + 2) (qw ((vup V (x0 + 1) (qw (V x0 0)) x1) x0 0)) x2) (x0 + 3) (qw ((vup (vup V (x0 + 1) (qw (V x0 0)) x1) (x0 + 2) (qw ((vup V (x0 + 1) (qw (V x0 0)) x1) x0 0)) x2) x0 0)) x3) (x0 + 4) (qw ((vup (vup (vup V (x0 + 1) (qw (V x0 0)) x1) (x0 + 2) (qw ((vup V (x0 + 1) (qw (V x0 0)) x1) x0 0)) x2) (x0 + 3) (qw ((vup (vup V (x0 + 1) (qw (V x0 0)) x1) (x0 + 2) (qw ((vup V (x0 + 1) (qw (V x0 0)) x1) x0 0)) x2) x0 0)) x3) x0 0)) (0)) (x0 + 5) (qw ((vup (vup (vup (vup V (x0 + 1) (qw (V x0 0)) x1) (x0 + 2) (qw ((vup V (x0 + 1) (qw (V x0 0)) x1) x0 0)) x2) (x0 + 3) (qw ((vup (vup V (x0 + 1) (qw (V x0 0)) x1) (x0 + 2) (qw ((vup V (x0 + 1) (qw (V x0 0)) x1) x0 0)) x2) x0 0)) x3) (x0 + 4) (qw ((vup (vup (vup V (x0 + 1) (qw (V x0 0)) x1) (x0 + 2) (qw ((vup V (x0 + 1) (qw (V x0 0)) x1) x0 0)) x2) (x0 + 3) (qw ((vup (vup V (x0 + 1) (qw (V x0 0)) x1) (x0 + 2) (qw ((vup V (x0 + 1) (qw (V x0 0)) x1) x0 0)) x2) x0 0)) x3) x0 0)) (0)) x0 0)) (0)) (x0 + 6) (qw ((vup (vup (vup (vup (vup V (x0 + 1) (qw (V x0 0)) x1) (x0 + 2) (qw ((vup V (x0 + 1) (qw (V x0 0)) x1) x0 0)) x2) (x0 + 3) (qw ((vup (vup V (x0 + 1) (qw (V x0 0)) x1) (x0 + 2) (qw ((vup V (x0 + 1) (qw (V x0 0)) x1) x0 0)) x2) x0 0)) x3) (x0 + 4) (qw ((vup (vup (vup V (x0 + 1) (qw (V x0 0)) x1) (x0 + 2) (qw ((vup V (x0 + 1) (qw (V x0 0)) x1) x0 0)) x2) (x0 + 3) (qw ((vup (vup V (x0 + 1) (qw (V x0 0)) x1) (x0 + 2) (qw ((vup V (x0 + 1) (qw (V x0 0)) x1) x0 0)) x2) x0 0)) x3) x0 0)) (0)) (x0 + 5) (qw ((vup (vup (vup (vup V (x0 + 1) (qw (V x0 0)) x1) (x0 + 2) (qw ((vup V (x0 + 1) (qw (V x0 0)) x1) x0 0)) x2) (x0 + 3) (qw ((vup (vup V (x0 + 1) (qw (V x0 0)) x1) (x0 + 2) (qw ((vup V (x0 + 1) (qw (V x0 0)) x1) x0 0)) x2) x0 0)) x3) (x0 + 4) (qw ((vup (vup (vup V (x0 + 1) (qw (V x0 0)) x1) (x0 + 2) (qw ((vup V (x0 + 1) (qw (V x0 0)) x1) x0 0)) x2) (x0 + 3) (qw ((vup (vup V (x0 + 1) (qw (V x0 0)) x1) (x0 + 2) (qw ((vup V (x0 + 1) (qw (V x0 0)) x1) x0 0)) x2) x0 0)) x3) x0 0)) (0)) x0 0)) (0)) x0 0)) (0)) (x0 + 7) (qw ((vup (vup (vup (vup (vup (vup V (x0 + 1) (qw (V x0 0)) x1) (x0 + 2) (qw ((vup V (x0 + 1) (qw (V x0 0)) x1) x0 0)) x2) (x0 + 3) (qw ((vup (vup V (x0 + 1) (qw (V x0 0)) x1) (x0 + 2) (qw ((vup V (x0 + 1) (qw (V x0 0)) x1) x0 0)) x2) x0 0)) x3) (x0 + 4) (qw ((vup (vup (vup V (x0 + 1) (qw (V x0 0)) x1) (x0 + 2) (qw ((vup V (x0 + 1) (qw (V x0 0)) x1) x0 0)) x2) (x0 + 3) (qw ((vup (vup V (x0 + 1) (qw (V x0 0)) x1) (x0 + 2) (qw ((vup V (x0 + 1) (qw (V x0 0)) x1) x0 0)) x2) x0 0)) x3) x0 0)) (0)) (x0 + 5) (qw ((vup (vup (vup (vup V (x0 + 1) (qw (V x0 0)) x1) (x0 + 2) (qw ((vup V (x0 + 1) (qw (V x0 0)) x1) x0 0)) x2) (x0 + 3) (qw ((vup (vup V (x0 + 1) (qw (V x0 0)) x1) (x0 + 2) (qw ((vup V (x0 + 1) (qw (V x0 0)) x1) x0 0)) x2) x0 0)) x3) (x0 + 4) (qw ((vup (vup (vup V (x0 + 1) (qw (V x0 0)) x1) (x0 + 2) (qw ((vup V (x0 + 1) (qw (V x0 0)) x1) x0 0)) x2) (x0 + 3) (qw ((vup (vup V (x0 + 1) (qw (V x0 0)) x1) (x0 + 2) (qw ((vup V (x0 + 1) (qw (V x0 0)) x1) x0 0)) x2) x0 0)) x3) x0 0)) (0)) x0 0)) (0)) (x0 + 6) (qw ((vup (vup (vup (vup (vup V (x0 + 1) (qw (V x0 0)) x1) (x0 + 2) (qw ((vup V (x0 + 1) (qw (V x0 0)) x1) x0 0)) x2) (x0 + 3) (qw ((vup (vup V (x0 + 1) (qw (V x0 0)) x1) (x0 + 2) (qw ((vup V (x0 + 1) (qw (V x0 0)) x1) x0 0)) x2) x0 0)) x3) (x0 + 4) (qw ((vup (vup (vup V (x0 + 1) (qw (V x0 0)) x1) (x0 + 2) (qw ((vup V (x0 + 1) (qw (V x0 0)) x1) x0 0)) x2) (x0 + 3) (qw ((vup (vup V (x0 + 1) (qw (V x0 0)) x1) (x0 + 2) (qw ((vup V (x0 + 1) (qw (V x0 0)) x1) x0 0)) x2) x0 0)) x3) x0 0)) (0)) (x0 + 5) (qw ((vup (vup (vup (vup V (x0 + 1) (qw (V x0 0)) x1) (x0 + 2) (qw ((vup V (x0 + 1) (qw (V x0 0)) x1) x0 0)) x2) (x0 + 3) (qw ((vup (vup V (x0 + 1) (qw (V x0 0)) x1) (x0 + 2) (qw ((vup V (x0 + 1) (qw (V x0 0)) x1) x0 0)) x2) x0 0)) x3) (x0 + 4) (qw ((vup (vup (vup V (x0 + 1) (qw (V x0 0)) x1) (x0 + 2) (qw ((vup V (x0 + 1) (qw (V x0 0)) x1) x0 0)) x2) (x0 + 3) (qw ((vup (vup V (x0 + 1) (qw (V x0 0)) x1) (x0 + 2) (qw ((vup V (x0 + 1) (qw (V x0 0)) x1) x0 0)) x2) x0 0)) x3) x0 0)) (0)) x0 0)) (0)) x0 0)) (0)) x0 0)) (0)) x0 0) ∧ qw ((vup (vup (vup (vup (vup (vup (vup V (x0 + 1) (qw (V x0 0)) x1) (x0 + 2) (qw ((vup V (x0 + 1) (qw (V x0 0)) x1) x0 0)) x2) (x0 + 3) (qw ((vup (vup V (x0 + 1) (qw (V x0 0)) x1) (x0 + 2) (qw ((vup V (x0 + 1) (qw (V x0 0)) x1) x0 0)) x2) x0 0)) x3) (x0 + 4) (qw ((vup (vup (vup V (x0 + 1) (qw (V x0 0)) x1) (x0 + 2) (qw ((vup V (x0 + 1) (qw (V x0 0)) x1) x0 0)) x2) (x0 + 3) (qw ((vup (vup V (x0 + 1) (qw (V x0 0)) x1) (x0 + 2) (qw ((vup V (x0 + 1) (qw (V x0 0)) x1) x0 0)) x2) x0 0)) x3) x0 0)) (0)) (x0 + 5) (qw ((vup (vup (vup (vup V (x0 + 1) (qw (V x0 0)) x1) (x0 + 2) (qw ((vup V (x0 + 1) (qw (V x0 0)) x1) x0 0)) x2) (x0 + 3) (qw ((vup (vup V (x0 + 1) (qw (V x0 0)) x1) (x0 + 2) (qw ((vup V (x0 + 1) (qw (V x0 0)) x1) x0 0)) x2) x0 0)) x3) (x0 + 4) (qw ((vup (vup (vup V (x0 + 1) (qw (V x0 0)) x1) (x0 + 2) (qw ((vup V (x0 + 1) (qw (V x0 0)) x1) x0 0)) x2) (x0 + 3) (qw ((vup (vup V (x0 + 1) (qw (V x0 0)) x1) (x0 + 2) (qw ((vup V (x0 + 1) (qw (V x0 0)) x1) x0 0)) x2) x0 0)) x3) x0 0)) (0)) x0 0)) (0)) (x0 + 6) (qw ((vup (vup (vup (vup (vup V (x0 + 1) (qw (V x0 0)) x1) (x0 + 2) (qw ((vup V (x0 + 1) (qw (V x0 0)) x1) x0 0)) x2) (x0 + 3) (qw ((vup (vup V (x0 + 1) (qw (V x0 0)) x1) (x0 + 2) (qw ((vup V (x0 + 1) (qw (V x0 0)) x1) x0 0)) x2) x0 0)) x3) (x0 + 4) (qw ((vup (vup (vup V (x0 + 1) (qw (V x0 0)) x1) (x0 + 2) (qw ((vup V (x0 + 1) (qw (V x0 0)) x1) x0 0)) x2) (x0 + 3) (qw ((vup (vup V (x0 + 1) (qw (V x0 0)) x1) (x0 + 2) (qw ((vup V (x0 + 1) (qw (V x0 0)) x1) x0 0)) x2) x0 0)) x3) x0 0)) (0)) (x0 + 5) (qw ((vup (vup (vup (vup V (x0 + 1) (qw (V x0 0)) x1) (x0 + 2) (qw ((vup V (x0 + 1) (qw (V x0 0)) x1) x0 0)) x2) (x0 + 3) (qw ((vup (vup V (x0 + 1) (qw (V x0 0)) x1) (x0 + 2) (qw ((vup V (x0 + 1) (qw (V x0 0)) x1) x0 0)) x2) x0 0)) x3) (x0 + 4) (qw ((vup (vup (vup V (x0 + 1) (qw (V x0 0)) x1) (x0 + 2) (qw ((vup V (x0 + 1) (qw (V x0 0)) x1) x0 0)) x2) (x0 + 3) (qw ((vup (vup V (x0 + 1) (qw (V x0 0)) x1) (x0 + 2) (qw ((vup V (x0 + 1) (qw (V x0 0)) x1) x0 0)) x2) x0 0)) x3) x0 0)) (0)) x0 0)) (0)) x0 0)) (0)) (x0 + 7) (qw ((vup (vup (vup (vup (vup (vup V (x0 + 1) (qw (V x0 0)) x1) (x0 + 2) (qw ((vup V (x0 + 1) (qw (V x0 0)) x1) x0 0)) x2) (x0 + 3) (qw ((vup (vup V (x0 + 1) (qw (V x0 0)) x1) (x0 + 2) (qw ((vup V (x0 + 1) (qw (V x0 0)) x1) x0 0)) x2) x0 0)) x3) (x0 + 4) (qw ((vup (vup (vup V (x0 + 1) (qw (V x0 0)) x1) (x0 + 2) (qw ((vup V (x0 + 1) (qw (V x0 0)) x1) x0 0)) x2) (x0 + 3) (qw ((vup (vup V (x0 + 1) (qw (V x0 0)) x1) (x0 + 2) (qw ((vup V (x0 + 1) (qw (V x0 0)) x1) x0 0)) x2) x0 0)) x3) x0 0)) (0)) (x0 + 5) (qw ((vup (vup (vup (vup V (x0 + 1) (qw (V x0 0)) x1) (x0 + 2) (qw ((vup V (x0 + 1) (qw (V x0 0)) x1) x0 0)) x2) (x0 + 3) (qw ((vup (vup V (x0 + 1) (qw (V x0 0)) x1) (x0 + 2) (qw ((vup V (x0 + 1) (qw (V x0 0)) x1) x0 0)) x2) x0 0)) x3) (x0 + 4) (qw ((vup (vup (vup V (x0 + 1) (qw (V x0 0)) x1) (x0 + 2) (qw ((vup V (x0 + 1) (qw (V x0 0)) x1) x0 0)) x2) (x0 + 3) (qw ((vup (vup V (x0 + 1) (qw (V x0 0)) x1) (x0 + 2) (qw ((vup V (x0 + 1) (qw (V x0 0)) x1) x0 0)) x2) x0 0)) x3) x0 0)) (0)) x0 0)) (0)) (x0 + 6) (qw ((vup (vup (vup (vup (vup V (x0 + 1) (qw (V x0 0)) x1) (x0 + 2) (qw ((vup V (x0 + 1) (qw (V x0 0)) x1) x0 0)) x2) (x0 + 3) (qw ((vup (vup V (x0 + 1) (qw (V x0 0)) x1) (x0 + 2) (qw ((vup V (x0 + 1) (qw (V x0 0)) x1) x0 0)) x2) x0 0)) x3) (x0 + 4) (qw ((vup (vup (vup V (x0 + 1) (qw (V x0 0)) x1) (x0 + 2) (qw ((vup V (x0 + 1) (qw (V x0 0)) x1) x0 0)) x2) (x0 + 3) (qw ((vup (vup V (x0 + 1) (qw (V x0 0)) x1) (x0 + 2) (qw ((vup V (x0 + 1) (qw (V x0 0)) x1) x0 0)) x2) x0 0)) x3) x0 0)) (0)) (x0 + 5) (qw ((vup (vup (vup (vup V (x0 + 1) (qw (V x0 0)) x1) (x0 + 2) (qw ((vup V (x0 + 1) (qw (V x0 0)) x1) x0 0)) x2) (x0 + 3) (qw ((vup (vup V (x0 + 1) (qw (V x0 0)) x1) (x0 + 2) (qw ((vup V (x0 + 1) (qw (V x0 0)) x1) x0 0)) x2) x0 0)) x3) (x0 + 4) (qw ((vup (vup (vup V (x0 + 1) (qw (V x0 0)) x1) (x0 + 2) (qw ((vup V (x0 + 1) (qw (V x0 0)) x1) x0 0)) x2) (x0 + 3) (qw ((vup (vup V (x0 + 1) (qw (V x0 0)) x1) (x0 + 2) (qw ((vup V (x0 + 1) (qw (V x0 0)) x1) x0 0)) x2) x0 0)) x3) x0 0)) (0)) x0 0)) (0)) x0 0)) (0)) x0 0)) (0)) x0 0) < (60 : Nat)) (some (.inl none, zm (vup (vup (vup (vup (vup (vup (vup (vup (vup V (x0 + 1) (qw (V x0 0)) x1) (x0 + 2) (qw ((vup V (x0 + 1) (qw (V x0 0)) x1) x0 0)) x2) (x0 + 3) (qw ((vup (vup V (x0 + 1) (qw (V x0 0)) x1) (x0 + 2) (qw ((vup V (x0 + 1) (qw (V x0 0)) x1) x0 0)) x2) x0 0)) x3) (x0 + 4) (qw ((vup (vup (vup V (x0 + 1) (qw (V x0 0)) x1) (x0 + 2) (qw ((vup V (x0 + 1) (qw (V x0 0)) x1) x0 0)) x2) (x0 + 3) (qw ((vup (vup V (x0 + 1) (qw (V x0 0)) x1) (x0 + 2) (qw ((vup V (x0 + 1) (qw (V x0 0)) x1) x0 0)) x2) x0 0)) x3) x0 0)) (0)) (x0 + 5) (qw ((vup (vup (vup (vup V (x0 + 1) (qw (V x0 0)) x1) (x0 + 2) (qw ((vup V (x0 + 1) (qw (V x0 0)) x1) x0 0)) x2) (x0 + 3) (qw ((vup (vup V (x0 + 1) (qw (V x0 0)) x1) (x0 + 2) (qw ((vup V (x0 + 1) (qw (V x0 0)) x1) x0 0)) x2) x0 0)) x3) (x0 + 4) (qw ((vup (vup (vup V (x0 + 1) (qw (V x0 0)) x1) (x0 + 2) (qw ((vup V (x0 + 1) (qw (V x0 0)) x1) x0 0)) x2) (x0 + 3) (qw ((vup (vup V (x0 + 1) (qw (V x0 0)) x1) (x0 + 2) (qw ((vup V (x0 + 1) (qw (V x0 0)) x1) x0 0)) x2) x0 0)) x3) x0 0)) (0)) x0 0)) (0)) (x0 + 6) (qw ((vup (vup (vup (vup (vup V (x0 + 1) (qw (V x0 0)) x1) (x0 + 2) (qw ((vup V (x0 + 1) (qw (V x0 0)) x1) x0 0)) x2) (x0 + 3) (qw ((vup (vup V (x0 + 1) (qw (V x0 0)) x1) (x0 + 2) (qw ((vup V (x0 + 1) (qw (V x0 0)) x1) x0 0)) x2) x0 0)) x3) (x0 + 4) (qw ((vup (vup (vup V (x0 + 1) (qw (V x0 0)) x1) (x0 + 2) (qw ((vup V (x0 + 1) (qw (V x0 0)) x1) x0 0)) x2) (x0 + 3) (qw ((vup (vup V (x0 + 1) (qw (V x0 0)) x1) (x0 + 2) (qw ((vup V (x0 + 1) (qw (V x0 0)) x1) x0 0)) x2) x0 0)) x3) x0 0)) (0)) (x0 + 5) (qw ((vup (vup (vup (vup V (x0 + 1) (qw (V x0 0)) x1) (x0 + 2) (qw ((vup V (x0 + 1) (qw (V x0 0)) x1) x0 0)) x2) (x0 + 3) (qw ((vup (vup V (x0 + 1) (qw (V x0 0)) x1) (x0 + 2) (qw ((vup V (x0 + 1) (qw (V x0 0)) x1) x0 0)) x2) x0 0)) x3) (x0 + 4) (qw ((vup (vup (vup V (x0 + 1) (qw (V x0 0)) x1) (x0 + 2) (qw ((vup V (x0 + 1) (qw (V x0 0)) x1) x0 0)) x2) (x0 + 3) (qw ((vup (vup V (x0 + 1) (qw (V x0 0)) x1) (x0 + 2) (qw ((vup V (x0 + 1) (qw (V x0 0)) x1) x0 0)) x2) x0 0)) x3) x0 0)) (0)) x0 0)) (0)) x0 0)) (0)) (x0 + 7) (qw ((vup (vup (vup (vup (vup (vup V (x0 + 1) (qw (V x0 0)) x1) (x0 + 2) (qw ((vup V (x0 + 1) (qw (V x0 0)) x1) x0 0)) x2) (x0 + 3) (qw ((vup (vup V (x0 + 1) (qw (V x0 0)) x1) (x0 + 2) (qw ((vup V (x0 + 1) (qw (V x0 0)) x1) x0 0)) x2) x0 0)) x3) (x0 + 4) (qw ((vup (vup (vup V (x0 + 1) (qw (V x0 0)) x1) (x0 + 2) (qw ((vup V (x0 + 1) (qw (V x0 0)) x1) x0 0)) x2) (x0 + 3) (qw ((vup (vup V (x0 + 1) (qw (V x0 0)) x1) (x0 + 2) (qw ((vup V (x0 + 1) (qw (V x0 0)) x1) x0 0)) x2) x0 0)) x3) x0 0)) (0)) (x0 + 5) (qw ((vup (vup (vup (vup V (x0 + 1) (qw (V x0 0)) x1) (x0 + 2) (qw ((vup V (x0 + 1) (qw (V x0 0)) x1) x0 0)) x2) (x0 + 3) (qw ((vup (vup V (x0 + 1) (qw (V x0 0)) x1) (x0 + 2) (qw ((vup V (x0 + 1) (qw (V x0 0)) x1) x0 0)) x2) x0 0)) x3) (x0 + 4) (qw ((vup (vup (vup V (x0 + 1) (qw (V x0 0)) x1) (x0 + 2) (qw ((vup V (x0 + 1) (qw (V x0 0)) x1) x0 0)) x2) (x0 + 3) (qw ((vup (vup V (x0 + 1) (qw (V x0 0)) x1) (x0 + 2) (qw ((vup V (x0 + 1) (qw (V x0 0)) x1) x0 0)) x2) x0 0)) x3) x0 0)) (0)) x0 0)) (0)) (x0 + 6) (qw ((vup (vup (vup (vup (vup V (x0 + 1) (qw (V x0 0)) x1) (x0 + 2) (qw ((vup V (x0 + 1) (qw (V x0 0)) x1) x0 0)) x2) (x0 + 3) (qw ((vup (vup V (x0 + 1) (qw (V x0 0)) x1) (x0 + 2) (qw ((vup V (x0 + 1) (qw (V x0 0)) x1) x0 0)) x2) x0 0)) x3) (x0 + 4) (qw ((vup (vup (vup V (x0 + 1) (qw (V x0 0)) x1) (x0 + 2) (qw ((vup V (x0 + 1) (qw (V x0 0)) x1) x0 0)) x2) (x0 + 3) (qw ((vup (vup V (x0 + 1) (qw (V x0 0)) x1) (x0 + 2) (qw ((vup V (x0 + 1) (qw (V x0 0)) x1) x0 0)) x2) x0 0)) x3) x0 0)) (0)) (x0 + 5) (qw ((vup (vup (vup (vup V (x0 + 1) (qw (V x0 0)) x1) (x0 + 2) (qw ((vup V (x0 + 1) (qw (V x0 0)) x1) x0 0)) x2) (x0 + 3) (qw ((vup (vup V (x0 + 1) (qw (V x0 0)) x1) (x0 + 2) (qw ((vup V (x0 + 1) (qw (V x0 0)) x1) x0 0)) x2) x0 0)) x3) (x0 + 4) (qw ((vup (vup (vup V (x0 + 1) (qw (V x0 0)) x1) (x0 + 2) (qw ((vup V (x0 + 1) (qw (V x0 0)) x1) x0 0)) x2) (x0 + 3) (qw ((vup (vup V (x0 + 1) (qw (V x0 0)) x1) (x0 + 2) (qw ((vup V (x0 + 1) (qw (V x0 0)) x1) x0 0)) x2) x0 0)) x3) x0 0)) (0)) x0 0)) (0)) x0 0)) (0)) x0 0)) (0)) (x0 + 8) (qw ((vup (vup (vup (vup (vup (vup (vup V (x0 + 1) (qw (V x0 0)) x1) (x0 + 2) (qw ((vup V (x0 + 1) (qw (V x0 0)) x1) x0 0)) x2) (x0 + 3) (qw ((vup (vup V (x0 + 1) (qw (V x0 0)) x1) (x0 + 2) (qw ((vup V (x0 + 1) (qw (V x0 0)) x1) x0 0)) x2) x0 0)) x3) (x0 + 4) (qw ((vup (vup (vup V (x0 + 1) (qw (V x0 0)) x1) (x0 + 2) (qw ((vup V (x0 + 1) (qw (V x0 0)) x1) x0 0)) x2) (x0 + 3) (qw ((vup (vup V (x0 + 1) (qw (V x0 0)) x1) (x0 + 2) (qw ((vup V (x0 + 1) (qw (V x0 0)) x1) x0 0)) x2) x0 0)) x3) x0 0)) (0)) (x0 + 5) (qw ((vup (vup (vup (vup V (x0 + 1) (qw (V x0 0)) x1) (x0 + 2) (qw ((vup V (x0 + 1) (qw (V x0 0)) x1) x0 0)) x2) (x0 + 3) (qw ((vup (vup V (x0 + 1) (qw (V x0 0)) x1) (x0 + 2) (qw ((vup V (x0 + 1) (qw (V x0 0)) x1) x0 0)) x2) x0 0)) x3) (x0 + 4) (qw ((vup (vup (vup V (x0 + 1) (qw (V x0 0)) x1) (x0 + 2) (qw ((vup V (x0 + 1) (qw (V x0 0)) x1) x0 0)) x2) (x0 + 3) (qw ((vup (vup V (x0 + 1) (qw (V x0 0)) x1) (x0 + 2) (qw ((vup V (x0 + 1) (qw (V x0 0)) x1) x0 0)) x2) x0 0)) x3) x0 0)) (0)) x0 0)) (0)) (x0 + 6) (qw ((vup (vup (vup (vup (vup V (x0 + 1) (qw (V x0 0)) x1) (x0 + 2) (qw ((vup V (x0 + 1) (qw (V x0 0)) x1) x0 0)) x2) (x0 + 3) (qw ((vup (vup V (x0 + 1) (qw (V x0 0)) x1) (x0 + 2) (qw ((vup V (x0 + 1) (qw (V x0 0)) x1) x0 0)) x2) x0 0)) x3) (x0 + 4) (qw ((vup (vup (vup V (x0 + 1) (qw (V x0 0)) x1) (x0 + 2) (qw ((vup V (x0 + 1) (qw (V x0 0)) x1) x0 0)) x2) (x0 + 3) (qw ((vup (vup V (x0 + 1) (qw (V x0 0)) x1) (x0 + 2) (qw ((vup V (x0 + 1) (qw (V x0 0)) x1) x0 0)) x2) x0 0)) x3) x0 0)) (0)) (x0 + 5) (qw ((vup (vup (vup (vup V (x0 + 1) (qw (V x0 0)) x1) (x0 + 2) (qw ((vup V (x0 + 1) (qw (V x0 0)) x1) x0 0)) x2) (x0 + 3) (qw ((vup (vup V (x0 + 1) (qw (V x0 0)) x1) (x0 + 2) (qw ((vup V (x0 + 1) (qw (V x0 0)) x1) x0 0)) x2) x0 0)) x3) (x0 + 4) (qw ((vup (vup (vup V (x0 + 1) (qw (V x0 0)) x1) (x0 + 2) (qw ((vup V (x0 + 1) (qw (V x0 0)) x1) x0 0)) x2) (x0 + 3) (qw ((vup (vup V (x0 + 1) (qw (V x0 0)) x1) (x0 + 2) (qw ((vup V (x0 + 1) (qw (V x0 0)) x1) x0 0)) x2) x0 0)) x3) x0 0)) (0)) x0 0)) (0)) x0 0)) (0)) (x0 + 7) (qw ((vup (vup (vup (vup (vup (vup V (x0 + 1) (qw (V x0 0)) x1) (x0 + 2) (qw ((vup V (x0 + 1) (qw (V x0 0)) x1) x0 0)) x2) (x0 + 3) (qw ((vup (vup V (x0 + 1) (qw (V x0 0)) x1) (x0 + 2) (qw ((vup V (x0 + 1) (qw (V x0 0)) x1) x0 0)) x2) x0 0)) x3) (x0 + 4) (qw ((vup (vup (vup V (x0 + 1) (qw (V x0 0)) x1) (x0 + 2) (qw ((vup V (x0 + 1) (qw (V x0 0)) x1) x0 0)) x2) (x0 + 3) (qw ((vup (vup V (x0 + 1) (qw (V x0 0)) x1) (x0 + 2) (qw ((vup V (x0 + 1) (qw (V x0 0)) x1) x0 0)) x2) x0 0)) x3) x0 0)) (0)) (x0 + 5) (qw ((vup (vup (vup (vup V (x0 + 1) (qw (V x0 0)) x1) (x0 + 2) (qw ((vup V (x0 + 1) (qw (V x0 0)) x1) x0 0)) x2) (x0 + 3) (qw ((vup (vup V (x0 + 1) (qw (V x0 0)) x1) (x0 + 2) (qw ((vup V (x0 + 1) (qw (V x0 0)) x1) x0 0)) x2) x0 0)) x3) (x0 + 4) (qw ((vup (vup (vup V (x0 + 1) (qw (V x0 0)) x1) (x0 + 2) (qw ((vup V (x0 + 1) (qw (V x0 0)) x1) x0 0)) x2) (x0 + 3) (qw ((vup (vup V (x0 + 1) (qw (V x0 0)) x1) (x0 + 2) (qw ((vup V (x0 + 1) (qw (V x0 0)) x1) x0 0)) x2) x0 0)) x3) x0 0)) (0)) x0 0)) (0)) (x0 + 6) (qw ((vup (vup (vup (vup (vup V (x0 + 1) (qw (V x0 0)) x1) (x0 + 2) (qw ((vup V (x0 + 1) (qw (V x0 0)) x1) x0 0)) x2) (x0 + 3) (qw ((vup (vup V (x0 + 1) (qw (V x0 0)) x1) (x0 + 2) (qw ((vup V (x0 + 1) (qw (V x0 0)) x1) x0 0)) x2) x0 0)) x3) (x0 + 4) (qw ((vup (vup (vup V (x0 + 1) (qw (V x0 0)) x1) (x0 + 2) (qw ((vup V (x0 + 1) (qw (V x0 0)) x1) x0 0)) x2) (x0 + 3) (qw ((vup (vup V (x0 + 1) (qw (V x0 0)) x1) (x0 + 2) (qw ((vup V (x0 + 1) (qw (V x0 0)) x1) x0 0)) x2) x0 0)) x3) x0 0)) (0)) (x0 + 5) (qw ((vup (vup (vup (vup V (x0 + 1) (qw (V x0 0)) x1) (x0 + 2) (qw ((vup V (x0 + 1) (qw (V x0 0)) x1) x0 0)) x2) (x0 + 3) (qw ((vup (vup V (x0 + 1) (qw (V x0 0)) x1) (x0 + 2) (qw ((vup V (x0 + 1) (qw (V x0 0)) x1) x0 0)) x2) x0 0)) x3) (x0 + 4) (qw ((vup (vup (vup V (x0 + 1) (qw (V x0 0)) x1) (x0 + 2) (qw ((vup V (x0 + 1) (qw (V x0 0)) x1) x0 0)) x2) (x0 + 3) (qw ((vup (vup V (x0 + 1) (qw (V x0 0)) x1) (x0 + 2) (qw ((vup V (x0 + 1) (qw (V x0 0)) x1) x0 0)) x2) x0 0)) x3) x0 0)) (0)) x0 0)) (0)) x0 0)) (0)) x0 0)) (0)) x0 0)) (-1)) x0 0 (((vup (vup (vup (vup (vup (vup (vup (vup V (x0 + 1) (qw (V x0 0)) x1) (x0 + 2) (qw ((vup V (x0 + 1) (qw (V x0 0)) x1) x0 0)) x2) (x0 + 3) (qw ((vup (vup V (x0 + 1) (qw (V x0 0)) x1) (x0 + 2) (qw ((vup V (x0 + 1) (qw (V x0 0)) x1) x0 0)) x2) x0 0)) x3) (x0 + 4) (qw ((vup (vup (vup V (x0 + 1) (qw (V x0 0)) x1) (x0 + 2) (qw ((vup V (x0 + 1) (qw (V x0 0)) x1) x0 0)) x2) (x0 + 3) (qw ((vup (vup V (x0 + 1) (qw (V x0 0)) x1) (x0 + 2) (qw ((vup V (x0 + 1) (qw (V x0 0)) x1) x0 0)) x2) x0 0)) x3) x0 0)) (0)) (x0 + 5) (qw ((vup (vup (vup (vup V (x0 + 1) (qw (V x0 0)) x1) (x0 + 2) (qw ((vup V (x0 + 1) (qw (V x0 0)) x1) x0 0)) x2) (x0 + 3) (qw ((vup (vup V (x0 + 1) (qw (V x0 0)) x1) (x0 + 2) (qw ((vup V (x0 + 1) (qw (V x0 0)) x1) x0 0)) x2) x0 0)) x3) (x0 + 4) (qw ((vup (vup (vup V (x0 + 1) (qw (V x0 0)) x1) (x0 + 2) (qw ((vup V (x0 + 1) (qw (V x0 0)) x1) x0 0)) x2) (x0 + 3) (qw ((vup (vup V (x0 + 1) (qw (V x0 0)) x1) (x0 + 2) (qw ((vup V (x0 + 1) (qw (V x0 0)) x1) x0 0)) x2) x0 0)) x3) x0 0)) (0)) x0 0)) (0)) (x0 + 6) (qw ((vup (vup (vup (vup (vup V (x0 + 1) (qw (V x0 0)) x1) (x0 + 2) (qw ((vup V (x0 + 1) (qw (V x0 0)) x1) x0 0)) x2) (x0 + 3) (qw ((vup (vup V (x0 + 1) (qw (V x0 0)) x1) (x0 + 2) (qw ((vup V (x0 + 1) (qw (V x0 0)) x1) x0 0)) x2) x0 0)) x3) (x0 + 4) (qw ((vup (vup (vup V (x0 + 1) (qw (V x0 0)) x1) (x0 + 2) (qw ((vup V (x0 + 1) (qw (V x0 0)) x1) x0 0)) x2) (x0 + 3) (qw ((vup (vup V (x0 + 1) (qw (V x0 0)) x1) (x0 + 2) (qw ((vup V (x0 + 1) (qw (V x0 0)) x1) x0 0)) x2) x0 0)) x3) x0 0)) (0)) (x0 + 5) (qw ((vup (vup (vup (vup V (x0 + 1) (qw (V x0 0)) x1) (x0 + 2) (qw ((vup V (x0 + 1) (qw (V x0 0)) x1) x0 0)) x2) (x0 + 3) (qw ((vup (vup V (x0 + 1) (qw (V x0 0)) x1) (x0 + 2) (qw ((vup V (x0 + 1) (qw (V x0 0)) x1) x0 0)) x2) x0 0)) x3) (x0 + 4) (qw ((vup (vup (vup V (x0 + 1) (qw (V x0 0)) x1) (x0 + 2) (qw ((vup V (x0 + 1) (qw (V x0 0)) x1) x0 0)) x2) (x0 + 3) (qw ((vup (vup V (x0 + 1) (qw (V x0 0)) x1) (x0 + 2) (qw ((vup V (x0 + 1) (qw (V x0 0)) x1) x0 0)) x2) x0 0)) x3) x0 0)) (0)) x0 0)) (0)) x0 0)) (0)) (x0 + 7) (qw ((vup (vup (vup (vup (vup (vup V (x0 + 1) (qw (V x0 0)) x1) (x0 + 2) (qw ((vup V (x0 + 1) (qw (V x0 0)) x1) x0 0)) x2) (x0 + 3) (qw ((vup (vup V (x0 + 1) (qw (V x0 0)) x1) (x0 + 2) (qw ((vup V (x0 + 1) (qw (V x0 0)) x1) x0 0)) x2) x0 0)) x3) (x0 + 4) (qw ((vup (vup (vup V (x0 + 1) (qw (V x0 0)) x1) (x0 + 2) (qw ((vup V (x0 + 1) (qw (V x0 0)) x1) x0 0)) x2) (x0 + 3) (qw ((vup (vup V (x0 + 1) (qw (V x0 0)) x1) (x0 + 2) (qw ((vup V (x0 + 1) (qw (V x0 0)) x1) x0 0)) x2) x0 0)) x3) x0 0)) (0)) (x0 + 5) (qw ((vup (vup (vup (vup V (x0 + 1) (qw (V x0 0)) x1) (x0 + 2) (qw ((vup V (x0 + 1) (qw (V x0 0)) x1) x0 0)) x2) (x0 + 3) (qw ((vup (vup V (x0 + 1) (qw (V x0 0)) x1) (x0 + 2) (qw ((vup V (x0 + 1) (qw (V x0 0)) x1) x0 0)) x2) x0 0)) x3) (x0 + 4) (qw ((vup (vup (vup V (x0 + 1) (qw (V x0 0)) x1) (x0 + 2) (qw ((vup V (x0 + 1) (qw (V x0 0)) x1) x0 0)) x2) (x0 + 3) (qw ((vup (vup V (x0 + 1) (qw (V x0 0)) x1) (x0 + 2) (qw ((vup V (x0 + 1) (qw (V x0 0)) x1) x0 0)) x2) x0 0)) x3) x0 0)) (0)) x0 0)) (0)) (x0 + 6) (qw ((vup (vup (vup (vup (vup V (x0 + 1) (qw (V x0 0)) x1) (x0 + 2) (qw ((vup V (x0 + 1) (qw (V x0 0)) x1) x0 0)) x2) (x0 + 3) (qw ((vup (vup V (x0 + 1) (qw (V x0 0)) x1) (x0 + 2) (qw ((vup V (x0 + 1) (qw (V x0 0)) x1) x0 0)) x2) x0 0)) x3) (x0 + 4) (qw ((vup (vup (vup V (x0 + 1) (qw (V x0 0)) x1) (x0 + 2) (qw ((vup V (x0 + 1) (qw (V x0 0)) x1) x0 0)) x2) (x0 + 3) (qw ((vup (vup V (x0 + 1) (qw (V x0 0)) x1) (x0 + 2) (qw ((vup V (x0 + 1) (qw (V x0 0)) x1) x0 0)) x2) x0 0)) x3) x0 0)) (0)) (x0 + 5) (qw ((vup (vup (vup (vup V (x0 + 1) (qw (V x0 0)) x1) (x0 + 2) (qw ((vup V (x0 + 1) (qw (V x0 0)) x1) x0 0)) x2) (x0 + 3) (qw ((vup (vup V (x0 + 1) (qw (V x0 0)) x1) (x0 + 2) (qw ((vup V (x0 + 1) (qw (V x0 0)) x1) x0 0)) x2) x0 0)) x3) (x0 + 4) (qw ((vup (vup (vup V (x0 + 1) (qw (V x0 0)) x1) (x0 + 2) (qw ((vup V (x0 + 1) (qw (V x0 0)) x1) x0 0)) x2) (x0 + 3) (qw ((vup (vup V (x0 + 1) (qw (V x0 0)) x1) (x0 + 2) (qw ((vup V (x0 + 1) (qw (V x0 0)) x1) x0 0)) x2) x0 0)) x3) x0 0)) (0)) x0 0)) (0)) x0 0)) (0)) x0 0)) (0)) (x0 + 8) (qw ((vup (vup (vup (vup (vup (vup (vup V (x0 + 1) (qw (V x0 0)) x1) (x0 + 2) (qw ((vup V (x0 + 1) (qw (V x0 0)) x1) x0 0)) x2) (x0 + 3) (qw ((vup (vup V (x0 + 1) (qw (V x0 0)) x1) (x0 + 2) (qw ((vup V (x0 + 1) (qw (V x0 0)) x1) x0 0)) x2) x0 0)) x3) (x0 + 4) (qw ((vup (vup (vup V (x0 + 1) (qw (V x0 0)) x1) (x0 + 2) (qw ((vup V (x0 + 1) (qw (V x0 0)) x1) x0 0)) x2) (x0 + 3) (qw ((vup (vup V (x0 + 1) (qw (V x0 0)) x1) (x0 + 2) (qw ((vup V (x0 + 1) (qw (V x0 0)) x1) x0 0)) x2) x0 0)) x3) x0 0)) (0)) (x0 + 5) (qw ((vup (vup (vup (vup V (x0 + 1) (qw (V x0 0)) x1) (x0 + 2) (qw ((vup V (x0 + 1) (qw (V x0 0)) x1) x0 0)) x2) (x0 + 3) (qw ((vup (vup V (x0 + 1) (qw (V x0 0)) x1) (x0 + 2) (qw ((vup V (x0 + 1) (qw (V x0 0)) x1) x0 0)) x2) x0 0)) x3) (x0 + 4) (qw ((vup (vup (vup V (x0 + 1) (qw (V x0 0)) x1) (x0 + 2) (qw ((vup V (x0 + 1) (qw (V x0 0)) x1) x0 0)) x2) (x0 + 3) (qw ((vup (vup V (x0 + 1) (qw (V x0 0)) x1) (x0 + 2) (qw ((vup V (x0 + 1) (qw (V x0 0)) x1) x0 0)) x2) x0 0)) x3) x0 0)) (0)) x0 0)) (0)) (x0 + 6) (qw ((vup (vup (vup (vup (vup V (x0 + 1) (qw (V x0 0)) x1) (x0 + 2) (qw ((vup V (x0 + 1) (qw (V x0 0)) x1) x0 0)) x2) (x0 + 3) (qw ((vup (vup V (x0 + 1) (qw (V x0 0)) x1) (x0 + 2) (qw ((vup V (x0 + 1) (qw (V x0 0)) x1) x0 0)) x2) x0 0)) x3) (x0 + 4) (qw ((vup (vup (vup V (x0 + 1) (qw (V x0 0)) x1) (x0 + 2) (qw ((vup V (x0 + 1) (qw (V x0 0)) x1) x0 0)) x2) (x0 + 3) (qw ((vup (vup V (x0 + 1) (qw (V x0 0)) x1) (x0 + 2) (qw ((vup V (x0 + 1) (qw (V x0 0)) x1) x0 0)) x2) x0 0)) x3) x0 0)) (0)) (x0 + 5) (qw ((vup (vup (vup (vup V (x0 + 1) (qw (V x0 0)) x1) (x0 + 2) (qw ((vup V (x0 + 1) (qw (V x0 0)) x1) x0 0)) x2) (x0 + 3) (qw ((vup (vup V (x0 + 1) (qw (V x0 0)) x1) (x0 + 2) (qw ((vup V (x0 + 1) (qw (V x0 0)) x1) x0 0)) x2) x0 0)) x3) (x0 + 4) (qw ((vup (vup (vup V (x0 + 1) (qw (V x0 0)) x1) (x0 + 2) (qw ((vup V (x0 + 1) (qw (V x0 0)) x1) x0 0)) x2) (x0 + 3) (qw ((vup (vup V (x0 + 1) (qw (V x0 0)) x1) (x0 + 2) (qw ((vup V (x0 + 1) (qw (V x0 0)) x1) x0 0)) x2) x0 0)) x3) x0 0)) (0)) x0 0)) (0)) x0 0)) (0)) (x0 + 7) (qw ((vup (vup (vup (vup (vup (vup V (x0 + 1) (qw (V x0 0)) x1) (x0 + 2) (qw ((vup V (x0 + 1) (qw (V x0 0)) x1) x0 0)) x2) (x0 + 3) (qw ((vup (vup V (x0 + 1) (qw (V x0 0)) x1) (x0 + 2) (qw ((vup V (x0 + 1) (qw (V x0 0)) x1) x0 0)) x2) x0 0)) x3) (x0 + 4) (qw ((vup (vup (vup V (x0 + 1) (qw (V x0 0)) x1) (x0 + 2) (qw ((vup V (x0 + 1) (qw (V x0 0)) x1) x0 0)) x2) (x0 + 3) (qw ((vup (vup V (x0 + 1) (qw (V x0 0)) x1) (x0 + 2) (qw ((vup V (x0 + 1) (qw (V x0 0)) x1) x0 0)) x2) x0 0)) x3) x0 0)) (0)) (x0 + 5) (qw ((vup (vup (vup (vup V (x0 + 1) (qw (V x0 0)) x1) (x0 + 2) (qw ((vup V (x0 + 1) (qw (V x0 0)) x1) x0 0)) x2) (x0 + 3) (qw ((vup (vup V (x0 + 1) (qw (V x0 0)) x1) (x0 + 2) (qw ((vup V (x0 + 1) (qw (V x0 0)) x1) x0 0)) x2) x0 0)) x3) (x0 + 4) (qw ((vup (vup (vup V (x0 + 1) (qw (V x0 0)) x1) (x0 + 2) (qw ((vup V (x0 + 1) (qw (V x0 0)) x1) x0 0)) x2) (x0 + 3) (qw ((vup (vup V (x0 + 1) (qw (V x0 0)) x1) (x0 + 2) (qw ((vup V (x0 + 1) (qw (V x0 0)) x1) x0 0)) x2) x0 0)) x3) x0 0)) (0)) x0 0)) (0)) (x0 + 6) (qw ((vup (vup (vup (vup (vup V (x0 + 1) (qw (V x0 0)) x1) (x0 + 2) (qw ((vup V (x0 + 1) (qw (V x0 0)) x1) x0 0)) x2) (x0 + 3) (qw ((vup (vup V (x0 + 1) (qw (V x0 0)) x1) (x0 + 2) (qw ((vup V (x0 + 1) (qw (V x0 0)) x1) x0 0)) x2) x0 0)) x3) (x0 + 4) (qw ((vup (vup (vup V (x0 + 1) (qw (V x0 0)) x1) (x0 + 2) (qw ((vup V (x0 + 1) (qw (V x0 0)) x1) x0 0)) x2) (x0 + 3) (qw ((vup (vup V (x0 + 1) (qw (V x0 0)) x1) (x0 + 2) (qw ((vup V (x0 + 1) (qw (V x0 0)) x1) x0 0)) x2) x0 0)) x3) x0 0)) (0)) (x0 + 5) (qw ((vup (vup (vup (vup V (x0 + 1) (qw (V x0 0)) x1) (x0 + 2) (qw ((vup V (x0 + 1) (qw (V x0 0)) x1) x0 0)) x2) (x0 + 3) (qw ((vup (vup V (x0 + 1) (qw (V x0 0)) x1) (x0 + 2) (qw ((vup V (x0 + 1) (qw (V x0 0)) x1) x0 0)) x2) x0 0)) x3) (x0 + 4) (qw ((vup (vup (vup V (x0 + 1) (qw (V x0 0)) x1) (x0 + 2) (qw ((vup V (x0 + 1) (qw (V x0 0)) x1) x0 0)) x2) (x0 + 3) (qw ((vup (vup V (x0 + 1) (qw (V x0 0)) x1) (x0 + 2) (qw ((vup V (x0 + 1) (qw (V x0 0)) x1) x0 0)) x2) x0 0)) x3) x0 0)) (0)) x0 0)) (0)) x0 0)) (0)) x0 0)) (0)) x0 0)) (-1)) x0 0) + (1))) J d))))))))) else some (.inl none, zm V J d)) := by
  refine (zr_aload_n (n := 0) (x := x0) (by decide +kernel) rfl).trans ?_
  refine (zr_getI (i := 37) (c := 10) (k := 0) (by decide +kernel) (by decide +kernel) (zb10_0 h0) (by decide +kernel)).trans ?_
  refine (zr_bipush (n := 60) (by decide +kernel) rfl).trans ?_
  refine (zr_clt (off := 4) (a := (V x0 0)) (b := (60)) (t := 10) (by decide +kernel) rfl).trans (zif_ct (fun _ => ?_) (fun _ => ?_))
  · refine (zr_aload_n (n := 0) (x := x0) (by decide +kernel) rfl).trans ?_
    refine (zr_getR (i := 9) (c := 10) (k := 4) (r := (x0 + 1)) (by decide +kernel) (by decide +kernel) (zb10_0 h0) (by decide +kernel) (zR0_f (o := x0) (c := 10) (n := 0) (k := 4) (j := 1) (zb10_0 h0) (by decide) rfl)).trans ?_
    refine (zr_aload_n (n := 0) (x := x0) (by decide +kernel) rfl).trans ?_
    refine (zr_getI (i := 37) (c := 10) (k := 0) (by decide +kernel) (by decide +kernel) (zb10_0 h0) (by decide +kernel)).trans ?_
    refine (zr_iload_n (n := 1) (x := zi x1) (by decide +kernel) rfl).trans ?_
    refine (zr_iast (n := 60) (e := (V x0 0)) (x := x1) (by decide +kernel) (zb10_1 h0)).trans (zck_ct fun _ => ?_)
    refine (zr_aload_n (n := 0) (x := x0) (by decide +kernel) rfl).trans ?_
    refine (zr_getR (i := 15) (c := 10) (k := 5) (r := (x0 + 2)) (by decide +kernel) (by decide +kernel) (zb10_0 h0) (by decide +kernel) (zR0_f (o := x0) (c := 10) (n := 0) (k := 5) (j := 2) (zb10_0 h0) (by decide) rfl)).trans ?_
    refine (zr_aload_n (n := 0) (x := x0) (by decide +kernel) rfl).trans ?_
    refine (zr_getI (i := 37) (c := 10) (k := 0) (by decide +kernel) (by decide +kernel) (zb10_0 h0) (by decide +kernel)).trans ?_
    refine (zr_iload_n (n := 2) (x := zi x2) (by decide +kernel) rfl).trans ?_
    refine (zr_iast (n := 60) (e := ((vup V (x0 + 1) (qw (V x0 0)) x1) x0 0)) (x := x2) (by decide +kernel) (zb10_2 h0)).trans (zck_ct fun _ => ?_)
    refine (zr_aload_n (n := 0) (x := x0) (by decide +kernel) rfl).trans ?_
    refine (zr_getR (i := 18) (c := 10) (k := 6) (r := (x0 + 3)) (by decide +kernel) (by decide +kernel) (zb10_0 h0) (by decide +kernel) (zR0_f (o := x0) (c := 10) (n := 0) (k := 6) (j := 3) (zb10_0 h0) (by decide) rfl)).trans ?_
    refine (zr_aload_n (n := 0) (x := x0) (by decide +kernel) rfl).trans ?_
    refine (zr_getI (i := 37) (c := 10) (k := 0) (by decide +kernel) (by decide +kernel) (zb10_0 h0) (by decide +kernel)).trans ?_
    refine (zr_iload_n (n := 3) (x := zi x3) (by decide +kernel) rfl).trans ?_
    refine (zr_iast (n := 60) (e := ((vup (vup V (x0 + 1) (qw (V x0 0)) x1) (x0 + 2) (qw ((vup V (x0 + 1) (qw (V x0 0)) x1) x0 0)) x2) x0 0)) (x := x3) (by decide +kernel) (zb10_3 h0)).trans (zck_ct fun _ => ?_)
    refine (zr_aload_n (n := 0) (x := x0) (by decide +kernel) rfl).trans ?_
    refine (zr_getR (i := 21) (c := 10) (k := 7) (r := (x0 + 4)) (by decide +kernel) (by decide +kernel) (zb10_0 h0) (by decide +kernel) (zR0_f (o := x0) (c := 10) (n := 0) (k := 7) (j := 4) (zb10_0 h0) (by decide) rfl)).trans ?_
    refine (zr_aload_n (n := 0) (x := x0) (by decide +kernel) rfl).trans ?_
    refine (zr_getI (i := 37) (c := 10) (k := 0) (by decide +kernel) (by decide +kernel) (zb10_0 h0) (by decide +kernel)).trans ?_
    refine (zr_iconst (n := 0) (by decide +kernel)).trans ?_
    refine (zr_iast (n := 60) (e := ((vup (vup (vup V (x0 + 1) (qw (V x0 0)) x1) (x0 + 2) (qw ((vup V (x0 + 1) (qw (V x0 0)) x1) x0 0)) x2) (x0 + 3) (qw ((vup (vup V (x0 + 1) (qw (V x0 0)) x1) (x0 + 2) (qw ((vup V (x0 + 1) (qw (V x0 0)) x1) x0 0)) x2) x0 0)) x3) x0 0)) (x := (0)) (by decide +kernel) (zb10_4 h0)).trans (zck_ct fun _ => ?_)
    refine (zr_aload_n (n := 0) (x := x0) (by decide +kernel) rfl).trans ?_
    refine (zr_getR (i := 24) (c := 10) (k := 8) (r := (x0 + 5)) (by decide +kernel) (by decide +kernel) (zb10_0 h0) (by decide +kernel) (zR0_f (o := x0) (c := 10) (n := 0) (k := 8) (j := 5) (zb10_0 h0) (by decide) rfl)).trans ?_
    refine (zr_aload_n (n := 0) (x := x0) (by decide +kernel) rfl).trans ?_
    refine (zr_getI (i := 37) (c := 10) (k := 0) (by decide +kernel) (by decide +kernel) (zb10_0 h0) (by decide +kernel)).trans ?_
    refine (zr_iconst (n := 0) (by decide +kernel)).trans ?_
    refine (zr_iast (n := 60) (e := ((vup (vup (vup (vup V (x0 + 1) (qw (V x0 0)) x1) (x0 + 2) (qw ((vup V (x0 + 1) (qw (V x0 0)) x1) x0 0)) x2) (x0 + 3) (qw ((vup (vup V (x0 + 1) (qw (V x0 0)) x1) (x0 + 2) (qw ((vup V (x0 + 1) (qw (V x0 0)) x1) x0 0)) x2) x0 0)) x3) (x0 + 4) (qw ((vup (vup (vup V (x0 + 1) (qw (V x0 0)) x1) (x0 + 2) (qw ((vup V (x0 + 1) (qw (V x0 0)) x1) x0 0)) x2) (x0 + 3) (qw ((vup (vup V (x0 + 1) (qw (V x0 0)) x1) (x0 + 2) (qw ((vup V (x0 + 1) (qw (V x0 0)) x1) x0 0)) x2) x0 0)) x3) x0 0)) (0)) x0 0)) (x := (0)) (by decide +kernel) (zb10_5 h0)).trans (zck_ct fun _ => ?_)
    refine (zr_aload_n (n := 0) (x := x0) (by decide +kernel) rfl).trans ?_
    refine (zr_getR (i := 27) (c := 10) (k := 9) (r := (x0 + 6)) (by decide +kernel) (by decide +kernel) (zb10_0 h0) (by decide +kernel) (zR0_f (o := x0) (c := 10) (n := 0) (k := 9) (j := 6) (zb10_0 h0) (by decide) rfl)).trans ?_
    refine (zr_aload_n (n := 0) (x := x0) (by decide +kernel) rfl).trans ?_
    refine (zr_getI (i := 37) (c := 10) (k := 0) (by decide +kernel) (by decide +kernel) (zb10_0 h0) (by decide +kernel)).trans ?_
    refine (zr_iconst (n := 0) (by decide +kernel)).trans ?_
    refine (zr_iast (n := 60) (e := ((vup (vup (vup (vup (vup V (x0 + 1) (qw (V x0 0)) x1) (x0 + 2) (qw ((vup V (x0 + 1) (qw (V x0 0)) x1) x0 0)) x2) (x0 + 3) (qw ((vup (vup V (x0 + 1) (qw (V x0 0)) x1) (x0 + 2) (qw ((vup V (x0 + 1) (qw (V x0 0)) x1) x0 0)) x2) x0 0)) x3) (x0 + 4) (qw ((vup (vup (vup V (x0 + 1) (qw (V x0 0)) x1) (x0 + 2) (qw ((vup V (x0 + 1) (qw (V x0 0)) x1) x0 0)) x2) (x0 + 3) (qw ((vup (vup V (x0 + 1) (qw (V x0 0)) x1) (x0 + 2) (qw ((vup V (x0 + 1) (qw (V x0 0)) x1) x0 0)) x2) x0 0)) x3) x0 0)) (0)) (x0 + 5) (qw ((vup (vup (vup (vup V (x0 + 1) (qw (V x0 0)) x1) (x0 + 2) (qw ((vup V (x0 + 1) (qw (V x0 0)) x1) x0 0)) x2) (x0 + 3) (qw ((vup (vup V (x0 + 1) (qw (V x0 0)) x1) (x0 + 2) (qw ((vup V (x0 + 1) (qw (V x0 0)) x1) x0 0)) x2) x0 0)) x3) (x0 + 4) (qw ((vup (vup (vup V (x0 + 1) (qw (V x0 0)) x1) (x0 + 2) (qw ((vup V (x0 + 1) (qw (V x0 0)) x1) x0 0)) x2) (x0 + 3) (qw ((vup (vup V (x0 + 1) (qw (V x0 0)) x1) (x0 + 2) (qw ((vup V (x0 + 1) (qw (V x0 0)) x1) x0 0)) x2) x0 0)) x3) x0 0)) (0)) x0 0)) (0)) x0 0)) (x := (0)) (by decide +kernel) (zb10_6 h0)).trans (zck_ct fun _ => ?_)
    refine (zr_aload_n (n := 0) (x := x0) (by decide +kernel) rfl).trans ?_
    refine (zr_getR (i := 30) (c := 10) (k := 10) (r := (x0 + 7)) (by decide +kernel) (by decide +kernel) (zb10_0 h0) (by decide +kernel) (zR0_f (o := x0) (c := 10) (n := 0) (k := 10) (j := 7) (zb10_0 h0) (by decide) rfl)).trans ?_
    refine (zr_aload_n (n := 0) (x := x0) (by decide +kernel) rfl).trans ?_
    refine (zr_getI (i := 37) (c := 10) (k := 0) (by decide +kernel) (by decide +kernel) (zb10_0 h0) (by decide +kernel)).trans ?_
    refine (zr_iconst (n := 0) (by decide +kernel)).trans ?_
    refine (zr_zast (n := 60) (e := ((vup (vup (vup (vup (vup (vup V (x0 + 1) (qw (V x0 0)) x1) (x0 + 2) (qw ((vup V (x0 + 1) (qw (V x0 0)) x1) x0 0)) x2) (x0 + 3) (qw ((vup (vup V (x0 + 1) (qw (V x0 0)) x1) (x0 + 2) (qw ((vup V (x0 + 1) (qw (V x0 0)) x1) x0 0)) x2) x0 0)) x3) (x0 + 4) (qw ((vup (vup (vup V (x0 + 1) (qw (V x0 0)) x1) (x0 + 2) (qw ((vup V (x0 + 1) (qw (V x0 0)) x1) x0 0)) x2) (x0 + 3) (qw ((vup (vup V (x0 + 1) (qw (V x0 0)) x1) (x0 + 2) (qw ((vup V (x0 + 1) (qw (V x0 0)) x1) x0 0)) x2) x0 0)) x3) x0 0)) (0)) (x0 + 5) (qw ((vup (vup (vup (vup V (x0 + 1) (qw (V x0 0)) x1) (x0 + 2) (qw ((vup V (x0 + 1) (qw (V x0 0)) x1) x0 0)) x2) (x0 + 3) (qw ((vup (vup V (x0 + 1) (qw (V x0 0)) x1) (x0 + 2) (qw ((vup V (x0 + 1) (qw (V x0 0)) x1) x0 0)) x2) x0 0)) x3) (x0 + 4) (qw ((vup (vup (vup V (x0 + 1) (qw (V x0 0)) x1) (x0 + 2) (qw ((vup V (x0 + 1) (qw (V x0 0)) x1) x0 0)) x2) (x0 + 3) (qw ((vup (vup V (x0 + 1) (qw (V x0 0)) x1) (x0 + 2) (qw ((vup V (x0 + 1) (qw (V x0 0)) x1) x0 0)) x2) x0 0)) x3) x0 0)) (0)) x0 0)) (0)) (x0 + 6) (qw ((vup (vup (vup (vup (vup V (x0 + 1) (qw (V x0 0)) x1) (x0 + 2) (qw ((vup V (x0 + 1) (qw (V x0 0)) x1) x0 0)) x2) (x0 + 3) (qw ((vup (vup V (x0 + 1) (qw (V x0 0)) x1) (x0 + 2) (qw ((vup V (x0 + 1) (qw (V x0 0)) x1) x0 0)) x2) x0 0)) x3) (x0 + 4) (qw ((vup (vup (vup V (x0 + 1) (qw (V x0 0)) x1) (x0 + 2) (qw ((vup V (x0 + 1) (qw (V x0 0)) x1) x0 0)) x2) (x0 + 3) (qw ((vup (vup V (x0 + 1) (qw (V x0 0)) x1) (x0 + 2) (qw ((vup V (x0 + 1) (qw (V x0 0)) x1) x0 0)) x2) x0 0)) x3) x0 0)) (0)) (x0 + 5) (qw ((vup (vup (vup (vup V (x0 + 1) (qw (V x0 0)) x1) (x0 + 2) (qw ((vup V (x0 + 1) (qw (V x0 0)) x1) x0 0)) x2) (x0 + 3) (qw ((vup (vup V (x0 + 1) (qw (V x0 0)) x1) (x0 + 2) (qw ((vup V (x0 + 1) (qw (V x0 0)) x1) x0 0)) x2) x0 0)) x3) (x0 + 4) (qw ((vup (vup (vup V (x0 + 1) (qw (V x0 0)) x1) (x0 + 2) (qw ((vup V (x0 + 1) (qw (V x0 0)) x1) x0 0)) x2) (x0 + 3) (qw ((vup (vup V (x0 + 1) (qw (V x0 0)) x1) (x0 + 2) (qw ((vup V (x0 + 1) (qw (V x0 0)) x1) x0 0)) x2) x0 0)) x3) x0 0)) (0)) x0 0)) (0)) x0 0)) (0)) x0 0)) (x := (0)) (by decide +kernel) (zb10_7 h0)).trans (zck_ct fun _ => ?_)
    refine (zr_aload_n (n := 0) (x := x0) (by decide +kernel) rfl).trans ?_
    refine (zr_getR (i := 34) (c := 10) (k := 11) (r := (x0 + 8)) (by decide +kernel) (by decide +kernel) (zb10_0 h0) (by decide +kernel) (zR0_f (o := x0) (c := 10) (n := 0) (k := 11) (j := 8) (zb10_0 h0) (by decide) rfl)).trans ?_
    refine (zr_aload_n (n := 0) (x := x0) (by decide +kernel) rfl).trans ?_
    refine (zr_getI (i := 37) (c := 10) (k := 0) (by decide +kernel) (by decide +kernel) (zb10_0 h0) (by decide +kernel)).trans ?_
    refine (zr_iconst (n := -1) (by decide +kernel)).trans ?_
    refine (zr_iast (n := 60) (e := ((vup (vup (vup (vup (vup (vup (vup V (x0 + 1) (qw (V x0 0)) x1) (x0 + 2) (qw ((vup V (x0 + 1) (qw (V x0 0)) x1) x0 0)) x2) (x0 + 3) (qw ((vup (vup V (x0 + 1) (qw (V x0 0)) x1) (x0 + 2) (qw ((vup V (x0 + 1) (qw (V x0 0)) x1) x0 0)) x2) x0 0)) x3) (x0 + 4) (qw ((vup (vup (vup V (x0 + 1) (qw (V x0 0)) x1) (x0 + 2) (qw ((vup V (x0 + 1) (qw (V x0 0)) x1) x0 0)) x2) (x0 + 3) (qw ((vup (vup V (x0 + 1) (qw (V x0 0)) x1) (x0 + 2) (qw ((vup V (x0 + 1) (qw (V x0 0)) x1) x0 0)) x2) x0 0)) x3) x0 0)) (0)) (x0 + 5) (qw ((vup (vup (vup (vup V (x0 + 1) (qw (V x0 0)) x1) (x0 + 2) (qw ((vup V (x0 + 1) (qw (V x0 0)) x1) x0 0)) x2) (x0 + 3) (qw ((vup (vup V (x0 + 1) (qw (V x0 0)) x1) (x0 + 2) (qw ((vup V (x0 + 1) (qw (V x0 0)) x1) x0 0)) x2) x0 0)) x3) (x0 + 4) (qw ((vup (vup (vup V (x0 + 1) (qw (V x0 0)) x1) (x0 + 2) (qw ((vup V (x0 + 1) (qw (V x0 0)) x1) x0 0)) x2) (x0 + 3) (qw ((vup (vup V (x0 + 1) (qw (V x0 0)) x1) (x0 + 2) (qw ((vup V (x0 + 1) (qw (V x0 0)) x1) x0 0)) x2) x0 0)) x3) x0 0)) (0)) x0 0)) (0)) (x0 + 6) (qw ((vup (vup (vup (vup (vup V (x0 + 1) (qw (V x0 0)) x1) (x0 + 2) (qw ((vup V (x0 + 1) (qw (V x0 0)) x1) x0 0)) x2) (x0 + 3) (qw ((vup (vup V (x0 + 1) (qw (V x0 0)) x1) (x0 + 2) (qw ((vup V (x0 + 1) (qw (V x0 0)) x1) x0 0)) x2) x0 0)) x3) (x0 + 4) (qw ((vup (vup (vup V (x0 + 1) (qw (V x0 0)) x1) (x0 + 2) (qw ((vup V (x0 + 1) (qw (V x0 0)) x1) x0 0)) x2) (x0 + 3) (qw ((vup (vup V (x0 + 1) (qw (V x0 0)) x1) (x0 + 2) (qw ((vup V (x0 + 1) (qw (V x0 0)) x1) x0 0)) x2) x0 0)) x3) x0 0)) (0)) (x0 + 5) (qw ((vup (vup (vup (vup V (x0 + 1) (qw (V x0 0)) x1) (x0 + 2) (qw ((vup V (x0 + 1) (qw (V x0 0)) x1) x0 0)) x2) (x0 + 3) (qw ((vup (vup V (x0 + 1) (qw (V x0 0)) x1) (x0 + 2) (qw ((vup V (x0 + 1) (qw (V x0 0)) x1) x0 0)) x2) x0 0)) x3) (x0 + 4) (qw ((vup (vup (vup V (x0 + 1) (qw (V x0 0)) x1) (x0 + 2) (qw ((vup V (x0 + 1) (qw (V x0 0)) x1) x0 0)) x2) (x0 + 3) (qw ((vup (vup V (x0 + 1) (qw (V x0 0)) x1) (x0 + 2) (qw ((vup V (x0 + 1) (qw (V x0 0)) x1) x0 0)) x2) x0 0)) x3) x0 0)) (0)) x0 0)) (0)) x0 0)) (0)) (x0 + 7) (qw ((vup (vup (vup (vup (vup (vup V (x0 + 1) (qw (V x0 0)) x1) (x0 + 2) (qw ((vup V (x0 + 1) (qw (V x0 0)) x1) x0 0)) x2) (x0 + 3) (qw ((vup (vup V (x0 + 1) (qw (V x0 0)) x1) (x0 + 2) (qw ((vup V (x0 + 1) (qw (V x0 0)) x1) x0 0)) x2) x0 0)) x3) (x0 + 4) (qw ((vup (vup (vup V (x0 + 1) (qw (V x0 0)) x1) (x0 + 2) (qw ((vup V (x0 + 1) (qw (V x0 0)) x1) x0 0)) x2) (x0 + 3) (qw ((vup (vup V (x0 + 1) (qw (V x0 0)) x1) (x0 + 2) (qw ((vup V (x0 + 1) (qw (V x0 0)) x1) x0 0)) x2) x0 0)) x3) x0 0)) (0)) (x0 + 5) (qw ((vup (vup (vup (vup V (x0 + 1) (qw (V x0 0)) x1) (x0 + 2) (qw ((vup V (x0 + 1) (qw (V x0 0)) x1) x0 0)) x2) (x0 + 3) (qw ((vup (vup V (x0 + 1) (qw (V x0 0)) x1) (x0 + 2) (qw ((vup V (x0 + 1) (qw (V x0 0)) x1) x0 0)) x2) x0 0)) x3) (x0 + 4) (qw ((vup (vup (vup V (x0 + 1) (qw (V x0 0)) x1) (x0 + 2) (qw ((vup V (x0 + 1) (qw (V x0 0)) x1) x0 0)) x2) (x0 + 3) (qw ((vup (vup V (x0 + 1) (qw (V x0 0)) x1) (x0 + 2) (qw ((vup V (x0 + 1) (qw (V x0 0)) x1) x0 0)) x2) x0 0)) x3) x0 0)) (0)) x0 0)) (0)) (x0 + 6) (qw ((vup (vup (vup (vup (vup V (x0 + 1) (qw (V x0 0)) x1) (x0 + 2) (qw ((vup V (x0 + 1) (qw (V x0 0)) x1) x0 0)) x2) (x0 + 3) (qw ((vup (vup V (x0 + 1) (qw (V x0 0)) x1) (x0 + 2) (qw ((vup V (x0 + 1) (qw (V x0 0)) x1) x0 0)) x2) x0 0)) x3) (x0 + 4) (qw ((vup (vup (vup V (x0 + 1) (qw (V x0 0)) x1) (x0 + 2) (qw ((vup V (x0 + 1) (qw (V x0 0)) x1) x0 0)) x2) (x0 + 3) (qw ((vup (vup V (x0 + 1) (qw (V x0 0)) x1) (x0 + 2) (qw ((vup V (x0 + 1) (qw (V x0 0)) x1) x0 0)) x2) x0 0)) x3) x0 0)) (0)) (x0 + 5) (qw ((vup (vup (vup (vup V (x0 + 1) (qw (V x0 0)) x1) (x0 + 2) (qw ((vup V (x0 + 1) (qw (V x0 0)) x1) x0 0)) x2) (x0 + 3) (qw ((vup (vup V (x0 + 1) (qw (V x0 0)) x1) (x0 + 2) (qw ((vup V (x0 + 1) (qw (V x0 0)) x1) x0 0)) x2) x0 0)) x3) (x0 + 4) (qw ((vup (vup (vup V (x0 + 1) (qw (V x0 0)) x1) (x0 + 2) (qw ((vup V (x0 + 1) (qw (V x0 0)) x1) x0 0)) x2) (x0 + 3) (qw ((vup (vup V (x0 + 1) (qw (V x0 0)) x1) (x0 + 2) (qw ((vup V (x0 + 1) (qw (V x0 0)) x1) x0 0)) x2) x0 0)) x3) x0 0)) (0)) x0 0)) (0)) x0 0)) (0)) x0 0)) (0)) x0 0)) (x := (-1)) (by decide +kernel) (zb10_8 h0)).trans (zck_ct fun _ => ?_)
    refine (zr_aload_n (n := 0) (x := x0) (by decide +kernel) rfl).trans ?_
    refine (zr_dup (by decide +kernel) rfl).trans ?_
    refine (zr_getI (i := 37) (c := 10) (k := 0) (by decide +kernel) (by decide +kernel) (zb10_0 h0) (by decide +kernel)).trans ?_
    refine (zr_iconst (n := 1) (by decide +kernel)).trans ?_
    refine (zr_iadd (a := ((vup (vup (vup (vup (vup (vup (vup (vup V (x0 + 1) (qw (V x0 0)) x1) (x0 + 2) (qw ((vup V (x0 + 1) (qw (V x0 0)) x1) x0 0)) x2) (x0 + 3) (qw ((vup (vup V (x0 + 1) (qw (V x0 0)) x1) (x0 + 2) (qw ((vup V (x0 + 1) (qw (V x0 0)) x1) x0 0)) x2) x0 0)) x3) (x0 + 4) (qw ((vup (vup (vup V (x0 + 1) (qw (V x0 0)) x1) (x0 + 2) (qw ((vup V (x0 + 1) (qw (V x0 0)) x1) x0 0)) x2) (x0 + 3) (qw ((vup (vup V (x0 + 1) (qw (V x0 0)) x1) (x0 + 2) (qw ((vup V (x0 + 1) (qw (V x0 0)) x1) x0 0)) x2) x0 0)) x3) x0 0)) (0)) (x0 + 5) (qw ((vup (vup (vup (vup V (x0 + 1) (qw (V x0 0)) x1) (x0 + 2) (qw ((vup V (x0 + 1) (qw (V x0 0)) x1) x0 0)) x2) (x0 + 3) (qw ((vup (vup V (x0 + 1) (qw (V x0 0)) x1) (x0 + 2) (qw ((vup V (x0 + 1) (qw (V x0 0)) x1) x0 0)) x2) x0 0)) x3) (x0 + 4) (qw ((vup (vup (vup V (x0 + 1) (qw (V x0 0)) x1) (x0 + 2) (qw ((vup V (x0 + 1) (qw (V x0 0)) x1) x0 0)) x2) (x0 + 3) (qw ((vup (vup V (x0 + 1) (qw (V x0 0)) x1) (x0 + 2) (qw ((vup V (x0 + 1) (qw (V x0 0)) x1) x0 0)) x2) x0 0)) x3) x0 0)) (0)) x0 0)) (0)) (x0 + 6) (qw ((vup (vup (vup (vup (vup V (x0 + 1) (qw (V x0 0)) x1) (x0 + 2) (qw ((vup V (x0 + 1) (qw (V x0 0)) x1) x0 0)) x2) (x0 + 3) (qw ((vup (vup V (x0 + 1) (qw (V x0 0)) x1) (x0 + 2) (qw ((vup V (x0 + 1) (qw (V x0 0)) x1) x0 0)) x2) x0 0)) x3) (x0 + 4) (qw ((vup (vup (vup V (x0 + 1) (qw (V x0 0)) x1) (x0 + 2) (qw ((vup V (x0 + 1) (qw (V x0 0)) x1) x0 0)) x2) (x0 + 3) (qw ((vup (vup V (x0 + 1) (qw (V x0 0)) x1) (x0 + 2) (qw ((vup V (x0 + 1) (qw (V x0 0)) x1) x0 0)) x2) x0 0)) x3) x0 0)) (0)) (x0 + 5) (qw ((vup (vup (vup (vup V (x0 + 1) (qw (V x0 0)) x1) (x0 + 2) (qw ((vup V (x0 + 1) (qw (V x0 0)) x1) x0 0)) x2) (x0 + 3) (qw ((vup (vup V (x0 + 1) (qw (V x0 0)) x1) (x0 + 2) (qw ((vup V (x0 + 1) (qw (V x0 0)) x1) x0 0)) x2) x0 0)) x3) (x0 + 4) (qw ((vup (vup (vup V (x0 + 1) (qw (V x0 0)) x1) (x0 + 2) (qw ((vup V (x0 + 1) (qw (V x0 0)) x1) x0 0)) x2) (x0 + 3) (qw ((vup (vup V (x0 + 1) (qw (V x0 0)) x1) (x0 + 2) (qw ((vup V (x0 + 1) (qw (V x0 0)) x1) x0 0)) x2) x0 0)) x3) x0 0)) (0)) x0 0)) (0)) x0 0)) (0)) (x0 + 7) (qw ((vup (vup (vup (vup (vup (vup V (x0 + 1) (qw (V x0 0)) x1) (x0 + 2) (qw ((vup V (x0 + 1) (qw (V x0 0)) x1) x0 0)) x2) (x0 + 3) (qw ((vup (vup V (x0 + 1) (qw (V x0 0)) x1) (x0 + 2) (qw ((vup V (x0 + 1) (qw (V x0 0)) x1) x0 0)) x2) x0 0)) x3) (x0 + 4) (qw ((vup (vup (vup V (x0 + 1) (qw (V x0 0)) x1) (x0 + 2) (qw ((vup V (x0 + 1) (qw (V x0 0)) x1) x0 0)) x2) (x0 + 3) (qw ((vup (vup V (x0 + 1) (qw (V x0 0)) x1) (x0 + 2) (qw ((vup V (x0 + 1) (qw (V x0 0)) x1) x0 0)) x2) x0 0)) x3) x0 0)) (0)) (x0 + 5) (qw ((vup (vup (vup (vup V (x0 + 1) (qw (V x0 0)) x1) (x0 + 2) (qw ((vup V (x0 + 1) (qw (V x0 0)) x1) x0 0)) x2) (x0 + 3) (qw ((vup (vup V (x0 + 1) (qw (V x0 0)) x1) (x0 + 2) (qw ((vup V (x0 + 1) (qw (V x0 0)) x1) x0 0)) x2) x0 0)) x3) (x0 + 4) (qw ((vup (vup (vup V (x0 + 1) (qw (V x0 0)) x1) (x0 + 2) (qw ((vup V (x0 + 1) (qw (V x0 0)) x1) x0 0)) x2) (x0 + 3) (qw ((vup (vup V (x0 + 1) (qw (V x0 0)) x1) (x0 + 2) (qw ((vup V (x0 + 1) (qw (V x0 0)) x1) x0 0)) x2) x0 0)) x3) x0 0)) (0)) x0 0)) (0)) (x0 + 6) (qw ((vup (vup (vup (vup (vup V (x0 + 1) (qw (V x0 0)) x1) (x0 + 2) (qw ((vup V (x0 + 1) (qw (V x0 0)) x1) x0 0)) x2) (x0 + 3) (qw ((vup (vup V (x0 + 1) (qw (V x0 0)) x1) (x0 + 2) (qw ((vup V (x0 + 1) (qw (V x0 0)) x1) x0 0)) x2) x0 0)) x3) (x0 + 4) (qw ((vup (vup (vup V (x0 + 1) (qw (V x0 0)) x1) (x0 + 2) (qw ((vup V (x0 + 1) (qw (V x0 0)) x1) x0 0)) x2) (x0 + 3) (qw ((vup (vup V (x0 + 1) (qw (V x0 0)) x1) (x0 + 2) (qw ((vup V (x0 + 1) (qw (V x0 0)) x1) x0 0)) x2) x0 0)) x3) x0 0)) (0)) (x0 + 5) (qw ((vup (vup (vup (vup V (x0 + 1) (qw (V x0 0)) x1) (x0 + 2) (qw ((vup V (x0 + 1) (qw (V x0 0)) x1) x0 0)) x2) (x0 + 3) (qw ((vup (vup V (x0 + 1) (qw (V x0 0)) x1) (x0 + 2) (qw ((vup V (x0 + 1) (qw (V x0 0)) x1) x0 0)) x2) x0 0)) x3) (x0 + 4) (qw ((vup (vup (vup V (x0 + 1) (qw (V x0 0)) x1) (x0 + 2) (qw ((vup V (x0 + 1) (qw (V x0 0)) x1) x0 0)) x2) (x0 + 3) (qw ((vup (vup V (x0 + 1) (qw (V x0 0)) x1) (x0 + 2) (qw ((vup V (x0 + 1) (qw (V x0 0)) x1) x0 0)) x2) x0 0)) x3) x0 0)) (0)) x0 0)) (0)) x0 0)) (0)) x0 0)) (0)) (x0 + 8) (qw ((vup (vup (vup (vup (vup (vup (vup V (x0 + 1) (qw (V x0 0)) x1) (x0 + 2) (qw ((vup V (x0 + 1) (qw (V x0 0)) x1) x0 0)) x2) (x0 + 3) (qw ((vup (vup V (x0 + 1) (qw (V x0 0)) x1) (x0 + 2) (qw ((vup V (x0 + 1) (qw (V x0 0)) x1) x0 0)) x2) x0 0)) x3) (x0 + 4) (qw ((vup (vup (vup V (x0 + 1) (qw (V x0 0)) x1) (x0 + 2) (qw ((vup V (x0 + 1) (qw (V x0 0)) x1) x0 0)) x2) (x0 + 3) (qw ((vup (vup V (x0 + 1) (qw (V x0 0)) x1) (x0 + 2) (qw ((vup V (x0 + 1) (qw (V x0 0)) x1) x0 0)) x2) x0 0)) x3) x0 0)) (0)) (x0 + 5) (qw ((vup (vup (vup (vup V (x0 + 1) (qw (V x0 0)) x1) (x0 + 2) (qw ((vup V (x0 + 1) (qw (V x0 0)) x1) x0 0)) x2) (x0 + 3) (qw ((vup (vup V (x0 + 1) (qw (V x0 0)) x1) (x0 + 2) (qw ((vup V (x0 + 1) (qw (V x0 0)) x1) x0 0)) x2) x0 0)) x3) (x0 + 4) (qw ((vup (vup (vup V (x0 + 1) (qw (V x0 0)) x1) (x0 + 2) (qw ((vup V (x0 + 1) (qw (V x0 0)) x1) x0 0)) x2) (x0 + 3) (qw ((vup (vup V (x0 + 1) (qw (V x0 0)) x1) (x0 + 2) (qw ((vup V (x0 + 1) (qw (V x0 0)) x1) x0 0)) x2) x0 0)) x3) x0 0)) (0)) x0 0)) (0)) (x0 + 6) (qw ((vup (vup (vup (vup (vup V (x0 + 1) (qw (V x0 0)) x1) (x0 + 2) (qw ((vup V (x0 + 1) (qw (V x0 0)) x1) x0 0)) x2) (x0 + 3) (qw ((vup (vup V (x0 + 1) (qw (V x0 0)) x1) (x0 + 2) (qw ((vup V (x0 + 1) (qw (V x0 0)) x1) x0 0)) x2) x0 0)) x3) (x0 + 4) (qw ((vup (vup (vup V (x0 + 1) (qw (V x0 0)) x1) (x0 + 2) (qw ((vup V (x0 + 1) (qw (V x0 0)) x1) x0 0)) x2) (x0 + 3) (qw ((vup (vup V (x0 + 1) (qw (V x0 0)) x1) (x0 + 2) (qw ((vup V (x0 + 1) (qw (V x0 0)) x1) x0 0)) x2) x0 0)) x3) x0 0)) (0)) (x0 + 5) (qw ((vup (vup (vup (vup V (x0 + 1) (qw (V x0 0)) x1) (x0 + 2) (qw ((vup V (x0 + 1) (qw (V x0 0)) x1) x0 0)) x2) (x0 + 3) (qw ((vup (vup V (x0 + 1) (qw (V x0 0)) x1) (x0 + 2) (qw ((vup V (x0 + 1) (qw (V x0 0)) x1) x0 0)) x2) x0 0)) x3) (x0 + 4) (qw ((vup (vup (vup V (x0 + 1) (qw (V x0 0)) x1) (x0 + 2) (qw ((vup V (x0 + 1) (qw (V x0 0)) x1) x0 0)) x2) (x0 + 3) (qw ((vup (vup V (x0 + 1) (qw (V x0 0)) x1) (x0 + 2) (qw ((vup V (x0 + 1) (qw (V x0 0)) x1) x0 0)) x2) x0 0)) x3) x0 0)) (0)) x0 0)) (0)) x0 0)) (0)) (x0 + 7) (qw ((vup (vup (vup (vup (vup (vup V (x0 + 1) (qw (V x0 0)) x1) (x0 + 2) (qw ((vup V (x0 + 1) (qw (V x0 0)) x1) x0 0)) x2) (x0 + 3) (qw ((vup (vup V (x0 + 1) (qw (V x0 0)) x1) (x0 + 2) (qw ((vup V (x0 + 1) (qw (V x0 0)) x1) x0 0)) x2) x0 0)) x3) (x0 + 4) (qw ((vup (vup (vup V (x0 + 1) (qw (V x0 0)) x1) (x0 + 2) (qw ((vup V (x0 + 1) (qw (V x0 0)) x1) x0 0)) x2) (x0 + 3) (qw ((vup (vup V (x0 + 1) (qw (V x0 0)) x1) (x0 + 2) (qw ((vup V (x0 + 1) (qw (V x0 0)) x1) x0 0)) x2) x0 0)) x3) x0 0)) (0)) (x0 + 5) (qw ((vup (vup (vup (vup V (x0 + 1) (qw (V x0 0)) x1) (x0 + 2) (qw ((vup V (x0 + 1) (qw (V x0 0)) x1) x0 0)) x2) (x0 + 3) (qw ((vup (vup V (x0 + 1) (qw (V x0 0)) x1) (x0 + 2) (qw ((vup V (x0 + 1) (qw (V x0 0)) x1) x0 0)) x2) x0 0)) x3) (x0 + 4) (qw ((vup (vup (vup V (x0 + 1) (qw (V x0 0)) x1) (x0 + 2) (qw ((vup V (x0 + 1) (qw (V x0 0)) x1) x0 0)) x2) (x0 + 3) (qw ((vup (vup V (x0 + 1) (qw (V x0 0)) x1) (x0 + 2) (qw ((vup V (x0 + 1) (qw (V x0 0)) x1) x0 0)) x2) x0 0)) x3) x0 0)) (0)) x0 0)) (0)) (x0 + 6) (qw ((vup (vup (vup (vup (vup V (x0 + 1) (qw (V x0 0)) x1) (x0 + 2) (qw ((vup V (x0 + 1) (qw (V x0 0)) x1) x0 0)) x2) (x0 + 3) (qw ((vup (vup V (x0 + 1) (qw (V x0 0)) x1) (x0 + 2) (qw ((vup V (x0 + 1) (qw (V x0 0)) x1) x0 0)) x2) x0 0)) x3) (x0 + 4) (qw ((vup (vup (vup V (x0 + 1) (qw (V x0 0)) x1) (x0 + 2) (qw ((vup V (x0 + 1) (qw (V x0 0)) x1) x0 0)) x2) (x0 + 3) (qw ((vup (vup V (x0 + 1) (qw (V x0 0)) x1) (x0 + 2) (qw ((vup V (x0 + 1) (qw (V x0 0)) x1) x0 0)) x2) x0 0)) x3) x0 0)) (0)) (x0 + 5) (qw ((vup (vup (vup (vup V (x0 + 1) (qw (V x0 0)) x1) (x0 + 2) (qw ((vup V (x0 + 1) (qw (V x0 0)) x1) x0 0)) x2) (x0 + 3) (qw ((vup (vup V (x0 + 1) (qw (V x0 0)) x1) (x0 + 2) (qw ((vup V (x0 + 1) (qw (V x0 0)) x1) x0 0)) x2) x0 0)) x3) (x0 + 4) (qw ((vup (vup (vup V (x0 + 1) (qw (V x0 0)) x1) (x0 + 2) (qw ((vup V (x0 + 1) (qw (V x0 0)) x1) x0 0)) x2) (x0 + 3) (qw ((vup (vup V (x0 + 1) (qw (V x0 0)) x1) (x0 + 2) (qw ((vup V (x0 + 1) (qw (V x0 0)) x1) x0 0)) x2) x0 0)) x3) x0 0)) (0)) x0 0)) (0)) x0 0)) (0)) x0 0)) (0)) x0 0)) (-1)) x0 0)) (b := (1)) (by decide +kernel)).trans ?_
    refine (zr_putI (i := 37) (c := 10) (k := 0) (x := (((vup (vup (vup (vup (vup (vup (vup (vup V (x0 + 1) (qw (V x0 0)) x1) (x0 + 2) (qw ((vup V (x0 + 1) (qw (V x0 0)) x1) x0 0)) x2) (x0 + 3) (qw ((vup (vup V (x0 + 1) (qw (V x0 0)) x1) (x0 + 2) (qw ((vup V (x0 + 1) (qw (V x0 0)) x1) x0 0)) x2) x0 0)) x3) (x0 + 4) (qw ((vup (vup (vup V (x0 + 1) (qw (V x0 0)) x1) (x0 + 2) (qw ((vup V (x0 + 1) (qw (V x0 0)) x1) x0 0)) x2) (x0 + 3) (qw ((vup (vup V (x0 + 1) (qw (V x0 0)) x1) (x0 + 2) (qw ((vup V (x0 + 1) (qw (V x0 0)) x1) x0 0)) x2) x0 0)) x3) x0 0)) (0)) (x0 + 5) (qw ((vup (vup (vup (vup V (x0 + 1) (qw (V x0 0)) x1) (x0 + 2) (qw ((vup V (x0 + 1) (qw (V x0 0)) x1) x0 0)) x2) (x0 + 3) (qw ((vup (vup V (x0 + 1) (qw (V x0 0)) x1) (x0 + 2) (qw ((vup V (x0 + 1) (qw (V x0 0)) x1) x0 0)) x2) x0 0)) x3) (x0 + 4) (qw ((vup (vup (vup V (x0 + 1) (qw (V x0 0)) x1) (x0 + 2) (qw ((vup V (x0 + 1) (qw (V x0 0)) x1) x0 0)) x2) (x0 + 3) (qw ((vup (vup V (x0 + 1) (qw (V x0 0)) x1) (x0 + 2) (qw ((vup V (x0 + 1) (qw (V x0 0)) x1) x0 0)) x2) x0 0)) x3) x0 0)) (0)) x0 0)) (0)) (x0 + 6) (qw ((vup (vup (vup (vup (vup V (x0 + 1) (qw (V x0 0)) x1) (x0 + 2) (qw ((vup V (x0 + 1) (qw (V x0 0)) x1) x0 0)) x2) (x0 + 3) (qw ((vup (vup V (x0 + 1) (qw (V x0 0)) x1) (x0 + 2) (qw ((vup V (x0 + 1) (qw (V x0 0)) x1) x0 0)) x2) x0 0)) x3) (x0 + 4) (qw ((vup (vup (vup V (x0 + 1) (qw (V x0 0)) x1) (x0 + 2) (qw ((vup V (x0 + 1) (qw (V x0 0)) x1) x0 0)) x2) (x0 + 3) (qw ((vup (vup V (x0 + 1) (qw (V x0 0)) x1) (x0 + 2) (qw ((vup V (x0 + 1) (qw (V x0 0)) x1) x0 0)) x2) x0 0)) x3) x0 0)) (0)) (x0 + 5) (qw ((vup (vup (vup (vup V (x0 + 1) (qw (V x0 0)) x1) (x0 + 2) (qw ((vup V (x0 + 1) (qw (V x0 0)) x1) x0 0)) x2) (x0 + 3) (qw ((vup (vup V (x0 + 1) (qw (V x0 0)) x1) (x0 + 2) (qw ((vup V (x0 + 1) (qw (V x0 0)) x1) x0 0)) x2) x0 0)) x3) (x0 + 4) (qw ((vup (vup (vup V (x0 + 1) (qw (V x0 0)) x1) (x0 + 2) (qw ((vup V (x0 + 1) (qw (V x0 0)) x1) x0 0)) x2) (x0 + 3) (qw ((vup (vup V (x0 + 1) (qw (V x0 0)) x1) (x0 + 2) (qw ((vup V (x0 + 1) (qw (V x0 0)) x1) x0 0)) x2) x0 0)) x3) x0 0)) (0)) x0 0)) (0)) x0 0)) (0)) (x0 + 7) (qw ((vup (vup (vup (vup (vup (vup V (x0 + 1) (qw (V x0 0)) x1) (x0 + 2) (qw ((vup V (x0 + 1) (qw (V x0 0)) x1) x0 0)) x2) (x0 + 3) (qw ((vup (vup V (x0 + 1) (qw (V x0 0)) x1) (x0 + 2) (qw ((vup V (x0 + 1) (qw (V x0 0)) x1) x0 0)) x2) x0 0)) x3) (x0 + 4) (qw ((vup (vup (vup V (x0 + 1) (qw (V x0 0)) x1) (x0 + 2) (qw ((vup V (x0 + 1) (qw (V x0 0)) x1) x0 0)) x2) (x0 + 3) (qw ((vup (vup V (x0 + 1) (qw (V x0 0)) x1) (x0 + 2) (qw ((vup V (x0 + 1) (qw (V x0 0)) x1) x0 0)) x2) x0 0)) x3) x0 0)) (0)) (x0 + 5) (qw ((vup (vup (vup (vup V (x0 + 1) (qw (V x0 0)) x1) (x0 + 2) (qw ((vup V (x0 + 1) (qw (V x0 0)) x1) x0 0)) x2) (x0 + 3) (qw ((vup (vup V (x0 + 1) (qw (V x0 0)) x1) (x0 + 2) (qw ((vup V (x0 + 1) (qw (V x0 0)) x1) x0 0)) x2) x0 0)) x3) (x0 + 4) (qw ((vup (vup (vup V (x0 + 1) (qw (V x0 0)) x1) (x0 + 2) (qw ((vup V (x0 + 1) (qw (V x0 0)) x1) x0 0)) x2) (x0 + 3) (qw ((vup (vup V (x0 + 1) (qw (V x0 0)) x1) (x0 + 2) (qw ((vup V (x0 + 1) (qw (V x0 0)) x1) x0 0)) x2) x0 0)) x3) x0 0)) (0)) x0 0)) (0)) (x0 + 6) (qw ((vup (vup (vup (vup (vup V (x0 + 1) (qw (V x0 0)) x1) (x0 + 2) (qw ((vup V (x0 + 1) (qw (V x0 0)) x1) x0 0)) x2) (x0 + 3) (qw ((vup (vup V (x0 + 1) (qw (V x0 0)) x1) (x0 + 2) (qw ((vup V (x0 + 1) (qw (V x0 0)) x1) x0 0)) x2) x0 0)) x3) (x0 + 4) (qw ((vup (vup (vup V (x0 + 1) (qw (V x0 0)) x1) (x0 + 2) (qw ((vup V (x0 + 1) (qw (V x0 0)) x1) x0 0)) x2) (x0 + 3) (qw ((vup (vup V (x0 + 1) (qw (V x0 0)) x1) (x0 + 2) (qw ((vup V (x0 + 1) (qw (V x0 0)) x1) x0 0)) x2) x0 0)) x3) x0 0)) (0)) (x0 + 5) (qw ((vup (vup (vup (vup V (x0 + 1) (qw (V x0 0)) x1) (x0 + 2) (qw ((vup V (x0 + 1) (qw (V x0 0)) x1) x0 0)) x2) (x0 + 3) (qw ((vup (vup V (x0 + 1) (qw (V x0 0)) x1) (x0 + 2) (qw ((vup V (x0 + 1) (qw (V x0 0)) x1) x0 0)) x2) x0 0)) x3) (x0 + 4) (qw ((vup (vup (vup V (x0 + 1) (qw (V x0 0)) x1) (x0 + 2) (qw ((vup V (x0 + 1) (qw (V x0 0)) x1) x0 0)) x2) (x0 + 3) (qw ((vup (vup V (x0 + 1) (qw (V x0 0)) x1) (x0 + 2) (qw ((vup V (x0 + 1) (qw (V x0 0)) x1) x0 0)) x2) x0 0)) x3) x0 0)) (0)) x0 0)) (0)) x0 0)) (0)) x0 0)) (0)) (x0 + 8) (qw ((vup (vup (vup (vup (vup (vup (vup V (x0 + 1) (qw (V x0 0)) x1) (x0 + 2) (qw ((vup V (x0 + 1) (qw (V x0 0)) x1) x0 0)) x2) (x0 + 3) (qw ((vup (vup V (x0 + 1) (qw (V x0 0)) x1) (x0 + 2) (qw ((vup V (x0 + 1) (qw (V x0 0)) x1) x0 0)) x2) x0 0)) x3) (x0 + 4) (qw ((vup (vup (vup V (x0 + 1) (qw (V x0 0)) x1) (x0 + 2) (qw ((vup V (x0 + 1) (qw (V x0 0)) x1) x0 0)) x2) (x0 + 3) (qw ((vup (vup V (x0 + 1) (qw (V x0 0)) x1) (x0 + 2) (qw ((vup V (x0 + 1) (qw (V x0 0)) x1) x0 0)) x2) x0 0)) x3) x0 0)) (0)) (x0 + 5) (qw ((vup (vup (vup (vup V (x0 + 1) (qw (V x0 0)) x1) (x0 + 2) (qw ((vup V (x0 + 1) (qw (V x0 0)) x1) x0 0)) x2) (x0 + 3) (qw ((vup (vup V (x0 + 1) (qw (V x0 0)) x1) (x0 + 2) (qw ((vup V (x0 + 1) (qw (V x0 0)) x1) x0 0)) x2) x0 0)) x3) (x0 + 4) (qw ((vup (vup (vup V (x0 + 1) (qw (V x0 0)) x1) (x0 + 2) (qw ((vup V (x0 + 1) (qw (V x0 0)) x1) x0 0)) x2) (x0 + 3) (qw ((vup (vup V (x0 + 1) (qw (V x0 0)) x1) (x0 + 2) (qw ((vup V (x0 + 1) (qw (V x0 0)) x1) x0 0)) x2) x0 0)) x3) x0 0)) (0)) x0 0)) (0)) (x0 + 6) (qw ((vup (vup (vup (vup (vup V (x0 + 1) (qw (V x0 0)) x1) (x0 + 2) (qw ((vup V (x0 + 1) (qw (V x0 0)) x1) x0 0)) x2) (x0 + 3) (qw ((vup (vup V (x0 + 1) (qw (V x0 0)) x1) (x0 + 2) (qw ((vup V (x0 + 1) (qw (V x0 0)) x1) x0 0)) x2) x0 0)) x3) (x0 + 4) (qw ((vup (vup (vup V (x0 + 1) (qw (V x0 0)) x1) (x0 + 2) (qw ((vup V (x0 + 1) (qw (V x0 0)) x1) x0 0)) x2) (x0 + 3) (qw ((vup (vup V (x0 + 1) (qw (V x0 0)) x1) (x0 + 2) (qw ((vup V (x0 + 1) (qw (V x0 0)) x1) x0 0)) x2) x0 0)) x3) x0 0)) (0)) (x0 + 5) (qw ((vup (vup (vup (vup V (x0 + 1) (qw (V x0 0)) x1) (x0 + 2) (qw ((vup V (x0 + 1) (qw (V x0 0)) x1) x0 0)) x2) (x0 + 3) (qw ((vup (vup V (x0 + 1) (qw (V x0 0)) x1) (x0 + 2) (qw ((vup V (x0 + 1) (qw (V x0 0)) x1) x0 0)) x2) x0 0)) x3) (x0 + 4) (qw ((vup (vup (vup V (x0 + 1) (qw (V x0 0)) x1) (x0 + 2) (qw ((vup V (x0 + 1) (qw (V x0 0)) x1) x0 0)) x2) (x0 + 3) (qw ((vup (vup V (x0 + 1) (qw (V x0 0)) x1) (x0 + 2) (qw ((vup V (x0 + 1) (qw (V x0 0)) x1) x0 0)) x2) x0 0)) x3) x0 0)) (0)) x0 0)) (0)) x0 0)) (0)) (x0 + 7) (qw ((vup (vup (vup (vup (vup (vup V (x0 + 1) (qw (V x0 0)) x1) (x0 + 2) (qw ((vup V (x0 + 1) (qw (V x0 0)) x1) x0 0)) x2) (x0 + 3) (qw ((vup (vup V (x0 + 1) (qw (V x0 0)) x1) (x0 + 2) (qw ((vup V (x0 + 1) (qw (V x0 0)) x1) x0 0)) x2) x0 0)) x3) (x0 + 4) (qw ((vup (vup (vup V (x0 + 1) (qw (V x0 0)) x1) (x0 + 2) (qw ((vup V (x0 + 1) (qw (V x0 0)) x1) x0 0)) x2) (x0 + 3) (qw ((vup (vup V (x0 + 1) (qw (V x0 0)) x1) (x0 + 2) (qw ((vup V (x0 + 1) (qw (V x0 0)) x1) x0 0)) x2) x0 0)) x3) x0 0)) (0)) (x0 + 5) (qw ((vup (vup (vup (vup V (x0 + 1) (qw (V x0 0)) x1) (x0 + 2) (qw ((vup V (x0 + 1) (qw (V x0 0)) x1) x0 0)) x2) (x0 + 3) (qw ((vup (vup V (x0 + 1) (qw (V x0 0)) x1) (x0 + 2) (qw ((vup V (x0 + 1) (qw (V x0 0)) x1) x0 0)) x2) x0 0)) x3) (x0 + 4) (qw ((vup (vup (vup V (x0 + 1) (qw (V x0 0)) x1) (x0 + 2) (qw ((vup V (x0 + 1) (qw (V x0 0)) x1) x0 0)) x2) (x0 + 3) (qw ((vup (vup V (x0 + 1) (qw (V x0 0)) x1) (x0 + 2) (qw ((vup V (x0 + 1) (qw (V x0 0)) x1) x0 0)) x2) x0 0)) x3) x0 0)) (0)) x0 0)) (0)) (x0 + 6) (qw ((vup (vup (vup (vup (vup V (x0 + 1) (qw (V x0 0)) x1) (x0 + 2) (qw ((vup V (x0 + 1) (qw (V x0 0)) x1) x0 0)) x2) (x0 + 3) (qw ((vup (vup V (x0 + 1) (qw (V x0 0)) x1) (x0 + 2) (qw ((vup V (x0 + 1) (qw (V x0 0)) x1) x0 0)) x2) x0 0)) x3) (x0 + 4) (qw ((vup (vup (vup V (x0 + 1) (qw (V x0 0)) x1) (x0 + 2) (qw ((vup V (x0 + 1) (qw (V x0 0)) x1) x0 0)) x2) (x0 + 3) (qw ((vup (vup V (x0 + 1) (qw (V x0 0)) x1) (x0 + 2) (qw ((vup V (x0 + 1) (qw (V x0 0)) x1) x0 0)) x2) x0 0)) x3) x0 0)) (0)) (x0 + 5) (qw ((vup (vup (vup (vup V (x0 + 1) (qw (V x0 0)) x1) (x0 + 2) (qw ((vup V (x0 + 1) (qw (V x0 0)) x1) x0 0)) x2) (x0 + 3) (qw ((vup (vup V (x0 + 1) (qw (V x0 0)) x1) (x0 + 2) (qw ((vup V (x0 + 1) (qw (V x0 0)) x1) x0 0)) x2) x0 0)) x3) (x0 + 4) (qw ((vup (vup (vup V (x0 + 1) (qw (V x0 0)) x1) (x0 + 2) (qw ((vup V (x0 + 1) (qw (V x0 0)) x1) x0 0)) x2) (x0 + 3) (qw ((vup (vup V (x0 + 1) (qw (V x0 0)) x1) (x0 + 2) (qw ((vup V (x0 + 1) (qw (V x0 0)) x1) x0 0)) x2) x0 0)) x3) x0 0)) (0)) x0 0)) (0)) x0 0)) (0)) x0 0)) (0)) x0 0)) (-1)) x0 0) + (1))) (by decide +kernel) (by decide +kernel) (zb10_0 h0) (by decide +kernel)).trans ?_
    exact zr_vret (by decide +kernel) rfl
  · exact zr_vret (by decide +kernel) rfl
/-! PartSongDesk$Tokens has (I)Z -/
theorem ze_86_0 {V : zVt} {J : zJt} {d : Nat → Nat → UInt64} (x0 : Nat) (x1 : Int) (h0 : zBk 10 x0) : zGo false 86 0 [.ref x0, .int (zi x1)] [] (zm V J d) =
    (if qw x1 < 0 then zGo false 86 16 [.ref x0, .int (zi x1)] [] (zm V J d) else (if qw (V x0 0) ≤ qw x1 then zGo false 86 16 [.ref x0, .int (zi x1)] [] (zm V J d) else zGo false 86 17 [.ref x0, .int (zi x1)] [.int (zi (1))] (zm V J d))) := by
  refine (zr_iload_n (n := 1) (x := zi x1) (by decide +kernel) rfl).trans ?_
  refine (zr_iflt (off := 15) (a := x1) (t := 16) (by decide +kernel) rfl).trans (zif_ct (fun _ => ?_) (fun _ => ?_))
  · rfl
  · refine (zr_iload_n (n := 1) (x := zi x1) (by decide +kernel) rfl).trans ?_
    refine (zr_aload_n (n := 0) (x := x0) (by decide +kernel) rfl).trans ?_
    refine (zr_getI (i := 37) (c := 10) (k := 0) (by decide +kernel) (by decide +kernel) (zb10_0 h0) (by decide +kernel)).trans ?_
    refine (zr_cge (off := 7) (a := x1) (b := (V x0 0)) (t := 16) (by decide +kernel) rfl).trans (zif_ct (fun _ => ?_) (fun _ => ?_))
    · rfl
    · refine (zr_iconst (n := 1) (by decide +kernel)).trans ?_
      refine (zr_goto (off := 4) (t := 17) (by decide +kernel) rfl).trans ?_
      rfl
theorem ze_86_16 {V : zVt} {J : zJt} {d : Nat → Nat → UInt64} (x0 : Nat) (x1 : Int) (h0 : zBk 10 x0) : zGo false 86 16 [.ref x0, .int (zi x1)] [] (zm V J d) =
    zGo false 86 17 [.ref x0, .int (zi x1)] [.int (zi (0))] (zm V J d) := by
  refine (zr_iconst (n := 0) (by decide +kernel)).trans ?_
  rfl
theorem ze_86_17 {V : zVt} {J : zJt} {d : Nat → Nat → UInt64} (x0 : Nat) (x1 : Int) (s0 : Int) (h0 : zBk 10 x0) : zGo false 86 17 [.ref x0, .int (zi x1)] [.int (zi s0)] (zm V J d) =
    zck (qw s0 = 0 ∨ qw s0 = 1) (some (.inl (some (.int (zi s0))), zm V J d)) := by
  exact zr_zret (a := s0) (by decide +kernel) rfl
/-! PartSongDesk$Tokens fail (II)V -/
theorem ze_87_0 {V : zVt} {J : zJt} {d : Nat → Nat → UInt64} (x0 : Nat) (x1 : Int) (x2 : Int) (h0 : zBk 10 x0) : zGo false 87 0 [.ref x0, .int (zi x1), .int (zi x2)] [] (zm V J d) =
    some (.inl none, zm (vup (vup V x0 2 x1) x0 3 x2) J d) := by
  refine (zr_aload_n (n := 0) (x := x0) (by decide +kernel) rfl).trans ?_
  refine (zr_iload_n (n := 1) (x := zi x1) (by decide +kernel) rfl).trans ?_
  refine (zr_putI (i := 44) (c := 10) (k := 2) (x := x1) (by decide +kernel) (by decide +kernel) (zb10_0 h0) (by decide +kernel)).trans ?_
  refine (zr_aload_n (n := 0) (x := x0) (by decide +kernel) rfl).trans ?_
  refine (zr_iload_n (n := 2) (x := zi x2) (by decide +kernel) rfl).trans ?_
  refine (zr_putI (i := 47) (c := 10) (k := 3) (x := x2) (by decide +kernel) (by decide +kernel) (zb10_0 h0) (by decide +kernel)).trans ?_
  exact zr_vret (by decide +kernel) rfl
/-! PartSongDesk$Tokens become (LPartSongDesk$Tokens;)V -/
theorem ze_88_0 {V : zVt} {J : zJt} {d : Nat → Nat → UInt64} (x0 : Nat) (x1 : Nat) (h0 : zBk 10 x0) (h1 : zBk 10 x1) : zGo false 88 0 [.ref x0, .ref x1, .null] [] (zm V J d) =
    zGo false 88 34 [.ref x0, .ref x1, .int (zi (0))] [] (zm (vup (vup (vup (vup V x0 0 (V x1 0)) x0 1 ((vup V x0 0 (V x1 0)) x1 1)) x0 2 ((vup (vup V x0 0 (V x1 0)) x0 1 ((vup V x0 0 (V x1 0)) x1 1)) x1 2)) x0 3 ((vup (vup (vup V x0 0 (V x1 0)) x0 1 ((vup V x0 0 (V x1 0)) x1 1)) x0 2 ((vup (vup V x0 0 (V x1 0)) x0 1 ((vup V x0 0 (V x1 0)) x1 1)) x1 2)) x1 3)) J d) := by
  refine (zr_aload_n (n := 0) (x := x0) (by decide +kernel) rfl).trans ?_
  refine (zr_aload_n (n := 1) (x := x1) (by decide +kernel) rfl).trans ?_
  refine (zr_getI (i := 37) (c := 10) (k := 0) (by decide +kernel) (by decide +kernel) (zb10_0 h1) (by decide +kernel)).trans ?_
  refine (zr_putI (i := 37) (c := 10) (k := 0) (x := (V x1 0)) (by decide +kernel) (by decide +kernel) (zb10_0 h0) (by decide +kernel)).trans ?_
  refine (zr_aload_n (n := 0) (x := x0) (by decide +kernel) rfl).trans ?_
  refine (zr_aload_n (n := 1) (x := x1) (by decide +kernel) rfl).trans ?_
  refine (zr_getI (i := 41) (c := 10) (k := 1) (by decide +kernel) (by decide +kernel) (zb10_0 h1) (by decide +kernel)).trans ?_
  refine (zr_putI (i := 41) (c := 10) (k := 1) (x := ((vup V x0 0 (V x1 0)) x1 1)) (by decide +kernel) (by decide +kernel) (zb10_0 h0) (by decide +kernel)).trans ?_
  refine (zr_aload_n (n := 0) (x := x0) (by decide +kernel) rfl).trans ?_
  refine (zr_aload_n (n := 1) (x := x1) (by decide +kernel) rfl).trans ?_
  refine (zr_getI (i := 44) (c := 10) (k := 2) (by decide +kernel) (by decide +kernel) (zb10_0 h1) (by decide +kernel)).trans ?_
  refine (zr_putI (i := 44) (c := 10) (k := 2) (x := ((vup (vup V x0 0 (V x1 0)) x0 1 ((vup V x0 0 (V x1 0)) x1 1)) x1 2)) (by decide +kernel) (by decide +kernel) (zb10_0 h0) (by decide +kernel)).trans ?_
  refine (zr_aload_n (n := 0) (x := x0) (by decide +kernel) rfl).trans ?_
  refine (zr_aload_n (n := 1) (x := x1) (by decide +kernel) rfl).trans ?_
  refine (zr_getI (i := 47) (c := 10) (k := 3) (by decide +kernel) (by decide +kernel) (zb10_0 h1) (by decide +kernel)).trans ?_
  refine (zr_putI (i := 47) (c := 10) (k := 3) (x := ((vup (vup (vup V x0 0 (V x1 0)) x0 1 ((vup V x0 0 (V x1 0)) x1 1)) x0 2 ((vup (vup V x0 0 (V x1 0)) x0 1 ((vup V x0 0 (V x1 0)) x1 1)) x1 2)) x1 3)) (by decide +kernel) (by decide +kernel) (zb10_0 h0) (by decide +kernel)).trans ?_
  refine (zr_iconst (n := 0) (by decide +kernel)).trans ?_
  refine (zr_istore_n (n := 2) (l1 := [.ref x0, .ref x1, .int (zi (0))]) (by decide +kernel) rfl).trans ?_
  rfl
theorem ze_88_34 {V : zVt} {J : zJt} {d : Nat → Nat → UInt64} (x0 : Nat) (x1 : Nat) (x2 : Int) (h0 : zBk 10 x0) (h1 : zBk 10 x1) : zGo false 88 34 [.ref x0, .ref x1, .int (zi x2)] [] (zm V J d) =
    (if qw (V x0 0) ≤ qw x2 then some (.inl none, zm V J d) else zck (0 ≤ qw x2 ∧ qw x2 < (60 : Nat)) (zck (0 ≤ qw x2 ∧ qw x2 < (60 : Nat)) (zck (0 ≤ qw x2 ∧ qw x2 < (60 : Nat)) (zck (0 ≤ qw x2 ∧ qw x2 < (60 : Nat)) (zck (0 ≤ qw x2 ∧ qw x2 < (60 : Nat)) (zck (0 ≤ qw x2 ∧ qw x2 < (60 : Nat)) (zck (0 ≤ qw x2 ∧ qw x2 < (60 : Nat)) (zck (0 ≤ qw x2 ∧ qw x2 < (60 : Nat)) (zck (0 ≤ qw x2 ∧ qw x2 < (60 : Nat)) (zck (0 ≤ qw x2 ∧ qw x2 < (60 : Nat)) (zck (0 ≤ qw x2 ∧ qw x2 < (60 : Nat)) (zck (0 ≤ qw x2 ∧ qw x2 < (60 : Nat)) (zck (0 ≤ qw x2 ∧ qw x2 < (60 : Nat)) (zck ((0 ≤ qw x2 ∧ qw x2 < (60 : Nat)) ∧ (qw ((vup (vup (vup (vup (vup (vup V (x0 + 1) (qw x2) (V (x1 + 1) (qw x2))) (x0 + 2) (qw x2) ((vup V (x0 + 1) (qw x2) (V (x1 + 1) (qw x2))) (x1 + 2) (qw x2))) (x0 + 3) (qw x2) ((vup (vup V (x0 + 1) (qw x2) (V (x1 + 1) (qw x2))) (x0 + 2) (qw x2) ((vup V (x0 + 1) (qw x2) (V (x1 + 1) (qw x2))) (x1 + 2) (qw x2))) (x1 + 3) (qw x2))) (x0 + 4) (qw x2) ((vup (vup (vup V (x0 + 1) (qw x2) (V (x1 + 1) (qw x2))) (x0 + 2) (qw x2) ((vup V (x0 + 1) (qw x2) (V (x1 + 1) (qw x2))) (x1 + 2) (qw x2))) (x0 + 3) (qw x2) ((vup (vup V (x0 + 1) (qw x2) (V (x1 + 1) (qw x2))) (x0 + 2) (qw x2) ((vup V (x0 + 1) (qw x2) (V (x1 + 1) (qw x2))) (x1 + 2) (qw x2))) (x1 + 3) (qw x2))) (x1 + 4) (qw x2))) (x0 + 5) (qw x2) ((vup (vup (vup (vup V (x0 + 1) (qw x2) (V (x1 + 1) (qw x2))) (x0 + 2) (qw x2) ((vup V (x0 + 1) (qw x2) (V (x1 + 1) (qw x2))) (x1 + 2) (qw x2))) (x0 + 3) (qw x2) ((vup (vup V (x0 + 1) (qw x2) (V (x1 + 1) (qw x2))) (x0 + 2) (qw x2) ((vup V (x0 + 1) (qw x2) (V (x1 + 1) (qw x2))) (x1 + 2) (qw x2))) (x1 + 3) (qw x2))) (x0 + 4) (qw x2) ((vup (vup (vup V (x0 + 1) (qw x2) (V (x1 + 1) (qw x2))) (x0 + 2) (qw x2) ((vup V (x0 + 1) (qw x2) (V (x1 + 1) (qw x2))) (x1 + 2) (qw x2))) (x0 + 3) (qw x2) ((vup (vup V (x0 + 1) (qw x2) (V (x1 + 1) (qw x2))) (x0 + 2) (qw x2) ((vup V (x0 + 1) (qw x2) (V (x1 + 1) (qw x2))) (x1 + 2) (qw x2))) (x1 + 3) (qw x2))) (x1 + 4) (qw x2))) (x1 + 5) (qw x2))) (x0 + 6) (qw x2) ((vup (vup (vup (vup (vup V (x0 + 1) (qw x2) (V (x1 + 1) (qw x2))) (x0 + 2) (qw x2) ((vup V (x0 + 1) (qw x2) (V (x1 + 1) (qw x2))) (x1 + 2) (qw x2))) (x0 + 3) (qw x2) ((vup (vup V (x0 + 1) (qw x2) (V (x1 + 1) (qw x2))) (x0 + 2) (qw x2) ((vup V (x0 + 1) (qw x2) (V (x1 + 1) (qw x2))) (x1 + 2) (qw x2))) (x1 + 3) (qw x2))) (x0 + 4) (qw x2) ((vup (vup (vup V (x0 + 1) (qw x2) (V (x1 + 1) (qw x2))) (x0 + 2) (qw x2) ((vup V (x0 + 1) (qw x2) (V (x1 + 1) (qw x2))) (x1 + 2) (qw x2))) (x0 + 3) (qw x2) ((vup (vup V (x0 + 1) (qw x2) (V (x1 + 1) (qw x2))) (x0 + 2) (qw x2) ((vup V (x0 + 1) (qw x2) (V (x1 + 1) (qw x2))) (x1 + 2) (qw x2))) (x1 + 3) (qw x2))) (x1 + 4) (qw x2))) (x0 + 5) (qw x2) ((vup (vup (vup (vup V (x0 + 1) (qw x2) (V (x1 + 1) (qw x2))) (x0 + 2) (qw x2) ((vup V (x0 + 1) (qw x2) (V (x1 + 1) (qw x2))) (x1 + 2) (qw x2))) (x0 + 3) (qw x2) ((vup (vup V (x0 + 1) (qw x2) (V (x1 + 1) (qw x2))) (x0 + 2) (qw x2) ((vup V (x0 + 1) (qw x2) (V (x1 + 1) (qw x2))) (x1 + 2) (qw x2))) (x1 + 3) (qw x2))) (x0 + 4) (qw x2) ((vup (vup (vup V (x0 + 1) (qw x2) (V (x1 + 1) (qw x2))) (x0 + 2) (qw x2) ((vup V (x0 + 1) (qw x2) (V (x1 + 1) (qw x2))) (x1 + 2) (qw x2))) (x0 + 3) (qw x2) ((vup (vup V (x0 + 1) (qw x2) (V (x1 + 1) (qw x2))) (x0 + 2) (qw x2) ((vup V (x0 + 1) (qw x2) (V (x1 + 1) (qw x2))) (x1 + 2) (qw x2))) (x1 + 3) (qw x2))) (x1 + 4) (qw x2))) (x1 + 5) (qw x2))) (x1 + 6) (qw x2))) (x1 + 7) (qw x2)) = 0 ∨ qw ((vup (vup (vup (vup (vup (vup V (x0 + 1) (qw x2) (V (x1 + 1) (qw x2))) (x0 + 2) (qw x2) ((vup V (x0 + 1) (qw x2) (V (x1 + 1) (qw x2))) (x1 + 2) (qw x2))) (x0 + 3) (qw x2) ((vup (vup V (x0 + 1) (qw x2) (V (x1 + 1) (qw x2))) (x0 + 2) (qw x2) ((vup V (x0 + 1) (qw x2) (V (x1 + 1) (qw x2))) (x1 + 2) (qw x2))) (x1 + 3) (qw x2))) (x0 + 4) (qw x2) ((vup (vup (vup V (x0 + 1) (qw x2) (V (x1 + 1) (qw x2))) (x0 + 2) (qw x2) ((vup V (x0 + 1) (qw x2) (V (x1 + 1) (qw x2))) (x1 + 2) (qw x2))) (x0 + 3) (qw x2) ((vup (vup V (x0 + 1) (qw x2) (V (x1 + 1) (qw x2))) (x0 + 2) (qw x2) ((vup V (x0 + 1) (qw x2) (V (x1 + 1) (qw x2))) (x1 + 2) (qw x2))) (x1 + 3) (qw x2))) (x1 + 4) (qw x2))) (x0 + 5) (qw x2) ((vup (vup (vup (vup V (x0 + 1) (qw x2) (V (x1 + 1) (qw x2))) (x0 + 2) (qw x2) ((vup V (x0 + 1) (qw x2) (V (x1 + 1) (qw x2))) (x1 + 2) (qw x2))) (x0 + 3) (qw x2) ((vup (vup V (x0 + 1) (qw x2) (V (x1 + 1) (qw x2))) (x0 + 2) (qw x2) ((vup V (x0 + 1) (qw x2) (V (x1 + 1) (qw x2))) (x1 + 2) (qw x2))) (x1 + 3) (qw x2))) (x0 + 4) (qw x2) ((vup (vup (vup V (x0 + 1) (qw x2) (V (x1 + 1) (qw x2))) (x0 + 2) (qw x2) ((vup V (x0 + 1) (qw x2) (V (x1 + 1) (qw x2))) (x1 + 2) (qw x2))) (x0 + 3) (qw x2) ((vup (vup V (x0 + 1) (qw x2) (V (x1 + 1) (qw x2))) (x0 + 2) (qw x2) ((vup V (x0 + 1) (qw x2) (V (x1 + 1) (qw x2))) (x1 + 2) (qw x2))) (x1 + 3) (qw x2))) (x1 + 4) (qw x2))) (x1 + 5) (qw x2))) (x0 + 6) (qw x2) ((vup (vup (vup (vup (vup V (x0 + 1) (qw x2) (V (x1 + 1) (qw x2))) (x0 + 2) (qw x2) ((vup V (x0 + 1) (qw x2) (V (x1 + 1) (qw x2))) (x1 + 2) (qw x2))) (x0 + 3) (qw x2) ((vup (vup V (x0 + 1) (qw x2) (V (x1 + 1) (qw x2))) (x0 + 2) (qw x2) ((vup V (x0 + 1) (qw x2) (V (x1 + 1) (qw x2))) (x1 + 2) (qw x2))) (x1 + 3) (qw x2))) (x0 + 4) (qw x2) ((vup (vup (vup V (x0 + 1) (qw x2) (V (x1 + 1) (qw x2))) (x0 + 2) (qw x2) ((vup V (x0 + 1) (qw x2) (V (x1 + 1) (qw x2))) (x1 + 2) (qw x2))) (x0 + 3) (qw x2) ((vup (vup V (x0 + 1) (qw x2) (V (x1 + 1) (qw x2))) (x0 + 2) (qw x2) ((vup V (x0 + 1) (qw x2) (V (x1 + 1) (qw x2))) (x1 + 2) (qw x2))) (x1 + 3) (qw x2))) (x1 + 4) (qw x2))) (x0 + 5) (qw x2) ((vup (vup (vup (vup V (x0 + 1) (qw x2) (V (x1 + 1) (qw x2))) (x0 + 2) (qw x2) ((vup V (x0 + 1) (qw x2) (V (x1 + 1) (qw x2))) (x1 + 2) (qw x2))) (x0 + 3) (qw x2) ((vup (vup V (x0 + 1) (qw x2) (V (x1 + 1) (qw x2))) (x0 + 2) (qw x2) ((vup V (x0 + 1) (qw x2) (V (x1 + 1) (qw x2))) (x1 + 2) (qw x2))) (x1 + 3) (qw x2))) (x0 + 4) (qw x2) ((vup (vup (vup V (x0 + 1) (qw x2) (V (x1 + 1) (qw x2))) (x0 + 2) (qw x2) ((vup V (x0 + 1) (qw x2) (V (x1 + 1) (qw x2))) (x1 + 2) (qw x2))) (x0 + 3) (qw x2) ((vup (vup V (x0 + 1) (qw x2) (V (x1 + 1) (qw x2))) (x0 + 2) (qw x2) ((vup V (x0 + 1) (qw x2) (V (x1 + 1) (qw x2))) (x1 + 2) (qw x2))) (x1 + 3) (qw x2))) (x1 + 4) (qw x2))) (x1 + 5) (qw x2))) (x1 + 6) (qw x2))) (x1 + 7) (qw x2)) = 1)) (zck (0 ≤ qw x2 ∧ qw x2 < (60 : Nat)) (zck (0 ≤ qw x2 ∧ qw x2 < (60 : Nat)) (zGo false 88 34 [.ref x0, .ref x1, .int (zi (x2 + 1))] [] (zm (vup (vup (vup (vup (vup (vup (vup (vup V (x0 + 1) (qw x2) (V (x1 + 1) (qw x2))) (x0 + 2) (qw x2) ((vup V (x0 + 1) (qw x2) (V (x1 + 1) (qw x2))) (x1 + 2) (qw x2))) (x0 + 3) (qw x2) ((vup (vup V (x0 + 1) (qw x2) (V (x1 + 1) (qw x2))) (x0 + 2) (qw x2) ((vup V (x0 + 1) (qw x2) (V (x1 + 1) (qw x2))) (x1 + 2) (qw x2))) (x1 + 3) (qw x2))) (x0 + 4) (qw x2) ((vup (vup (vup V (x0 + 1) (qw x2) (V (x1 + 1) (qw x2))) (x0 + 2) (qw x2) ((vup V (x0 + 1) (qw x2) (V (x1 + 1) (qw x2))) (x1 + 2) (qw x2))) (x0 + 3) (qw x2) ((vup (vup V (x0 + 1) (qw x2) (V (x1 + 1) (qw x2))) (x0 + 2) (qw x2) ((vup V (x0 + 1) (qw x2) (V (x1 + 1) (qw x2))) (x1 + 2) (qw x2))) (x1 + 3) (qw x2))) (x1 + 4) (qw x2))) (x0 + 5) (qw x2) ((vup (vup (vup (vup V (x0 + 1) (qw x2) (V (x1 + 1) (qw x2))) (x0 + 2) (qw x2) ((vup V (x0 + 1) (qw x2) (V (x1 + 1) (qw x2))) (x1 + 2) (qw x2))) (x0 + 3) (qw x2) ((vup (vup V (x0 + 1) (qw x2) (V (x1 + 1) (qw x2))) (x0 + 2) (qw x2) ((vup V (x0 + 1) (qw x2) (V (x1 + 1) (qw x2))) (x1 + 2) (qw x2))) (x1 + 3) (qw x2))) (x0 + 4) (qw x2) ((vup (vup (vup V (x0 + 1) (qw x2) (V (x1 + 1) (qw x2))) (x0 + 2) (qw x2) ((vup V (x0 + 1) (qw x2) (V (x1 + 1) (qw x2))) (x1 + 2) (qw x2))) (x0 + 3) (qw x2) ((vup (vup V (x0 + 1) (qw x2) (V (x1 + 1) (qw x2))) (x0 + 2) (qw x2) ((vup V (x0 + 1) (qw x2) (V (x1 + 1) (qw x2))) (x1 + 2) (qw x2))) (x1 + 3) (qw x2))) (x1 + 4) (qw x2))) (x1 + 5) (qw x2))) (x0 + 6) (qw x2) ((vup (vup (vup (vup (vup V (x0 + 1) (qw x2) (V (x1 + 1) (qw x2))) (x0 + 2) (qw x2) ((vup V (x0 + 1) (qw x2) (V (x1 + 1) (qw x2))) (x1 + 2) (qw x2))) (x0 + 3) (qw x2) ((vup (vup V (x0 + 1) (qw x2) (V (x1 + 1) (qw x2))) (x0 + 2) (qw x2) ((vup V (x0 + 1) (qw x2) (V (x1 + 1) (qw x2))) (x1 + 2) (qw x2))) (x1 + 3) (qw x2))) (x0 + 4) (qw x2) ((vup (vup (vup V (x0 + 1) (qw x2) (V (x1 + 1) (qw x2))) (x0 + 2) (qw x2) ((vup V (x0 + 1) (qw x2) (V (x1 + 1) (qw x2))) (x1 + 2) (qw x2))) (x0 + 3) (qw x2) ((vup (vup V (x0 + 1) (qw x2) (V (x1 + 1) (qw x2))) (x0 + 2) (qw x2) ((vup V (x0 + 1) (qw x2) (V (x1 + 1) (qw x2))) (x1 + 2) (qw x2))) (x1 + 3) (qw x2))) (x1 + 4) (qw x2))) (x0 + 5) (qw x2) ((vup (vup (vup (vup V (x0 + 1) (qw x2) (V (x1 + 1) (qw x2))) (x0 + 2) (qw x2) ((vup V (x0 + 1) (qw x2) (V (x1 + 1) (qw x2))) (x1 + 2) (qw x2))) (x0 + 3) (qw x2) ((vup (vup V (x0 + 1) (qw x2) (V (x1 + 1) (qw x2))) (x0 + 2) (qw x2) ((vup V (x0 + 1) (qw x2) (V (x1 + 1) (qw x2))) (x1 + 2) (qw x2))) (x1 + 3) (qw x2))) (x0 + 4) (qw x2) ((vup (vup (vup V (x0 + 1) (qw x2) (V (x1 + 1) (qw x2))) (x0 + 2) (qw x2) ((vup V (x0 + 1) (qw x2) (V (x1 + 1) (qw x2))) (x1 + 2) (qw x2))) (x0 + 3) (qw x2) ((vup (vup V (x0 + 1) (qw x2) (V (x1 + 1) (qw x2))) (x0 + 2) (qw x2) ((vup V (x0 + 1) (qw x2) (V (x1 + 1) (qw x2))) (x1 + 2) (qw x2))) (x1 + 3) (qw x2))) (x1 + 4) (qw x2))) (x1 + 5) (qw x2))) (x1 + 6) (qw x2))) (x0 + 7) (qw x2) ((vup (vup (vup (vup (vup (vup V (x0 + 1) (qw x2) (V (x1 + 1) (qw x2))) (x0 + 2) (qw x2) ((vup V (x0 + 1) (qw x2) (V (x1 + 1) (qw x2))) (x1 + 2) (qw x2))) (x0 + 3) (qw x2) ((vup (vup V (x0 + 1) (qw x2) (V (x1 + 1) (qw x2))) (x0 + 2) (qw x2) ((vup V (x0 + 1) (qw x2) (V (x1 + 1) (qw x2))) (x1 + 2) (qw x2))) (x1 + 3) (qw x2))) (x0 + 4) (qw x2) ((vup (vup (vup V (x0 + 1) (qw x2) (V (x1 + 1) (qw x2))) (x0 + 2) (qw x2) ((vup V (x0 + 1) (qw x2) (V (x1 + 1) (qw x2))) (x1 + 2) (qw x2))) (x0 + 3) (qw x2) ((vup (vup V (x0 + 1) (qw x2) (V (x1 + 1) (qw x2))) (x0 + 2) (qw x2) ((vup V (x0 + 1) (qw x2) (V (x1 + 1) (qw x2))) (x1 + 2) (qw x2))) (x1 + 3) (qw x2))) (x1 + 4) (qw x2))) (x0 + 5) (qw x2) ((vup (vup (vup (vup V (x0 + 1) (qw x2) (V (x1 + 1) (qw x2))) (x0 + 2) (qw x2) ((vup V (x0 + 1) (qw x2) (V (x1 + 1) (qw x2))) (x1 + 2) (qw x2))) (x0 + 3) (qw x2) ((vup (vup V (x0 + 1) (qw x2) (V (x1 + 1) (qw x2))) (x0 + 2) (qw x2) ((vup V (x0 + 1) (qw x2) (V (x1 + 1) (qw x2))) (x1 + 2) (qw x2))) (x1 + 3) (qw x2))) (x0 + 4) (qw x2) ((vup (vup (vup V (x0 + 1) (qw x2) (V (x1 + 1) (qw x2))) (x0 + 2) (qw x2) ((vup V (x0 + 1) (qw x2) (V (x1 + 1) (qw x2))) (x1 + 2) (qw x2))) (x0 + 3) (qw x2) ((vup (vup V (x0 + 1) (qw x2) (V (x1 + 1) (qw x2))) (x0 + 2) (qw x2) ((vup V (x0 + 1) (qw x2) (V (x1 + 1) (qw x2))) (x1 + 2) (qw x2))) (x1 + 3) (qw x2))) (x1 + 4) (qw x2))) (x1 + 5) (qw x2))) (x0 + 6) (qw x2) ((vup (vup (vup (vup (vup V (x0 + 1) (qw x2) (V (x1 + 1) (qw x2))) (x0 + 2) (qw x2) ((vup V (x0 + 1) (qw x2) (V (x1 + 1) (qw x2))) (x1 + 2) (qw x2))) (x0 + 3) (qw x2) ((vup (vup V (x0 + 1) (qw x2) (V (x1 + 1) (qw x2))) (x0 + 2) (qw x2) ((vup V (x0 + 1) (qw x2) (V (x1 + 1) (qw x2))) (x1 + 2) (qw x2))) (x1 + 3) (qw x2))) (x0 + 4) (qw x2) ((vup (vup (vup V (x0 + 1) (qw x2) (V (x1 + 1) (qw x2))) (x0 + 2) (qw x2) ((vup V (x0 + 1) (qw x2) (V (x1 + 1) (qw x2))) (x1 + 2) (qw x2))) (x0 + 3) (qw x2) ((vup (vup V (x0 + 1) (qw x2) (V (x1 + 1) (qw x2))) (x0 + 2) (qw x2) ((vup V (x0 + 1) (qw x2) (V (x1 + 1) (qw x2))) (x1 + 2) (qw x2))) (x1 + 3) (qw x2))) (x1 + 4) (qw x2))) (x0 + 5) (qw x2) ((vup (vup (vup (vup V (x0 + 1) (qw x2) (V (x1 + 1) (qw x2))) (x0 + 2) (qw x2) ((vup V (x0 + 1) (qw x2) (V (x1 + 1) (qw x2))) (x1 + 2) (qw x2))) (x0 + 3) (qw x2) ((vup (vup V (x0 + 1) (qw x2) (V (x1 + 1) (qw x2))) (x0 + 2) (qw x2) ((vup V (x0 + 1) (qw x2) (V (x1 + 1) (qw x2))) (x1 + 2) (qw x2))) (x1 + 3) (qw x2))) (x0 + 4) (qw x2) ((vup (vup (vup V (x0 + 1) (qw x2) (V (x1 + 1) (qw x2))) (x0 + 2) (qw x2) ((vup V (x0 + 1) (qw x2) (V (x1 + 1) (qw x2))) (x1 + 2) (qw x2))) (x0 + 3) (qw x2) ((vup (vup V (x0 + 1) (qw x2) (V (x1 + 1) (qw x2))) (x0 + 2) (qw x2) ((vup V (x0 + 1) (qw x2) (V (x1 + 1) (qw x2))) (x1 + 2) (qw x2))) (x1 + 3) (qw x2))) (x1 + 4) (qw x2))) (x1 + 5) (qw x2))) (x1 + 6) (qw x2))) (x1 + 7) (qw x2))) (x0 + 8) (qw x2) ((vup (vup (vup (vup (vup (vup (vup V (x0 + 1) (qw x2) (V (x1 + 1) (qw x2))) (x0 + 2) (qw x2) ((vup V (x0 + 1) (qw x2) (V (x1 + 1) (qw x2))) (x1 + 2) (qw x2))) (x0 + 3) (qw x2) ((vup (vup V (x0 + 1) (qw x2) (V (x1 + 1) (qw x2))) (x0 + 2) (qw x2) ((vup V (x0 + 1) (qw x2) (V (x1 + 1) (qw x2))) (x1 + 2) (qw x2))) (x1 + 3) (qw x2))) (x0 + 4) (qw x2) ((vup (vup (vup V (x0 + 1) (qw x2) (V (x1 + 1) (qw x2))) (x0 + 2) (qw x2) ((vup V (x0 + 1) (qw x2) (V (x1 + 1) (qw x2))) (x1 + 2) (qw x2))) (x0 + 3) (qw x2) ((vup (vup V (x0 + 1) (qw x2) (V (x1 + 1) (qw x2))) (x0 + 2) (qw x2) ((vup V (x0 + 1) (qw x2) (V (x1 + 1) (qw x2))) (x1 + 2) (qw x2))) (x1 + 3) (qw x2))) (x1 + 4) (qw x2))) (x0 + 5) (qw x2) ((vup (vup (vup (vup V (x0 + 1) (qw x2) (V (x1 + 1) (qw x2))) (x0 + 2) (qw x2) ((vup V (x0 + 1) (qw x2) (V (x1 + 1) (qw x2))) (x1 + 2) (qw x2))) (x0 + 3) (qw x2) ((vup (vup V (x0 + 1) (qw x2) (V (x1 + 1) (qw x2))) (x0 + 2) (qw x2) ((vup V (x0 + 1) (qw x2) (V (x1 + 1) (qw x2))) (x1 + 2) (qw x2))) (x1 + 3) (qw x2))) (x0 + 4) (qw x2) ((vup (vup (vup V (x0 + 1) (qw x2) (V (x1 + 1) (qw x2))) (x0 + 2) (qw x2) ((vup V (x0 + 1) (qw x2) (V (x1 + 1) (qw x2))) (x1 + 2) (qw x2))) (x0 + 3) (qw x2) ((vup (vup V (x0 + 1) (qw x2) (V (x1 + 1) (qw x2))) (x0 + 2) (qw x2) ((vup V (x0 + 1) (qw x2) (V (x1 + 1) (qw x2))) (x1 + 2) (qw x2))) (x1 + 3) (qw x2))) (x1 + 4) (qw x2))) (x1 + 5) (qw x2))) (x0 + 6) (qw x2) ((vup (vup (vup (vup (vup V (x0 + 1) (qw x2) (V (x1 + 1) (qw x2))) (x0 + 2) (qw x2) ((vup V (x0 + 1) (qw x2) (V (x1 + 1) (qw x2))) (x1 + 2) (qw x2))) (x0 + 3) (qw x2) ((vup (vup V (x0 + 1) (qw x2) (V (x1 + 1) (qw x2))) (x0 + 2) (qw x2) ((vup V (x0 + 1) (qw x2) (V (x1 + 1) (qw x2))) (x1 + 2) (qw x2))) (x1 + 3) (qw x2))) (x0 + 4) (qw x2) ((vup (vup (vup V (x0 + 1) (qw x2) (V (x1 + 1) (qw x2))) (x0 + 2) (qw x2) ((vup V (x0 + 1) (qw x2) (V (x1 + 1) (qw x2))) (x1 + 2) (qw x2))) (x0 + 3) (qw x2) ((vup (vup V (x0 + 1) (qw x2) (V (x1 + 1) (qw x2))) (x0 + 2) (qw x2) ((vup V (x0 + 1) (qw x2) (V (x1 + 1) (qw x2))) (x1 + 2) (qw x2))) (x1 + 3) (qw x2))) (x1 + 4) (qw x2))) (x0 + 5) (qw x2) ((vup (vup (vup (vup V (x0 + 1) (qw x2) (V (x1 + 1) (qw x2))) (x0 + 2) (qw x2) ((vup V (x0 + 1) (qw x2) (V (x1 + 1) (qw x2))) (x1 + 2) (qw x2))) (x0 + 3) (qw x2) ((vup (vup V (x0 + 1) (qw x2) (V (x1 + 1) (qw x2))) (x0 + 2) (qw x2) ((vup V (x0 + 1) (qw x2) (V (x1 + 1) (qw x2))) (x1 + 2) (qw x2))) (x1 + 3) (qw x2))) (x0 + 4) (qw x2) ((vup (vup (vup V (x0 + 1) (qw x2) (V (x1 + 1) (qw x2))) (x0 + 2) (qw x2) ((vup V (x0 + 1) (qw x2) (V (x1 + 1) (qw x2))) (x1 + 2) (qw x2))) (x0 + 3) (qw x2) ((vup (vup V (x0 + 1) (qw x2) (V (x1 + 1) (qw x2))) (x0 + 2) (qw x2) ((vup V (x0 + 1) (qw x2) (V (x1 + 1) (qw x2))) (x1 + 2) (qw x2))) (x1 + 3) (qw x2))) (x1 + 4) (qw x2))) (x1 + 5) (qw x2))) (x1 + 6) (qw x2))) (x0 + 7) (qw x2) ((vup (vup (vup (vup (vup (vup V (x0 + 1) (qw x2) (V (x1 + 1) (qw x2))) (x0 + 2) (qw x2) ((vup V (x0 + 1) (qw x2) (V (x1 + 1) (qw x2))) (x1 + 2) (qw x2))) (x0 + 3) (qw x2) ((vup (vup V (x0 + 1) (qw x2) (V (x1 + 1) (qw x2))) (x0 + 2) (qw x2) ((vup V (x0 + 1) (qw x2) (V (x1 + 1) (qw x2))) (x1 + 2) (qw x2))) (x1 + 3) (qw x2))) (x0 + 4) (qw x2) ((vup (vup (vup V (x0 + 1) (qw x2) (V (x1 + 1) (qw x2))) (x0 + 2) (qw x2) ((vup V (x0 + 1) (qw x2) (V (x1 + 1) (qw x2))) (x1 + 2) (qw x2))) (x0 + 3) (qw x2) ((vup (vup V (x0 + 1) (qw x2) (V (x1 + 1) (qw x2))) (x0 + 2) (qw x2) ((vup V (x0 + 1) (qw x2) (V (x1 + 1) (qw x2))) (x1 + 2) (qw x2))) (x1 + 3) (qw x2))) (x1 + 4) (qw x2))) (x0 + 5) (qw x2) ((vup (vup (vup (vup V (x0 + 1) (qw x2) (V (x1 + 1) (qw x2))) (x0 + 2) (qw x2) ((vup V (x0 + 1) (qw x2) (V (x1 + 1) (qw x2))) (x1 + 2) (qw x2))) (x0 + 3) (qw x2) ((vup (vup V (x0 + 1) (qw x2) (V (x1 + 1) (qw x2))) (x0 + 2) (qw x2) ((vup V (x0 + 1) (qw x2) (V (x1 + 1) (qw x2))) (x1 + 2) (qw x2))) (x1 + 3) (qw x2))) (x0 + 4) (qw x2) ((vup (vup (vup V (x0 + 1) (qw x2) (V (x1 + 1) (qw x2))) (x0 + 2) (qw x2) ((vup V (x0 + 1) (qw x2) (V (x1 + 1) (qw x2))) (x1 + 2) (qw x2))) (x0 + 3) (qw x2) ((vup (vup V (x0 + 1) (qw x2) (V (x1 + 1) (qw x2))) (x0 + 2) (qw x2) ((vup V (x0 + 1) (qw x2) (V (x1 + 1) (qw x2))) (x1 + 2) (qw x2))) (x1 + 3) (qw x2))) (x1 + 4) (qw x2))) (x1 + 5) (qw x2))) (x0 + 6) (qw x2) ((vup (vup (vup (vup (vup V (x0 + 1) (qw x2) (V (x1 + 1) (qw x2))) (x0 + 2) (qw x2) ((vup V (x0 + 1) (qw x2) (V (x1 + 1) (qw x2))) (x1 + 2) (qw x2))) (x0 + 3) (qw x2) ((vup (vup V (x0 + 1) (qw x2) (V (x1 + 1) (qw x2))) (x0 + 2) (qw x2) ((vup V (x0 + 1) (qw x2) (V (x1 + 1) (qw x2))) (x1 + 2) (qw x2))) (x1 + 3) (qw x2))) (x0 + 4) (qw x2) ((vup (vup (vup V (x0 + 1) (qw x2) (V (x1 + 1) (qw x2))) (x0 + 2) (qw x2) ((vup V (x0 + 1) (qw x2) (V (x1 + 1) (qw x2))) (x1 + 2) (qw x2))) (x0 + 3) (qw x2) ((vup (vup V (x0 + 1) (qw x2) (V (x1 + 1) (qw x2))) (x0 + 2) (qw x2) ((vup V (x0 + 1) (qw x2) (V (x1 + 1) (qw x2))) (x1 + 2) (qw x2))) (x1 + 3) (qw x2))) (x1 + 4) (qw x2))) (x0 + 5) (qw x2) ((vup (vup (vup (vup V (x0 + 1) (qw x2) (V (x1 + 1) (qw x2))) (x0 + 2) (qw x2) ((vup V (x0 + 1) (qw x2) (V (x1 + 1) (qw x2))) (x1 + 2) (qw x2))) (x0 + 3) (qw x2) ((vup (vup V (x0 + 1) (qw x2) (V (x1 + 1) (qw x2))) (x0 + 2) (qw x2) ((vup V (x0 + 1) (qw x2) (V (x1 + 1) (qw x2))) (x1 + 2) (qw x2))) (x1 + 3) (qw x2))) (x0 + 4) (qw x2) ((vup (vup (vup V (x0 + 1) (qw x2) (V (x1 + 1) (qw x2))) (x0 + 2) (qw x2) ((vup V (x0 + 1) (qw x2) (V (x1 + 1) (qw x2))) (x1 + 2) (qw x2))) (x0 + 3) (qw x2) ((vup (vup V (x0 + 1) (qw x2) (V (x1 + 1) (qw x2))) (x0 + 2) (qw x2) ((vup V (x0 + 1) (qw x2) (V (x1 + 1) (qw x2))) (x1 + 2) (qw x2))) (x1 + 3) (qw x2))) (x1 + 4) (qw x2))) (x1 + 5) (qw x2))) (x1 + 6) (qw x2))) (x1 + 7) (qw x2))) (x1 + 8) (qw x2))) J d)))))))))))))))))) := by
  refine (zr_iload_n (n := 2) (x := zi x2) (by decide +kernel) rfl).trans ?_
  refine (zr_aload_n (n := 0) (x := x0) (by decide +kernel) rfl).trans ?_
  refine (zr_getI (i := 37) (c := 10) (k := 0) (by decide +kernel) (by decide +kernel) (zb10_0 h0) (by decide +kernel)).trans ?_
  refine (zr_cge (off := 105) (a := x2) (b := (V x0 0)) (t := 144) (by decide +kernel) rfl).trans (zif_ct (fun _ => ?_) (fun _ => ?_))
  · exact zr_vret (by decide +kernel) rfl
  · refine (zr_aload_n (n := 0) (x := x0) (by decide +kernel) rfl).trans ?_
    refine (zr_getR (i := 9) (c := 10) (k := 4) (r := (x0 + 1)) (by decide +kernel) (by decide +kernel) (zb10_0 h0) (by decide +kernel) (zR0_f (o := x0) (c := 10) (n := 0) (k := 4) (j := 1) (zb10_0 h0) (by decide) rfl)).trans ?_
    refine (zr_iload_n (n := 2) (x := zi x2) (by decide +kernel) rfl).trans ?_
    refine (zr_aload_n (n := 1) (x := x1) (by decide +kernel) rfl).trans ?_
    refine (zr_getR (i := 9) (c := 10) (k := 4) (r := (x1 + 1)) (by decide +kernel) (by decide +kernel) (zb10_0 h1) (by decide +kernel) (zR0_f (o := x1) (c := 10) (n := 0) (k := 4) (j := 1) (zb10_0 h1) (by decide) rfl)).trans ?_
    refine (zr_iload_n (n := 2) (x := zi x2) (by decide +kernel) rfl).trans ?_
    refine (zr_iald (n := 60) (e := x2) (by decide +kernel) (zb10_1 h1)).trans (zck_ct fun _ => ?_)
    refine (zr_iast (n := 60) (e := x2) (x := (V (x1 + 1) (qw x2))) (by decide +kernel) (zb10_1 h0)).trans (zck_ct fun _ => ?_)
    refine (zr_aload_n (n := 0) (x := x0) (by decide +kernel) rfl).trans ?_
    refine (zr_getR (i := 15) (c := 10) (k := 5) (r := (x0 + 2)) (by decide +kernel) (by decide +kernel) (zb10_0 h0) (by decide +kernel) (zR0_f (o := x0) (c := 10) (n := 0) (k := 5) (j := 2) (zb10_0 h0) (by decide) rfl)).trans ?_
    refine (zr_iload_n (n := 2) (x := zi x2) (by decide +kernel) rfl).trans ?_
    refine (zr_aload_n (n := 1) (x := x1) (by decide +kernel) rfl).trans ?_
    refine (zr_getR (i := 15) (c := 10) (k := 5) (r := (x1 + 2)) (by decide +kernel) (by decide +kernel) (zb10_0 h1) (by decide +kernel) (zR0_f (o := x1) (c := 10) (n := 0) (k := 5) (j := 2) (zb10_0 h1) (by decide) rfl)).trans ?_
    refine (zr_iload_n (n := 2) (x := zi x2) (by decide +kernel) rfl).trans ?_
    refine (zr_iald (n := 60) (e := x2) (by decide +kernel) (zb10_2 h1)).trans (zck_ct fun _ => ?_)
    refine (zr_iast (n := 60) (e := x2) (x := ((vup V (x0 + 1) (qw x2) (V (x1 + 1) (qw x2))) (x1 + 2) (qw x2))) (by decide +kernel) (zb10_2 h0)).trans (zck_ct fun _ => ?_)
    refine (zr_aload_n (n := 0) (x := x0) (by decide +kernel) rfl).trans ?_
    refine (zr_getR (i := 18) (c := 10) (k := 6) (r := (x0 + 3)) (by decide +kernel) (by decide +kernel) (zb10_0 h0) (by decide +kernel) (zR0_f (o := x0) (c := 10) (n := 0) (k := 6) (j := 3) (zb10_0 h0) (by decide) rfl)).trans ?_
    refine (zr_iload_n (n := 2) (x := zi x2) (by decide +kernel) rfl).trans ?_
    refine (zr_aload_n (n := 1) (x := x1) (by decide +kernel) rfl).trans ?_
    refine (zr_getR (i := 18) (c := 10) (k := 6) (r := (x1 + 3)) (by decide +kernel) (by decide +kernel) (zb10_0 h1) (by decide +kernel) (zR0_f (o := x1) (c := 10) (n := 0) (k := 6) (j := 3) (zb10_0 h1) (by decide) rfl)).trans ?_
    refine (zr_iload_n (n := 2) (x := zi x2) (by decide +kernel) rfl).trans ?_
    refine (zr_iald (n := 60) (e := x2) (by decide +kernel) (zb10_3 h1)).trans (zck_ct fun _ => ?_)
    refine (zr_iast (n := 60) (e := x2) (x := ((vup (vup V (x0 + 1) (qw x2) (V (x1 + 1) (qw x2))) (x0 + 2) (qw x2) ((vup V (x0 + 1) (qw x2) (V (x1 + 1) (qw x2))) (x1 + 2) (qw x2))) (x1 + 3) (qw x2))) (by decide +kernel) (zb10_3 h0)).trans (zck_ct fun _ => ?_)
    refine (zr_aload_n (n := 0) (x := x0) (by decide +kernel) rfl).trans ?_
    refine (zr_getR (i := 21) (c := 10) (k := 7) (r := (x0 + 4)) (by decide +kernel) (by decide +kernel) (zb10_0 h0) (by decide +kernel) (zR0_f (o := x0) (c := 10) (n := 0) (k := 7) (j := 4) (zb10_0 h0) (by decide) rfl)).trans ?_
    refine (zr_iload_n (n := 2) (x := zi x2) (by decide +kernel) rfl).trans ?_
    refine (zr_aload_n (n := 1) (x := x1) (by decide +kernel) rfl).trans ?_
    refine (zr_getR (i := 21) (c := 10) (k := 7) (r := (x1 + 4)) (by decide +kernel) (by decide +kernel) (zb10_0 h1) (by decide +kernel) (zR0_f (o := x1) (c := 10) (n := 0) (k := 7) (j := 4) (zb10_0 h1) (by decide) rfl)).trans ?_
    refine (zr_iload_n (n := 2) (x := zi x2) (by decide +kernel) rfl).trans ?_
    refine (zr_iald (n := 60) (e := x2) (by decide +kernel) (zb10_4 h1)).trans (zck_ct fun _ => ?_)
    refine (zr_iast (n := 60) (e := x2) (x := ((vup (vup (vup V (x0 + 1) (qw x2) (V (x1 + 1) (qw x2))) (x0 + 2) (qw x2) ((vup V (x0 + 1) (qw x2) (V (x1 + 1) (qw x2))) (x1 + 2) (qw x2))) (x0 + 3) (qw x2) ((vup (vup V (x0 + 1) (qw x2) (V (x1 + 1) (qw x2))) (x0 + 2) (qw x2) ((vup V (x0 + 1) (qw x2) (V (x1 + 1) (qw x2))) (x1 + 2) (qw x2))) (x1 + 3) (qw x2))) (x1 + 4) (qw x2))) (by decide +kernel) (zb10_4 h0)).trans (zck_ct fun _ => ?_)
    refine (zr_aload_n (n := 0) (x := x0) (by decide +kernel) rfl).trans ?_
    refine (zr_getR (i := 24) (c := 10) (k := 8) (r := (x0 + 5)) (by decide +kernel) (by decide +kernel) (zb10_0 h0) (by decide +kernel) (zR0_f (o := x0) (c := 10) (n := 0) (k := 8) (j := 5) (zb10_0 h0) (by decide) rfl)).trans ?_
    refine (zr_iload_n (n := 2) (x := zi x2) (by decide +kernel) rfl).trans ?_
    refine (zr_aload_n (n := 1) (x := x1) (by decide +kernel) rfl).trans ?_
    refine (zr_getR (i := 24) (c := 10) (k := 8) (r := (x1 + 5)) (by decide +kernel) (by decide +kernel) (zb10_0 h1) (by decide +kernel) (zR0_f (o := x1) (c := 10) (n := 0) (k := 8) (j := 5) (zb10_0 h1) (by decide) rfl)).trans ?_
    refine (zr_iload_n (n := 2) (x := zi x2) (by decide +kernel) rfl).trans ?_
    refine (zr_iald (n := 60) (e := x2) (by decide +kernel) (zb10_5 h1)).trans (zck_ct fun _ => ?_)
    refine (zr_iast (n := 60) (e := x2) (x := ((vup (vup (vup (vup V (x0 + 1) (qw x2) (V (x1 + 1) (qw x2))) (x0 + 2) (qw x2) ((vup V (x0 + 1) (qw x2) (V (x1 + 1) (qw x2))) (x1 + 2) (qw x2))) (x0 + 3) (qw x2) ((vup (vup V (x0 + 1) (qw x2) (V (x1 + 1) (qw x2))) (x0 + 2) (qw x2) ((vup V (x0 + 1) (qw x2) (V (x1 + 1) (qw x2))) (x1 + 2) (qw x2))) (x1 + 3) (qw x2))) (x0 + 4) (qw x2) ((vup (vup (vup V (x0 + 1) (qw x2) (V (x1 + 1) (qw x2))) (x0 + 2) (qw x2) ((vup V (x0 + 1) (qw x2) (V (x1 + 1) (qw x2))) (x1 + 2) (qw x2))) (x0 + 3) (qw x2) ((vup (vup V (x0 + 1) (qw x2) (V (x1 + 1) (qw x2))) (x0 + 2) (qw x2) ((vup V (x0 + 1) (qw x2) (V (x1 + 1) (qw x2))) (x1 + 2) (qw x2))) (x1 + 3) (qw x2))) (x1 + 4) (qw x2))) (x1 + 5) (qw x2))) (by decide +kernel) (zb10_5 h0)).trans (zck_ct fun _ => ?_)
    refine (zr_aload_n (n := 0) (x := x0) (by decide +kernel) rfl).trans ?_
    refine (zr_getR (i := 27) (c := 10) (k := 9) (r := (x0 + 6)) (by decide +kernel) (by decide +kernel) (zb10_0 h0) (by decide +kernel) (zR0_f (o := x0) (c := 10) (n := 0) (k := 9) (j := 6) (zb10_0 h0) (by decide) rfl)).trans ?_
    refine (zr_iload_n (n := 2) (x := zi x2) (by decide +kernel) rfl).trans ?_
    refine (zr_aload_n (n := 1) (x := x1) (by decide +kernel) rfl).trans ?_
    refine (zr_getR (i := 27) (c := 10) (k := 9) (r := (x1 + 6)) (by decide +kernel) (by decide +kernel) (zb10_0 h1) (by decide +kernel) (zR0_f (o := x1) (c := 10) (n := 0) (k := 9) (j := 6) (zb10_0 h1) (by decide) rfl)).trans ?_
    refine (zr_iload_n (n := 2) (x := zi x2) (by decide +kernel) rfl).trans ?_
    refine (zr_iald (n := 60) (e := x2) (by decide +kernel) (zb10_6 h1)).trans (zck_ct fun _ => ?_)
    refine (zr_iast (n := 60) (e := x2) (x := ((vup (vup (vup (vup (vup V (x0 + 1) (qw x2) (V (x1 + 1) (qw x2))) (x0 + 2) (qw x2) ((vup V (x0 + 1) (qw x2) (V (x1 + 1) (qw x2))) (x1 + 2) (qw x2))) (x0 + 3) (qw x2) ((vup (vup V (x0 + 1) (qw x2) (V (x1 + 1) (qw x2))) (x0 + 2) (qw x2) ((vup V (x0 + 1) (qw x2) (V (x1 + 1) (qw x2))) (x1 + 2) (qw x2))) (x1 + 3) (qw x2))) (x0 + 4) (qw x2) ((vup (vup (vup V (x0 + 1) (qw x2) (V (x1 + 1) (qw x2))) (x0 + 2) (qw x2) ((vup V (x0 + 1) (qw x2) (V (x1 + 1) (qw x2))) (x1 + 2) (qw x2))) (x0 + 3) (qw x2) ((vup (vup V (x0 + 1) (qw x2) (V (x1 + 1) (qw x2))) (x0 + 2) (qw x2) ((vup V (x0 + 1) (qw x2) (V (x1 + 1) (qw x2))) (x1 + 2) (qw x2))) (x1 + 3) (qw x2))) (x1 + 4) (qw x2))) (x0 + 5) (qw x2) ((vup (vup (vup (vup V (x0 + 1) (qw x2) (V (x1 + 1) (qw x2))) (x0 + 2) (qw x2) ((vup V (x0 + 1) (qw x2) (V (x1 + 1) (qw x2))) (x1 + 2) (qw x2))) (x0 + 3) (qw x2) ((vup (vup V (x0 + 1) (qw x2) (V (x1 + 1) (qw x2))) (x0 + 2) (qw x2) ((vup V (x0 + 1) (qw x2) (V (x1 + 1) (qw x2))) (x1 + 2) (qw x2))) (x1 + 3) (qw x2))) (x0 + 4) (qw x2) ((vup (vup (vup V (x0 + 1) (qw x2) (V (x1 + 1) (qw x2))) (x0 + 2) (qw x2) ((vup V (x0 + 1) (qw x2) (V (x1 + 1) (qw x2))) (x1 + 2) (qw x2))) (x0 + 3) (qw x2) ((vup (vup V (x0 + 1) (qw x2) (V (x1 + 1) (qw x2))) (x0 + 2) (qw x2) ((vup V (x0 + 1) (qw x2) (V (x1 + 1) (qw x2))) (x1 + 2) (qw x2))) (x1 + 3) (qw x2))) (x1 + 4) (qw x2))) (x1 + 5) (qw x2))) (x1 + 6) (qw x2))) (by decide +kernel) (zb10_6 h0)).trans (zck_ct fun _ => ?_)
    refine (zr_aload_n (n := 0) (x := x0) (by decide +kernel) rfl).trans ?_
    refine (zr_getR (i := 30) (c := 10) (k := 10) (r := (x0 + 7)) (by decide +kernel) (by decide +kernel) (zb10_0 h0) (by decide +kernel) (zR0_f (o := x0) (c := 10) (n := 0) (k := 10) (j := 7) (zb10_0 h0) (by decide) rfl)).trans ?_
    refine (zr_iload_n (n := 2) (x := zi x2) (by decide +kernel) rfl).trans ?_
    refine (zr_aload_n (n := 1) (x := x1) (by decide +kernel) rfl).trans ?_
    refine (zr_getR (i := 30) (c := 10) (k := 10) (r := (x1 + 7)) (by decide +kernel) (by decide +kernel) (zb10_0 h1) (by decide +kernel) (zR0_f (o := x1) (c := 10) (n := 0) (k := 10) (j := 7) (zb10_0 h1) (by decide) rfl)).trans ?_
    refine (zr_iload_n (n := 2) (x := zi x2) (by decide +kernel) rfl).trans ?_
    refine (zr_zald (n := 60) (e := x2) (by decide +kernel) (zb10_7 h1)).trans (zck_ct fun _ => ?_)
    refine (zr_zast (n := 60) (e := x2) (x := ((vup (vup (vup (vup (vup (vup V (x0 + 1) (qw x2) (V (x1 + 1) (qw x2))) (x0 + 2) (qw x2) ((vup V (x0 + 1) (qw x2) (V (x1 + 1) (qw x2))) (x1 + 2) (qw x2))) (x0 + 3) (qw x2) ((vup (vup V (x0 + 1) (qw x2) (V (x1 + 1) (qw x2))) (x0 + 2) (qw x2) ((vup V (x0 + 1) (qw x2) (V (x1 + 1) (qw x2))) (x1 + 2) (qw x2))) (x1 + 3) (qw x2))) (x0 + 4) (qw x2) ((vup (vup (vup V (x0 + 1) (qw x2) (V (x1 + 1) (qw x2))) (x0 + 2) (qw x2) ((vup V (x0 + 1) (qw x2) (V (x1 + 1) (qw x2))) (x1 + 2) (qw x2))) (x0 + 3) (qw x2) ((vup (vup V (x0 + 1) (qw x2) (V (x1 + 1) (qw x2))) (x0 + 2) (qw x2) ((vup V (x0 + 1) (qw x2) (V (x1 + 1) (qw x2))) (x1 + 2) (qw x2))) (x1 + 3) (qw x2))) (x1 + 4) (qw x2))) (x0 + 5) (qw x2) ((vup (vup (vup (vup V (x0 + 1) (qw x2) (V (x1 + 1) (qw x2))) (x0 + 2) (qw x2) ((vup V (x0 + 1) (qw x2) (V (x1 + 1) (qw x2))) (x1 + 2) (qw x2))) (x0 + 3) (qw x2) ((vup (vup V (x0 + 1) (qw x2) (V (x1 + 1) (qw x2))) (x0 + 2) (qw x2) ((vup V (x0 + 1) (qw x2) (V (x1 + 1) (qw x2))) (x1 + 2) (qw x2))) (x1 + 3) (qw x2))) (x0 + 4) (qw x2) ((vup (vup (vup V (x0 + 1) (qw x2) (V (x1 + 1) (qw x2))) (x0 + 2) (qw x2) ((vup V (x0 + 1) (qw x2) (V (x1 + 1) (qw x2))) (x1 + 2) (qw x2))) (x0 + 3) (qw x2) ((vup (vup V (x0 + 1) (qw x2) (V (x1 + 1) (qw x2))) (x0 + 2) (qw x2) ((vup V (x0 + 1) (qw x2) (V (x1 + 1) (qw x2))) (x1 + 2) (qw x2))) (x1 + 3) (qw x2))) (x1 + 4) (qw x2))) (x1 + 5) (qw x2))) (x0 + 6) (qw x2) ((vup (vup (vup (vup (vup V (x0 + 1) (qw x2) (V (x1 + 1) (qw x2))) (x0 + 2) (qw x2) ((vup V (x0 + 1) (qw x2) (V (x1 + 1) (qw x2))) (x1 + 2) (qw x2))) (x0 + 3) (qw x2) ((vup (vup V (x0 + 1) (qw x2) (V (x1 + 1) (qw x2))) (x0 + 2) (qw x2) ((vup V (x0 + 1) (qw x2) (V (x1 + 1) (qw x2))) (x1 + 2) (qw x2))) (x1 + 3) (qw x2))) (x0 + 4) (qw x2) ((vup (vup (vup V (x0 + 1) (qw x2) (V (x1 + 1) (qw x2))) (x0 + 2) (qw x2) ((vup V (x0 + 1) (qw x2) (V (x1 + 1) (qw x2))) (x1 + 2) (qw x2))) (x0 + 3) (qw x2) ((vup (vup V (x0 + 1) (qw x2) (V (x1 + 1) (qw x2))) (x0 + 2) (qw x2) ((vup V (x0 + 1) (qw x2) (V (x1 + 1) (qw x2))) (x1 + 2) (qw x2))) (x1 + 3) (qw x2))) (x1 + 4) (qw x2))) (x0 + 5) (qw x2) ((vup (vup (vup (vup V (x0 + 1) (qw x2) (V (x1 + 1) (qw x2))) (x0 + 2) (qw x2) ((vup V (x0 + 1) (qw x2) (V (x1 + 1) (qw x2))) (x1 + 2) (qw x2))) (x0 + 3) (qw x2) ((vup (vup V (x0 + 1) (qw x2) (V (x1 + 1) (qw x2))) (x0 + 2) (qw x2) ((vup V (x0 + 1) (qw x2) (V (x1 + 1) (qw x2))) (x1 + 2) (qw x2))) (x1 + 3) (qw x2))) (x0 + 4) (qw x2) ((vup (vup (vup V (x0 + 1) (qw x2) (V (x1 + 1) (qw x2))) (x0 + 2) (qw x2) ((vup V (x0 + 1) (qw x2) (V (x1 + 1) (qw x2))) (x1 + 2) (qw x2))) (x0 + 3) (qw x2) ((vup (vup V (x0 + 1) (qw x2) (V (x1 + 1) (qw x2))) (x0 + 2) (qw x2) ((vup V (x0 + 1) (qw x2) (V (x1 + 1) (qw x2))) (x1 + 2) (qw x2))) (x1 + 3) (qw x2))) (x1 + 4) (qw x2))) (x1 + 5) (qw x2))) (x1 + 6) (qw x2))) (x1 + 7) (qw x2))) (by decide +kernel) (zb10_7 h0)).trans (zck_ct fun _ => ?_)
    refine (zr_aload_n (n := 0) (x := x0) (by decide +kernel) rfl).trans ?_
    refine (zr_getR (i := 34) (c := 10) (k := 11) (r := (x0 + 8)) (by decide +kernel) (by decide +kernel) (zb10_0 h0) (by decide +kernel) (zR0_f (o := x0) (c := 10) (n := 0) (k := 11) (j := 8) (zb10_0 h0) (by decide) rfl)).trans ?_
    refine (zr_iload_n (n := 2) (x := zi x2) (by decide +kernel) rfl).trans ?_
    refine (zr_aload_n (n := 1) (x := x1) (by decide +kernel) rfl).trans ?_
    refine (zr_getR (i := 34) (c := 10) (k := 11) (r := (x1 + 8)) (by decide +kernel) (by decide +kernel) (zb10_0 h1) (by decide +kernel) (zR0_f (o := x1) (c := 10) (n := 0) (k := 11) (j := 8) (zb10_0 h1) (by decide) rfl)).trans ?_
    refine (zr_iload_n (n := 2) (x := zi x2) (by decide +kernel) rfl).trans ?_
    refine (zr_iald (n := 60) (e := x2) (by decide +kernel) (zb10_8 h1)).trans (zck_ct fun _ => ?_)
    refine (zr_iast (n := 60) (e := x2) (x := ((vup (vup (vup (vup (vup (vup (vup V (x0 + 1) (qw x2) (V (x1 + 1) (qw x2))) (x0 + 2) (qw x2) ((vup V (x0 + 1) (qw x2) (V (x1 + 1) (qw x2))) (x1 + 2) (qw x2))) (x0 + 3) (qw x2) ((vup (vup V (x0 + 1) (qw x2) (V (x1 + 1) (qw x2))) (x0 + 2) (qw x2) ((vup V (x0 + 1) (qw x2) (V (x1 + 1) (qw x2))) (x1 + 2) (qw x2))) (x1 + 3) (qw x2))) (x0 + 4) (qw x2) ((vup (vup (vup V (x0 + 1) (qw x2) (V (x1 + 1) (qw x2))) (x0 + 2) (qw x2) ((vup V (x0 + 1) (qw x2) (V (x1 + 1) (qw x2))) (x1 + 2) (qw x2))) (x0 + 3) (qw x2) ((vup (vup V (x0 + 1) (qw x2) (V (x1 + 1) (qw x2))) (x0 + 2) (qw x2) ((vup V (x0 + 1) (qw x2) (V (x1 + 1) (qw x2))) (x1 + 2) (qw x2))) (x1 + 3) (qw x2))) (x1 + 4) (qw x2))) (x0 + 5) (qw x2) ((vup (vup (vup (vup V (x0 + 1) (qw x2) (V (x1 + 1) (qw x2))) (x0 + 2) (qw x2) ((vup V (x0 + 1) (qw x2) (V (x1 + 1) (qw x2))) (x1 + 2) (qw x2))) (x0 + 3) (qw x2) ((vup (vup V (x0 + 1) (qw x2) (V (x1 + 1) (qw x2))) (x0 + 2) (qw x2) ((vup V (x0 + 1) (qw x2) (V (x1 + 1) (qw x2))) (x1 + 2) (qw x2))) (x1 + 3) (qw x2))) (x0 + 4) (qw x2) ((vup (vup (vup V (x0 + 1) (qw x2) (V (x1 + 1) (qw x2))) (x0 + 2) (qw x2) ((vup V (x0 + 1) (qw x2) (V (x1 + 1) (qw x2))) (x1 + 2) (qw x2))) (x0 + 3) (qw x2) ((vup (vup V (x0 + 1) (qw x2) (V (x1 + 1) (qw x2))) (x0 + 2) (qw x2) ((vup V (x0 + 1) (qw x2) (V (x1 + 1) (qw x2))) (x1 + 2) (qw x2))) (x1 + 3) (qw x2))) (x1 + 4) (qw x2))) (x1 + 5) (qw x2))) (x0 + 6) (qw x2) ((vup (vup (vup (vup (vup V (x0 + 1) (qw x2) (V (x1 + 1) (qw x2))) (x0 + 2) (qw x2) ((vup V (x0 + 1) (qw x2) (V (x1 + 1) (qw x2))) (x1 + 2) (qw x2))) (x0 + 3) (qw x2) ((vup (vup V (x0 + 1) (qw x2) (V (x1 + 1) (qw x2))) (x0 + 2) (qw x2) ((vup V (x0 + 1) (qw x2) (V (x1 + 1) (qw x2))) (x1 + 2) (qw x2))) (x1 + 3) (qw x2))) (x0 + 4) (qw x2) ((vup (vup (vup V (x0 + 1) (qw x2) (V (x1 + 1) (qw x2))) (x0 + 2) (qw x2) ((vup V (x0 + 1) (qw x2) (V (x1 + 1) (qw x2))) (x1 + 2) (qw x2))) (x0 + 3) (qw x2) ((vup (vup V (x0 + 1) (qw x2) (V (x1 + 1) (qw x2))) (x0 + 2) (qw x2) ((vup V (x0 + 1) (qw x2) (V (x1 + 1) (qw x2))) (x1 + 2) (qw x2))) (x1 + 3) (qw x2))) (x1 + 4) (qw x2))) (x0 + 5) (qw x2) ((vup (vup (vup (vup V (x0 + 1) (qw x2) (V (x1 + 1) (qw x2))) (x0 + 2) (qw x2) ((vup V (x0 + 1) (qw x2) (V (x1 + 1) (qw x2))) (x1 + 2) (qw x2))) (x0 + 3) (qw x2) ((vup (vup V (x0 + 1) (qw x2) (V (x1 + 1) (qw x2))) (x0 + 2) (qw x2) ((vup V (x0 + 1) (qw x2) (V (x1 + 1) (qw x2))) (x1 + 2) (qw x2))) (x1 + 3) (qw x2))) (x0 + 4) (qw x2) ((vup (vup (vup V (x0 + 1) (qw x2) (V (x1 + 1) (qw x2))) (x0 + 2) (qw x2) ((vup V (x0 + 1) (qw x2) (V (x1 + 1) (qw x2))) (x1 + 2) (qw x2))) (x0 + 3) (qw x2) ((vup (vup V (x0 + 1) (qw x2) (V (x1 + 1) (qw x2))) (x0 + 2) (qw x2) ((vup V (x0 + 1) (qw x2) (V (x1 + 1) (qw x2))) (x1 + 2) (qw x2))) (x1 + 3) (qw x2))) (x1 + 4) (qw x2))) (x1 + 5) (qw x2))) (x1 + 6) (qw x2))) (x0 + 7) (qw x2) ((vup (vup (vup (vup (vup (vup V (x0 + 1) (qw x2) (V (x1 + 1) (qw x2))) (x0 + 2) (qw x2) ((vup V (x0 + 1) (qw x2) (V (x1 + 1) (qw x2))) (x1 + 2) (qw x2))) (x0 + 3) (qw x2) ((vup (vup V (x0 + 1) (qw x2) (V (x1 + 1) (qw x2))) (x0 + 2) (qw x2) ((vup V (x0 + 1) (qw x2) (V (x1 + 1) (qw x2))) (x1 + 2) (qw x2))) (x1 + 3) (qw x2))) (x0 + 4) (qw x2) ((vup (vup (vup V (x0 + 1) (qw x2) (V (x1 + 1) (qw x2))) (x0 + 2) (qw x2) ((vup V (x0 + 1) (qw x2) (V (x1 + 1) (qw x2))) (x1 + 2) (qw x2))) (x0 + 3) (qw x2) ((vup (vup V (x0 + 1) (qw x2) (V (x1 + 1) (qw x2))) (x0 + 2) (qw x2) ((vup V (x0 + 1) (qw x2) (V (x1 + 1) (qw x2))) (x1 + 2) (qw x2))) (x1 + 3) (qw x2))) (x1 + 4) (qw x2))) (x0 + 5) (qw x2) ((vup (vup (vup (vup V (x0 + 1) (qw x2) (V (x1 + 1) (qw x2))) (x0 + 2) (qw x2) ((vup V (x0 + 1) (qw x2) (V (x1 + 1) (qw x2))) (x1 + 2) (qw x2))) (x0 + 3) (qw x2) ((vup (vup V (x0 + 1) (qw x2) (V (x1 + 1) (qw x2))) (x0 + 2) (qw x2) ((vup V (x0 + 1) (qw x2) (V (x1 + 1) (qw x2))) (x1 + 2) (qw x2))) (x1 + 3) (qw x2))) (x0 + 4) (qw x2) ((vup (vup (vup V (x0 + 1) (qw x2) (V (x1 + 1) (qw x2))) (x0 + 2) (qw x2) ((vup V (x0 + 1) (qw x2) (V (x1 + 1) (qw x2))) (x1 + 2) (qw x2))) (x0 + 3) (qw x2) ((vup (vup V (x0 + 1) (qw x2) (V (x1 + 1) (qw x2))) (x0 + 2) (qw x2) ((vup V (x0 + 1) (qw x2) (V (x1 + 1) (qw x2))) (x1 + 2) (qw x2))) (x1 + 3) (qw x2))) (x1 + 4) (qw x2))) (x1 + 5) (qw x2))) (x0 + 6) (qw x2) ((vup (vup (vup (vup (vup V (x0 + 1) (qw x2) (V (x1 + 1) (qw x2))) (x0 + 2) (qw x2) ((vup V (x0 + 1) (qw x2) (V (x1 + 1) (qw x2))) (x1 + 2) (qw x2))) (x0 + 3) (qw x2) ((vup (vup V (x0 + 1) (qw x2) (V (x1 + 1) (qw x2))) (x0 + 2) (qw x2) ((vup V (x0 + 1) (qw x2) (V (x1 + 1) (qw x2))) (x1 + 2) (qw x2))) (x1 + 3) (qw x2))) (x0 + 4) (qw x2) ((vup (vup (vup V (x0 + 1) (qw x2) (V (x1 + 1) (qw x2))) (x0 + 2) (qw x2) ((vup V (x0 + 1) (qw x2) (V (x1 + 1) (qw x2))) (x1 + 2) (qw x2))) (x0 + 3) (qw x2) ((vup (vup V (x0 + 1) (qw x2) (V (x1 + 1) (qw x2))) (x0 + 2) (qw x2) ((vup V (x0 + 1) (qw x2) (V (x1 + 1) (qw x2))) (x1 + 2) (qw x2))) (x1 + 3) (qw x2))) (x1 + 4) (qw x2))) (x0 + 5) (qw x2) ((vup (vup (vup (vup V (x0 + 1) (qw x2) (V (x1 + 1) (qw x2))) (x0 + 2) (qw x2) ((vup V (x0 + 1) (qw x2) (V (x1 + 1) (qw x2))) (x1 + 2) (qw x2))) (x0 + 3) (qw x2) ((vup (vup V (x0 + 1) (qw x2) (V (x1 + 1) (qw x2))) (x0 + 2) (qw x2) ((vup V (x0 + 1) (qw x2) (V (x1 + 1) (qw x2))) (x1 + 2) (qw x2))) (x1 + 3) (qw x2))) (x0 + 4) (qw x2) ((vup (vup (vup V (x0 + 1) (qw x2) (V (x1 + 1) (qw x2))) (x0 + 2) (qw x2) ((vup V (x0 + 1) (qw x2) (V (x1 + 1) (qw x2))) (x1 + 2) (qw x2))) (x0 + 3) (qw x2) ((vup (vup V (x0 + 1) (qw x2) (V (x1 + 1) (qw x2))) (x0 + 2) (qw x2) ((vup V (x0 + 1) (qw x2) (V (x1 + 1) (qw x2))) (x1 + 2) (qw x2))) (x1 + 3) (qw x2))) (x1 + 4) (qw x2))) (x1 + 5) (qw x2))) (x1 + 6) (qw x2))) (x1 + 7) (qw x2))) (x1 + 8) (qw x2))) (by decide +kernel) (zb10_8 h0)).trans (zck_ct fun _ => ?_)
    refine (zr_iinc (n := 2) (k := 1) (x := x2) (l1 := [.ref x0, .ref x1, .int (zi (x2 + 1))]) (by decide +kernel) rfl rfl).trans ?_
    refine (zr_goto (off := -107) (t := 34) (by decide +kernel) rfl).trans ?_
    rfl
/-! PartSongDesk day ()I -/
theorem ze_90_0 {V : zVt} {J : zJt} {d : Nat → Nat → UInt64} : zGo false 90 0 [.ref 0] [] (zm V J d) =
    (zGo false 64 0 [.ref 37, .null, .null] [] (zm V J d)).bind (zGor false 90 7 [.ref 0] []) := by
  refine (zr_aload_n (n := 0) (x := 0) (by decide +kernel) rfl).trans ?_
  refine (zr_getR (i := 66) (c := 11) (k := 9) (r := 37) (by decide +kernel) (by decide +kernel) rfl (by decide +kernel) (zR0_f (o := 0) (c := 11) (n := 0) (k := 9) (j := 37) rfl (by decide) rfl)).trans ?_
  exact zr_cV (i := 266) (z := 64) (w := 0) (o := 37) (t := []) (rest := []) (L := [.ref 37, .null, .null]) (pc1 := 7) (by decide +kernel) (by decide +kernel) rfl (n := 0) (r := 0) rfl rfl rfl (by decide +kernel) rfl rfl
theorem ze_90_7 {V : zVt} {J : zJt} {d : Nat → Nat → UInt64} (s0 : Int) : zGo false 90 7 [.ref 0] [.int (zi s0)] (zm V J d) =
    some (.inl (some (.int (zi s0))), zm V J d) := by
  exact zr_iret (a := s0) (by decide +kernel) rfl
/-! PartSongDesk plan ()I -/
theorem ze_91_0 {V : zVt} {J : zJt} {d : Nat → Nat → UInt64} : zGo false 91 0 [.ref 0, .null, .null] [] (zm V J d) =
    zGo false 91 4 [.ref 0, .int (zi (0)), .int (zi (0))] [] (zm V J d) := by
  refine (zr_iconst (n := 0) (by decide +kernel)).trans ?_
  refine (zr_istore_n (n := 1) (l1 := [.ref 0, .int (zi (0)), .null]) (by decide +kernel) rfl).trans ?_
  refine (zr_iconst (n := 0) (by decide +kernel)).trans ?_
  refine (zr_istore_n (n := 2) (l1 := [.ref 0, .int (zi (0)), .int (zi (0))]) (by decide +kernel) rfl).trans ?_
  rfl
theorem ze_91_4 {V : zVt} {J : zJt} {d : Nat → Nat → UInt64} (x1 : Int) (x2 : Int) : zGo false 91 4 [.ref 0, .int (zi x1), .int (zi x2)] [] (zm V J d) =
    (if qw (V 37 5) ≤ qw x2 then some (.inl (some (.int (zi x1))), zm V J d) else zck (0 ≤ qw x2 ∧ qw x2 < (40 : Nat)) ((if qw (V 42 (qw x2)) ≠ qw (-1) then zGo false 91 39 [.ref 0, .int (zi x1), .int (zi x2)] [] (zm V J d) else (zGo false 92 0 [.ref 0, .int (zi x2), .null, .null] [] (zm V J d)).bind (zGor false 91 33 [.ref 0, .int (zi x1), .int (zi x2)] [])))) := by
  refine (zr_iload_n (n := 2) (x := zi x2) (by decide +kernel) rfl).trans ?_
  refine (zr_aload_n (n := 0) (x := 0) (by decide +kernel) rfl).trans ?_
  refine (zr_getR (i := 66) (c := 11) (k := 9) (r := 37) (by decide +kernel) (by decide +kernel) rfl (by decide +kernel) (zR0_f (o := 0) (c := 11) (n := 0) (k := 9) (j := 37) rfl (by decide) rfl)).trans ?_
  refine (zr_getI (i := 279) (c := 8) (k := 5) (by decide +kernel) (by decide +kernel) rfl (by decide +kernel)).trans ?_
  refine (zr_cge (off := 33) (a := x2) (b := (V 37 5)) (t := 45) (by decide +kernel) rfl).trans (zif_ct (fun _ => ?_) (fun _ => ?_))
  · refine (zr_iload_n (n := 1) (x := zi x1) (by decide +kernel) rfl).trans ?_
    exact zr_iret (a := x1) (by decide +kernel) rfl
  · refine (zr_aload_n (n := 0) (x := 0) (by decide +kernel) rfl).trans ?_
    refine (zr_getR (i := 66) (c := 11) (k := 9) (r := 37) (by decide +kernel) (by decide +kernel) rfl (by decide +kernel) (zR0_f (o := 0) (c := 11) (n := 0) (k := 9) (j := 37) rfl (by decide) rfl)).trans ?_
    refine (zr_getR (i := 287) (c := 8) (k := 4) (r := 42) (by decide +kernel) (by decide +kernel) rfl (by decide +kernel) (zR0_f (o := 37) (c := 8) (n := 0) (k := 4) (j := 5) rfl (by decide) rfl)).trans ?_
    refine (zr_iload_n (n := 2) (x := zi x2) (by decide +kernel) rfl).trans ?_
    refine (zr_iald (n := 40) (e := x2) (by decide +kernel) rfl).trans (zck_ct fun _ => ?_)
    refine (zr_iconst (n := -1) (by decide +kernel)).trans ?_
    refine (zr_cne (off := 14) (a := (V 42 (qw x2))) (b := (-1)) (t := 39) (by decide +kernel) rfl).trans (zif_ct (fun _ => ?_) (fun _ => ?_))
    · rfl
    · refine (zr_aload_n (n := 0) (x := 0) (by decide +kernel) rfl).trans ?_
      refine (zr_iload_n (n := 2) (x := zi x2) (by decide +kernel) rfl).trans ?_
      exact zr_cV (i := 290) (z := 92) (w := 0) (o := 0) (t := [.int (zi x2)]) (rest := []) (L := [.ref 0, .int (zi x2), .null, .null]) (pc1 := 33) (by decide +kernel) (by decide +kernel) rfl (n := 1) (r := 0) rfl rfl rfl (by decide +kernel) rfl rfl
theorem ze_91_33 {V : zVt} {J : zJt} {d : Nat → Nat → UInt64} (x1 : Int) (x2 : Int) (s0 : Int) : zGo false 91 33 [.ref 0, .int (zi x1), .int (zi x2)] [.int (zi s0)] (zm V J d) =
    (if qw s0 = 0 then zGo false 91 39 [.ref 0, .int (zi x1), .int (zi x2)] [] (zm V J d) else zGo false 91 39 [.ref 0, .int (zi (x1 + 1)), .int (zi x2)] [] (zm V J d)) := by
  refine (zr_ifeq (off := 6) (a := s0) (t := 39) (by decide +kernel) rfl).trans (zif_ct (fun _ => ?_) (fun _ => ?_))
  · rfl
  · refine (zr_iinc (n := 1) (k := 1) (x := x1) (l1 := [.ref 0, .int (zi (x1 + 1)), .int (zi x2)]) (by decide +kernel) rfl rfl).trans ?_
    rfl
theorem ze_91_39 {V : zVt} {J : zJt} {d : Nat → Nat → UInt64} (x1 : Int) (x2 : Int) : zGo false 91 39 [.ref 0, .int (zi x1), .int (zi x2)] [] (zm V J d) =
    zGo false 91 4 [.ref 0, .int (zi x1), .int (zi (x2 + 1))] [] (zm V J d) := by
  refine (zr_iinc (n := 2) (k := 1) (x := x2) (l1 := [.ref 0, .int (zi x1), .int (zi (x2 + 1))]) (by decide +kernel) rfl rfl).trans ?_
  refine (zr_goto (off := -38) (t := 4) (by decide +kernel) rfl).trans ?_
  rfl
/-! PartSongDesk rehearse (I)Z -/
theorem ze_92_0 {V : zVt} {J : zJt} {d : Nat → Nat → UInt64} (x1 : Int) : zGo false 92 0 [.ref 0, .int (zi x1), .null, .null] [] (zm V J d) =
    zGo false 92 4 [.ref 0, .int (zi x1), .int (zi (0)), .int (zi (0))] [] (zm V J d) := by
  refine (zr_iconst (n := 0) (by decide +kernel)).trans ?_
  refine (zr_istore_n (n := 2) (l1 := [.ref 0, .int (zi x1), .int (zi (0)), .null]) (by decide +kernel) rfl).trans ?_
  refine (zr_iconst (n := 0) (by decide +kernel)).trans ?_
  refine (zr_istore_n (n := 3) (l1 := [.ref 0, .int (zi x1), .int (zi (0)), .int (zi (0))]) (by decide +kernel) rfl).trans ?_
  rfl
theorem ze_92_4 {V : zVt} {J : zJt} {d : Nat → Nat → UInt64} (x1 : Int) (x2 : Int) (x3 : Int) : zGo false 92 4 [.ref 0, .int (zi x1), .int (zi x2), .int (zi x3)] [] (zm V J d) =
    (if qw (V 0 2) ≤ qw x3 then (if qw x2 = 0 then zGo false 92 62 [.ref 0, .int (zi x1), .int (zi x2), .int (zi x3)] [] (zm V J d) else (zGo false 65 0 [.ref 37, .int (zi x1), .int (zi x2), .null, .null] [] (zm V J d)).bind (zGor false 92 59 [.ref 0, .int (zi x1), .int (zi x2), .int (zi x3)] [])) else zck (0 ≤ qw x3 ∧ qw x3 < 40) ((zGo false 93 0 [.ref 0, .ref (230 + 5 * (qw x3).toNat), .int (zi x1)] [] (zm V J d)).bind (zGor false 92 23 [.ref 0, .int (zi x1), .int (zi x2), .int (zi x3)] []))) := by
  refine (zr_iload_n (n := 3) (x := zi x3) (by decide +kernel) rfl).trans ?_
  refine (zr_aload_n (n := 0) (x := 0) (by decide +kernel) rfl).trans ?_
  refine (zr_getI (i := 171) (c := 11) (k := 2) (by decide +kernel) (by decide +kernel) rfl (by decide +kernel)).trans ?_
  refine (zr_cge (off := 37) (a := x3) (b := (V 0 2)) (t := 46) (by decide +kernel) rfl).trans (zif_ct (fun _ => ?_) (fun _ => ?_))
  · refine (zr_iload_n (n := 2) (x := zi x2) (by decide +kernel) rfl).trans ?_
    refine (zr_ifeq (off := 15) (a := x2) (t := 62) (by decide +kernel) rfl).trans (zif_ct (fun _ => ?_) (fun _ => ?_))
    · rfl
    · refine (zr_aload_n (n := 0) (x := 0) (by decide +kernel) rfl).trans ?_
      refine (zr_getR (i := 66) (c := 11) (k := 9) (r := 37) (by decide +kernel) (by decide +kernel) rfl (by decide +kernel) (zR0_f (o := 0) (c := 11) (n := 0) (k := 9) (j := 37) rfl (by decide) rfl)).trans ?_
      refine (zr_iload_n (n := 1) (x := zi x1) (by decide +kernel) rfl).trans ?_
      refine (zr_iload_n (n := 2) (x := zi x2) (by decide +kernel) rfl).trans ?_
      exact zr_cV (i := 363) (z := 65) (w := 0) (o := 37) (t := [.int (zi x2), .int (zi x1)]) (rest := []) (L := [.ref 37, .int (zi x1), .int (zi x2), .null, .null]) (pc1 := 59) (by decide +kernel) (by decide +kernel) rfl (n := 2) (r := 0) rfl rfl rfl (by decide +kernel) rfl rfl
  · refine (zr_aload_n (n := 0) (x := 0) (by decide +kernel) rfl).trans ?_
    refine (zr_aload_n (n := 0) (x := 0) (by decide +kernel) rfl).trans ?_
    refine (zr_getR (i := 17) (c := 11) (k := 1) (r := 2) (by decide +kernel) (by decide +kernel) rfl (by decide +kernel) (zR0_f (o := 0) (c := 11) (n := 0) (k := 1) (j := 2) rfl (by decide) rfl)).trans ?_
    refine (zr_iload_n (n := 3) (x := zi x3) (by decide +kernel) rfl).trans ?_
    refine (zr_copies (e := x3) (by decide +kernel)).trans (zck_ct fun q18 => ?_)
    refine (zr_iload_n (n := 1) (x := zi x1) (by decide +kernel) rfl).trans ?_
    exact zr_cV (i := 359) (z := 93) (w := 0) (o := 0) (t := [.int (zi x1), .ref (230 + 5 * (qw x3).toNat)]) (rest := []) (L := [.ref 0, .ref (230 + 5 * (qw x3).toNat), .int (zi x1)]) (pc1 := 23) (by decide +kernel) (by decide +kernel) rfl (n := 2) (r := 0) rfl rfl rfl (by decide +kernel) rfl rfl
theorem ze_92_23 {V : zVt} {J : zJt} {d : Nat → Nat → UInt64} (x1 : Int) (x2 : Int) (x3 : Int) (s0 : Int) : zGo false 92 23 [.ref 0, .int (zi x1), .int (zi x2), .int (zi x3)] [.int (zi s0)] (zm V J d) =
    (if qw s0 = 0 then zGo false 92 40 [.ref 0, .int (zi x1), .int (zi x2), .int (zi x3)] [] (zm V J d) else zck (0 ≤ qw x3 ∧ qw x3 < 40) (zGo false 92 40 [.ref 0, .int (zi x1), .int (zi (qor x2 (qshl (1) (V (230 + 5 * (qw x3).toNat) 1)))), .int (zi x3)] [] (zm V J d))) := by
  refine (zr_ifeq (off := 17) (a := s0) (t := 40) (by decide +kernel) rfl).trans (zif_ct (fun _ => ?_) (fun _ => ?_))
  · rfl
  · refine (zr_iload_n (n := 2) (x := zi x2) (by decide +kernel) rfl).trans ?_
    refine (zr_iconst (n := 1) (by decide +kernel)).trans ?_
    refine (zr_aload_n (n := 0) (x := 0) (by decide +kernel) rfl).trans ?_
    refine (zr_getR (i := 17) (c := 11) (k := 1) (r := 2) (by decide +kernel) (by decide +kernel) rfl (by decide +kernel) (zR0_f (o := 0) (c := 11) (n := 0) (k := 1) (j := 2) rfl (by decide) rfl)).trans ?_
    refine (zr_iload_n (n := 3) (x := zi x3) (by decide +kernel) rfl).trans ?_
    refine (zr_copies (e := x3) (by decide +kernel)).trans (zck_ct fun q33 => ?_)
    refine (zr_getI (i := 189) (c := 0) (k := 1) (by decide +kernel) (by decide +kernel) (zb0_0 (zBk_copy (show (qw x3).toNat < 40 by omega))) (by decide +kernel)).trans ?_
    refine (zr_ishl (a := (1)) (b := (V (230 + 5 * (qw x3).toNat) 1)) (by decide +kernel)).trans ?_
    refine (zr_ior (a := x2) (b := (qshl (1) (V (230 + 5 * (qw x3).toNat) 1))) (by decide +kernel)).trans ?_
    refine (zr_istore_n (n := 2) (l1 := [.ref 0, .int (zi x1), .int (zi (qor x2 (qshl (1) (V (230 + 5 * (qw x3).toNat) 1)))), .int (zi x3)]) (by decide +kernel) rfl).trans ?_
    rfl
theorem ze_92_40 {V : zVt} {J : zJt} {d : Nat → Nat → UInt64} (x1 : Int) (x2 : Int) (x3 : Int) : zGo false 92 40 [.ref 0, .int (zi x1), .int (zi x2), .int (zi x3)] [] (zm V J d) =
    zGo false 92 4 [.ref 0, .int (zi x1), .int (zi x2), .int (zi (x3 + 1))] [] (zm V J d) := by
  refine (zr_iinc (n := 3) (k := 1) (x := x3) (l1 := [.ref 0, .int (zi x1), .int (zi x2), .int (zi (x3 + 1))]) (by decide +kernel) rfl rfl).trans ?_
  refine (zr_goto (off := -39) (t := 4) (by decide +kernel) rfl).trans ?_
  rfl
theorem ze_92_59 {V : zVt} {J : zJt} {d : Nat → Nat → UInt64} (x1 : Int) (x2 : Int) (x3 : Int) (s0 : Int) : zGo false 92 59 [.ref 0, .int (zi x1), .int (zi x2), .int (zi x3)] [.int (zi s0)] (zm V J d) =
    (if qw s0 ≠ 0 then zGo false 92 66 [.ref 0, .int (zi x1), .int (zi x2), .int (zi (0))] [] (zm V J d) else zGo false 92 62 [.ref 0, .int (zi x1), .int (zi x2), .int (zi x3)] [] (zm V J d)) := by
  refine (zr_ifne (off := 5) (a := s0) (t := 64) (by decide +kernel) rfl).trans (zif_ct (fun _ => ?_) (fun _ => ?_))
  · refine (zr_iconst (n := 0) (by decide +kernel)).trans ?_
    refine (zr_istore_n (n := 3) (l1 := [.ref 0, .int (zi x1), .int (zi x2), .int (zi (0))]) (by decide +kernel) rfl).trans ?_
    rfl
  · rfl
theorem ze_92_62 {V : zVt} {J : zJt} {d : Nat → Nat → UInt64} (x1 : Int) (x2 : Int) (x3 : Int) : zGo false 92 62 [.ref 0, .int (zi x1), .int (zi x2), .int (zi x3)] [] (zm V J d) =
    zck (qw (0) = 0 ∨ qw (0) = 1) (some (.inl (some (.int (zi (0)))), zm V J d)) := by
  refine (zr_iconst (n := 0) (by decide +kernel)).trans ?_
  exact zr_zret (a := (0)) (by decide +kernel) rfl
theorem ze_92_66 {V : zVt} {J : zJt} {d : Nat → Nat → UInt64} (x1 : Int) (x2 : Int) (x3 : Int) : zGo false 92 66 [.ref 0, .int (zi x1), .int (zi x2), .int (zi x3)] [] (zm V J d) =
    (if qw (V 0 2) ≤ qw x3 then zck (qw (1) = 0 ∨ qw (1) = 1) (some (.inl (some (.int (zi (1)))), zm V J d)) else zck (0 ≤ qw x3 ∧ qw x3 < 40) ((zGo false 93 0 [.ref 0, .ref (230 + 5 * (qw x3).toNat), .int (zi x1)] [] (zm V J d)).bind (zGor false 92 85 [.ref 0, .int (zi x1), .int (zi x2), .int (zi x3)] []))) := by
  refine (zr_iload_n (n := 3) (x := zi x3) (by decide +kernel) rfl).trans ?_
  refine (zr_aload_n (n := 0) (x := 0) (by decide +kernel) rfl).trans ?_
  refine (zr_getI (i := 171) (c := 11) (k := 2) (by decide +kernel) (by decide +kernel) rfl (by decide +kernel)).trans ?_
  refine (zr_cge (off := 51) (a := x3) (b := (V 0 2)) (t := 122) (by decide +kernel) rfl).trans (zif_ct (fun _ => ?_) (fun _ => ?_))
  · refine (zr_iconst (n := 1) (by decide +kernel)).trans ?_
    exact zr_zret (a := (1)) (by decide +kernel) rfl
  · refine (zr_aload_n (n := 0) (x := 0) (by decide +kernel) rfl).trans ?_
    refine (zr_aload_n (n := 0) (x := 0) (by decide +kernel) rfl).trans ?_
    refine (zr_getR (i := 17) (c := 11) (k := 1) (r := 2) (by decide +kernel) (by decide +kernel) rfl (by decide +kernel) (zR0_f (o := 0) (c := 11) (n := 0) (k := 1) (j := 2) rfl (by decide) rfl)).trans ?_
    refine (zr_iload_n (n := 3) (x := zi x3) (by decide +kernel) rfl).trans ?_
    refine (zr_copies (e := x3) (by decide +kernel)).trans (zck_ct fun q80 => ?_)
    refine (zr_iload_n (n := 1) (x := zi x1) (by decide +kernel) rfl).trans ?_
    exact zr_cV (i := 359) (z := 93) (w := 0) (o := 0) (t := [.int (zi x1), .ref (230 + 5 * (qw x3).toNat)]) (rest := []) (L := [.ref 0, .ref (230 + 5 * (qw x3).toNat), .int (zi x1)]) (pc1 := 85) (by decide +kernel) (by decide +kernel) rfl (n := 2) (r := 0) rfl rfl rfl (by decide +kernel) rfl rfl
theorem ze_92_85 {V : zVt} {J : zJt} {d : Nat → Nat → UInt64} (x1 : Int) (x2 : Int) (x3 : Int) (s0 : Int) : zGo false 92 85 [.ref 0, .int (zi x1), .int (zi x2), .int (zi x3)] [.int (zi s0)] (zm V J d) =
    (if qw s0 = 0 then zGo false 92 116 [.ref 0, .int (zi x1), .int (zi x2), .int (zi x3)] [] (zm V J d) else zck (0 ≤ qw x3 ∧ qw x3 < 40) (zck (0 ≤ qw x1 ∧ qw x1 < (40 : Nat)) (zck (0 ≤ qw x1 ∧ qw x1 < (40 : Nat)) ((zGo false 94 0 [.ref 0, .ref (230 + 5 * (qw x3).toNat), .int (zi (V 40 (qw x1))), .int (zi (V 41 (qw x1))), .null] [] (zm V J d)).bind (zGor false 92 116 [.ref 0, .int (zi x1), .int (zi x2), .int (zi x3)] []))))) := by
  refine (zr_ifeq (off := 31) (a := s0) (t := 116) (by decide +kernel) rfl).trans (zif_ct (fun _ => ?_) (fun _ => ?_))
  · rfl
  · refine (zr_aload_n (n := 0) (x := 0) (by decide +kernel) rfl).trans ?_
    refine (zr_aload_n (n := 0) (x := 0) (by decide +kernel) rfl).trans ?_
    refine (zr_getR (i := 17) (c := 11) (k := 1) (r := 2) (by decide +kernel) (by decide +kernel) rfl (by decide +kernel) (zR0_f (o := 0) (c := 11) (n := 0) (k := 1) (j := 2) rfl (by decide) rfl)).trans ?_
    refine (zr_iload_n (n := 3) (x := zi x3) (by decide +kernel) rfl).trans ?_
    refine (zr_copies (e := x3) (by decide +kernel)).trans (zck_ct fun q94 => ?_)
    refine (zr_aload_n (n := 0) (x := 0) (by decide +kernel) rfl).trans ?_
    refine (zr_getR (i := 66) (c := 11) (k := 9) (r := 37) (by decide +kernel) (by decide +kernel) rfl (by decide +kernel) (zR0_f (o := 0) (c := 11) (n := 0) (k := 9) (j := 37) rfl (by decide) rfl)).trans ?_
    refine (zr_getR (i := 366) (c := 8) (k := 2) (r := 40) (by decide +kernel) (by decide +kernel) rfl (by decide +kernel) (zR0_f (o := 37) (c := 8) (n := 0) (k := 2) (j := 3) rfl (by decide) rfl)).trans ?_
    refine (zr_iload_n (n := 1) (x := zi x1) (by decide +kernel) rfl).trans ?_
    refine (zr_iald (n := 40) (e := x1) (by decide +kernel) rfl).trans (zck_ct fun _ => ?_)
    refine (zr_aload_n (n := 0) (x := 0) (by decide +kernel) rfl).trans ?_
    refine (zr_getR (i := 66) (c := 11) (k := 9) (r := 37) (by decide +kernel) (by decide +kernel) rfl (by decide +kernel) (zR0_f (o := 0) (c := 11) (n := 0) (k := 9) (j := 37) rfl (by decide) rfl)).trans ?_
    refine (zr_getR (i := 369) (c := 8) (k := 3) (r := 41) (by decide +kernel) (by decide +kernel) rfl (by decide +kernel) (zR0_f (o := 37) (c := 8) (n := 0) (k := 3) (j := 4) rfl (by decide) rfl)).trans ?_
    refine (zr_iload_n (n := 1) (x := zi x1) (by decide +kernel) rfl).trans ?_
    refine (zr_iald (n := 40) (e := x1) (by decide +kernel) rfl).trans (zck_ct fun _ => ?_)
    exact zr_cV (i := 372) (z := 94) (w := 0) (o := 0) (t := [.int (zi (V 41 (qw x1))), .int (zi (V 40 (qw x1))), .ref (230 + 5 * (qw x3).toNat)]) (rest := []) (L := [.ref 0, .ref (230 + 5 * (qw x3).toNat), .int (zi (V 40 (qw x1))), .int (zi (V 41 (qw x1))), .null]) (pc1 := 116) (by decide +kernel) (by decide +kernel) rfl (n := 3) (r := 0) rfl rfl rfl (by decide +kernel) rfl rfl
theorem ze_92_116 {V : zVt} {J : zJt} {d : Nat → Nat → UInt64} (x1 : Int) (x2 : Int) (x3 : Int) : zGo false 92 116 [.ref 0, .int (zi x1), .int (zi x2), .int (zi x3)] [] (zm V J d) =
    zGo false 92 66 [.ref 0, .int (zi x1), .int (zi x2), .int (zi (x3 + 1))] [] (zm V J d) := by
  refine (zr_iinc (n := 3) (k := 1) (x := x3) (l1 := [.ref 0, .int (zi x1), .int (zi x2), .int (zi (x3 + 1))]) (by decide +kernel) rfl rfl).trans ?_
  refine (zr_goto (off := -53) (t := 66) (by decide +kernel) rfl).trans ?_
  rfl
/-! PartSongDesk isSungFrom (LPartSongDesk$Copy;I)Z -/
theorem ze_93_0 {V : zVt} {J : zJt} {d : Nat → Nat → UInt64} (x1 : Nat) (x2 : Int) (h1 : zBk 0 x1) : zGo false 93 0 [.ref 0, .ref x1, .int (zi x2)] [] (zm V J d) =
    zck (0 ≤ qw x2 ∧ qw x2 < (40 : Nat)) ((zGo false 1 0 [.ref x1, .int (zi (V 38 (qw x2)))] [] (zm V J d)).bind (zGor false 93 13 [.ref 0, .ref x1, .int (zi x2)] [])) := by
  refine (zr_aload_n (n := 1) (x := x1) (by decide +kernel) rfl).trans ?_
  refine (zr_aload_n (n := 0) (x := 0) (by decide +kernel) rfl).trans ?_
  refine (zr_getR (i := 66) (c := 11) (k := 9) (r := 37) (by decide +kernel) (by decide +kernel) rfl (by decide +kernel) (zR0_f (o := 0) (c := 11) (n := 0) (k := 9) (j := 37) rfl (by decide) rfl)).trans ?_
  refine (zr_getR (i := 376) (c := 8) (k := 0) (r := 38) (by decide +kernel) (by decide +kernel) rfl (by decide +kernel) (zR0_f (o := 37) (c := 8) (n := 0) (k := 0) (j := 1) rfl (by decide) rfl)).trans ?_
  refine (zr_iload_n (n := 2) (x := zi x2) (by decide +kernel) rfl).trans ?_
  refine (zr_iald (n := 40) (e := x2) (by decide +kernel) rfl).trans (zck_ct fun _ => ?_)
  exact zr_cV (i := 312) (z := 1) (w := 0) (o := x1) (t := [.int (zi (V 38 (qw x2)))]) (rest := []) (L := [.ref x1, .int (zi (V 38 (qw x2)))]) (pc1 := 13) (by decide +kernel) (by decide +kernel) (zb0_0 h1) (n := 1) (r := 0) rfl rfl rfl (by decide +kernel) rfl rfl
theorem ze_93_13 {V : zVt} {J : zJt} {d : Nat → Nat → UInt64} (x1 : Nat) (x2 : Int) (s0 : Int) (h1 : zBk 0 x1) : zGo false 93 13 [.ref 0, .ref x1, .int (zi x2)] [.int (zi s0)] (zm V J d) =
    (if qw s0 = 0 then zGo false 93 70 [.ref 0, .ref x1, .int (zi x2)] [] (zm V J d) else zck (0 ≤ qw x2 ∧ qw x2 < (40 : Nat)) (zck (qw (4) ≠ 0) ((if qw (qand (V 39 (qw x2)) (qshl (1) (qrem (V x1 0) (4)))) = 0 then zGo false 93 70 [.ref 0, .ref x1, .int (zi x2)] [] (zm V J d) else (if qw (V (x1 + 3) 0) ≠ 0 then zGo false 93 70 [.ref 0, .ref x1, .int (zi x2)] [] (zm V J d) else zck (0 ≤ qw x2 ∧ qw x2 < (40 : Nat)) ((zGo false 30 0 [.ref (x1 + 3), .int (zi (V 41 (qw x2)))] [] (zm V J d)).bind (zGor false 93 63 [.ref 0, .ref x1, .int (zi x2)] []))))))) := by
  refine (zr_ifeq (off := 57) (a := s0) (t := 70) (by decide +kernel) rfl).trans (zif_ct (fun _ => ?_) (fun _ => ?_))
  · rfl
  · refine (zr_aload_n (n := 0) (x := 0) (by decide +kernel) rfl).trans ?_
    refine (zr_getR (i := 66) (c := 11) (k := 9) (r := 37) (by decide +kernel) (by decide +kernel) rfl (by decide +kernel) (zR0_f (o := 0) (c := 11) (n := 0) (k := 9) (j := 37) rfl (by decide) rfl)).trans ?_
    refine (zr_getR (i := 379) (c := 8) (k := 1) (r := 39) (by decide +kernel) (by decide +kernel) rfl (by decide +kernel) (zR0_f (o := 37) (c := 8) (n := 0) (k := 1) (j := 2) rfl (by decide) rfl)).trans ?_
    refine (zr_iload_n (n := 2) (x := zi x2) (by decide +kernel) rfl).trans ?_
    refine (zr_iald (n := 40) (e := x2) (by decide +kernel) rfl).trans (zck_ct fun _ => ?_)
    refine (zr_iconst (n := 1) (by decide +kernel)).trans ?_
    refine (zr_aload_n (n := 1) (x := x1) (by decide +kernel) rfl).trans ?_
    refine (zr_getI (i := 176) (c := 0) (k := 0) (by decide +kernel) (by decide +kernel) (zb0_0 h1) (by decide +kernel)).trans ?_
    refine (zr_iconst (n := 4) (by decide +kernel)).trans ?_
    refine (zr_irem (a := (V x1 0)) (b := (4)) (by decide +kernel)).trans (zck_ct fun _ => ?_)
    refine (zr_ishl (a := (1)) (b := (qrem (V x1 0) (4))) (by decide +kernel)).trans ?_
    refine (zr_iand (a := (V 39 (qw x2))) (b := (qshl (1) (qrem (V x1 0) (4)))) (by decide +kernel)).trans ?_
    refine (zr_ifeq (off := 36) (a := (qand (V 39 (qw x2)) (qshl (1) (qrem (V x1 0) (4))))) (t := 70) (by decide +kernel) rfl).trans (zif_ct (fun _ => ?_) (fun _ => ?_))
    · rfl
    · refine (zr_aload_n (n := 1) (x := x1) (by decide +kernel) rfl).trans ?_
      refine (zr_getR (i := 236) (c := 0) (k := 3) (r := (x1 + 3)) (by decide +kernel) (by decide +kernel) (zb0_0 h1) (by decide +kernel) (zR0_f (o := x1) (c := 0) (n := 0) (k := 3) (j := 3) (zb0_0 h1) (by decide) rfl)).trans ?_
      refine (zr_getI (i := 151) (c := 5) (k := 0) (by decide +kernel) (by decide +kernel) (zb5_0 (zBk_0music h1)) (by decide +kernel)).trans ?_
      refine (zr_ifne (off := 26) (a := (V (x1 + 3) 0)) (t := 70) (by decide +kernel) rfl).trans (zif_ct (fun _ => ?_) (fun _ => ?_))
      · rfl
      · refine (zr_aload_n (n := 1) (x := x1) (by decide +kernel) rfl).trans ?_
        refine (zr_getR (i := 236) (c := 0) (k := 3) (r := (x1 + 3)) (by decide +kernel) (by decide +kernel) (zb0_0 h1) (by decide +kernel) (zR0_f (o := x1) (c := 0) (n := 0) (k := 3) (j := 3) (zb0_0 h1) (by decide) rfl)).trans ?_
        refine (zr_aload_n (n := 0) (x := 0) (by decide +kernel) rfl).trans ?_
        refine (zr_getR (i := 66) (c := 11) (k := 9) (r := 37) (by decide +kernel) (by decide +kernel) rfl (by decide +kernel) (zR0_f (o := 0) (c := 11) (n := 0) (k := 9) (j := 37) rfl (by decide) rfl)).trans ?_
        refine (zr_getR (i := 369) (c := 8) (k := 3) (r := 41) (by decide +kernel) (by decide +kernel) rfl (by decide +kernel) (zR0_f (o := 37) (c := 8) (n := 0) (k := 3) (j := 4) rfl (by decide) rfl)).trans ?_
        refine (zr_iload_n (n := 2) (x := zi x2) (by decide +kernel) rfl).trans ?_
        refine (zr_iald (n := 40) (e := x2) (by decide +kernel) rfl).trans (zck_ct fun _ => ?_)
        exact zr_cV (i := 326) (z := 30) (w := 0) (o := (x1 + 3)) (t := [.int (zi (V 41 (qw x2)))]) (rest := []) (L := [.ref (x1 + 3), .int (zi (V 41 (qw x2)))]) (pc1 := 63) (by decide +kernel) (by decide +kernel) (zb5_0 (zBk_0music h1)) (n := 1) (r := 0) rfl rfl rfl (by decide +kernel) rfl rfl
theorem ze_93_63 {V : zVt} {J : zJt} {d : Nat → Nat → UInt64} (x1 : Nat) (x2 : Int) (s0 : Int) (h1 : zBk 0 x1) : zGo false 93 63 [.ref 0, .ref x1, .int (zi x2)] [.int (zi s0)] (zm V J d) =
    (if qw s0 = 0 then zGo false 93 70 [.ref 0, .ref x1, .int (zi x2)] [] (zm V J d) else zGo false 93 71 [.ref 0, .ref x1, .int (zi x2)] [.int (zi (1))] (zm V J d)) := by
  refine (zr_ifeq (off := 7) (a := s0) (t := 70) (by decide +kernel) rfl).trans (zif_ct (fun _ => ?_) (fun _ => ?_))
  · rfl
  · refine (zr_iconst (n := 1) (by decide +kernel)).trans ?_
    refine (zr_goto (off := 4) (t := 71) (by decide +kernel) rfl).trans ?_
    rfl
theorem ze_93_70 {V : zVt} {J : zJt} {d : Nat → Nat → UInt64} (x1 : Nat) (x2 : Int) (h1 : zBk 0 x1) : zGo false 93 70 [.ref 0, .ref x1, .int (zi x2)] [] (zm V J d) =
    zGo false 93 71 [.ref 0, .ref x1, .int (zi x2)] [.int (zi (0))] (zm V J d) := by
  refine (zr_iconst (n := 0) (by decide +kernel)).trans ?_
  rfl
theorem ze_93_71 {V : zVt} {J : zJt} {d : Nat → Nat → UInt64} (x1 : Nat) (x2 : Int) (s0 : Int) (h1 : zBk 0 x1) : zGo false 93 71 [.ref 0, .ref x1, .int (zi x2)] [.int (zi s0)] (zm V J d) =
    zck (qw s0 = 0 ∨ qw s0 = 1) (some (.inl (some (.int (zi s0))), zm V J d)) := by
  exact zr_zret (a := s0) (by decide +kernel) rfl
/-! PartSongDesk learnFrom (LPartSongDesk$Copy;II)V -/
theorem ze_94_0 {V : zVt} {J : zJt} {d : Nat → Nat → UInt64} (x1 : Nat) (x2 : Int) (x3 : Int) (h1 : zBk 0 x1) : zGo false 94 0 [.ref 0, .ref x1, .int (zi x2), .int (zi x3), .null] [] (zm V J d) =
    zGo false 94 3 [.ref 0, .ref x1, .int (zi x2), .int (zi x3), .int (zi x2)] [] (zm V J d) := by
  refine (zr_iload_n (n := 2) (x := zi x2) (by decide +kernel) rfl).trans ?_
  refine (zr_istore (n := 4) (l1 := [.ref 0, .ref x1, .int (zi x2), .int (zi x3), .int (zi x2)]) (by decide +kernel) rfl).trans ?_
  rfl
theorem ze_94_3 {V : zVt} {J : zJt} {d : Nat → Nat → UInt64} (x1 : Nat) (x2 : Int) (x3 : Int) (x4 : Int) (h1 : zBk 0 x1) : zGo false 94 3 [.ref 0, .ref x1, .int (zi x2), .int (zi x3), .int (zi x4)] [] (zm V J d) =
    (if qw x3 < qw x4 then some (.inl none, zm V J d) else (zGo false 19 0 [.ref 46, .int (zi (V x1 1)), .int (zi (V x1 0)), .ref (x1 + 3), .int (zi x4), .null] [] (zm V J d)).bind (zGor false 94 30 [.ref 0, .ref x1, .int (zi x2), .int (zi x3), .int (zi x4)] [])) := by
  refine (zr_iload (n := 4) (x := zi x4) (by decide +kernel) rfl).trans ?_
  refine (zr_iload_n (n := 3) (x := zi x3) (by decide +kernel) rfl).trans ?_
  refine (zr_cgt (off := 30) (a := x4) (b := x3) (t := 36) (by decide +kernel) rfl).trans (zif_ct (fun _ => ?_) (fun _ => ?_))
  · exact zr_vret (by decide +kernel) rfl
  · refine (zr_aload_n (n := 0) (x := 0) (by decide +kernel) rfl).trans ?_
    refine (zr_getR (i := 73) (c := 11) (k := 10) (r := 46) (by decide +kernel) (by decide +kernel) rfl (by decide +kernel) (zR0_f (o := 0) (c := 11) (n := 0) (k := 10) (j := 46) rfl (by decide) rfl)).trans ?_
    refine (zr_aload_n (n := 1) (x := x1) (by decide +kernel) rfl).trans ?_
    refine (zr_getI (i := 189) (c := 0) (k := 1) (by decide +kernel) (by decide +kernel) (zb0_0 h1) (by decide +kernel)).trans ?_
    refine (zr_aload_n (n := 1) (x := x1) (by decide +kernel) rfl).trans ?_
    refine (zr_getI (i := 176) (c := 0) (k := 0) (by decide +kernel) (by decide +kernel) (zb0_0 h1) (by decide +kernel)).trans ?_
    refine (zr_aload_n (n := 1) (x := x1) (by decide +kernel) rfl).trans ?_
    refine (zr_getR (i := 236) (c := 0) (k := 3) (r := (x1 + 3)) (by decide +kernel) (by decide +kernel) (zb0_0 h1) (by decide +kernel) (zR0_f (o := x1) (c := 0) (n := 0) (k := 3) (j := 3) (zb0_0 h1) (by decide) rfl)).trans ?_
    refine (zr_iload (n := 4) (x := zi x4) (by decide +kernel) rfl).trans ?_
    exact zr_cV (i := 382) (z := 19) (w := 0) (o := 46) (t := [.int (zi x4), .ref (x1 + 3), .int (zi (V x1 0)), .int (zi (V x1 1))]) (rest := []) (L := [.ref 46, .int (zi (V x1 1)), .int (zi (V x1 0)), .ref (x1 + 3), .int (zi x4), .null]) (pc1 := 30) (by decide +kernel) (by decide +kernel) rfl (n := 4) (r := 0) rfl rfl rfl (by decide +kernel) rfl rfl
theorem ze_94_30 {V : zVt} {J : zJt} {d : Nat → Nat → UInt64} (x1 : Nat) (x2 : Int) (x3 : Int) (x4 : Int) (h1 : zBk 0 x1) : zGo false 94 30 [.ref 0, .ref x1, .int (zi x2), .int (zi x3), .int (zi x4)] [] (zm V J d) =
    zGo false 94 3 [.ref 0, .ref x1, .int (zi x2), .int (zi x3), .int (zi (x4 + 1))] [] (zm V J d) := by
  refine (zr_iinc (n := 4) (k := 1) (x := x4) (l1 := [.ref 0, .ref x1, .int (zi x2), .int (zi x3), .int (zi (x4 + 1))]) (by decide +kernel) rfl rfl).trans ?_
  refine (zr_goto (off := -30) (t := 3) (by decide +kernel) rfl).trans ?_
  rfl
/-! PartSongDesk concerts ()I -/
theorem ze_95_0 {V : zVt} {J : zJt} {d : Nat → Nat → UInt64} : zGo false 95 0 [.ref 0] [] (zm V J d) =
    some (.inl (some (.int (zi (V 0 11)))), zm V J d) := by
  refine (zr_aload_n (n := 0) (x := 0) (by decide +kernel) rfl).trans ?_
  refine (zr_getI (i := 315) (c := 11) (k := 11) (by decide +kernel) (by decide +kernel) rfl (by decide +kernel)).trans ?_
  exact zr_iret (a := (V 0 11)) (by decide +kernel) rfl
/-! PartSongDesk write (IIC)I -/
theorem ze_96_0 {V : zVt} {J : zJt} {d : Nat → Nat → UInt64} (x1 : Int) (x2 : Int) (x3 : Int) : zGo false 96 0 [.ref 0, .int (zi x1), .int (zi x2), .int (zi x3), .null] [] (zm V J d) =
    (zGo false 97 0 [.ref 0, .int (zi x1), .int (zi x2)] [] (zm V J d)).bind (zGor false 96 6 [.ref 0, .int (zi x1), .int (zi x2), .int (zi x3), .null] []) := by
  refine (zr_aload_n (n := 0) (x := 0) (by decide +kernel) rfl).trans ?_
  refine (zr_iload_n (n := 1) (x := zi x1) (by decide +kernel) rfl).trans ?_
  refine (zr_iload_n (n := 2) (x := zi x2) (by decide +kernel) rfl).trans ?_
  exact zr_cV (i := 79) (z := 97) (w := 0) (o := 0) (t := [.int (zi x2), .int (zi x1)]) (rest := []) (L := [.ref 0, .int (zi x1), .int (zi x2)]) (pc1 := 6) (by decide +kernel) (by decide +kernel) rfl (n := 2) (r := 0) rfl rfl rfl (by decide +kernel) rfl rfl
theorem ze_96_6 {V : zVt} {J : zJt} {d : Nat → Nat → UInt64} (x1 : Int) (x2 : Int) (x3 : Int) (s0 : Nat) (g0 : zBk 6 s0) : zGo false 96 6 [.ref 0, .int (zi x1), .int (zi x2), .int (zi x3), .null] [.ref s0] (zm V J d) =
    (if qw x3 < qw (32) then zGo false 96 20 [.ref 0, .int (zi x1), .int (zi x2), .int (zi x3), .ref s0] [] (zm V J d) else (if qw x3 ≤ qw (126) then (if qw (V s0 3) ≠ 0 then zGo false 96 49 [.ref 0, .int (zi x1), .int (zi x2), .int (zi x3), .ref s0] [] (zm V J d) else (if qw (V s0 1) < qw (160) then zck ((0 ≤ qw (V s0 1) ∧ qw (V s0 1) < (160 : Nat)) ∧ (0 ≤ qw x3 ∧ qw x3 ≤ 65535)) (zck (qw (0) = 0 ∨ qw (0) = 1) (some (.inl (some (.int (zi ((vup (vup (vup V (s0 + 1) (qw (V s0 1)) x3) s0 1 (((vup V (s0 + 1) (qw (V s0 1)) x3) s0 1) + (1))) s0 2 (0)) s0 1)))), zm (vup (vup (vup V (s0 + 1) (qw (V s0 1)) x3) s0 1 (((vup V (s0 + 1) (qw (V s0 1)) x3) s0 1) + (1))) s0 2 (0)) J d))) else zGo false 96 49 [.ref 0, .int (zi x1), .int (zi x2), .int (zi x3), .ref s0] [] (zm V J d))) else zGo false 96 20 [.ref 0, .int (zi x1), .int (zi x2), .int (zi x3), .ref s0] [] (zm V J d))) := by
  refine (zr_astore (n := 4) (l1 := [.ref 0, .int (zi x1), .int (zi x2), .int (zi x3), .ref s0]) (by decide +kernel) rfl).trans ?_
  refine (zr_iload_n (n := 3) (x := zi x3) (by decide +kernel) rfl).trans ?_
  refine (zr_bipush (n := 32) (by decide +kernel) rfl).trans ?_
  refine (zr_clt (off := 9) (a := x3) (b := (32)) (t := 20) (by decide +kernel) rfl).trans (zif_ct (fun _ => ?_) (fun _ => ?_))
  · rfl
  · refine (zr_iload_n (n := 3) (x := zi x3) (by decide +kernel) rfl).trans ?_
    refine (zr_bipush (n := 126) (by decide +kernel) rfl).trans ?_
    refine (zr_cle (off := 13) (a := x3) (b := (126)) (t := 30) (by decide +kernel) rfl).trans (zif_ct (fun _ => ?_) (fun _ => ?_))
    · refine (zr_aload (n := 4) (x := s0) (by decide +kernel) rfl).trans ?_
      refine (zr_getI (i := 90) (c := 6) (k := 3) (by decide +kernel) (by decide +kernel) (zb6_0 g0) (by decide +kernel)).trans ?_
      refine (zr_ifne (off := 14) (a := (V s0 3)) (t := 49) (by decide +kernel) rfl).trans (zif_ct (fun _ => ?_) (fun _ => ?_))
      · rfl
      · refine (zr_aload (n := 4) (x := s0) (by decide +kernel) rfl).trans ?_
        refine (zr_getI (i := 94) (c := 6) (k := 1) (by decide +kernel) (by decide +kernel) (zb6_0 g0) (by decide +kernel)).trans ?_
        refine (zr_sipush (n := 160) (by decide +kernel) rfl).trans ?_
        refine (zr_clt (off := 13) (a := (V s0 1)) (b := (160)) (t := 59) (by decide +kernel) rfl).trans (zif_ct (fun _ => ?_) (fun _ => ?_))
        · refine (zr_aload (n := 4) (x := s0) (by decide +kernel) rfl).trans ?_
          refine (zr_getR (i := 103) (c := 6) (k := 0) (r := (s0 + 1)) (by decide +kernel) (by decide +kernel) (zb6_0 g0) (by decide +kernel) (zR0_f (o := s0) (c := 6) (n := 0) (k := 0) (j := 1) (zb6_0 g0) (by decide) rfl)).trans ?_
          refine (zr_aload (n := 4) (x := s0) (by decide +kernel) rfl).trans ?_
          refine (zr_getI (i := 94) (c := 6) (k := 1) (by decide +kernel) (by decide +kernel) (zb6_0 g0) (by decide +kernel)).trans ?_
          refine (zr_iload_n (n := 3) (x := zi x3) (by decide +kernel) rfl).trans ?_
          refine (zr_cast (n := 160) (e := (V s0 1)) (x := x3) (by decide +kernel) (zb6_1 g0)).trans (zck_ct fun _ => ?_)
          refine (zr_aload (n := 4) (x := s0) (by decide +kernel) rfl).trans ?_
          refine (zr_dup (by decide +kernel) rfl).trans ?_
          refine (zr_getI (i := 94) (c := 6) (k := 1) (by decide +kernel) (by decide +kernel) (zb6_0 g0) (by decide +kernel)).trans ?_
          refine (zr_iconst (n := 1) (by decide +kernel)).trans ?_
          refine (zr_iadd (a := ((vup V (s0 + 1) (qw (V s0 1)) x3) s0 1)) (b := (1)) (by decide +kernel)).trans ?_
          refine (zr_putI (i := 94) (c := 6) (k := 1) (x := (((vup V (s0 + 1) (qw (V s0 1)) x3) s0 1) + (1))) (by decide +kernel) (by decide +kernel) (zb6_0 g0) (by decide +kernel)).trans ?_
          refine (zr_aload (n := 4) (x := s0) (by decide +kernel) rfl).trans ?_
          refine (zr_iconst (n := 0) (by decide +kernel)).trans ?_
          refine (zr_putZ (i := 107) (c := 6) (k := 2) (x := (0)) (by decide +kernel) (by decide +kernel) (zb6_0 g0) (by decide +kernel)).trans (zck_ct fun _ => ?_)
          refine (zr_aload (n := 4) (x := s0) (by decide +kernel) rfl).trans ?_
          refine (zr_getI (i := 94) (c := 6) (k := 1) (by decide +kernel) (by decide +kernel) (zb6_0 g0) (by decide +kernel)).trans ?_
          exact zr_iret (a := ((vup (vup (vup V (s0 + 1) (qw (V s0 1)) x3) s0 1 (((vup V (s0 + 1) (qw (V s0 1)) x3) s0 1) + (1))) s0 2 (0)) s0 1)) (by decide +kernel) rfl
        · rfl
    · rfl
theorem ze_96_20 {V : zVt} {J : zJt} {d : Nat → Nat → UInt64} (x1 : Int) (x2 : Int) (x3 : Int) (x4 : Nat) (h4 : zBk 6 x4) : zGo false 96 20 [.ref 0, .int (zi x1), .int (zi x2), .int (zi x3), .ref x4] [] (zm V J d) =
    some (.inr 1, zm V J d) := by
  exact zr_thr (i := 83) (e := 1) (w := 0) (by decide +kernel) (by decide +kernel) (by decide +kernel) (by decide)
theorem ze_96_49 {V : zVt} {J : zJt} {d : Nat → Nat → UInt64} (x1 : Int) (x2 : Int) (x3 : Int) (x4 : Nat) (h4 : zBk 6 x4) : zGo false 96 49 [.ref 0, .int (zi x1), .int (zi x2), .int (zi x3), .ref x4] [] (zm V J d) =
    some (.inr 2, zm V J d) := by
  exact zr_thr (i := 98) (e := 2) (w := 0) (by decide +kernel) (by decide +kernel) (by decide +kernel) (by decide)
/-! PartSongDesk partOf (II)LPartSongDesk$Part; -/
theorem ze_97_0 {V : zVt} {J : zJt} {d : Nat → Nat → UInt64} (x1 : Int) (x2 : Int) : zGo false 97 0 [.ref 0, .int (zi x1), .int (zi x2)] [] (zm V J d) =
    (if qw x1 < 0 then zGo false 97 18 [.ref 0, .int (zi x1), .int (zi x2)] [] (zm V J d) else (if qw (3) ≤ qw x1 then zGo false 97 18 [.ref 0, .int (zi x1), .int (zi x2)] [] (zm V J d) else (if qw x2 < 0 then zGo false 97 18 [.ref 0, .int (zi x1), .int (zi x2)] [] (zm V J d) else (if qw x2 < qw (4) then zck (0 ≤ qw ((x1 * (4)) + x2) ∧ qw ((x1 * (4)) + x2) < 12) (some (.inl (some (.ref (50 + 15 * (qw ((x1 * (4)) + x2)).toNat))), zm V J d)) else zGo false 97 18 [.ref 0, .int (zi x1), .int (zi x2)] [] (zm V J d))))) := by
  refine (zr_iload_n (n := 1) (x := zi x1) (by decide +kernel) rfl).trans ?_
  refine (zr_iflt (off := 17) (a := x1) (t := 18) (by decide +kernel) rfl).trans (zif_ct (fun _ => ?_) (fun _ => ?_))
  · rfl
  · refine (zr_iload_n (n := 1) (x := zi x1) (by decide +kernel) rfl).trans ?_
    refine (zr_iconst (n := 3) (by decide +kernel)).trans ?_
    refine (zr_cge (off := 12) (a := x1) (b := (3)) (t := 18) (by decide +kernel) rfl).trans (zif_ct (fun _ => ?_) (fun _ => ?_))
    · rfl
    · refine (zr_iload_n (n := 2) (x := zi x2) (by decide +kernel) rfl).trans ?_
      refine (zr_iflt (off := 8) (a := x2) (t := 18) (by decide +kernel) rfl).trans (zif_ct (fun _ => ?_) (fun _ => ?_))
      · rfl
      · refine (zr_iload_n (n := 2) (x := zi x2) (by decide +kernel) rfl).trans ?_
        refine (zr_iconst (n := 4) (by decide +kernel)).trans ?_
        refine (zr_clt (off := 14) (a := x2) (b := (4)) (t := 29) (by decide +kernel) rfl).trans (zif_ct (fun _ => ?_) (fun _ => ?_))
        · refine (zr_aload_n (n := 0) (x := 0) (by decide +kernel) rfl).trans ?_
          refine (zr_getR (i := 11) (c := 11) (k := 0) (r := 1) (by decide +kernel) (by decide +kernel) rfl (by decide +kernel) (zR0_f (o := 0) (c := 11) (n := 0) (k := 0) (j := 1) rfl (by decide) rfl)).trans ?_
          refine (zr_iload_n (n := 1) (x := zi x1) (by decide +kernel) rfl).trans ?_
          refine (zr_iconst (n := 4) (by decide +kernel)).trans ?_
          refine (zr_imul (a := x1) (b := (4)) (by decide +kernel)).trans ?_
          refine (zr_iload_n (n := 2) (x := zi x2) (by decide +kernel) rfl).trans ?_
          refine (zr_iadd (a := (x1 * (4))) (b := x2) (by decide +kernel)).trans ?_
          refine (zr_parts (e := ((x1 * (4)) + x2)) (by decide +kernel)).trans (zck_ct fun q38 => ?_)
          exact zr_aret (n := "PartSongDesk$Part") (by decide +kernel) rfl
        · rfl
theorem ze_97_18 {V : zVt} {J : zJt} {d : Nat → Nat → UInt64} (x1 : Int) (x2 : Int) : zGo false 97 18 [.ref 0, .int (zi x1), .int (zi x2)] [] (zm V J d) =
    some (.inr 0, zm V J d) := by
  exact zr_thr (i := 139) (e := 0) (w := 0) (by decide +kernel) (by decide +kernel) (by decide +kernel) (by decide)
/-! PartSongDesk error (II)I -/
theorem ze_99_0 {V : zVt} {J : zJt} {d : Nat → Nat → UInt64} (x1 : Int) (x2 : Int) : zGo false 99 0 [.ref 0, .int (zi x1), .int (zi x2)] [] (zm V J d) =
    (zGo false 100 0 [.ref 0, .int (zi x1), .int (zi x2), .null] [] (zm V J d)).bind (zGor false 99 6 [.ref 0, .int (zi x1), .int (zi x2)] []) := by
  refine (zr_aload_n (n := 0) (x := 0) (by decide +kernel) rfl).trans ?_
  refine (zr_iload_n (n := 1) (x := zi x1) (by decide +kernel) rfl).trans ?_
  refine (zr_iload_n (n := 2) (x := zi x2) (by decide +kernel) rfl).trans ?_
  exact zr_cV (i := 120) (z := 100) (w := 0) (o := 0) (t := [.int (zi x2), .int (zi x1)]) (rest := []) (L := [.ref 0, .int (zi x1), .int (zi x2), .null]) (pc1 := 6) (by decide +kernel) (by decide +kernel) rfl (n := 2) (r := 0) rfl rfl rfl (by decide +kernel) rfl rfl
theorem ze_99_6 {V : zVt} {J : zJt} {d : Nat → Nat → UInt64} (x1 : Int) (x2 : Int) (s0 : Nat) (g0 : zBk 6 s0) : zGo false 99 6 [.ref 0, .int (zi x1), .int (zi x2)] [.ref s0] (zm V J d) =
    some (.inl (some (.int (zi (V s0 4)))), zm V J d) := by
  refine (zr_getI (i := 123) (c := 6) (k := 4) (by decide +kernel) (by decide +kernel) (zb6_0 g0) (by decide +kernel)).trans ?_
  exact zr_iret (a := (V s0 4)) (by decide +kernel) rfl
/-! PartSongDesk readPart (II)LPartSongDesk$Part; -/
theorem ze_100_0 {V : zVt} {J : zJt} {d : Nat → Nat → UInt64} (x1 : Int) (x2 : Int) : zGo false 100 0 [.ref 0, .int (zi x1), .int (zi x2), .null] [] (zm V J d) =
    (zGo false 97 0 [.ref 0, .int (zi x1), .int (zi x2)] [] (zm V J d)).bind (zGor false 100 6 [.ref 0, .int (zi x1), .int (zi x2), .null] []) := by
  refine (zr_aload_n (n := 0) (x := 0) (by decide +kernel) rfl).trans ?_
  refine (zr_iload_n (n := 1) (x := zi x1) (by decide +kernel) rfl).trans ?_
  refine (zr_iload_n (n := 2) (x := zi x2) (by decide +kernel) rfl).trans ?_
  exact zr_cV (i := 79) (z := 97) (w := 0) (o := 0) (t := [.int (zi x2), .int (zi x1)]) (rest := []) (L := [.ref 0, .int (zi x1), .int (zi x2)]) (pc1 := 6) (by decide +kernel) (by decide +kernel) rfl (n := 2) (r := 0) rfl rfl rfl (by decide +kernel) rfl rfl
theorem ze_100_6 {V : zVt} {J : zJt} {d : Nat → Nat → UInt64} (x1 : Int) (x2 : Int) (s0 : Nat) (g0 : zBk 6 s0) : zGo false 100 6 [.ref 0, .int (zi x1), .int (zi x2), .null] [.ref s0] (zm V J d) =
    (if qw (V s0 2) ≠ 0 then zGo false 100 73 [.ref 0, .int (zi x1), .int (zi x2), .ref s0] [] (zm V J d) else (zGo false 101 0 [.ref 0, .ref s0, .ref (s0 + 2)] [] (zm V J d)).bind (zGor false 100 23 [.ref 0, .int (zi x1), .int (zi x2), .ref s0] [])) := by
  refine (zr_astore_n (n := 3) (l1 := [.ref 0, .int (zi x1), .int (zi x2), .ref s0]) (by decide +kernel) rfl).trans ?_
  refine (zr_aload_n (n := 3) (x := s0) (by decide +kernel) rfl).trans ?_
  refine (zr_getI (i := 107) (c := 6) (k := 2) (by decide +kernel) (by decide +kernel) (zb6_0 g0) (by decide +kernel)).trans ?_
  refine (zr_ifne (off := 62) (a := (V s0 2)) (t := 73) (by decide +kernel) rfl).trans (zif_ct (fun _ => ?_) (fun _ => ?_))
  · rfl
  · refine (zr_aload_n (n := 0) (x := 0) (by decide +kernel) rfl).trans ?_
    refine (zr_aload_n (n := 3) (x := s0) (by decide +kernel) rfl).trans ?_
    refine (zr_aload_n (n := 3) (x := s0) (by decide +kernel) rfl).trans ?_
    refine (zr_getR (i := 129) (c := 6) (k := 6) (r := (s0 + 2)) (by decide +kernel) (by decide +kernel) (zb6_0 g0) (by decide +kernel) (zR0_f (o := s0) (c := 6) (n := 0) (k := 6) (j := 2) (zb6_0 g0) (by decide) rfl)).trans ?_
    exact zr_cV (i := 237) (z := 101) (w := 0) (o := 0) (t := [.ref (s0 + 2), .ref s0]) (rest := []) (L := [.ref 0, .ref s0, .ref (s0 + 2)]) (pc1 := 23) (by decide +kernel) (by decide +kernel) rfl (n := 2) (r := 0) rfl rfl rfl (by decide +kernel) rfl rfl
theorem ze_100_23 {V : zVt} {J : zJt} {d : Nat → Nat → UInt64} (x1 : Int) (x2 : Int) (x3 : Nat) (h3 : zBk 6 x3) : zGo false 100 23 [.ref 0, .int (zi x1), .int (zi x2), .ref x3] [] (zm V J d) =
    (zGo false 68 0 [.ref 12, .ref (x3 + 2), .ref (x3 + 11), .ref 3, .ref (x3 + 13), .null] [] (zm V J d)).bind (zGor false 100 46 [.ref 0, .int (zi x1), .int (zi x2), .ref x3] []) := by
  refine (zr_aload_n (n := 0) (x := 0) (by decide +kernel) rfl).trans ?_
  refine (zr_getR (i := 45) (c := 11) (k := 6) (r := 12) (by decide +kernel) (by decide +kernel) rfl (by decide +kernel) (zR0_f (o := 0) (c := 11) (n := 0) (k := 6) (j := 12) rfl (by decide) rfl)).trans ?_
  refine (zr_aload_n (n := 3) (x := x3) (by decide +kernel) rfl).trans ?_
  refine (zr_getR (i := 129) (c := 6) (k := 6) (r := (x3 + 2)) (by decide +kernel) (by decide +kernel) (zb6_0 h3) (by decide +kernel) (zR0_f (o := x3) (c := 6) (n := 0) (k := 6) (j := 2) (zb6_0 h3) (by decide) rfl)).trans ?_
  refine (zr_aload_n (n := 3) (x := x3) (by decide +kernel) rfl).trans ?_
  refine (zr_getR (i := 202) (c := 6) (k := 7) (r := (x3 + 11)) (by decide +kernel) (by decide +kernel) (zb6_0 h3) (by decide +kernel) (zR0_f (o := x3) (c := 6) (n := 0) (k := 7) (j := 11) (zb6_0 h3) (by decide) rfl)).trans ?_
  refine (zr_aload_n (n := 0) (x := 0) (by decide +kernel) rfl).trans ?_
  refine (zr_getR (i := 24) (c := 11) (k := 3) (r := 3) (by decide +kernel) (by decide +kernel) rfl (by decide +kernel) (zR0_f (o := 0) (c := 11) (n := 0) (k := 3) (j := 3) rfl (by decide) rfl)).trans ?_
  refine (zr_aload_n (n := 3) (x := x3) (by decide +kernel) rfl).trans ?_
  refine (zr_getR (i := 148) (c := 6) (k := 8) (r := (x3 + 13)) (by decide +kernel) (by decide +kernel) (zb6_0 h3) (by decide +kernel) (zR0_f (o := x3) (c := 6) (n := 0) (k := 8) (j := 13) (zb6_0 h3) (by decide) rfl)).trans ?_
  exact zr_cV (i := 241) (z := 68) (w := 0) (o := 12) (t := [.ref (x3 + 13), .ref 3, .ref (x3 + 11), .ref (x3 + 2)]) (rest := []) (L := [.ref 12, .ref (x3 + 2), .ref (x3 + 11), .ref 3, .ref (x3 + 13), .null]) (pc1 := 46) (by decide +kernel) (by decide +kernel) rfl (n := 4) (r := 0) rfl rfl rfl (by decide +kernel) rfl rfl
theorem ze_100_46 {V : zVt} {J : zJt} {d : Nat → Nat → UInt64} (x1 : Int) (x2 : Int) (x3 : Nat) (h3 : zBk 6 x3) : zGo false 100 46 [.ref 0, .int (zi x1), .int (zi x2), .ref x3] [] (zm V J d) =
    zck (qw (1) = 0 ∨ qw (1) = 1) (zGo false 100 73 [.ref 0, .int (zi x1), .int (zi x2), .ref x3] [] (zm (vup (vup (vup V x3 4 (V (x3 + 13) 0)) x3 5 ((vup V x3 4 (V (x3 + 13) 0)) (x3 + 13) 1)) x3 2 (1)) J d)) := by
  refine (zr_aload_n (n := 3) (x := x3) (by decide +kernel) rfl).trans ?_
  refine (zr_aload_n (n := 3) (x := x3) (by decide +kernel) rfl).trans ?_
  refine (zr_getR (i := 148) (c := 6) (k := 8) (r := (x3 + 13)) (by decide +kernel) (by decide +kernel) (zb6_0 h3) (by decide +kernel) (zR0_f (o := x3) (c := 6) (n := 0) (k := 8) (j := 13) (zb6_0 h3) (by decide) rfl)).trans ?_
  refine (zr_getI (i := 151) (c := 5) (k := 0) (by decide +kernel) (by decide +kernel) (zb5_0 (zBk_6music h3)) (by decide +kernel)).trans ?_
  refine (zr_putI (i := 123) (c := 6) (k := 4) (x := (V (x3 + 13) 0)) (by decide +kernel) (by decide +kernel) (zb6_0 h3) (by decide +kernel)).trans ?_
  refine (zr_aload_n (n := 3) (x := x3) (by decide +kernel) rfl).trans ?_
  refine (zr_aload_n (n := 3) (x := x3) (by decide +kernel) rfl).trans ?_
  refine (zr_getR (i := 148) (c := 6) (k := 8) (r := (x3 + 13)) (by decide +kernel) (by decide +kernel) (zb6_0 h3) (by decide +kernel) (zR0_f (o := x3) (c := 6) (n := 0) (k := 8) (j := 13) (zb6_0 h3) (by decide) rfl)).trans ?_
  refine (zr_getI (i := 329) (c := 5) (k := 1) (by decide +kernel) (by decide +kernel) (zb5_0 (zBk_6music h3)) (by decide +kernel)).trans ?_
  refine (zr_putI (i := 126) (c := 6) (k := 5) (x := ((vup V x3 4 (V (x3 + 13) 0)) (x3 + 13) 1)) (by decide +kernel) (by decide +kernel) (zb6_0 h3) (by decide +kernel)).trans ?_
  refine (zr_aload_n (n := 3) (x := x3) (by decide +kernel) rfl).trans ?_
  refine (zr_iconst (n := 1) (by decide +kernel)).trans ?_
  refine (zr_putZ (i := 107) (c := 6) (k := 2) (x := (1)) (by decide +kernel) (by decide +kernel) (zb6_0 h3) (by decide +kernel)).trans (zck_ct fun _ => ?_)
  rfl
theorem ze_100_73 {V : zVt} {J : zJt} {d : Nat → Nat → UInt64} (x1 : Int) (x2 : Int) (x3 : Nat) (h3 : zBk 6 x3) : zGo false 100 73 [.ref 0, .int (zi x1), .int (zi x2), .ref x3] [] (zm V J d) =
    some (.inl (some (.ref x3)), zm V J d) := by
  refine (zr_aload_n (n := 3) (x := x3) (by decide +kernel) rfl).trans ?_
  exact zr_aret (n := "PartSongDesk$Part") (by decide +kernel) rfl
/-! PartSongDesk readText (LPartSongDesk$Part;LPartSongDesk$Tokens;)V -/
theorem ze_101_0 {V : zVt} {J : zJt} {d : Nat → Nat → UInt64} (x1 : Nat) (x2 : Nat) (h1 : zBk 6 x1) (h2 : zBk 10 x2) : zGo false 101 0 [.ref 0, .ref x1, .ref x2] [] (zm V J d) =
    (zGo false 46 0 [.ref 7, .ref (x1 + 1), .int (zi (V x1 1)), .ref x2, .null] [] (zm V J d)).bind (zGor false 101 16 [.ref 0, .ref x1, .ref x2] []) := by
  refine (zr_aload_n (n := 0) (x := 0) (by decide +kernel) rfl).trans ?_
  refine (zr_getR (i := 31) (c := 11) (k := 4) (r := 7) (by decide +kernel) (by decide +kernel) rfl (by decide +kernel) (zR0_f (o := 0) (c := 11) (n := 0) (k := 4) (j := 7) rfl (by decide) rfl)).trans ?_
  refine (zr_aload_n (n := 1) (x := x1) (by decide +kernel) rfl).trans ?_
  refine (zr_getR (i := 103) (c := 6) (k := 0) (r := (x1 + 1)) (by decide +kernel) (by decide +kernel) (zb6_0 h1) (by decide +kernel) (zR0_f (o := x1) (c := 6) (n := 0) (k := 0) (j := 1) (zb6_0 h1) (by decide) rfl)).trans ?_
  refine (zr_aload_n (n := 1) (x := x1) (by decide +kernel) rfl).trans ?_
  refine (zr_getI (i := 94) (c := 6) (k := 1) (by decide +kernel) (by decide +kernel) (zb6_0 h1) (by decide +kernel)).trans ?_
  refine (zr_aload_n (n := 2) (x := x2) (by decide +kernel) rfl).trans ?_
  exact zr_cV (i := 332) (z := 46) (w := 0) (o := 7) (t := [.ref x2, .int (zi (V x1 1)), .ref (x1 + 1)]) (rest := []) (L := [.ref 7, .ref (x1 + 1), .int (zi (V x1 1)), .ref x2, .null]) (pc1 := 16) (by decide +kernel) (by decide +kernel) rfl (n := 3) (r := 0) rfl rfl rfl (by decide +kernel) rfl rfl
theorem ze_101_16 {V : zVt} {J : zJt} {d : Nat → Nat → UInt64} (x1 : Nat) (x2 : Nat) (h1 : zBk 6 x1) (h2 : zBk 10 x2) : zGo false 101 16 [.ref 0, .ref x1, .ref x2] [] (zm V J d) =
    (if qw (V x2 2) ≠ 0 then zGo false 101 31 [.ref 0, .ref x1, .ref x2] [] (zm V J d) else (zGo false 10 0 [.ref 9, .ref x2, .null, .null] [] (zm V J d)).bind (zGor false 101 31 [.ref 0, .ref x1, .ref x2] [])) := by
  refine (zr_aload_n (n := 2) (x := x2) (by decide +kernel) rfl).trans ?_
  refine (zr_getI (i := 336) (c := 10) (k := 2) (by decide +kernel) (by decide +kernel) (zb10_0 h2) (by decide +kernel)).trans ?_
  refine (zr_ifne (off := 11) (a := (V x2 2)) (t := 31) (by decide +kernel) rfl).trans (zif_ct (fun _ => ?_) (fun _ => ?_))
  · rfl
  · refine (zr_aload_n (n := 0) (x := 0) (by decide +kernel) rfl).trans ?_
    refine (zr_getR (i := 38) (c := 11) (k := 5) (r := 9) (by decide +kernel) (by decide +kernel) rfl (by decide +kernel) (zR0_f (o := 0) (c := 11) (n := 0) (k := 5) (j := 9) rfl (by decide) rfl)).trans ?_
    refine (zr_aload_n (n := 2) (x := x2) (by decide +kernel) rfl).trans ?_
    exact zr_cV (i := 337) (z := 10) (w := 0) (o := 9) (t := [.ref x2]) (rest := []) (L := [.ref 9, .ref x2, .null, .null]) (pc1 := 31) (by decide +kernel) (by decide +kernel) rfl (n := 1) (r := 0) rfl rfl rfl (by decide +kernel) rfl rfl
theorem ze_101_31 {V : zVt} {J : zJt} {d : Nat → Nat → UInt64} (x1 : Nat) (x2 : Nat) (h1 : zBk 6 x1) (h2 : zBk 10 x2) : zGo false 101 31 [.ref 0, .ref x1, .ref x2] [] (zm V J d) =
    some (.inl none, zm V J d) := by
  exact zr_vret (by decide +kernel) rfl
/-! PartSongDesk errorAt (II)I -/
theorem ze_102_0 {V : zVt} {J : zJt} {d : Nat → Nat → UInt64} (x1 : Int) (x2 : Int) : zGo false 102 0 [.ref 0, .int (zi x1), .int (zi x2)] [] (zm V J d) =
    (zGo false 100 0 [.ref 0, .int (zi x1), .int (zi x2), .null] [] (zm V J d)).bind (zGor false 102 6 [.ref 0, .int (zi x1), .int (zi x2)] []) := by
  refine (zr_aload_n (n := 0) (x := 0) (by decide +kernel) rfl).trans ?_
  refine (zr_iload_n (n := 1) (x := zi x1) (by decide +kernel) rfl).trans ?_
  refine (zr_iload_n (n := 2) (x := zi x2) (by decide +kernel) rfl).trans ?_
  exact zr_cV (i := 120) (z := 100) (w := 0) (o := 0) (t := [.int (zi x2), .int (zi x1)]) (rest := []) (L := [.ref 0, .int (zi x1), .int (zi x2), .null]) (pc1 := 6) (by decide +kernel) (by decide +kernel) rfl (n := 2) (r := 0) rfl rfl rfl (by decide +kernel) rfl rfl
theorem ze_102_6 {V : zVt} {J : zJt} {d : Nat → Nat → UInt64} (x1 : Int) (x2 : Int) (s0 : Nat) (g0 : zBk 6 s0) : zGo false 102 6 [.ref 0, .int (zi x1), .int (zi x2)] [.ref s0] (zm V J d) =
    some (.inl (some (.int (zi (V s0 5)))), zm V J d) := by
  refine (zr_getI (i := 126) (c := 6) (k := 5) (by decide +kernel) (by decide +kernel) (zb6_0 g0) (by decide +kernel)).trans ?_
  exact zr_iret (a := (V s0 5)) (by decide +kernel) rfl
/-! PartSongDesk tokens (II)I -/
theorem ze_103_0 {V : zVt} {J : zJt} {d : Nat → Nat → UInt64} (x1 : Int) (x2 : Int) : zGo false 103 0 [.ref 0, .int (zi x1), .int (zi x2)] [] (zm V J d) =
    (zGo false 100 0 [.ref 0, .int (zi x1), .int (zi x2), .null] [] (zm V J d)).bind (zGor false 103 6 [.ref 0, .int (zi x1), .int (zi x2)] []) := by
  refine (zr_aload_n (n := 0) (x := 0) (by decide +kernel) rfl).trans ?_
  refine (zr_iload_n (n := 1) (x := zi x1) (by decide +kernel) rfl).trans ?_
  refine (zr_iload_n (n := 2) (x := zi x2) (by decide +kernel) rfl).trans ?_
  exact zr_cV (i := 120) (z := 100) (w := 0) (o := 0) (t := [.int (zi x2), .int (zi x1)]) (rest := []) (L := [.ref 0, .int (zi x1), .int (zi x2), .null]) (pc1 := 6) (by decide +kernel) (by decide +kernel) rfl (n := 2) (r := 0) rfl rfl rfl (by decide +kernel) rfl rfl
theorem ze_103_6 {V : zVt} {J : zJt} {d : Nat → Nat → UInt64} (x1 : Int) (x2 : Int) (s0 : Nat) (g0 : zBk 6 s0) : zGo false 103 6 [.ref 0, .int (zi x1), .int (zi x2)] [.ref s0] (zm V J d) =
    some (.inl (some (.int (zi (V (s0 + 2) 0)))), zm V J d) := by
  refine (zr_getR (i := 129) (c := 6) (k := 6) (r := (s0 + 2)) (by decide +kernel) (by decide +kernel) (zb6_0 g0) (by decide +kernel) (zR0_f (o := s0) (c := 6) (n := 0) (k := 6) (j := 2) (zb6_0 g0) (by decide) rfl)).trans ?_
  refine (zr_getI (i := 132) (c := 10) (k := 0) (by decide +kernel) (by decide +kernel) (zb10_0 (zBk_6row g0)) (by decide +kernel)).trans ?_
  exact zr_iret (a := (V (s0 + 2) 0)) (by decide +kernel) rfl
/-! PartSongDesk token (III)I -/
theorem ze_104_0 {V : zVt} {J : zJt} {d : Nat → Nat → UInt64} (x1 : Int) (x2 : Int) (x3 : Int) : zGo false 104 0 [.ref 0, .int (zi x1), .int (zi x2), .int (zi x3), .null] [] (zm V J d) =
    (zGo false 100 0 [.ref 0, .int (zi x1), .int (zi x2), .null] [] (zm V J d)).bind (zGor false 104 6 [.ref 0, .int (zi x1), .int (zi x2), .int (zi x3), .null] []) := by
  refine (zr_aload_n (n := 0) (x := 0) (by decide +kernel) rfl).trans ?_
  refine (zr_iload_n (n := 1) (x := zi x1) (by decide +kernel) rfl).trans ?_
  refine (zr_iload_n (n := 2) (x := zi x2) (by decide +kernel) rfl).trans ?_
  exact zr_cV (i := 120) (z := 100) (w := 0) (o := 0) (t := [.int (zi x2), .int (zi x1)]) (rest := []) (L := [.ref 0, .int (zi x1), .int (zi x2), .null]) (pc1 := 6) (by decide +kernel) (by decide +kernel) rfl (n := 2) (r := 0) rfl rfl rfl (by decide +kernel) rfl rfl
theorem ze_104_6 {V : zVt} {J : zJt} {d : Nat → Nat → UInt64} (x1 : Int) (x2 : Int) (x3 : Int) (s0 : Nat) (g0 : zBk 6 s0) : zGo false 104 6 [.ref 0, .int (zi x1), .int (zi x2), .int (zi x3), .null] [.ref s0] (zm V J d) =
    (zGo false 86 0 [.ref (s0 + 2), .int (zi x3)] [] (zm V J d)).bind (zGor false 104 17 [.ref 0, .int (zi x1), .int (zi x2), .int (zi x3), .ref (s0 + 2)] []) := by
  refine (zr_getR (i := 129) (c := 6) (k := 6) (r := (s0 + 2)) (by decide +kernel) (by decide +kernel) (zb6_0 g0) (by decide +kernel) (zR0_f (o := s0) (c := 6) (n := 0) (k := 6) (j := 2) (zb6_0 g0) (by decide) rfl)).trans ?_
  refine (zr_astore (n := 4) (l1 := [.ref 0, .int (zi x1), .int (zi x2), .int (zi x3), .ref (s0 + 2)]) (by decide +kernel) rfl).trans ?_
  refine (zr_aload (n := 4) (x := (s0 + 2)) (by decide +kernel) rfl).trans ?_
  refine (zr_iload_n (n := 3) (x := zi x3) (by decide +kernel) rfl).trans ?_
  exact zr_cV (i := 135) (z := 86) (w := 0) (o := (s0 + 2)) (t := [.int (zi x3)]) (rest := []) (L := [.ref (s0 + 2), .int (zi x3)]) (pc1 := 17) (by decide +kernel) (by decide +kernel) (zb10_0 (zBk_6row g0)) (n := 1) (r := 0) rfl rfl rfl (by decide +kernel) rfl rfl
theorem ze_104_17 {V : zVt} {J : zJt} {d : Nat → Nat → UInt64} (x1 : Int) (x2 : Int) (x3 : Int) (x4 : Nat) (s0 : Int) (h4 : zBk 10 x4) : zGo false 104 17 [.ref 0, .int (zi x1), .int (zi x2), .int (zi x3), .ref x4] [.int (zi s0)] (zm V J d) =
    (if qw s0 ≠ 0 then zck (0 ≤ qw x3 ∧ qw x3 < (60 : Nat)) (some (.inl (some (.int (zi (V (x4 + 1) (qw x3))))), zm V J d)) else some (.inr 0, zm V J d)) := by
  refine (zr_ifne (off := 13) (a := s0) (t := 30) (by decide +kernel) rfl).trans (zif_ct (fun _ => ?_) (fun _ => ?_))
  · refine (zr_aload (n := 4) (x := x4) (by decide +kernel) rfl).trans ?_
    refine (zr_getR (i := 144) (c := 10) (k := 4) (r := (x4 + 1)) (by decide +kernel) (by decide +kernel) (zb10_0 h4) (by decide +kernel) (zR0_f (o := x4) (c := 10) (n := 0) (k := 4) (j := 1) (zb10_0 h4) (by decide) rfl)).trans ?_
    refine (zr_iload_n (n := 3) (x := zi x3) (by decide +kernel) rfl).trans ?_
    refine (zr_iald (n := 60) (e := x3) (by decide +kernel) (zb10_1 h4)).trans (zck_ct fun _ => ?_)
    exact zr_iret (a := (V (x4 + 1) (qw x3))) (by decide +kernel) rfl
  · exact zr_thr (i := 139) (e := 0) (w := 0) (by decide +kernel) (by decide +kernel) (by decide +kernel) (by decide)
/-! PartSongDesk bars (II)I -/
theorem ze_105_0 {V : zVt} {J : zJt} {d : Nat → Nat → UInt64} (x1 : Int) (x2 : Int) : zGo false 105 0 [.ref 0, .int (zi x1), .int (zi x2), .null] [] (zm V J d) =
    (zGo false 100 0 [.ref 0, .int (zi x1), .int (zi x2), .null] [] (zm V J d)).bind (zGor false 105 6 [.ref 0, .int (zi x1), .int (zi x2), .null] []) := by
  refine (zr_aload_n (n := 0) (x := 0) (by decide +kernel) rfl).trans ?_
  refine (zr_iload_n (n := 1) (x := zi x1) (by decide +kernel) rfl).trans ?_
  refine (zr_iload_n (n := 2) (x := zi x2) (by decide +kernel) rfl).trans ?_
  exact zr_cV (i := 120) (z := 100) (w := 0) (o := 0) (t := [.int (zi x2), .int (zi x1)]) (rest := []) (L := [.ref 0, .int (zi x1), .int (zi x2), .null]) (pc1 := 6) (by decide +kernel) (by decide +kernel) rfl (n := 2) (r := 0) rfl rfl rfl (by decide +kernel) rfl rfl
theorem ze_105_6 {V : zVt} {J : zJt} {d : Nat → Nat → UInt64} (x1 : Int) (x2 : Int) (s0 : Nat) (g0 : zBk 6 s0) : zGo false 105 6 [.ref 0, .int (zi x1), .int (zi x2), .null] [.ref s0] (zm V J d) =
    (if qw (V (s0 + 13) 0) ≠ 0 then zGo false 105 25 [.ref 0, .int (zi x1), .int (zi x2), .ref (s0 + 13)] [.int (zi (-1))] (zm V J d) else zGo false 105 25 [.ref 0, .int (zi x1), .int (zi x2), .ref (s0 + 13)] [.int (zi (V (s0 + 13) 2))] (zm V J d)) := by
  refine (zr_getR (i := 148) (c := 6) (k := 8) (r := (s0 + 13)) (by decide +kernel) (by decide +kernel) (zb6_0 g0) (by decide +kernel) (zR0_f (o := s0) (c := 6) (n := 0) (k := 8) (j := 13) (zb6_0 g0) (by decide) rfl)).trans ?_
  refine (zr_astore_n (n := 3) (l1 := [.ref 0, .int (zi x1), .int (zi x2), .ref (s0 + 13)]) (by decide +kernel) rfl).trans ?_
  refine (zr_aload_n (n := 3) (x := (s0 + 13)) (by decide +kernel) rfl).trans ?_
  refine (zr_getI (i := 151) (c := 5) (k := 0) (by decide +kernel) (by decide +kernel) (zb5_0 (zBk_6music g0)) (by decide +kernel)).trans ?_
  refine (zr_ifne (off := 10) (a := (V (s0 + 13) 0)) (t := 24) (by decide +kernel) rfl).trans (zif_ct (fun _ => ?_) (fun _ => ?_))
  · refine (zr_iconst (n := -1) (by decide +kernel)).trans ?_
    rfl
  · refine (zr_aload_n (n := 3) (x := (s0 + 13)) (by decide +kernel) rfl).trans ?_
    refine (zr_getI (i := 154) (c := 5) (k := 2) (by decide +kernel) (by decide +kernel) (zb5_0 (zBk_6music g0)) (by decide +kernel)).trans ?_
    refine (zr_goto (off := 4) (t := 25) (by decide +kernel) rfl).trans ?_
    rfl
theorem ze_105_25 {V : zVt} {J : zJt} {d : Nat → Nat → UInt64} (x1 : Int) (x2 : Int) (x3 : Nat) (s0 : Int) (h3 : zBk 5 x3) : zGo false 105 25 [.ref 0, .int (zi x1), .int (zi x2), .ref x3] [.int (zi s0)] (zm V J d) =
    some (.inl (some (.int (zi s0))), zm V J d) := by
  exact zr_iret (a := s0) (by decide +kernel) rfl
/-! PartSongDesk pitch (IIII)I -/
theorem ze_106_0 {V : zVt} {J : zJt} {d : Nat → Nat → UInt64} (x1 : Int) (x2 : Int) (x3 : Int) (x4 : Int) : zGo false 106 0 [.ref 0, .int (zi x1), .int (zi x2), .int (zi x3), .int (zi x4), .null] [] (zm V J d) =
    (zGo false 100 0 [.ref 0, .int (zi x1), .int (zi x2), .null] [] (zm V J d)).bind (zGor false 106 6 [.ref 0, .int (zi x1), .int (zi x2), .int (zi x3), .int (zi x4), .null] []) := by
  refine (zr_aload_n (n := 0) (x := 0) (by decide +kernel) rfl).trans ?_
  refine (zr_iload_n (n := 1) (x := zi x1) (by decide +kernel) rfl).trans ?_
  refine (zr_iload_n (n := 2) (x := zi x2) (by decide +kernel) rfl).trans ?_
  exact zr_cV (i := 120) (z := 100) (w := 0) (o := 0) (t := [.int (zi x2), .int (zi x1)]) (rest := []) (L := [.ref 0, .int (zi x1), .int (zi x2), .null]) (pc1 := 6) (by decide +kernel) (by decide +kernel) rfl (n := 2) (r := 0) rfl rfl rfl (by decide +kernel) rfl rfl
theorem ze_106_6 {V : zVt} {J : zJt} {d : Nat → Nat → UInt64} (x1 : Int) (x2 : Int) (x3 : Int) (x4 : Int) (s0 : Nat) (g0 : zBk 6 s0) : zGo false 106 6 [.ref 0, .int (zi x1), .int (zi x2), .int (zi x3), .int (zi x4), .null] [.ref s0] (zm V J d) =
    (zGo false 107 0 [.ref 0, .ref (s0 + 13), .int (zi x3), .int (zi x4)] [] (zm V J d)).bind (zGor false 106 20 [.ref 0, .int (zi x1), .int (zi x2), .int (zi x3), .int (zi x4), .ref (s0 + 13)] []) := by
  refine (zr_getR (i := 148) (c := 6) (k := 8) (r := (s0 + 13)) (by decide +kernel) (by decide +kernel) (zb6_0 g0) (by decide +kernel) (zR0_f (o := s0) (c := 6) (n := 0) (k := 8) (j := 13) (zb6_0 g0) (by decide) rfl)).trans ?_
  refine (zr_astore (n := 5) (l1 := [.ref 0, .int (zi x1), .int (zi x2), .int (zi x3), .int (zi x4), .ref (s0 + 13)]) (by decide +kernel) rfl).trans ?_
  refine (zr_aload_n (n := 0) (x := 0) (by decide +kernel) rfl).trans ?_
  refine (zr_aload (n := 5) (x := (s0 + 13)) (by decide +kernel) rfl).trans ?_
  refine (zr_iload_n (n := 3) (x := zi x3) (by decide +kernel) rfl).trans ?_
  refine (zr_iload (n := 4) (x := zi x4) (by decide +kernel) rfl).trans ?_
  exact zr_cV (i := 157) (z := 107) (w := 0) (o := 0) (t := [.int (zi x4), .int (zi x3), .ref (s0 + 13)]) (rest := []) (L := [.ref 0, .ref (s0 + 13), .int (zi x3), .int (zi x4)]) (pc1 := 20) (by decide +kernel) (by decide +kernel) rfl (n := 3) (r := 0) rfl rfl rfl (by decide +kernel) rfl rfl
theorem ze_106_20 {V : zVt} {J : zJt} {d : Nat → Nat → UInt64} (x1 : Int) (x2 : Int) (x3 : Int) (x4 : Int) (x5 : Nat) (h5 : zBk 5 x5) : zGo false 106 20 [.ref 0, .int (zi x1), .int (zi x2), .int (zi x3), .int (zi x4), .ref x5] [] (zm V J d) =
    (zGo false 36 0 [.ref x5, .int (zi x3), .int (zi x4), .null] [] (zm V J d)).bind (zGor false 106 28 [.ref 0, .int (zi x1), .int (zi x2), .int (zi x3), .int (zi x4), .ref x5] []) := by
  refine (zr_aload (n := 5) (x := x5) (by decide +kernel) rfl).trans ?_
  refine (zr_iload_n (n := 3) (x := zi x3) (by decide +kernel) rfl).trans ?_
  refine (zr_iload (n := 4) (x := zi x4) (by decide +kernel) rfl).trans ?_
  exact zr_cV (i := 161) (z := 36) (w := 0) (o := x5) (t := [.int (zi x4), .int (zi x3)]) (rest := []) (L := [.ref x5, .int (zi x3), .int (zi x4), .null]) (pc1 := 28) (by decide +kernel) (by decide +kernel) (zb5_0 h5) (n := 2) (r := 0) rfl rfl rfl (by decide +kernel) rfl rfl
theorem ze_106_28 {V : zVt} {J : zJt} {d : Nat → Nat → UInt64} (x1 : Int) (x2 : Int) (x3 : Int) (x4 : Int) (x5 : Nat) (s0 : Int) (h5 : zBk 5 x5) : zGo false 106 28 [.ref 0, .int (zi x1), .int (zi x2), .int (zi x3), .int (zi x4), .ref x5] [.int (zi s0)] (zm V J d) =
    some (.inl (some (.int (zi s0))), zm V J d) := by
  exact zr_iret (a := s0) (by decide +kernel) rfl
/-! PartSongDesk mustHave (LPartSongDesk$Music;II)V -/
theorem ze_107_0 {V : zVt} {J : zJt} {d : Nat → Nat → UInt64} (x1 : Nat) (x2 : Int) (x3 : Int) (h1 : zBk 5 x1) : zGo false 107 0 [.ref 0, .ref x1, .int (zi x2), .int (zi x3)] [] (zm V J d) =
    (zGo false 30 0 [.ref x1, .int (zi x2)] [] (zm V J d)).bind (zGor false 107 5 [.ref 0, .ref x1, .int (zi x2), .int (zi x3)] []) := by
  refine (zr_aload_n (n := 1) (x := x1) (by decide +kernel) rfl).trans ?_
  refine (zr_iload_n (n := 2) (x := zi x2) (by decide +kernel) rfl).trans ?_
  exact zr_cV (i := 326) (z := 30) (w := 0) (o := x1) (t := [.int (zi x2)]) (rest := []) (L := [.ref x1, .int (zi x2)]) (pc1 := 5) (by decide +kernel) (by decide +kernel) (zb5_0 h1) (n := 1) (r := 0) rfl rfl rfl (by decide +kernel) rfl rfl
theorem ze_107_5 {V : zVt} {J : zJt} {d : Nat → Nat → UInt64} (x1 : Nat) (x2 : Int) (x3 : Int) (s0 : Int) (h1 : zBk 5 x1) : zGo false 107 5 [.ref 0, .ref x1, .int (zi x2), .int (zi x3)] [.int (zi s0)] (zm V J d) =
    (if qw s0 = 0 then zGo false 107 20 [.ref 0, .ref x1, .int (zi x2), .int (zi x3)] [] (zm V J d) else (if qw x3 < 0 then zGo false 107 20 [.ref 0, .ref x1, .int (zi x2), .int (zi x3)] [] (zm V J d) else (if qw x3 < qw (V x1 3) then some (.inl none, zm V J d) else zGo false 107 20 [.ref 0, .ref x1, .int (zi x2), .int (zi x3)] [] (zm V J d)))) := by
  refine (zr_ifeq (off := 15) (a := s0) (t := 20) (by decide +kernel) rfl).trans (zif_ct (fun _ => ?_) (fun _ => ?_))
  · rfl
  · refine (zr_iload_n (n := 3) (x := zi x3) (by decide +kernel) rfl).trans ?_
    refine (zr_iflt (off := 11) (a := x3) (t := 20) (by decide +kernel) rfl).trans (zif_ct (fun _ => ?_) (fun _ => ?_))
    · rfl
    · refine (zr_iload_n (n := 3) (x := zi x3) (by decide +kernel) rfl).trans ?_
      refine (zr_aload_n (n := 1) (x := x1) (by decide +kernel) rfl).trans ?_
      refine (zr_getI (i := 167) (c := 5) (k := 3) (by decide +kernel) (by decide +kernel) (zb5_0 h1) (by decide +kernel)).trans ?_
      refine (zr_clt (off := 14) (a := x3) (b := (V x1 3)) (t := 31) (by decide +kernel) rfl).trans (zif_ct (fun _ => ?_) (fun _ => ?_))
      · exact zr_vret (by decide +kernel) rfl
      · rfl
theorem ze_107_20 {V : zVt} {J : zJt} {d : Nat → Nat → UInt64} (x1 : Nat) (x2 : Int) (x3 : Int) (h1 : zBk 5 x1) : zGo false 107 20 [.ref 0, .ref x1, .int (zi x2), .int (zi x3)] [] (zm V J d) =
    some (.inr 0, zm V J d) := by
  exact zr_thr (i := 139) (e := 0) (w := 0) (by decide +kernel) (by decide +kernel) (by decide +kernel) (by decide)
/-! PartSongDesk seconds (III)F -/
theorem ze_108_0 {V : zVt} {J : zJt} {d : Nat → Nat → UInt64} (x1 : Int) (x2 : Int) (x3 : Int) : zGo false 108 0 [.ref 0, .int (zi x1), .int (zi x2), .int (zi x3), .null] [] (zm V J d) =
    (zGo false 100 0 [.ref 0, .int (zi x1), .int (zi x2), .null] [] (zm V J d)).bind (zGor false 108 6 [.ref 0, .int (zi x1), .int (zi x2), .int (zi x3), .null] []) := by
  refine (zr_aload_n (n := 0) (x := 0) (by decide +kernel) rfl).trans ?_
  refine (zr_iload_n (n := 1) (x := zi x1) (by decide +kernel) rfl).trans ?_
  refine (zr_iload_n (n := 2) (x := zi x2) (by decide +kernel) rfl).trans ?_
  exact zr_cV (i := 120) (z := 100) (w := 0) (o := 0) (t := [.int (zi x2), .int (zi x1)]) (rest := []) (L := [.ref 0, .int (zi x1), .int (zi x2), .null]) (pc1 := 6) (by decide +kernel) (by decide +kernel) rfl (n := 2) (r := 0) rfl rfl rfl (by decide +kernel) rfl rfl
theorem ze_108_6 {V : zVt} {J : zJt} {d : Nat → Nat → UInt64} (x1 : Int) (x2 : Int) (x3 : Int) (s0 : Nat) (g0 : zBk 6 s0) : zGo false 108 6 [.ref 0, .int (zi x1), .int (zi x2), .int (zi x3), .null] [.ref s0] (zm V J d) =
    (if qw x3 < qw (20) then zGo false 108 24 [.ref 0, .int (zi x1), .int (zi x2), .int (zi x3), .ref (s0 + 13)] [] (zm V J d) else (if qw x3 ≤ qw (300) then (if qw (V (s0 + 13) 0) = 0 then zck (FP.fmul (FP.i2f (zi ((V (s0 + 13) 2) * (V (s0 + 13) 3)))) (UInt32.ofNat 1097859072) &&& 0x7fffffff ≤ 0x7f800000) (zck (FP.fdiv (FP.fmul (FP.i2f (zi ((V (s0 + 13) 2) * (V (s0 + 13) 3)))) (UInt32.ofNat 1097859072)) (FP.i2f (zi x3)) &&& 0x7fffffff ≤ 0x7f800000) (some (.inl (some (.float (FP.fdiv (FP.fmul (FP.i2f (zi ((V (s0 + 13) 2) * (V (s0 + 13) 3)))) (UInt32.ofNat 1097859072)) (FP.i2f (zi x3))))), zm V J d))) else some (.inl (some (.float (UInt32.ofNat 3212836864))), zm V J d)) else zGo false 108 24 [.ref 0, .int (zi x1), .int (zi x2), .int (zi x3), .ref (s0 + 13)] [] (zm V J d))) := by
  refine (zr_getR (i := 148) (c := 6) (k := 8) (r := (s0 + 13)) (by decide +kernel) (by decide +kernel) (zb6_0 g0) (by decide +kernel) (zR0_f (o := s0) (c := 6) (n := 0) (k := 8) (j := 13) (zb6_0 g0) (by decide) rfl)).trans ?_
  refine (zr_astore (n := 4) (l1 := [.ref 0, .int (zi x1), .int (zi x2), .int (zi x3), .ref (s0 + 13)]) (by decide +kernel) rfl).trans ?_
  refine (zr_iload_n (n := 3) (x := zi x3) (by decide +kernel) rfl).trans ?_
  refine (zr_bipush (n := 20) (by decide +kernel) rfl).trans ?_
  refine (zr_clt (off := 10) (a := x3) (b := (20)) (t := 24) (by decide +kernel) rfl).trans (zif_ct (fun _ => ?_) (fun _ => ?_))
  · rfl
  · refine (zr_iload_n (n := 3) (x := zi x3) (by decide +kernel) rfl).trans ?_
    refine (zr_sipush (n := 300) (by decide +kernel) rfl).trans ?_
    refine (zr_cle (off := 13) (a := x3) (b := (300)) (t := 34) (by decide +kernel) rfl).trans (zif_ct (fun _ => ?_) (fun _ => ?_))
    · refine (zr_aload (n := 4) (x := (s0 + 13)) (by decide +kernel) rfl).trans ?_
      refine (zr_getI (i := 151) (c := 5) (k := 0) (by decide +kernel) (by decide +kernel) (zb5_0 (zBk_6music g0)) (by decide +kernel)).trans ?_
      refine (zr_ifeq (off := 6) (a := (V (s0 + 13) 0)) (t := 45) (by decide +kernel) rfl).trans (zif_ct (fun _ => ?_) (fun _ => ?_))
      · refine (zr_aload (n := 4) (x := (s0 + 13)) (by decide +kernel) rfl).trans ?_
        refine (zr_getI (i := 154) (c := 5) (k := 2) (by decide +kernel) (by decide +kernel) (zb5_0 (zBk_6music g0)) (by decide +kernel)).trans ?_
        refine (zr_aload (n := 4) (x := (s0 + 13)) (by decide +kernel) rfl).trans ?_
        refine (zr_getI (i := 167) (c := 5) (k := 3) (by decide +kernel) (by decide +kernel) (zb5_0 (zBk_6music g0)) (by decide +kernel)).trans ?_
        refine (zr_imul (a := (V (s0 + 13) 2)) (b := (V (s0 + 13) 3)) (by decide +kernel)).trans ?_
        refine (zr_i2f (a := ((V (s0 + 13) 2) * (V (s0 + 13) 3))) (by decide +kernel)).trans ?_
        refine (zr_ldcF (i := 170) (v := 1097859072) (w := 0) (by decide +kernel) (by decide +kernel)).trans ?_
        refine (zr_fmul (by decide +kernel)).trans (zck_ct fun _ => ?_)
        refine (zr_iload_n (n := 3) (x := zi x3) (by decide +kernel) rfl).trans ?_
        refine (zr_i2f (a := x3) (by decide +kernel)).trans ?_
        refine (zr_fdiv (by decide +kernel)).trans (zck_ct fun _ => ?_)
        exact zr_fret (by decide +kernel) rfl
      · refine (zr_ldcF (i := 166) (v := 3212836864) (w := 0) (by decide +kernel) (by decide +kernel)).trans ?_
        exact zr_fret (by decide +kernel) rfl
    · rfl
theorem ze_108_24 {V : zVt} {J : zJt} {d : Nat → Nat → UInt64} (x1 : Int) (x2 : Int) (x3 : Int) (x4 : Nat) (h4 : zBk 5 x4) : zGo false 108 24 [.ref 0, .int (zi x1), .int (zi x2), .int (zi x3), .ref x4] [] (zm V J d) =
    some (.inr 1, zm V J d) := by
  exact zr_thr (i := 83) (e := 1) (w := 0) (by decide +kernel) (by decide +kernel) (by decide +kernel) (by decide)
/-! PartSongDesk print (II)I -/
theorem ze_109_0 {V : zVt} {J : zJt} {d : Nat → Nat → UInt64} (x1 : Int) (x2 : Int) : zGo false 109 0 [.ref 0, .int (zi x1), .int (zi x2), .null, .null] [] (zm V J d) =
    (zGo false 100 0 [.ref 0, .int (zi x1), .int (zi x2), .null] [] (zm V J d)).bind (zGor false 109 6 [.ref 0, .int (zi x1), .int (zi x2), .null, .null] []) := by
  refine (zr_aload_n (n := 0) (x := 0) (by decide +kernel) rfl).trans ?_
  refine (zr_iload_n (n := 1) (x := zi x1) (by decide +kernel) rfl).trans ?_
  refine (zr_iload_n (n := 2) (x := zi x2) (by decide +kernel) rfl).trans ?_
  exact zr_cV (i := 120) (z := 100) (w := 0) (o := 0) (t := [.int (zi x2), .int (zi x1)]) (rest := []) (L := [.ref 0, .int (zi x1), .int (zi x2), .null]) (pc1 := 6) (by decide +kernel) (by decide +kernel) rfl (n := 2) (r := 0) rfl rfl rfl (by decide +kernel) rfl rfl
theorem ze_109_6 {V : zVt} {J : zJt} {d : Nat → Nat → UInt64} (x1 : Int) (x2 : Int) (s0 : Nat) (g0 : zBk 6 s0) : zGo false 109 6 [.ref 0, .int (zi x1), .int (zi x2), .null, .null] [.ref s0] (zm V J d) =
    (if qw (V s0 4) ≠ 0 then zGo false 109 23 [.ref 0, .int (zi x1), .int (zi x2), .ref s0, .null] [] (zm V J d) else (if qw (V 0 2) < qw (40) then zck (qw (1) = 0 ∨ qw (1) = 1) (zck (0 ≤ qw ((vup V s0 3 (1)) 0 2) ∧ qw ((vup V s0 3 (1)) 0 2) < 40) ((zGo false 110 0 [.ref 0, .ref (230 + 5 * (qw ((vup V s0 3 (1)) 0 2)).toNat)] [] (zm (vup (vup (vup V s0 3 (1)) (230 + 5 * (qw ((vup V s0 3 (1)) 0 2)).toNat) 0 ((x1 * (4)) + x2)) 0 2 (((vup (vup V s0 3 (1)) (230 + 5 * (qw ((vup V s0 3 (1)) 0 2)).toNat) 0 ((x1 * (4)) + x2)) 0 2) + (1))) J d)).bind (zGor false 109 75 [.ref 0, .int (zi x1), .int (zi x2), .ref s0, .ref (230 + 5 * (qw ((vup V s0 3 (1)) 0 2)).toNat)] []))) else zGo false 109 23 [.ref 0, .int (zi x1), .int (zi x2), .ref s0, .null] [] (zm V J d))) := by
  refine (zr_astore_n (n := 3) (l1 := [.ref 0, .int (zi x1), .int (zi x2), .ref s0, .null]) (by decide +kernel) rfl).trans ?_
  refine (zr_aload_n (n := 3) (x := s0) (by decide +kernel) rfl).trans ?_
  refine (zr_getI (i := 123) (c := 6) (k := 4) (by decide +kernel) (by decide +kernel) (zb6_0 g0) (by decide +kernel)).trans ?_
  refine (zr_ifne (off := 12) (a := (V s0 4)) (t := 23) (by decide +kernel) rfl).trans (zif_ct (fun _ => ?_) (fun _ => ?_))
  · rfl
  · refine (zr_aload_n (n := 0) (x := 0) (by decide +kernel) rfl).trans ?_
    refine (zr_getI (i := 171) (c := 11) (k := 2) (by decide +kernel) (by decide +kernel) rfl (by decide +kernel)).trans ?_
    refine (zr_bipush (n := 40) (by decide +kernel) rfl).trans ?_
    refine (zr_clt (off := 13) (a := (V 0 2)) (b := (40)) (t := 33) (by decide +kernel) rfl).trans (zif_ct (fun _ => ?_) (fun _ => ?_))
    · refine (zr_aload_n (n := 3) (x := s0) (by decide +kernel) rfl).trans ?_
      refine (zr_iconst (n := 1) (by decide +kernel)).trans ?_
      refine (zr_putZ (i := 90) (c := 6) (k := 3) (x := (1)) (by decide +kernel) (by decide +kernel) (zb6_0 g0) (by decide +kernel)).trans (zck_ct fun _ => ?_)
      refine (zr_aload_n (n := 0) (x := 0) (by decide +kernel) rfl).trans ?_
      refine (zr_getR (i := 17) (c := 11) (k := 1) (r := 2) (by decide +kernel) (by decide +kernel) rfl (by decide +kernel) (zR0_f (o := 0) (c := 11) (n := 0) (k := 1) (j := 2) rfl (by decide) rfl)).trans ?_
      refine (zr_aload_n (n := 0) (x := 0) (by decide +kernel) rfl).trans ?_
      refine (zr_getI (i := 171) (c := 11) (k := 2) (by decide +kernel) (by decide +kernel) rfl (by decide +kernel)).trans ?_
      refine (zr_copies (e := ((vup V s0 3 (1)) 0 2)) (by decide +kernel)).trans (zck_ct fun q46 => ?_)
      refine (zr_astore (n := 4) (l1 := [.ref 0, .int (zi x1), .int (zi x2), .ref s0, .ref (230 + 5 * (qw ((vup V s0 3 (1)) 0 2)).toNat)]) (by decide +kernel) rfl).trans ?_
      refine (zr_aload (n := 4) (x := (230 + 5 * (qw ((vup V s0 3 (1)) 0 2)).toNat)) (by decide +kernel) rfl).trans ?_
      refine (zr_iload_n (n := 1) (x := zi x1) (by decide +kernel) rfl).trans ?_
      refine (zr_iconst (n := 4) (by decide +kernel)).trans ?_
      refine (zr_imul (a := x1) (b := (4)) (by decide +kernel)).trans ?_
      refine (zr_iload_n (n := 2) (x := zi x2) (by decide +kernel) rfl).trans ?_
      refine (zr_iadd (a := (x1 * (4))) (b := x2) (by decide +kernel)).trans ?_
      refine (zr_putI (i := 176) (c := 0) (k := 0) (x := ((x1 * (4)) + x2)) (by decide +kernel) (by decide +kernel) (zb0_0 (zBk_copy (show (qw ((vup V s0 3 (1)) 0 2)).toNat < 40 by omega))) (by decide +kernel)).trans ?_
      refine (zr_aload_n (n := 0) (x := 0) (by decide +kernel) rfl).trans ?_
      refine (zr_dup (by decide +kernel) rfl).trans ?_
      refine (zr_getI (i := 171) (c := 11) (k := 2) (by decide +kernel) (by decide +kernel) rfl (by decide +kernel)).trans ?_
      refine (zr_iconst (n := 1) (by decide +kernel)).trans ?_
      refine (zr_iadd (a := ((vup (vup V s0 3 (1)) (230 + 5 * (qw ((vup V s0 3 (1)) 0 2)).toNat) 0 ((x1 * (4)) + x2)) 0 2)) (b := (1)) (by decide +kernel)).trans ?_
      refine (zr_putI (i := 171) (c := 11) (k := 2) (x := (((vup (vup V s0 3 (1)) (230 + 5 * (qw ((vup V s0 3 (1)) 0 2)).toNat) 0 ((x1 * (4)) + x2)) 0 2) + (1))) (by decide +kernel) (by decide +kernel) rfl (by decide +kernel)).trans ?_
      refine (zr_aload_n (n := 0) (x := 0) (by decide +kernel) rfl).trans ?_
      refine (zr_aload (n := 4) (x := (230 + 5 * (qw ((vup V s0 3 (1)) 0 2)).toNat)) (by decide +kernel) rfl).trans ?_
      exact zr_cV (i := 179) (z := 110) (w := 0) (o := 0) (t := [.ref (230 + 5 * (qw ((vup V s0 3 (1)) 0 2)).toNat)]) (rest := []) (L := [.ref 0, .ref (230 + 5 * (qw ((vup V s0 3 (1)) 0 2)).toNat)]) (pc1 := 75) (by decide +kernel) (by decide +kernel) rfl (n := 1) (r := 0) rfl rfl rfl (by decide +kernel) rfl rfl
    · rfl
theorem ze_109_23 {V : zVt} {J : zJt} {d : Nat → Nat → UInt64} (x1 : Int) (x2 : Int) (x3 : Nat) (h3 : zBk 6 x3) : zGo false 109 23 [.ref 0, .int (zi x1), .int (zi x2), .ref x3, .null] [] (zm V J d) =
    some (.inr 2, zm V J d) := by
  exact zr_thr (i := 98) (e := 2) (w := 0) (by decide +kernel) (by decide +kernel) (by decide +kernel) (by decide)
theorem ze_109_75 {V : zVt} {J : zJt} {d : Nat → Nat → UInt64} (x1 : Int) (x2 : Int) (x3 : Nat) (x4 : Nat) (h3 : zBk 6 x3) (h4 : zBk 0 x4) : zGo false 109 75 [.ref 0, .int (zi x1), .int (zi x2), .ref x3, .ref x4] [] (zm V J d) =
    some (.inl (some (.int (zi ((V 0 2) - (1))))), zm V J d) := by
  refine (zr_aload_n (n := 0) (x := 0) (by decide +kernel) rfl).trans ?_
  refine (zr_getI (i := 171) (c := 11) (k := 2) (by decide +kernel) (by decide +kernel) rfl (by decide +kernel)).trans ?_
  refine (zr_iconst (n := 1) (by decide +kernel)).trans ?_
  refine (zr_isub (a := (V 0 2)) (b := (1)) (by decide +kernel)).trans ?_
  exact zr_iret (a := ((V 0 2) - (1))) (by decide +kernel) rfl
/-! PartSongDesk singCopy (LPartSongDesk$Copy;)V -/
theorem ze_110_0 {V : zVt} {J : zJt} {d : Nat → Nat → UInt64} (x1 : Nat) (h1 : zBk 0 x1) : zGo false 110 0 [.ref 0, .ref x1] [] (zm V J d) =
    zck (0 ≤ qw (V x1 0) ∧ qw (V x1 0) < 12) ((zGo false 68 0 [.ref 12, .ref ((50 + 15 * (qw (V x1 0)).toNat) + 2), .ref (x1 + 1), .ref 3, .ref (x1 + 3), .null] [] (zm V J d)).bind (zGor false 110 31 [.ref 0, .ref x1] [])) := by
  refine (zr_aload_n (n := 0) (x := 0) (by decide +kernel) rfl).trans ?_
  refine (zr_getR (i := 45) (c := 11) (k := 6) (r := 12) (by decide +kernel) (by decide +kernel) rfl (by decide +kernel) (zR0_f (o := 0) (c := 11) (n := 0) (k := 6) (j := 12) rfl (by decide) rfl)).trans ?_
  refine (zr_aload_n (n := 0) (x := 0) (by decide +kernel) rfl).trans ?_
  refine (zr_getR (i := 11) (c := 11) (k := 0) (r := 1) (by decide +kernel) (by decide +kernel) rfl (by decide +kernel) (zR0_f (o := 0) (c := 11) (n := 0) (k := 0) (j := 1) rfl (by decide) rfl)).trans ?_
  refine (zr_aload_n (n := 1) (x := x1) (by decide +kernel) rfl).trans ?_
  refine (zr_getI (i := 176) (c := 0) (k := 0) (by decide +kernel) (by decide +kernel) (zb0_0 h1) (by decide +kernel)).trans ?_
  refine (zr_parts (e := (V x1 0)) (by decide +kernel)).trans (zck_ct fun q12 => ?_)
  refine (zr_getR (i := 129) (c := 6) (k := 6) (r := ((50 + 15 * (qw (V x1 0)).toNat) + 2)) (by decide +kernel) (by decide +kernel) (zb6_0 (zBk_part (show (qw (V x1 0)).toNat < 12 by omega))) (by decide +kernel) (zR0_f (o := (50 + 15 * (qw (V x1 0)).toNat)) (c := 6) (n := 0) (k := 6) (j := 2) (zb6_0 (zBk_part (show (qw (V x1 0)).toNat < 12 by omega))) (by decide) rfl)).trans ?_
  refine (zr_aload_n (n := 1) (x := x1) (by decide +kernel) rfl).trans ?_
  refine (zr_getR (i := 198) (c := 0) (k := 2) (r := (x1 + 1)) (by decide +kernel) (by decide +kernel) (zb0_0 h1) (by decide +kernel) (zR0_f (o := x1) (c := 0) (n := 0) (k := 2) (j := 1) (zb0_0 h1) (by decide) rfl)).trans ?_
  refine (zr_aload_n (n := 0) (x := 0) (by decide +kernel) rfl).trans ?_
  refine (zr_getR (i := 24) (c := 11) (k := 3) (r := 3) (by decide +kernel) (by decide +kernel) rfl (by decide +kernel) (zR0_f (o := 0) (c := 11) (n := 0) (k := 3) (j := 3) rfl (by decide) rfl)).trans ?_
  refine (zr_aload_n (n := 1) (x := x1) (by decide +kernel) rfl).trans ?_
  refine (zr_getR (i := 236) (c := 0) (k := 3) (r := (x1 + 3)) (by decide +kernel) (by decide +kernel) (zb0_0 h1) (by decide +kernel) (zR0_f (o := x1) (c := 0) (n := 0) (k := 3) (j := 3) (zb0_0 h1) (by decide) rfl)).trans ?_
  exact zr_cV (i := 241) (z := 68) (w := 0) (o := 12) (t := [.ref (x1 + 3), .ref 3, .ref (x1 + 1), .ref ((50 + 15 * (qw (V x1 0)).toNat) + 2)]) (rest := []) (L := [.ref 12, .ref ((50 + 15 * (qw (V x1 0)).toNat) + 2), .ref (x1 + 1), .ref 3, .ref (x1 + 3), .null]) (pc1 := 31) (by decide +kernel) (by decide +kernel) rfl (n := 4) (r := 0) rfl rfl rfl (by decide +kernel) rfl rfl
theorem ze_110_31 {V : zVt} {J : zJt} {d : Nat → Nat → UInt64} (x1 : Nat) (h1 : zBk 0 x1) : zGo false 110 31 [.ref 0, .ref x1] [] (zm V J d) =
    some (.inl none, zm V J d) := by
  exact zr_vret (by decide +kernel) rfl
/-! PartSongDesk lend (II)I -/
theorem ze_111_0 {V : zVt} {J : zJt} {d : Nat → Nat → UInt64} (x1 : Int) (x2 : Int) : zGo false 111 0 [.ref 0, .int (zi x1), .int (zi x2), .null] [] (zm V J d) =
    (zGo false 112 0 [.ref 0, .int (zi x1)] [] (zm V J d)).bind (zGor false 111 5 [.ref 0, .int (zi x1), .int (zi x2), .null] []) := by
  refine (zr_aload_n (n := 0) (x := 0) (by decide +kernel) rfl).trans ?_
  refine (zr_iload_n (n := 1) (x := zi x1) (by decide +kernel) rfl).trans ?_
  exact zr_cV (i := 183) (z := 112) (w := 0) (o := 0) (t := [.int (zi x1)]) (rest := []) (L := [.ref 0, .int (zi x1)]) (pc1 := 5) (by decide +kernel) (by decide +kernel) rfl (n := 1) (r := 0) rfl rfl rfl (by decide +kernel) rfl rfl
theorem ze_111_5 {V : zVt} {J : zJt} {d : Nat → Nat → UInt64} (x1 : Int) (x2 : Int) (s0 : Nat) (g0 : zBk 0 s0) : zGo false 111 5 [.ref 0, .int (zi x1), .int (zi x2), .null] [.ref s0] (zm V J d) =
    (if qw x2 < 0 then zGo false 111 16 [.ref 0, .int (zi x1), .int (zi x2), .ref s0] [] (zm V J d) else (if qw x2 < qw (12) then (if qw (V s0 1) ≠ qw (-1) then zGo false 111 48 [.ref 0, .int (zi x1), .int (zi x2), .ref s0] [] (zm V J d) else zck (qw (4) ≠ 0) ((zGo false 113 0 [.ref 0, .int (zi x2), .int (zi (qdiv (V s0 0) (4))), .null] [] (zm V J d)).bind (zGor false 111 45 [.ref 0, .int (zi x1), .int (zi x2), .ref s0] []))) else zGo false 111 16 [.ref 0, .int (zi x1), .int (zi x2), .ref s0] [] (zm V J d))) := by
  refine (zr_astore_n (n := 3) (l1 := [.ref 0, .int (zi x1), .int (zi x2), .ref s0]) (by decide +kernel) rfl).trans ?_
  refine (zr_iload_n (n := 2) (x := zi x2) (by decide +kernel) rfl).trans ?_
  refine (zr_iflt (off := 9) (a := x2) (t := 16) (by decide +kernel) rfl).trans (zif_ct (fun _ => ?_) (fun _ => ?_))
  · rfl
  · refine (zr_iload_n (n := 2) (x := zi x2) (by decide +kernel) rfl).trans ?_
    refine (zr_bipush (n := 12) (by decide +kernel) rfl).trans ?_
    refine (zr_clt (off := 13) (a := x2) (b := (12)) (t := 26) (by decide +kernel) rfl).trans (zif_ct (fun _ => ?_) (fun _ => ?_))
    · refine (zr_aload_n (n := 3) (x := s0) (by decide +kernel) rfl).trans ?_
      refine (zr_getI (i := 189) (c := 0) (k := 1) (by decide +kernel) (by decide +kernel) (zb0_0 g0) (by decide +kernel)).trans ?_
      refine (zr_iconst (n := -1) (by decide +kernel)).trans ?_
      refine (zr_cne (off := 17) (a := (V s0 1)) (b := (-1)) (t := 48) (by decide +kernel) rfl).trans (zif_ct (fun _ => ?_) (fun _ => ?_))
      · rfl
      · refine (zr_aload_n (n := 0) (x := 0) (by decide +kernel) rfl).trans ?_
        refine (zr_iload_n (n := 2) (x := zi x2) (by decide +kernel) rfl).trans ?_
        refine (zr_aload_n (n := 3) (x := s0) (by decide +kernel) rfl).trans ?_
        refine (zr_getI (i := 176) (c := 0) (k := 0) (by decide +kernel) (by decide +kernel) (zb0_0 g0) (by decide +kernel)).trans ?_
        refine (zr_iconst (n := 4) (by decide +kernel)).trans ?_
        refine (zr_idiv (a := (V s0 0)) (b := (4)) (by decide +kernel)).trans (zck_ct fun _ => ?_)
        exact zr_cV (i := 192) (z := 113) (w := 0) (o := 0) (t := [.int (zi (qdiv (V s0 0) (4))), .int (zi x2)]) (rest := []) (L := [.ref 0, .int (zi x2), .int (zi (qdiv (V s0 0) (4))), .null]) (pc1 := 45) (by decide +kernel) (by decide +kernel) rfl (n := 2) (r := 0) rfl rfl rfl (by decide +kernel) rfl rfl
    · rfl
theorem ze_111_16 {V : zVt} {J : zJt} {d : Nat → Nat → UInt64} (x1 : Int) (x2 : Int) (x3 : Nat) (h3 : zBk 0 x3) : zGo false 111 16 [.ref 0, .int (zi x1), .int (zi x2), .ref x3] [] (zm V J d) =
    some (.inr 0, zm V J d) := by
  exact zr_thr (i := 139) (e := 0) (w := 0) (by decide +kernel) (by decide +kernel) (by decide +kernel) (by decide)
theorem ze_111_45 {V : zVt} {J : zJt} {d : Nat → Nat → UInt64} (x1 : Int) (x2 : Int) (x3 : Nat) (s0 : Int) (h3 : zBk 0 x3) : zGo false 111 45 [.ref 0, .int (zi x1), .int (zi x2), .ref x3] [.int (zi s0)] (zm V J d) =
    (if qw s0 = 0 then zck (0 ≤ qw ((vup V x3 1 x2) x3 0) ∧ qw ((vup V x3 1 x2) x3 0) < 12) ((zGo false 26 0 [.ref (x3 + 1), .ref ((50 + 15 * (qw ((vup V x3 1 x2) x3 0)).toNat) + 11), .null] [] (zm (vup V x3 1 x2) J d)).bind (zGor false 111 82 [.ref 0, .int (zi x1), .int (zi x2), .ref x3] [])) else zGo false 111 48 [.ref 0, .int (zi x1), .int (zi x2), .ref x3] [] (zm V J d)) := by
  refine (zr_ifeq (off := 13) (a := s0) (t := 58) (by decide +kernel) rfl).trans (zif_ct (fun _ => ?_) (fun _ => ?_))
  · refine (zr_aload_n (n := 3) (x := x3) (by decide +kernel) rfl).trans ?_
    refine (zr_iload_n (n := 2) (x := zi x2) (by decide +kernel) rfl).trans ?_
    refine (zr_putI (i := 189) (c := 0) (k := 1) (x := x2) (by decide +kernel) (by decide +kernel) (zb0_0 h3) (by decide +kernel)).trans ?_
    refine (zr_aload_n (n := 3) (x := x3) (by decide +kernel) rfl).trans ?_
    refine (zr_getR (i := 198) (c := 0) (k := 2) (r := (x3 + 1)) (by decide +kernel) (by decide +kernel) (zb0_0 h3) (by decide +kernel) (zR0_f (o := x3) (c := 0) (n := 0) (k := 2) (j := 1) (zb0_0 h3) (by decide) rfl)).trans ?_
    refine (zr_aload_n (n := 0) (x := 0) (by decide +kernel) rfl).trans ?_
    refine (zr_getR (i := 11) (c := 11) (k := 0) (r := 1) (by decide +kernel) (by decide +kernel) rfl (by decide +kernel) (zR0_f (o := 0) (c := 11) (n := 0) (k := 0) (j := 1) rfl (by decide) rfl)).trans ?_
    refine (zr_aload_n (n := 3) (x := x3) (by decide +kernel) rfl).trans ?_
    refine (zr_getI (i := 176) (c := 0) (k := 0) (by decide +kernel) (by decide +kernel) (zb0_0 h3) (by decide +kernel)).trans ?_
    refine (zr_parts (e := ((vup V x3 1 x2) x3 0)) (by decide +kernel)).trans (zck_ct fun q75 => ?_)
    refine (zr_getR (i := 202) (c := 6) (k := 7) (r := ((50 + 15 * (qw ((vup V x3 1 x2) x3 0)).toNat) + 11)) (by decide +kernel) (by decide +kernel) (zb6_0 (zBk_part (show (qw ((vup V x3 1 x2) x3 0)).toNat < 12 by omega))) (by decide +kernel) (zR0_f (o := (50 + 15 * (qw ((vup V x3 1 x2) x3 0)).toNat)) (c := 6) (n := 0) (k := 7) (j := 11) (zb6_0 (zBk_part (show (qw ((vup V x3 1 x2) x3 0)).toNat < 12 by omega))) (by decide) rfl)).trans ?_
    exact zr_cV (i := 203) (z := 26) (w := 0) (o := (x3 + 1)) (t := [.ref ((50 + 15 * (qw ((vup V x3 1 x2) x3 0)).toNat) + 11)]) (rest := []) (L := [.ref (x3 + 1), .ref ((50 + 15 * (qw ((vup V x3 1 x2) x3 0)).toNat) + 11), .null]) (pc1 := 82) (by decide +kernel) (by decide +kernel) (zb4_0 (zBk_0marks h3)) (n := 1) (r := 0) rfl rfl rfl (by decide +kernel) rfl rfl
  · rfl
theorem ze_111_48 {V : zVt} {J : zJt} {d : Nat → Nat → UInt64} (x1 : Int) (x2 : Int) (x3 : Nat) (h3 : zBk 0 x3) : zGo false 111 48 [.ref 0, .int (zi x1), .int (zi x2), .ref x3] [] (zm V J d) =
    some (.inr 2, zm V J d) := by
  exact zr_thr (i := 98) (e := 2) (w := 0) (by decide +kernel) (by decide +kernel) (by decide +kernel) (by decide)
theorem ze_111_82 {V : zVt} {J : zJt} {d : Nat → Nat → UInt64} (x1 : Int) (x2 : Int) (x3 : Nat) (h3 : zBk 0 x3) : zGo false 111 82 [.ref 0, .int (zi x1), .int (zi x2), .ref x3] [] (zm V J d) =
    (zGo false 110 0 [.ref 0, .ref x3] [] (zm V J d)).bind (zGor false 111 87 [.ref 0, .int (zi x1), .int (zi x2), .ref x3] []) := by
  refine (zr_aload_n (n := 0) (x := 0) (by decide +kernel) rfl).trans ?_
  refine (zr_aload_n (n := 3) (x := x3) (by decide +kernel) rfl).trans ?_
  exact zr_cV (i := 179) (z := 110) (w := 0) (o := 0) (t := [.ref x3]) (rest := []) (L := [.ref 0, .ref x3]) (pc1 := 87) (by decide +kernel) (by decide +kernel) rfl (n := 1) (r := 0) rfl rfl rfl (by decide +kernel) rfl rfl
theorem ze_111_87 {V : zVt} {J : zJt} {d : Nat → Nat → UInt64} (x1 : Int) (x2 : Int) (x3 : Nat) (h3 : zBk 0 x3) : zGo false 111 87 [.ref 0, .int (zi x1), .int (zi x2), .ref x3] [] (zm V J d) =
    some (.inl (some (.int (zi (V (x3 + 1) 1)))), zm V J d) := by
  refine (zr_aload_n (n := 3) (x := x3) (by decide +kernel) rfl).trans ?_
  refine (zr_getR (i := 198) (c := 0) (k := 2) (r := (x3 + 1)) (by decide +kernel) (by decide +kernel) (zb0_0 h3) (by decide +kernel) (zR0_f (o := x3) (c := 0) (n := 0) (k := 2) (j := 1) (zb0_0 h3) (by decide) rfl)).trans ?_
  refine (zr_getI (i := 209) (c := 4) (k := 1) (by decide +kernel) (by decide +kernel) (zb4_0 (zBk_0marks h3)) (by decide +kernel)).trans ?_
  exact zr_iret (a := (V (x3 + 1) 1)) (by decide +kernel) rfl
/-! PartSongDesk copyOf (I)LPartSongDesk$Copy; -/
theorem ze_112_0 {V : zVt} {J : zJt} {d : Nat → Nat → UInt64} (x1 : Int) : zGo false 112 0 [.ref 0, .int (zi x1)] [] (zm V J d) =
    (if qw x1 < 0 then zGo false 112 12 [.ref 0, .int (zi x1)] [] (zm V J d) else (if qw x1 < qw (V 0 2) then zck (0 ≤ qw x1 ∧ qw x1 < 40) (some (.inl (some (.ref (230 + 5 * (qw x1).toNat))), zm V J d)) else zGo false 112 12 [.ref 0, .int (zi x1)] [] (zm V J d))) := by
  refine (zr_iload_n (n := 1) (x := zi x1) (by decide +kernel) rfl).trans ?_
  refine (zr_iflt (off := 11) (a := x1) (t := 12) (by decide +kernel) rfl).trans (zif_ct (fun _ => ?_) (fun _ => ?_))
  · rfl
  · refine (zr_iload_n (n := 1) (x := zi x1) (by decide +kernel) rfl).trans ?_
    refine (zr_aload_n (n := 0) (x := 0) (by decide +kernel) rfl).trans ?_
    refine (zr_getI (i := 171) (c := 11) (k := 2) (by decide +kernel) (by decide +kernel) rfl (by decide +kernel)).trans ?_
    refine (zr_clt (off := 14) (a := x1) (b := (V 0 2)) (t := 23) (by decide +kernel) rfl).trans (zif_ct (fun _ => ?_) (fun _ => ?_))
    · refine (zr_aload_n (n := 0) (x := 0) (by decide +kernel) rfl).trans ?_
      refine (zr_getR (i := 17) (c := 11) (k := 1) (r := 2) (by decide +kernel) (by decide +kernel) rfl (by decide +kernel) (zR0_f (o := 0) (c := 11) (n := 0) (k := 1) (j := 2) rfl (by decide) rfl)).trans ?_
      refine (zr_iload_n (n := 1) (x := zi x1) (by decide +kernel) rfl).trans ?_
      refine (zr_copies (e := x1) (by decide +kernel)).trans (zck_ct fun q28 => ?_)
      exact zr_aret (n := "PartSongDesk$Copy") (by decide +kernel) rfl
    · rfl
theorem ze_112_12 {V : zVt} {J : zJt} {d : Nat → Nat → UInt64} (x1 : Int) : zGo false 112 12 [.ref 0, .int (zi x1)] [] (zm V J d) =
    some (.inr 0, zm V J d) := by
  exact zr_thr (i := 139) (e := 0) (w := 0) (by decide +kernel) (by decide +kernel) (by decide +kernel) (by decide)
/-! PartSongDesk hasCopyOf (II)Z -/
theorem ze_113_0 {V : zVt} {J : zJt} {d : Nat → Nat → UInt64} (x1 : Int) (x2 : Int) : zGo false 113 0 [.ref 0, .int (zi x1), .int (zi x2), .null] [] (zm V J d) =
    zGo false 113 2 [.ref 0, .int (zi x1), .int (zi x2), .int (zi (0))] [] (zm V J d) := by
  refine (zr_iconst (n := 0) (by decide +kernel)).trans ?_
  refine (zr_istore_n (n := 3) (l1 := [.ref 0, .int (zi x1), .int (zi x2), .int (zi (0))]) (by decide +kernel) rfl).trans ?_
  rfl
theorem ze_113_2 {V : zVt} {J : zJt} {d : Nat → Nat → UInt64} (x1 : Int) (x2 : Int) (x3 : Int) : zGo false 113 2 [.ref 0, .int (zi x1), .int (zi x2), .int (zi x3)] [] (zm V J d) =
    (if qw (V 0 2) ≤ qw x3 then zck (qw (0) = 0 ∨ qw (0) = 1) (some (.inl (some (.int (zi (0)))), zm V J d)) else zck (0 ≤ qw x3 ∧ qw x3 < 40) ((if qw (V (230 + 5 * (qw x3).toNat) 1) ≠ qw x1 then zGo false 113 40 [.ref 0, .int (zi x1), .int (zi x2), .int (zi x3)] [] (zm V J d) else zck (0 ≤ qw x3 ∧ qw x3 < 40) (zck (qw (4) ≠ 0) ((if qw (qdiv (V (230 + 5 * (qw x3).toNat) 0) (4)) ≠ qw x2 then zGo false 113 40 [.ref 0, .int (zi x1), .int (zi x2), .int (zi x3)] [] (zm V J d) else zck (qw (1) = 0 ∨ qw (1) = 1) (some (.inl (some (.int (zi (1)))), zm V J d)))))))) := by
  refine (zr_iload_n (n := 3) (x := zi x3) (by decide +kernel) rfl).trans ?_
  refine (zr_aload_n (n := 0) (x := 0) (by decide +kernel) rfl).trans ?_
  refine (zr_getI (i := 171) (c := 11) (k := 2) (by decide +kernel) (by decide +kernel) rfl (by decide +kernel)).trans ?_
  refine (zr_cge (off := 39) (a := x3) (b := (V 0 2)) (t := 46) (by decide +kernel) rfl).trans (zif_ct (fun _ => ?_) (fun _ => ?_))
  · refine (zr_iconst (n := 0) (by decide +kernel)).trans ?_
    exact zr_zret (a := (0)) (by decide +kernel) rfl
  · refine (zr_aload_n (n := 0) (x := 0) (by decide +kernel) rfl).trans ?_
    refine (zr_getR (i := 17) (c := 11) (k := 1) (r := 2) (by decide +kernel) (by decide +kernel) rfl (by decide +kernel) (zR0_f (o := 0) (c := 11) (n := 0) (k := 1) (j := 2) rfl (by decide) rfl)).trans ?_
    refine (zr_iload_n (n := 3) (x := zi x3) (by decide +kernel) rfl).trans ?_
    refine (zr_copies (e := x3) (by decide +kernel)).trans (zck_ct fun q15 => ?_)
    refine (zr_getI (i := 189) (c := 0) (k := 1) (by decide +kernel) (by decide +kernel) (zb0_0 (zBk_copy (show (qw x3).toNat < 40 by omega))) (by decide +kernel)).trans ?_
    refine (zr_iload_n (n := 1) (x := zi x1) (by decide +kernel) rfl).trans ?_
    refine (zr_cne (off := 20) (a := (V (230 + 5 * (qw x3).toNat) 1)) (b := x1) (t := 40) (by decide +kernel) rfl).trans (zif_ct (fun _ => ?_) (fun _ => ?_))
    · rfl
    · refine (zr_aload_n (n := 0) (x := 0) (by decide +kernel) rfl).trans ?_
      refine (zr_getR (i := 17) (c := 11) (k := 1) (r := 2) (by decide +kernel) (by decide +kernel) rfl (by decide +kernel) (zR0_f (o := 0) (c := 11) (n := 0) (k := 1) (j := 2) rfl (by decide) rfl)).trans ?_
      refine (zr_iload_n (n := 3) (x := zi x3) (by decide +kernel) rfl).trans ?_
      refine (zr_copies (e := x3) (by decide +kernel)).trans (zck_ct fun q28 => ?_)
      refine (zr_getI (i := 176) (c := 0) (k := 0) (by decide +kernel) (by decide +kernel) (zb0_0 (zBk_copy (show (qw x3).toNat < 40 by omega))) (by decide +kernel)).trans ?_
      refine (zr_iconst (n := 4) (by decide +kernel)).trans ?_
      refine (zr_idiv (a := (V (230 + 5 * (qw x3).toNat) 0)) (b := (4)) (by decide +kernel)).trans (zck_ct fun _ => ?_)
      refine (zr_iload_n (n := 2) (x := zi x2) (by decide +kernel) rfl).trans ?_
      refine (zr_cne (off := 5) (a := (qdiv (V (230 + 5 * (qw x3).toNat) 0) (4))) (b := x2) (t := 40) (by decide +kernel) rfl).trans (zif_ct (fun _ => ?_) (fun _ => ?_))
      · rfl
      · refine (zr_iconst (n := 1) (by decide +kernel)).trans ?_
        exact zr_zret (a := (1)) (by decide +kernel) rfl
theorem ze_113_40 {V : zVt} {J : zJt} {d : Nat → Nat → UInt64} (x1 : Int) (x2 : Int) (x3 : Int) : zGo false 113 40 [.ref 0, .int (zi x1), .int (zi x2), .int (zi x3)] [] (zm V J d) =
    zGo false 113 2 [.ref 0, .int (zi x1), .int (zi x2), .int (zi (x3 + 1))] [] (zm V J d) := by
  refine (zr_iinc (n := 3) (k := 1) (x := x3) (l1 := [.ref 0, .int (zi x1), .int (zi x2), .int (zi (x3 + 1))]) (by decide +kernel) rfl rfl).trans ?_
  refine (zr_goto (off := -41) (t := 2) (by decide +kernel) rfl).trans ?_
  rfl
/-! PartSongDesk back (I)I -/
theorem ze_114_0 {V : zVt} {J : zJt} {d : Nat → Nat → UInt64} (x1 : Int) : zGo false 114 0 [.ref 0, .int (zi x1), .null] [] (zm V J d) =
    (zGo false 112 0 [.ref 0, .int (zi x1)] [] (zm V J d)).bind (zGor false 114 5 [.ref 0, .int (zi x1), .null] []) := by
  refine (zr_aload_n (n := 0) (x := 0) (by decide +kernel) rfl).trans ?_
  refine (zr_iload_n (n := 1) (x := zi x1) (by decide +kernel) rfl).trans ?_
  exact zr_cV (i := 183) (z := 112) (w := 0) (o := 0) (t := [.int (zi x1)]) (rest := []) (L := [.ref 0, .int (zi x1)]) (pc1 := 5) (by decide +kernel) (by decide +kernel) rfl (n := 1) (r := 0) rfl rfl rfl (by decide +kernel) rfl rfl
theorem ze_114_5 {V : zVt} {J : zJt} {d : Nat → Nat → UInt64} (x1 : Int) (s0 : Nat) (g0 : zBk 0 s0) : zGo false 114 5 [.ref 0, .int (zi x1), .null] [.ref s0] (zm V J d) =
    (if qw (V s0 1) ≠ qw (-1) then (zGo false 115 0 [.ref 0, .ref s0, .null, .null] [] (zm V J d)).bind (zGor false 114 29 [.ref 0, .int (zi x1), .ref s0] []) else some (.inr 2, zm V J d)) := by
  refine (zr_astore_n (n := 2) (l1 := [.ref 0, .int (zi x1), .ref s0]) (by decide +kernel) rfl).trans ?_
  refine (zr_aload_n (n := 2) (x := s0) (by decide +kernel) rfl).trans ?_
  refine (zr_getI (i := 189) (c := 0) (k := 1) (by decide +kernel) (by decide +kernel) (zb0_0 g0) (by decide +kernel)).trans ?_
  refine (zr_iconst (n := -1) (by decide +kernel)).trans ?_
  refine (zr_cne (off := 13) (a := (V s0 1)) (b := (-1)) (t := 24) (by decide +kernel) rfl).trans (zif_ct (fun _ => ?_) (fun _ => ?_))
  · refine (zr_aload_n (n := 0) (x := 0) (by decide +kernel) rfl).trans ?_
    refine (zr_aload_n (n := 2) (x := s0) (by decide +kernel) rfl).trans ?_
    exact zr_cV (i := 214) (z := 115) (w := 0) (o := 0) (t := [.ref s0]) (rest := []) (L := [.ref 0, .ref s0, .null, .null]) (pc1 := 29) (by decide +kernel) (by decide +kernel) rfl (n := 1) (r := 0) rfl rfl rfl (by decide +kernel) rfl rfl
  · exact zr_thr (i := 98) (e := 2) (w := 0) (by decide +kernel) (by decide +kernel) (by decide +kernel) (by decide)
theorem ze_114_29 {V : zVt} {J : zJt} {d : Nat → Nat → UInt64} (x1 : Int) (x2 : Nat) (s0 : Int) (h2 : zBk 0 x2) : zGo false 114 29 [.ref 0, .int (zi x1), .ref x2] [.int (zi s0)] (zm V J d) =
    some (.inl (some (.int (zi s0))), zm V J d) := by
  exact zr_iret (a := s0) (by decide +kernel) rfl
/-! PartSongDesk takeBack (LPartSongDesk$Copy;)I -/
theorem ze_115_0 {V : zVt} {J : zJt} {d : Nat → Nat → UInt64} (x1 : Nat) (h1 : zBk 0 x1) : zGo false 115 0 [.ref 0, .ref x1, .null, .null] [] (zm V J d) =
    zck (0 ≤ qw (V x1 0) ∧ qw (V x1 0) < 12) ((zGo false 27 0 [.ref ((50 + 15 * (qw (V x1 0)).toNat) + 11), .ref (x1 + 1), .null, .null] [] (zm (vup V x1 1 (-1)) J d)).bind (zGor false 115 26 [.ref 0, .ref x1, .ref (50 + 15 * (qw (V x1 0)).toNat), .null] [])) := by
  refine (zr_aload_n (n := 0) (x := 0) (by decide +kernel) rfl).trans ?_
  refine (zr_getR (i := 11) (c := 11) (k := 0) (r := 1) (by decide +kernel) (by decide +kernel) rfl (by decide +kernel) (zR0_f (o := 0) (c := 11) (n := 0) (k := 0) (j := 1) rfl (by decide) rfl)).trans ?_
  refine (zr_aload_n (n := 1) (x := x1) (by decide +kernel) rfl).trans ?_
  refine (zr_getI (i := 176) (c := 0) (k := 0) (by decide +kernel) (by decide +kernel) (zb0_0 h1) (by decide +kernel)).trans ?_
  refine (zr_parts (e := (V x1 0)) (by decide +kernel)).trans (zck_ct fun q8 => ?_)
  refine (zr_astore_n (n := 2) (l1 := [.ref 0, .ref x1, .ref (50 + 15 * (qw (V x1 0)).toNat), .null]) (by decide +kernel) rfl).trans ?_
  refine (zr_aload_n (n := 1) (x := x1) (by decide +kernel) rfl).trans ?_
  refine (zr_iconst (n := -1) (by decide +kernel)).trans ?_
  refine (zr_putI (i := 189) (c := 0) (k := 1) (x := (-1)) (by decide +kernel) (by decide +kernel) (zb0_0 h1) (by decide +kernel)).trans ?_
  refine (zr_aload_n (n := 2) (x := (50 + 15 * (qw (V x1 0)).toNat)) (by decide +kernel) rfl).trans ?_
  refine (zr_getR (i := 202) (c := 6) (k := 7) (r := ((50 + 15 * (qw (V x1 0)).toNat) + 11)) (by decide +kernel) (by decide +kernel) (zb6_0 (zBk_part (show (qw (V x1 0)).toNat < 12 by omega))) (by decide +kernel) (zR0_f (o := (50 + 15 * (qw (V x1 0)).toNat)) (c := 6) (n := 0) (k := 7) (j := 11) (zb6_0 (zBk_part (show (qw (V x1 0)).toNat < 12 by omega))) (by decide) rfl)).trans ?_
  refine (zr_aload_n (n := 1) (x := x1) (by decide +kernel) rfl).trans ?_
  refine (zr_getR (i := 198) (c := 0) (k := 2) (r := (x1 + 1)) (by decide +kernel) (by decide +kernel) (zb0_0 h1) (by decide +kernel) (zR0_f (o := x1) (c := 0) (n := 0) (k := 2) (j := 1) (zb0_0 h1) (by decide) rfl)).trans ?_
  exact zr_cV (i := 341) (z := 27) (w := 0) (o := ((50 + 15 * (qw (V x1 0)).toNat) + 11)) (t := [.ref (x1 + 1)]) (rest := []) (L := [.ref ((50 + 15 * (qw (V x1 0)).toNat) + 11), .ref (x1 + 1), .null, .null]) (pc1 := 26) (by decide +kernel) (by decide +kernel) (zb4_0 (zBk_6marks (zBk_part (show (qw (V x1 0)).toNat < 12 by omega)))) (n := 1) (r := 0) rfl rfl rfl (by decide +kernel) rfl rfl
theorem ze_115_26 {V : zVt} {J : zJt} {d : Nat → Nat → UInt64} (x1 : Nat) (x2 : Nat) (s0 : Int) (h1 : zBk 0 x1) (h2 : zBk 6 x2) : zGo false 115 26 [.ref 0, .ref x1, .ref x2, .null] [.int (zi s0)] (zm V J d) =
    (if qw s0 ≤ 0 then zGo false 115 54 [.ref 0, .ref x1, .ref x2, .int (zi s0)] [] (zm V J d) else (zGo false 68 0 [.ref 12, .ref (x2 + 2), .ref (x2 + 11), .ref 3, .ref (x2 + 13), .null] [] (zm V J d)).bind (zGor false 115 54 [.ref 0, .ref x1, .ref x2, .int (zi s0)] [])) := by
  refine (zr_istore_n (n := 3) (l1 := [.ref 0, .ref x1, .ref x2, .int (zi s0)]) (by decide +kernel) rfl).trans ?_
  refine (zr_iload_n (n := 3) (x := zi s0) (by decide +kernel) rfl).trans ?_
  refine (zr_ifle (off := 26) (a := s0) (t := 54) (by decide +kernel) rfl).trans (zif_ct (fun _ => ?_) (fun _ => ?_))
  · rfl
  · refine (zr_aload_n (n := 0) (x := 0) (by decide +kernel) rfl).trans ?_
    refine (zr_getR (i := 45) (c := 11) (k := 6) (r := 12) (by decide +kernel) (by decide +kernel) rfl (by decide +kernel) (zR0_f (o := 0) (c := 11) (n := 0) (k := 6) (j := 12) rfl (by decide) rfl)).trans ?_
    refine (zr_aload_n (n := 2) (x := x2) (by decide +kernel) rfl).trans ?_
    refine (zr_getR (i := 129) (c := 6) (k := 6) (r := (x2 + 2)) (by decide +kernel) (by decide +kernel) (zb6_0 h2) (by decide +kernel) (zR0_f (o := x2) (c := 6) (n := 0) (k := 6) (j := 2) (zb6_0 h2) (by decide) rfl)).trans ?_
    refine (zr_aload_n (n := 2) (x := x2) (by decide +kernel) rfl).trans ?_
    refine (zr_getR (i := 202) (c := 6) (k := 7) (r := (x2 + 11)) (by decide +kernel) (by decide +kernel) (zb6_0 h2) (by decide +kernel) (zR0_f (o := x2) (c := 6) (n := 0) (k := 7) (j := 11) (zb6_0 h2) (by decide) rfl)).trans ?_
    refine (zr_aload_n (n := 0) (x := 0) (by decide +kernel) rfl).trans ?_
    refine (zr_getR (i := 24) (c := 11) (k := 3) (r := 3) (by decide +kernel) (by decide +kernel) rfl (by decide +kernel) (zR0_f (o := 0) (c := 11) (n := 0) (k := 3) (j := 3) rfl (by decide) rfl)).trans ?_
    refine (zr_aload_n (n := 2) (x := x2) (by decide +kernel) rfl).trans ?_
    refine (zr_getR (i := 148) (c := 6) (k := 8) (r := (x2 + 13)) (by decide +kernel) (by decide +kernel) (zb6_0 h2) (by decide +kernel) (zR0_f (o := x2) (c := 6) (n := 0) (k := 8) (j := 13) (zb6_0 h2) (by decide) rfl)).trans ?_
    exact zr_cV (i := 241) (z := 68) (w := 0) (o := 12) (t := [.ref (x2 + 13), .ref 3, .ref (x2 + 11), .ref (x2 + 2)]) (rest := []) (L := [.ref 12, .ref (x2 + 2), .ref (x2 + 11), .ref 3, .ref (x2 + 13), .null]) (pc1 := 54) (by decide +kernel) (by decide +kernel) rfl (n := 4) (r := 0) rfl rfl rfl (by decide +kernel) rfl rfl
theorem ze_115_54 {V : zVt} {J : zJt} {d : Nat → Nat → UInt64} (x1 : Nat) (x2 : Nat) (x3 : Int) (h1 : zBk 0 x1) (h2 : zBk 6 x2) : zGo false 115 54 [.ref 0, .ref x1, .ref x2, .int (zi x3)] [] (zm V J d) =
    some (.inl (some (.int (zi x3))), zm V J d) := by
  refine (zr_iload_n (n := 3) (x := zi x3) (by decide +kernel) rfl).trans ?_
  exact zr_iret (a := x3) (by decide +kernel) rfl
/-! PartSongDesk pencil (IIII)I -/
theorem ze_116_0 {V : zVt} {J : zJt} {d : Nat → Nat → UInt64} (x1 : Int) (x2 : Int) (x3 : Int) (x4 : Int) : zGo false 116 0 [.ref 0, .int (zi x1), .int (zi x2), .int (zi x3), .int (zi x4), .null, .null, .null] [] (zm V J d) =
    (zGo false 112 0 [.ref 0, .int (zi x1)] [] (zm V J d)).bind (zGor false 116 5 [.ref 0, .int (zi x1), .int (zi x2), .int (zi x3), .int (zi x4), .null, .null, .null] []) := by
  refine (zr_aload_n (n := 0) (x := 0) (by decide +kernel) rfl).trans ?_
  refine (zr_iload_n (n := 1) (x := zi x1) (by decide +kernel) rfl).trans ?_
  exact zr_cV (i := 183) (z := 112) (w := 0) (o := 0) (t := [.int (zi x1)]) (rest := []) (L := [.ref 0, .int (zi x1)]) (pc1 := 5) (by decide +kernel) (by decide +kernel) rfl (n := 1) (r := 0) rfl rfl rfl (by decide +kernel) rfl rfl
theorem ze_116_5 {V : zVt} {J : zJt} {d : Nat → Nat → UInt64} (x1 : Int) (x2 : Int) (x3 : Int) (x4 : Int) (s0 : Nat) (g0 : zBk 0 s0) : zGo false 116 5 [.ref 0, .int (zi x1), .int (zi x2), .int (zi x3), .int (zi x4), .null, .null, .null] [.ref s0] (zm V J d) =
    zck (0 ≤ qw (V s0 0) ∧ qw (V s0 0) < 12) ((zGo false 86 0 [.ref ((50 + 15 * (qw (V s0 0)).toNat) + 2), .int (zi x2)] [] (zm V J d)).bind (zGor false 116 28 [.ref 0, .int (zi x1), .int (zi x2), .int (zi x3), .int (zi x4), .ref s0, .ref ((50 + 15 * (qw (V s0 0)).toNat) + 2), .null] [])) := by
  refine (zr_astore (n := 5) (l1 := [.ref 0, .int (zi x1), .int (zi x2), .int (zi x3), .int (zi x4), .ref s0, .null, .null]) (by decide +kernel) rfl).trans ?_
  refine (zr_aload_n (n := 0) (x := 0) (by decide +kernel) rfl).trans ?_
  refine (zr_getR (i := 11) (c := 11) (k := 0) (r := 1) (by decide +kernel) (by decide +kernel) rfl (by decide +kernel) (zR0_f (o := 0) (c := 11) (n := 0) (k := 0) (j := 1) rfl (by decide) rfl)).trans ?_
  refine (zr_aload (n := 5) (x := s0) (by decide +kernel) rfl).trans ?_
  refine (zr_getI (i := 176) (c := 0) (k := 0) (by decide +kernel) (by decide +kernel) (zb0_0 g0) (by decide +kernel)).trans ?_
  refine (zr_parts (e := (V s0 0)) (by decide +kernel)).trans (zck_ct fun q16 => ?_)
  refine (zr_getR (i := 129) (c := 6) (k := 6) (r := ((50 + 15 * (qw (V s0 0)).toNat) + 2)) (by decide +kernel) (by decide +kernel) (zb6_0 (zBk_part (show (qw (V s0 0)).toNat < 12 by omega))) (by decide +kernel) (zR0_f (o := (50 + 15 * (qw (V s0 0)).toNat)) (c := 6) (n := 0) (k := 6) (j := 2) (zb6_0 (zBk_part (show (qw (V s0 0)).toNat < 12 by omega))) (by decide) rfl)).trans ?_
  refine (zr_astore (n := 6) (l1 := [.ref 0, .int (zi x1), .int (zi x2), .int (zi x3), .int (zi x4), .ref s0, .ref ((50 + 15 * (qw (V s0 0)).toNat) + 2), .null]) (by decide +kernel) rfl).trans ?_
  refine (zr_aload (n := 6) (x := ((50 + 15 * (qw (V s0 0)).toNat) + 2)) (by decide +kernel) rfl).trans ?_
  refine (zr_iload_n (n := 2) (x := zi x2) (by decide +kernel) rfl).trans ?_
  exact zr_cV (i := 135) (z := 86) (w := 0) (o := ((50 + 15 * (qw (V s0 0)).toNat) + 2)) (t := [.int (zi x2)]) (rest := []) (L := [.ref ((50 + 15 * (qw (V s0 0)).toNat) + 2), .int (zi x2)]) (pc1 := 28) (by decide +kernel) (by decide +kernel) (zb10_0 (zBk_6row (zBk_part (show (qw (V s0 0)).toNat < 12 by omega)))) (n := 1) (r := 0) rfl rfl rfl (by decide +kernel) rfl rfl
theorem ze_116_28 {V : zVt} {J : zJt} {d : Nat → Nat → UInt64} (x1 : Int) (x2 : Int) (x3 : Int) (x4 : Int) (x5 : Nat) (x6 : Nat) (s0 : Int) (h5 : zBk 0 x5) (h6 : zBk 10 x6) : zGo false 116 28 [.ref 0, .int (zi x1), .int (zi x2), .int (zi x3), .int (zi x4), .ref x5, .ref x6, .null] [.int (zi s0)] (zm V J d) =
    (if qw s0 ≠ 0 then (zGo false 5 0 [.ref 3, .int (zi x3), .int (zi x4)] [] (zm V J d)).bind (zGor false 116 51 [.ref 0, .int (zi x1), .int (zi x2), .int (zi x3), .int (zi x4), .ref x5, .ref x6, .null] []) else some (.inr 0, zm V J d)) := by
  refine (zr_ifne (off := 13) (a := s0) (t := 41) (by decide +kernel) rfl).trans (zif_ct (fun _ => ?_) (fun _ => ?_))
  · refine (zr_aload_n (n := 0) (x := 0) (by decide +kernel) rfl).trans ?_
    refine (zr_getR (i := 24) (c := 11) (k := 3) (r := 3) (by decide +kernel) (by decide +kernel) rfl (by decide +kernel) (zR0_f (o := 0) (c := 11) (n := 0) (k := 3) (j := 3) rfl (by decide) rfl)).trans ?_
    refine (zr_iload_n (n := 3) (x := zi x3) (by decide +kernel) rfl).trans ?_
    refine (zr_iload (n := 4) (x := zi x4) (by decide +kernel) rfl).trans ?_
    exact zr_cV (i := 218) (z := 5) (w := 0) (o := 3) (t := [.int (zi x4), .int (zi x3)]) (rest := []) (L := [.ref 3, .int (zi x3), .int (zi x4)]) (pc1 := 51) (by decide +kernel) (by decide +kernel) rfl (n := 2) (r := 0) rfl rfl rfl (by decide +kernel) rfl rfl
  · exact zr_thr (i := 139) (e := 0) (w := 0) (by decide +kernel) (by decide +kernel) (by decide +kernel) (by decide)
theorem ze_116_51 {V : zVt} {J : zJt} {d : Nat → Nat → UInt64} (x1 : Int) (x2 : Int) (x3 : Int) (x4 : Int) (x5 : Nat) (x6 : Nat) (s0 : Int) (h5 : zBk 0 x5) (h6 : zBk 10 x6) : zGo false 116 51 [.ref 0, .int (zi x1), .int (zi x2), .int (zi x3), .int (zi x4), .ref x5, .ref x6, .null] [.int (zi s0)] (zm V J d) =
    (if qw s0 ≠ 0 then (if qw (V x5 1) = qw (-1) then zGo false 116 104 [.ref 0, .int (zi x1), .int (zi x2), .int (zi x3), .int (zi x4), .ref x5, .ref x6, .null] [] (zm V J d) else zck (0 ≤ qw x2 ∧ qw x2 < (60 : Nat)) ((zGo false 7 0 [.ref 3, .int (zi x3), .int (zi (V (x6 + 1) (qw x2)))] [] (zm V J d)).bind (zGor false 116 88 [.ref 0, .int (zi x1), .int (zi x2), .int (zi x3), .int (zi x4), .ref x5, .ref x6, .null] []))) else some (.inr 1, zm V J d)) := by
  refine (zr_ifne (off := 13) (a := s0) (t := 64) (by decide +kernel) rfl).trans (zif_ct (fun _ => ?_) (fun _ => ?_))
  · refine (zr_aload (n := 5) (x := x5) (by decide +kernel) rfl).trans ?_
    refine (zr_getI (i := 189) (c := 0) (k := 1) (by decide +kernel) (by decide +kernel) (zb0_0 h5) (by decide +kernel)).trans ?_
    refine (zr_iconst (n := -1) (by decide +kernel)).trans ?_
    refine (zr_ceq (off := 34) (a := (V x5 1)) (b := (-1)) (t := 104) (by decide +kernel) rfl).trans (zif_ct (fun _ => ?_) (fun _ => ?_))
    · rfl
    · refine (zr_aload_n (n := 0) (x := 0) (by decide +kernel) rfl).trans ?_
      refine (zr_getR (i := 24) (c := 11) (k := 3) (r := 3) (by decide +kernel) (by decide +kernel) rfl (by decide +kernel) (zR0_f (o := 0) (c := 11) (n := 0) (k := 3) (j := 3) rfl (by decide) rfl)).trans ?_
      refine (zr_iload_n (n := 3) (x := zi x3) (by decide +kernel) rfl).trans ?_
      refine (zr_aload (n := 6) (x := x6) (by decide +kernel) rfl).trans ?_
      refine (zr_getR (i := 144) (c := 10) (k := 4) (r := (x6 + 1)) (by decide +kernel) (by decide +kernel) (zb10_0 h6) (by decide +kernel) (zR0_f (o := x6) (c := 10) (n := 0) (k := 4) (j := 1) (zb10_0 h6) (by decide) rfl)).trans ?_
      refine (zr_iload_n (n := 2) (x := zi x2) (by decide +kernel) rfl).trans ?_
      refine (zr_iald (n := 60) (e := x2) (by decide +kernel) (zb10_1 h6)).trans (zck_ct fun _ => ?_)
      exact zr_cV (i := 223) (z := 7) (w := 0) (o := 3) (t := [.int (zi (V (x6 + 1) (qw x2))), .int (zi x3)]) (rest := []) (L := [.ref 3, .int (zi x3), .int (zi (V (x6 + 1) (qw x2)))]) (pc1 := 88) (by decide +kernel) (by decide +kernel) rfl (n := 2) (r := 0) rfl rfl rfl (by decide +kernel) rfl rfl
  · exact zr_thr (i := 83) (e := 1) (w := 0) (by decide +kernel) (by decide +kernel) (by decide +kernel) (by decide)
theorem ze_116_88 {V : zVt} {J : zJt} {d : Nat → Nat → UInt64} (x1 : Int) (x2 : Int) (x3 : Int) (x4 : Int) (x5 : Nat) (x6 : Nat) (s0 : Int) (h5 : zBk 0 x5) (h6 : zBk 10 x6) : zGo false 116 88 [.ref 0, .int (zi x1), .int (zi x2), .int (zi x3), .int (zi x4), .ref x5, .ref x6, .null] [.int (zi s0)] (zm V J d) =
    (if qw s0 = 0 then zGo false 116 104 [.ref 0, .int (zi x1), .int (zi x2), .int (zi x3), .int (zi x4), .ref x5, .ref x6, .null] [] (zm V J d) else (if qw (V 3 0) < qw (200) then (zGo false 8 0 [.ref 3, .int (zi x2), .int (zi x3), .int (zi x4)] [] (zm V J d)).bind (zGor false 116 125 [.ref 0, .int (zi x1), .int (zi x2), .int (zi x3), .int (zi x4), .ref x5, .ref x6, .null] []) else zGo false 116 104 [.ref 0, .int (zi x1), .int (zi x2), .int (zi x3), .int (zi x4), .ref x5, .ref x6, .null] [] (zm V J d))) := by
  refine (zr_ifeq (off := 16) (a := s0) (t := 104) (by decide +kernel) rfl).trans (zif_ct (fun _ => ?_) (fun _ => ?_))
  · rfl
  · refine (zr_aload_n (n := 0) (x := 0) (by decide +kernel) rfl).trans ?_
    refine (zr_getR (i := 24) (c := 11) (k := 3) (r := 3) (by decide +kernel) (by decide +kernel) rfl (by decide +kernel) (zR0_f (o := 0) (c := 11) (n := 0) (k := 3) (j := 3) rfl (by decide) rfl)).trans ?_
    refine (zr_getI (i := 226) (c := 1) (k := 0) (by decide +kernel) (by decide +kernel) rfl (by decide +kernel)).trans ?_
    refine (zr_sipush (n := 200) (by decide +kernel) rfl).trans ?_
    refine (zr_clt (off := 13) (a := (V 3 0)) (b := (200)) (t := 114) (by decide +kernel) rfl).trans (zif_ct (fun _ => ?_) (fun _ => ?_))
    · refine (zr_aload_n (n := 0) (x := 0) (by decide +kernel) rfl).trans ?_
      refine (zr_getR (i := 24) (c := 11) (k := 3) (r := 3) (by decide +kernel) (by decide +kernel) rfl (by decide +kernel) (zR0_f (o := 0) (c := 11) (n := 0) (k := 3) (j := 3) rfl (by decide) rfl)).trans ?_
      refine (zr_iload_n (n := 2) (x := zi x2) (by decide +kernel) rfl).trans ?_
      refine (zr_iload_n (n := 3) (x := zi x3) (by decide +kernel) rfl).trans ?_
      refine (zr_iload (n := 4) (x := zi x4) (by decide +kernel) rfl).trans ?_
      exact zr_cV (i := 229) (z := 8) (w := 0) (o := 3) (t := [.int (zi x4), .int (zi x3), .int (zi x2)]) (rest := []) (L := [.ref 3, .int (zi x2), .int (zi x3), .int (zi x4)]) (pc1 := 125) (by decide +kernel) (by decide +kernel) rfl (n := 3) (r := 0) rfl rfl rfl (by decide +kernel) rfl rfl
    · rfl
theorem ze_116_104 {V : zVt} {J : zJt} {d : Nat → Nat → UInt64} (x1 : Int) (x2 : Int) (x3 : Int) (x4 : Int) (x5 : Nat) (x6 : Nat) (h5 : zBk 0 x5) (h6 : zBk 10 x6) : zGo false 116 104 [.ref 0, .int (zi x1), .int (zi x2), .int (zi x3), .int (zi x4), .ref x5, .ref x6, .null] [] (zm V J d) =
    some (.inr 2, zm V J d) := by
  exact zr_thr (i := 98) (e := 2) (w := 0) (by decide +kernel) (by decide +kernel) (by decide +kernel) (by decide)
theorem ze_116_125 {V : zVt} {J : zJt} {d : Nat → Nat → UInt64} (x1 : Int) (x2 : Int) (x3 : Int) (x4 : Int) (x5 : Nat) (x6 : Nat) (s0 : Int) (h5 : zBk 0 x5) (h6 : zBk 10 x6) : zGo false 116 125 [.ref 0, .int (zi x1), .int (zi x2), .int (zi x3), .int (zi x4), .ref x5, .ref x6, .null] [.int (zi s0)] (zm V J d) =
    (zGo false 28 0 [.ref (x5 + 1), .int (zi s0)] [] (zm V J d)).bind (zGor false 116 137 [.ref 0, .int (zi x1), .int (zi x2), .int (zi x3), .int (zi x4), .ref x5, .ref x6, .int (zi s0)] []) := by
  refine (zr_istore (n := 7) (l1 := [.ref 0, .int (zi x1), .int (zi x2), .int (zi x3), .int (zi x4), .ref x5, .ref x6, .int (zi s0)]) (by decide +kernel) rfl).trans ?_
  refine (zr_aload (n := 5) (x := x5) (by decide +kernel) rfl).trans ?_
  refine (zr_getR (i := 198) (c := 0) (k := 2) (r := (x5 + 1)) (by decide +kernel) (by decide +kernel) (zb0_0 h5) (by decide +kernel) (zR0_f (o := x5) (c := 0) (n := 0) (k := 2) (j := 1) (zb0_0 h5) (by decide) rfl)).trans ?_
  refine (zr_iload (n := 7) (x := zi s0) (by decide +kernel) rfl).trans ?_
  exact zr_cV (i := 233) (z := 28) (w := 0) (o := (x5 + 1)) (t := [.int (zi s0)]) (rest := []) (L := [.ref (x5 + 1), .int (zi s0)]) (pc1 := 137) (by decide +kernel) (by decide +kernel) (zb4_0 (zBk_0marks h5)) (n := 1) (r := 0) rfl rfl rfl (by decide +kernel) rfl rfl
theorem ze_116_137 {V : zVt} {J : zJt} {d : Nat → Nat → UInt64} (x1 : Int) (x2 : Int) (x3 : Int) (x4 : Int) (x5 : Nat) (x6 : Nat) (x7 : Int) (h5 : zBk 0 x5) (h6 : zBk 10 x6) : zGo false 116 137 [.ref 0, .int (zi x1), .int (zi x2), .int (zi x3), .int (zi x4), .ref x5, .ref x6, .int (zi x7)] [] (zm V J d) =
    (zGo false 110 0 [.ref 0, .ref x5] [] (zm V J d)).bind (zGor false 116 143 [.ref 0, .int (zi x1), .int (zi x2), .int (zi x3), .int (zi x4), .ref x5, .ref x6, .int (zi x7)] []) := by
  refine (zr_aload_n (n := 0) (x := 0) (by decide +kernel) rfl).trans ?_
  refine (zr_aload (n := 5) (x := x5) (by decide +kernel) rfl).trans ?_
  exact zr_cV (i := 179) (z := 110) (w := 0) (o := 0) (t := [.ref x5]) (rest := []) (L := [.ref 0, .ref x5]) (pc1 := 143) (by decide +kernel) (by decide +kernel) rfl (n := 1) (r := 0) rfl rfl rfl (by decide +kernel) rfl rfl
theorem ze_116_143 {V : zVt} {J : zJt} {d : Nat → Nat → UInt64} (x1 : Int) (x2 : Int) (x3 : Int) (x4 : Int) (x5 : Nat) (x6 : Nat) (x7 : Int) (h5 : zBk 0 x5) (h6 : zBk 10 x6) : zGo false 116 143 [.ref 0, .int (zi x1), .int (zi x2), .int (zi x3), .int (zi x4), .ref x5, .ref x6, .int (zi x7)] [] (zm V J d) =
    some (.inl (some (.int (zi x7))), zm V J d) := by
  refine (zr_iload (n := 7) (x := zi x7) (by decide +kernel) rfl).trans ?_
  exact zr_iret (a := x7) (by decide +kernel) rfl
/-! PartSongDesk holder (I)I -/
theorem ze_117_0 {V : zVt} {J : zJt} {d : Nat → Nat → UInt64} (x1 : Int) : zGo false 117 0 [.ref 0, .int (zi x1)] [] (zm V J d) =
    (zGo false 112 0 [.ref 0, .int (zi x1)] [] (zm V J d)).bind (zGor false 117 5 [.ref 0, .int (zi x1)] []) := by
  refine (zr_aload_n (n := 0) (x := 0) (by decide +kernel) rfl).trans ?_
  refine (zr_iload_n (n := 1) (x := zi x1) (by decide +kernel) rfl).trans ?_
  exact zr_cV (i := 183) (z := 112) (w := 0) (o := 0) (t := [.int (zi x1)]) (rest := []) (L := [.ref 0, .int (zi x1)]) (pc1 := 5) (by decide +kernel) (by decide +kernel) rfl (n := 1) (r := 0) rfl rfl rfl (by decide +kernel) rfl rfl
theorem ze_117_5 {V : zVt} {J : zJt} {d : Nat → Nat → UInt64} (x1 : Int) (s0 : Nat) (g0 : zBk 0 s0) : zGo false 117 5 [.ref 0, .int (zi x1)] [.ref s0] (zm V J d) =
    some (.inl (some (.int (zi (V s0 1)))), zm V J d) := by
  refine (zr_getI (i := 189) (c := 0) (k := 1) (by decide +kernel) (by decide +kernel) (zb0_0 g0) (by decide +kernel)).trans ?_
  exact zr_iret (a := (V s0 1)) (by decide +kernel) rfl
