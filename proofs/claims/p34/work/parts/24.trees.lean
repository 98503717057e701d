/-! part 24: methods as equations; printed by program (wip/p34/gen/gen_tree.py, gen_trees_all.py) -/
/-! PartSongDesk$Reader readAll ([CILPartSongDesk$Tokens;)V -/
theorem ze_46_0 {V : zVt} {J : zJt} {d : Nat → Nat → UInt64} (x1 : Nat) (x2 : Int) (x3 : Nat) (h1 : zS0 x1 = (15, 160)) (h3 : zBk 10 x3) : zGo false 46 0 [.ref 7, .ref x1, .int (zi x2), .ref x3, .null] [] (zm V J d) =
    (zGo false 232 0 [.int (zi (160 : Nat)), .int (zi (160))] [] (zm V J d)).bind (zGor false 46 10 [.ref 7, .ref x1, .int (zi x2), .ref x3, .null] [.int (zi x2), .ref 7]) := by
  refine (zr_aload_n (n := 0) (x := 7) (by decide +kernel) rfl).trans ?_
  refine (zr_iload_n (n := 2) (x := zi x2) (by decide +kernel) rfl).trans ?_
  refine (zr_aload_n (n := 1) (x := x1) (by decide +kernel) rfl).trans ?_
  refine (zr_alen (by decide +kernel) h1 (by decide)).trans ?_
  refine (zr_sipush (n := 160) (by decide +kernel) rfl).trans ?_
  exact zr_cS (i := 15) (z := 232) (w := 0) (t := [.int (zi (160)), .int (zi (160 : Nat))]) (rest := [.int (zi x2), .ref 7]) (L := [.int (zi (160 : Nat)), .int (zi (160))]) (pc1 := 10) (by decide +kernel) (by decide +kernel) (n := 2) (r := 2) rfl rfl rfl (by decide +kernel) rfl rfl
theorem ze_46_10 {V : zVt} {J : zJt} {d : Nat → Nat → UInt64} (x1 : Nat) (x2 : Int) (x3 : Nat) (s1 : Int) (s2 : Int) (h1 : zS0 x1 = (15, 160)) (h3 : zBk 10 x3) : zGo false 46 10 [.ref 7, .ref x1, .int (zi x2), .ref x3, .null] [.int (zi s2), .int (zi s1), .ref 7] (zm V J d) =
    (zGo false 232 0 [.int (zi s1), .int (zi s2)] [] (zm V J d)).bind (zGor false 46 13 [.ref 7, .ref x1, .int (zi x2), .ref x3, .null] [.ref 7]) := by
  exact zr_cS (i := 15) (z := 232) (w := 0) (t := [.int (zi s2), .int (zi s1)]) (rest := [.ref 7]) (L := [.int (zi s1), .int (zi s2)]) (pc1 := 13) (by decide +kernel) (by decide +kernel) (n := 2) (r := 1) rfl rfl rfl (by decide +kernel) rfl rfl
theorem ze_46_13 {V : zVt} {J : zJt} {d : Nat → Nat → UInt64} (x1 : Nat) (x2 : Int) (x3 : Nat) (s1 : Int) (h1 : zS0 x1 = (15, 160)) (h3 : zBk 10 x3) : zGo false 46 13 [.ref 7, .ref x1, .int (zi x2), .ref x3, .null] [.int (zi s1), .ref 7] (zm V J d) =
    zGo false 46 19 [.ref 7, .ref x1, .int (zi x2), .ref x3, .int (zi (0))] [] (zm (vup V 7 1 s1) J d) := by
  refine (zr_putI (i := 21) (c := 7) (k := 1) (x := s1) (by decide +kernel) (by decide +kernel) rfl (by decide +kernel)).trans ?_
  refine (zr_iconst (n := 0) (by decide +kernel)).trans ?_
  refine (zr_istore (n := 4) (l1 := [.ref 7, .ref x1, .int (zi x2), .ref x3, .int (zi (0))]) (by decide +kernel) rfl).trans ?_
  rfl
theorem ze_46_19 {V : zVt} {J : zJt} {d : Nat → Nat → UInt64} (x1 : Nat) (x2 : Int) (x3 : Nat) (x4 : Int) (h1 : zS0 x1 = (15, 160)) (h3 : zBk 10 x3) : zGo false 46 19 [.ref 7, .ref x1, .int (zi x2), .ref x3, .int (zi x4)] [] (zm V J d) =
    (if qw (V 7 1) ≤ qw x4 then (zGo false 84 0 [.ref x3, .int (zi ((vup V 7 2 (0)) 7 1))] [] (zm (vup V 7 2 (0)) J d)).bind (zGor false 46 58 [.ref 7, .ref x1, .int (zi x2), .ref x3, .int (zi x4)] []) else zck (0 ≤ qw x4 ∧ qw x4 < (160 : Nat)) (zck ((0 ≤ qw x4 ∧ qw x4 < (160 : Nat)) ∧ (0 ≤ qw (V x1 (qw x4)) ∧ qw (V x1 (qw x4)) ≤ 65535)) (zGo false 46 19 [.ref 7, .ref x1, .int (zi x2), .ref x3, .int (zi (x4 + 1))] [] (zm (vup V 8 (qw x4) (V x1 (qw x4))) J d)))) := by
  refine (zr_iload (n := 4) (x := zi x4) (by decide +kernel) rfl).trans ?_
  refine (zr_aload_n (n := 0) (x := 7) (by decide +kernel) rfl).trans ?_
  refine (zr_getI (i := 21) (c := 7) (k := 1) (by decide +kernel) (by decide +kernel) rfl (by decide +kernel)).trans ?_
  refine (zr_cge (off := 20) (a := x4) (b := (V 7 1)) (t := 45) (by decide +kernel) rfl).trans (zif_ct (fun _ => ?_) (fun _ => ?_))
  · refine (zr_aload_n (n := 0) (x := 7) (by decide +kernel) rfl).trans ?_
    refine (zr_iconst (n := 0) (by decide +kernel)).trans ?_
    refine (zr_putI (i := 25) (c := 7) (k := 2) (x := (0)) (by decide +kernel) (by decide +kernel) rfl (by decide +kernel)).trans ?_
    refine (zr_aload_n (n := 3) (x := x3) (by decide +kernel) rfl).trans ?_
    refine (zr_aload_n (n := 0) (x := 7) (by decide +kernel) rfl).trans ?_
    refine (zr_getI (i := 21) (c := 7) (k := 1) (by decide +kernel) (by decide +kernel) rfl (by decide +kernel)).trans ?_
    exact zr_cV (i := 28) (z := 84) (w := 0) (o := x3) (t := [.int (zi ((vup V 7 2 (0)) 7 1))]) (rest := []) (L := [.ref x3, .int (zi ((vup V 7 2 (0)) 7 1))]) (pc1 := 58) (by decide +kernel) (by decide +kernel) (zb10_0 h3) (n := 1) (r := 0) rfl rfl rfl (by decide +kernel) rfl rfl
  · refine (zr_aload_n (n := 0) (x := 7) (by decide +kernel) rfl).trans ?_
    refine (zr_getR (i := 9) (c := 7) (k := 0) (r := 8) (by decide +kernel) (by decide +kernel) rfl (by decide +kernel) (zR0_f (o := 7) (c := 7) (n := 0) (k := 0) (j := 1) rfl (by decide) rfl)).trans ?_
    refine (zr_iload (n := 4) (x := zi x4) (by decide +kernel) rfl).trans ?_
    refine (zr_aload_n (n := 1) (x := x1) (by decide +kernel) rfl).trans ?_
    refine (zr_iload (n := 4) (x := zi x4) (by decide +kernel) rfl).trans ?_
    refine (zr_cald (n := 160) (e := x4) (by decide +kernel) h1).trans (zck_ct fun _ => ?_)
    refine (zr_cast (n := 160) (e := x4) (x := (V x1 (qw x4))) (by decide +kernel) rfl).trans (zck_ct fun _ => ?_)
    refine (zr_iinc (n := 4) (k := 1) (x := x4) (l1 := [.ref 7, .ref x1, .int (zi x2), .ref x3, .int (zi (x4 + 1))]) (by decide +kernel) rfl rfl).trans ?_
    refine (zr_goto (off := -23) (t := 19) (by decide +kernel) rfl).trans ?_
    rfl
theorem ze_46_58 {V : zVt} {J : zJt} {d : Nat → Nat → UInt64} (x1 : Nat) (x2 : Int) (x3 : Nat) (x4 : Int) (h1 : zS0 x1 = (15, 160)) (h3 : zBk 10 x3) : zGo false 46 58 [.ref 7, .ref x1, .int (zi x2), .ref x3, .int (zi x4)] [] (zm V J d) =
    zGo false 46 61 [.ref 7, .ref x1, .int (zi x2), .ref x3, .int (zi (0))] [] (zm V J d) := by
  refine (zr_iconst (n := 0) (by decide +kernel)).trans ?_
  refine (zr_istore (n := 4) (l1 := [.ref 7, .ref x1, .int (zi x2), .ref x3, .int (zi (0))]) (by decide +kernel) rfl).trans ?_
  rfl
theorem ze_46_61 {V : zVt} {J : zJt} {d : Nat → Nat → UInt64} (x1 : Nat) (x2 : Int) (x3 : Nat) (x4 : Int) (h1 : zS0 x1 = (15, 160)) (h3 : zBk 10 x3) : zGo false 46 61 [.ref 7, .ref x1, .int (zi x2), .ref x3, .int (zi x4)] [] (zm V J d) =
    (if qw (160) < qw x4 then zGo false 46 124 [.ref 7, .ref x1, .int (zi x2), .ref x3, .int (zi x4)] [] (zm V J d) else (if qw (V x3 2) ≠ 0 then zGo false 46 124 [.ref 7, .ref x1, .int (zi x2), .ref x3, .int (zi x4)] [] (zm V J d) else (zGo false 47 0 [.ref 7] [] (zm V J d)).bind (zGor false 46 80 [.ref 7, .ref x1, .int (zi x2), .ref x3, .int (zi x4)] []))) := by
  refine (zr_iload (n := 4) (x := zi x4) (by decide +kernel) rfl).trans ?_
  refine (zr_sipush (n := 160) (by decide +kernel) rfl).trans ?_
  refine (zr_cgt (off := 58) (a := x4) (b := (160)) (t := 124) (by decide +kernel) rfl).trans (zif_ct (fun _ => ?_) (fun _ => ?_))
  · rfl
  · refine (zr_aload_n (n := 3) (x := x3) (by decide +kernel) rfl).trans ?_
    refine (zr_getI (i := 34) (c := 10) (k := 2) (by decide +kernel) (by decide +kernel) (zb10_0 h3) (by decide +kernel)).trans ?_
    refine (zr_ifne (off := 51) (a := (V x3 2)) (t := 124) (by decide +kernel) rfl).trans (zif_ct (fun _ => ?_) (fun _ => ?_))
    · rfl
    · refine (zr_aload_n (n := 0) (x := 7) (by decide +kernel) rfl).trans ?_
      exact zr_cV (i := 37) (z := 47) (w := 0) (o := 7) (t := []) (rest := []) (L := [.ref 7]) (pc1 := 80) (by decide +kernel) (by decide +kernel) rfl (n := 0) (r := 0) rfl rfl rfl (by decide +kernel) rfl rfl
theorem ze_46_80 {V : zVt} {J : zJt} {d : Nat → Nat → UInt64} (x1 : Nat) (x2 : Int) (x3 : Nat) (x4 : Int) (h1 : zS0 x1 = (15, 160)) (h3 : zBk 10 x3) : zGo false 46 80 [.ref 7, .ref x1, .int (zi x2), .ref x3, .int (zi x4)] [] (zm V J d) =
    (if qw (V 7 2) < qw (V 7 1) then (if qw (60) ≤ qw (V x3 0) then zGo false 46 109 [.ref 7, .ref x1, .int (zi x2), .ref x3, .int (zi x4)] [] (zm V J d) else (zGo false 49 0 [.ref 7, .ref x3] [] (zm V J d)).bind (zGor false 46 106 [.ref 7, .ref x1, .int (zi x2), .ref x3, .int (zi x4)] [])) else some (.inl none, zm V J d)) := by
  refine (zr_aload_n (n := 0) (x := 7) (by decide +kernel) rfl).trans ?_
  refine (zr_getI (i := 25) (c := 7) (k := 2) (by decide +kernel) (by decide +kernel) rfl (by decide +kernel)).trans ?_
  refine (zr_aload_n (n := 0) (x := 7) (by decide +kernel) rfl).trans ?_
  refine (zr_getI (i := 21) (c := 7) (k := 1) (by decide +kernel) (by decide +kernel) rfl (by decide +kernel)).trans ?_
  refine (zr_clt (off := 4) (a := (V 7 2)) (b := (V 7 1)) (t := 92) (by decide +kernel) rfl).trans (zif_ct (fun _ => ?_) (fun _ => ?_))
  · refine (zr_aload_n (n := 3) (x := x3) (by decide +kernel) rfl).trans ?_
    refine (zr_getI (i := 40) (c := 10) (k := 0) (by decide +kernel) (by decide +kernel) (zb10_0 h3) (by decide +kernel)).trans ?_
    refine (zr_bipush (n := 60) (by decide +kernel) rfl).trans ?_
    refine (zr_cge (off := 11) (a := (V x3 0)) (b := (60)) (t := 109) (by decide +kernel) rfl).trans (zif_ct (fun _ => ?_) (fun _ => ?_))
    · rfl
    · refine (zr_aload_n (n := 0) (x := 7) (by decide +kernel) rfl).trans ?_
      refine (zr_aload_n (n := 3) (x := x3) (by decide +kernel) rfl).trans ?_
      exact zr_cV (i := 43) (z := 49) (w := 0) (o := 7) (t := [.ref x3]) (rest := []) (L := [.ref 7, .ref x3]) (pc1 := 106) (by decide +kernel) (by decide +kernel) rfl (n := 1) (r := 0) rfl rfl rfl (by decide +kernel) rfl rfl
  · exact zr_vret (by decide +kernel) rfl
theorem ze_46_106 {V : zVt} {J : zJt} {d : Nat → Nat → UInt64} (x1 : Nat) (x2 : Int) (x3 : Nat) (x4 : Int) (s0 : Int) (h1 : zS0 x1 = (15, 160)) (h3 : zBk 10 x3) : zGo false 46 106 [.ref 7, .ref x1, .int (zi x2), .ref x3, .int (zi x4)] [.int (zi s0)] (zm V J d) =
    (if qw s0 ≠ 0 then zGo false 46 118 [.ref 7, .ref x1, .int (zi x2), .ref x3, .int (zi x4)] [] (zm V J d) else zGo false 46 109 [.ref 7, .ref x1, .int (zi x2), .ref x3, .int (zi x4)] [] (zm V J d)) := by
  refine (zr_ifne (off := 12) (a := s0) (t := 118) (by decide +kernel) rfl).trans (zif_ct (fun _ => ?_) (fun _ => ?_))
  · rfl
  · rfl
theorem ze_46_109 {V : zVt} {J : zJt} {d : Nat → Nat → UInt64} (x1 : Nat) (x2 : Int) (x3 : Nat) (x4 : Int) (h1 : zS0 x1 = (15, 160)) (h3 : zBk 10 x3) : zGo false 46 109 [.ref 7, .ref x1, .int (zi x2), .ref x3, .int (zi x4)] [] (zm V J d) =
    (zGo false 87 0 [.ref x3, .int (zi (1)), .int (zi (V 7 2))] [] (zm V J d)).bind (zGor false 46 118 [.ref 7, .ref x1, .int (zi x2), .ref x3, .int (zi x4)] []) := by
  refine (zr_aload_n (n := 3) (x := x3) (by decide +kernel) rfl).trans ?_
  refine (zr_iconst (n := 1) (by decide +kernel)).trans ?_
  refine (zr_aload_n (n := 0) (x := 7) (by decide +kernel) rfl).trans ?_
  refine (zr_getI (i := 25) (c := 7) (k := 2) (by decide +kernel) (by decide +kernel) rfl (by decide +kernel)).trans ?_
  exact zr_cV (i := 47) (z := 87) (w := 0) (o := x3) (t := [.int (zi (V 7 2)), .int (zi (1))]) (rest := []) (L := [.ref x3, .int (zi (1)), .int (zi (V 7 2))]) (pc1 := 118) (by decide +kernel) (by decide +kernel) (zb10_0 h3) (n := 2) (r := 0) rfl rfl rfl (by decide +kernel) rfl rfl
theorem ze_46_118 {V : zVt} {J : zJt} {d : Nat → Nat → UInt64} (x1 : Nat) (x2 : Int) (x3 : Nat) (x4 : Int) (h1 : zS0 x1 = (15, 160)) (h3 : zBk 10 x3) : zGo false 46 118 [.ref 7, .ref x1, .int (zi x2), .ref x3, .int (zi x4)] [] (zm V J d) =
    zGo false 46 61 [.ref 7, .ref x1, .int (zi x2), .ref x3, .int (zi (x4 + 1))] [] (zm V J d) := by
  refine (zr_iinc (n := 4) (k := 1) (x := x4) (l1 := [.ref 7, .ref x1, .int (zi x2), .ref x3, .int (zi (x4 + 1))]) (by decide +kernel) rfl rfl).trans ?_
  refine (zr_goto (off := -60) (t := 61) (by decide +kernel) rfl).trans ?_
  rfl
theorem ze_46_124 {V : zVt} {J : zJt} {d : Nat → Nat → UInt64} (x1 : Nat) (x2 : Int) (x3 : Nat) (x4 : Int) (h1 : zS0 x1 = (15, 160)) (h3 : zBk 10 x3) : zGo false 46 124 [.ref 7, .ref x1, .int (zi x2), .ref x3, .int (zi x4)] [] (zm V J d) =
    some (.inl none, zm V J d) := by
  exact zr_vret (by decide +kernel) rfl
/-! PartSongDesk$Reader passSpaces ()V -/
theorem ze_47_0 {V : zVt} {J : zJt} {d : Nat → Nat → UInt64} : zGo false 47 0 [.ref 7] [] (zm V J d) =
    (if qw (V 7 1) ≤ qw (V 7 2) then zGo false 47 34 [.ref 7] [] (zm V J d) else (zGo false 48 0 [.ref 7, .int (zi (0)), .null] [] (zm V J d)).bind (zGor false 47 16 [.ref 7] [])) := by
  refine (zr_aload_n (n := 0) (x := 7) (by decide +kernel) rfl).trans ?_
  refine (zr_getI (i := 25) (c := 7) (k := 2) (by decide +kernel) (by decide +kernel) rfl (by decide +kernel)).trans ?_
  refine (zr_aload_n (n := 0) (x := 7) (by decide +kernel) rfl).trans ?_
  refine (zr_getI (i := 21) (c := 7) (k := 1) (by decide +kernel) (by decide +kernel) rfl (by decide +kernel)).trans ?_
  refine (zr_cge (off := 26) (a := (V 7 2)) (b := (V 7 1)) (t := 34) (by decide +kernel) rfl).trans (zif_ct (fun _ => ?_) (fun _ => ?_))
  · rfl
  · refine (zr_aload_n (n := 0) (x := 7) (by decide +kernel) rfl).trans ?_
    refine (zr_iconst (n := 0) (by decide +kernel)).trans ?_
    exact zr_cV (i := 51) (z := 48) (w := 0) (o := 7) (t := [.int (zi (0))]) (rest := []) (L := [.ref 7, .int (zi (0)), .null]) (pc1 := 16) (by decide +kernel) (by decide +kernel) rfl (n := 1) (r := 0) rfl rfl rfl (by decide +kernel) rfl rfl
theorem ze_47_16 {V : zVt} {J : zJt} {d : Nat → Nat → UInt64} (s0 : Int) : zGo false 47 16 [.ref 7] [.int (zi s0)] (zm V J d) =
    (if qw s0 ≠ qw (32) then zGo false 47 34 [.ref 7] [] (zm V J d) else zGo false 47 0 [.ref 7] [] (zm (vup V 7 2 ((V 7 2) + (1))) J d)) := by
  refine (zr_bipush (n := 32) (by decide +kernel) rfl).trans ?_
  refine (zr_cne (off := 16) (a := s0) (b := (32)) (t := 34) (by decide +kernel) rfl).trans (zif_ct (fun _ => ?_) (fun _ => ?_))
  · rfl
  · refine (zr_aload_n (n := 0) (x := 7) (by decide +kernel) rfl).trans ?_
    refine (zr_dup (by decide +kernel) rfl).trans ?_
    refine (zr_getI (i := 25) (c := 7) (k := 2) (by decide +kernel) (by decide +kernel) rfl (by decide +kernel)).trans ?_
    refine (zr_iconst (n := 1) (by decide +kernel)).trans ?_
    refine (zr_iadd (a := (V 7 2)) (b := (1)) (by decide +kernel)).trans ?_
    refine (zr_putI (i := 25) (c := 7) (k := 2) (x := ((V 7 2) + (1))) (by decide +kernel) (by decide +kernel) rfl (by decide +kernel)).trans ?_
    refine (zr_goto (off := -31) (t := 0) (by decide +kernel) rfl).trans ?_
    rfl
theorem ze_47_34 {V : zVt} {J : zJt} {d : Nat → Nat → UInt64} : zGo false 47 34 [.ref 7] [] (zm V J d) =
    some (.inl none, zm V J d) := by
  exact zr_vret (by decide +kernel) rfl
/-! PartSongDesk$Reader letterAt (I)C -/
theorem ze_48_0 {V : zVt} {J : zJt} {d : Nat → Nat → UInt64} (x1 : Int) : zGo false 48 0 [.ref 7, .int (zi x1), .null] [] (zm V J d) =
    (if qw ((V 7 2) + x1) < 0 then zGo false 48 28 [.ref 7, .int (zi x1), .int (zi ((V 7 2) + x1))] [] (zm V J d) else (if qw (V 7 1) ≤ qw ((V 7 2) + x1) then zGo false 48 28 [.ref 7, .int (zi x1), .int (zi ((V 7 2) + x1))] [] (zm V J d) else zck (0 ≤ qw ((V 7 2) + x1) ∧ qw ((V 7 2) + x1) < (160 : Nat)) (zGo false 48 29 [.ref 7, .int (zi x1), .int (zi ((V 7 2) + x1))] [.int (zi (V 8 (qw ((V 7 2) + x1))))] (zm V J d)))) := by
  refine (zr_aload_n (n := 0) (x := 7) (by decide +kernel) rfl).trans ?_
  refine (zr_getI (i := 25) (c := 7) (k := 2) (by decide +kernel) (by decide +kernel) rfl (by decide +kernel)).trans ?_
  refine (zr_iload_n (n := 1) (x := zi x1) (by decide +kernel) rfl).trans ?_
  refine (zr_iadd (a := (V 7 2)) (b := x1) (by decide +kernel)).trans ?_
  refine (zr_istore_n (n := 2) (l1 := [.ref 7, .int (zi x1), .int (zi ((V 7 2) + x1))]) (by decide +kernel) rfl).trans ?_
  refine (zr_iload_n (n := 2) (x := zi ((V 7 2) + x1)) (by decide +kernel) rfl).trans ?_
  refine (zr_iflt (off := 20) (a := ((V 7 2) + x1)) (t := 28) (by decide +kernel) rfl).trans (zif_ct (fun _ => ?_) (fun _ => ?_))
  · rfl
  · refine (zr_iload_n (n := 2) (x := zi ((V 7 2) + x1)) (by decide +kernel) rfl).trans ?_
    refine (zr_aload_n (n := 0) (x := 7) (by decide +kernel) rfl).trans ?_
    refine (zr_getI (i := 21) (c := 7) (k := 1) (by decide +kernel) (by decide +kernel) rfl (by decide +kernel)).trans ?_
    refine (zr_cge (off := 12) (a := ((V 7 2) + x1)) (b := (V 7 1)) (t := 28) (by decide +kernel) rfl).trans (zif_ct (fun _ => ?_) (fun _ => ?_))
    · rfl
    · refine (zr_aload_n (n := 0) (x := 7) (by decide +kernel) rfl).trans ?_
      refine (zr_getR (i := 9) (c := 7) (k := 0) (r := 8) (by decide +kernel) (by decide +kernel) rfl (by decide +kernel) (zR0_f (o := 7) (c := 7) (n := 0) (k := 0) (j := 1) rfl (by decide) rfl)).trans ?_
      refine (zr_iload_n (n := 2) (x := zi ((V 7 2) + x1)) (by decide +kernel) rfl).trans ?_
      refine (zr_cald (n := 160) (e := ((V 7 2) + x1)) (by decide +kernel) rfl).trans (zck_ct fun _ => ?_)
      refine (zr_goto (off := 4) (t := 29) (by decide +kernel) rfl).trans ?_
      rfl
theorem ze_48_28 {V : zVt} {J : zJt} {d : Nat → Nat → UInt64} (x1 : Int) (x2 : Int) : zGo false 48 28 [.ref 7, .int (zi x1), .int (zi x2)] [] (zm V J d) =
    zGo false 48 29 [.ref 7, .int (zi x1), .int (zi x2)] [.int (zi (0))] (zm V J d) := by
  refine (zr_iconst (n := 0) (by decide +kernel)).trans ?_
  rfl
theorem ze_48_29 {V : zVt} {J : zJt} {d : Nat → Nat → UInt64} (x1 : Int) (x2 : Int) (s0 : Int) : zGo false 48 29 [.ref 7, .int (zi x1), .int (zi x2)] [.int (zi s0)] (zm V J d) =
    zck (0 ≤ qw s0 ∧ qw s0 ≤ 65535) (some (.inl (some (.int (zi s0))), zm V J d)) := by
  exact zr_cret (a := s0) (by decide +kernel) rfl
/-! PartSongDesk$Reader readOne (LPartSongDesk$Tokens;)Z -/
theorem ze_49_0 {V : zVt} {J : zJt} {d : Nat → Nat → UInt64} (x1 : Nat) (h1 : zBk 10 x1) : zGo false 49 0 [.ref 7, .ref x1] [] (zm V J d) =
    (zGo false 48 0 [.ref 7, .int (zi (0)), .null] [] (zm V J d)).bind (zGor false 49 5 [.ref 7, .ref x1] []) := by
  refine (zr_aload_n (n := 0) (x := 7) (by decide +kernel) rfl).trans ?_
  refine (zr_iconst (n := 0) (by decide +kernel)).trans ?_
  exact zr_cV (i := 51) (z := 48) (w := 0) (o := 7) (t := [.int (zi (0))]) (rest := []) (L := [.ref 7, .int (zi (0)), .null]) (pc1 := 5) (by decide +kernel) (by decide +kernel) rfl (n := 1) (r := 0) rfl rfl rfl (by decide +kernel) rfl rfl
theorem ze_49_5 {V : zVt} {J : zJt} {d : Nat → Nat → UInt64} (x1 : Nat) (s0 : Int) (h1 : zBk 10 x1) : zGo false 49 5 [.ref 7, .ref x1] [.int (zi s0)] (zm V J d) =
    (if qw s0 = 35 then (zGo false 52 0 [.ref 7, .ref x1, .int (zi (1)), .null] [] (zm V J d)).bind (zGor false 49 108 [.ref 7, .ref x1] []) else (if qw s0 = 40 then (zGo false 60 0 [.ref 7, .ref x1, .null] [] (zm V J d)).bind (zGor false 49 158 [.ref 7, .ref x1] []) else (if qw s0 = 41 then (zGo false 51 0 [.ref 7, .ref x1, .int (zi (9)), .int (zi (0)), .int (zi (1))] [] (zm V J d)).bind (zGor false 49 168 [.ref 7, .ref x1] []) else (if qw s0 = 64 then (zGo false 50 0 [.ref 7, .ref x1, .null] [] (zm V J d)).bind (zGor false 49 101 [.ref 7, .ref x1] []) else (if qw s0 = 77 then (zGo false 54 0 [.ref 7, .ref x1, .null, .null, .null] [] (zm V J d)).bind (zGor false 49 121 [.ref 7, .ref x1] []) else (if qw s0 = 91 then (zGo false 51 0 [.ref 7, .ref x1, .int (zi (6)), .int (zi (0)), .int (zi (1))] [] (zm V J d)).bind (zGor false 49 146 [.ref 7, .ref x1] []) else (if qw s0 = 93 then (zGo false 59 0 [.ref 7, .ref x1, .null] [] (zm V J d)).bind (zGor false 49 152 [.ref 7, .ref x1] []) else (if qw s0 = 98 then (zGo false 52 0 [.ref 7, .ref x1, .int (zi (-1)), .null] [] (zm V J d)).bind (zGor false 49 115 [.ref 7, .ref x1] []) else (if qw s0 = 114 then (zGo false 55 0 [.ref 7, .ref x1, .null, .null] [] (zm V J d)).bind (zGor false 49 127 [.ref 7, .ref x1] []) else (if qw s0 = 124 then (zGo false 51 0 [.ref 7, .ref x1, .int (zi (5)), .int (zi (0)), .int (zi (1))] [] (zm V J d)).bind (zGor false 49 136 [.ref 7, .ref x1] []) else (zGo false 61 0 [.ref 7, .ref x1, .null, .null, .null, .null, .null, .null, .null] [] (zm V J d)).bind (zGor false 49 174 [.ref 7, .ref x1] []))))))))))) := by
  refine (zr_lsw (dflt := 164) (ps := #[(35, 97), (40, 148), (41, 154), (64, 91), (77, 111), (91, 132), (93, 142), (98, 104), (114, 117), (124, 123)]) (len := 91) (a := s0) (by decide +kernel) (by decide)).trans ?_
  refine (zSwg_l (t := 102) rfl).trans (zif_ct (fun _ => ?_) (fun _ => ?_))
  · refine (zr_aload_n (n := 0) (x := 7) (by decide +kernel) rfl).trans ?_
    refine (zr_aload_n (n := 1) (x := x1) (by decide +kernel) rfl).trans ?_
    refine (zr_iconst (n := 1) (by decide +kernel)).trans ?_
    exact zr_cV (i := 58) (z := 52) (w := 0) (o := 7) (t := [.int (zi (1)), .ref x1]) (rest := []) (L := [.ref 7, .ref x1, .int (zi (1)), .null]) (pc1 := 108) (by decide +kernel) (by decide +kernel) rfl (n := 2) (r := 0) rfl rfl rfl (by decide +kernel) rfl rfl
  refine (zSwg_l (t := 153) rfl).trans (zif_ct (fun _ => ?_) (fun _ => ?_))
  · refine (zr_aload_n (n := 0) (x := 7) (by decide +kernel) rfl).trans ?_
    refine (zr_aload_n (n := 1) (x := x1) (by decide +kernel) rfl).trans ?_
    exact zr_cV (i := 75) (z := 60) (w := 0) (o := 7) (t := [.ref x1]) (rest := []) (L := [.ref 7, .ref x1, .null]) (pc1 := 158) (by decide +kernel) (by decide +kernel) rfl (n := 1) (r := 0) rfl rfl rfl (by decide +kernel) rfl rfl
  refine (zSwg_l (t := 159) rfl).trans (zif_ct (fun _ => ?_) (fun _ => ?_))
  · refine (zr_aload_n (n := 0) (x := 7) (by decide +kernel) rfl).trans ?_
    refine (zr_aload_n (n := 1) (x := x1) (by decide +kernel) rfl).trans ?_
    refine (zr_bipush (n := 9) (by decide +kernel) rfl).trans ?_
    refine (zr_iconst (n := 0) (by decide +kernel)).trans ?_
    refine (zr_iconst (n := 1) (by decide +kernel)).trans ?_
    exact zr_cV (i := 68) (z := 51) (w := 0) (o := 7) (t := [.int (zi (1)), .int (zi (0)), .int (zi (9)), .ref x1]) (rest := []) (L := [.ref 7, .ref x1, .int (zi (9)), .int (zi (0)), .int (zi (1))]) (pc1 := 168) (by decide +kernel) (by decide +kernel) rfl (n := 4) (r := 0) rfl rfl rfl (by decide +kernel) rfl rfl
  refine (zSwg_l (t := 96) rfl).trans (zif_ct (fun _ => ?_) (fun _ => ?_))
  · refine (zr_aload_n (n := 0) (x := 7) (by decide +kernel) rfl).trans ?_
    refine (zr_aload_n (n := 1) (x := x1) (by decide +kernel) rfl).trans ?_
    exact zr_cV (i := 55) (z := 50) (w := 0) (o := 7) (t := [.ref x1]) (rest := []) (L := [.ref 7, .ref x1, .null]) (pc1 := 101) (by decide +kernel) (by decide +kernel) rfl (n := 1) (r := 0) rfl rfl rfl (by decide +kernel) rfl rfl
  refine (zSwg_l (t := 116) rfl).trans (zif_ct (fun _ => ?_) (fun _ => ?_))
  · refine (zr_aload_n (n := 0) (x := 7) (by decide +kernel) rfl).trans ?_
    refine (zr_aload_n (n := 1) (x := x1) (by decide +kernel) rfl).trans ?_
    exact zr_cV (i := 62) (z := 54) (w := 0) (o := 7) (t := [.ref x1]) (rest := []) (L := [.ref 7, .ref x1, .null, .null, .null]) (pc1 := 121) (by decide +kernel) (by decide +kernel) rfl (n := 1) (r := 0) rfl rfl rfl (by decide +kernel) rfl rfl
  refine (zSwg_l (t := 137) rfl).trans (zif_ct (fun _ => ?_) (fun _ => ?_))
  · refine (zr_aload_n (n := 0) (x := 7) (by decide +kernel) rfl).trans ?_
    refine (zr_aload_n (n := 1) (x := x1) (by decide +kernel) rfl).trans ?_
    refine (zr_bipush (n := 6) (by decide +kernel) rfl).trans ?_
    refine (zr_iconst (n := 0) (by decide +kernel)).trans ?_
    refine (zr_iconst (n := 1) (by decide +kernel)).trans ?_
    exact zr_cV (i := 68) (z := 51) (w := 0) (o := 7) (t := [.int (zi (1)), .int (zi (0)), .int (zi (6)), .ref x1]) (rest := []) (L := [.ref 7, .ref x1, .int (zi (6)), .int (zi (0)), .int (zi (1))]) (pc1 := 146) (by decide +kernel) (by decide +kernel) rfl (n := 4) (r := 0) rfl rfl rfl (by decide +kernel) rfl rfl
  refine (zSwg_l (t := 147) rfl).trans (zif_ct (fun _ => ?_) (fun _ => ?_))
  · refine (zr_aload_n (n := 0) (x := 7) (by decide +kernel) rfl).trans ?_
    refine (zr_aload_n (n := 1) (x := x1) (by decide +kernel) rfl).trans ?_
    exact zr_cV (i := 72) (z := 59) (w := 0) (o := 7) (t := [.ref x1]) (rest := []) (L := [.ref 7, .ref x1, .null]) (pc1 := 152) (by decide +kernel) (by decide +kernel) rfl (n := 1) (r := 0) rfl rfl rfl (by decide +kernel) rfl rfl
  refine (zSwg_l (t := 109) rfl).trans (zif_ct (fun _ => ?_) (fun _ => ?_))
  · refine (zr_aload_n (n := 0) (x := 7) (by decide +kernel) rfl).trans ?_
    refine (zr_aload_n (n := 1) (x := x1) (by decide +kernel) rfl).trans ?_
    refine (zr_iconst (n := -1) (by decide +kernel)).trans ?_
    exact zr_cV (i := 58) (z := 52) (w := 0) (o := 7) (t := [.int (zi (-1)), .ref x1]) (rest := []) (L := [.ref 7, .ref x1, .int (zi (-1)), .null]) (pc1 := 115) (by decide +kernel) (by decide +kernel) rfl (n := 2) (r := 0) rfl rfl rfl (by decide +kernel) rfl rfl
  refine (zSwg_l (t := 122) rfl).trans (zif_ct (fun _ => ?_) (fun _ => ?_))
  · refine (zr_aload_n (n := 0) (x := 7) (by decide +kernel) rfl).trans ?_
    refine (zr_aload_n (n := 1) (x := x1) (by decide +kernel) rfl).trans ?_
    exact zr_cV (i := 65) (z := 55) (w := 0) (o := 7) (t := [.ref x1]) (rest := []) (L := [.ref 7, .ref x1, .null, .null]) (pc1 := 127) (by decide +kernel) (by decide +kernel) rfl (n := 1) (r := 0) rfl rfl rfl (by decide +kernel) rfl rfl
  refine (zSwg_l (t := 128) rfl).trans (zif_ct (fun _ => ?_) (fun _ => ?_))
  · refine (zr_aload_n (n := 0) (x := 7) (by decide +kernel) rfl).trans ?_
    refine (zr_aload_n (n := 1) (x := x1) (by decide +kernel) rfl).trans ?_
    refine (zr_iconst (n := 5) (by decide +kernel)).trans ?_
    refine (zr_iconst (n := 0) (by decide +kernel)).trans ?_
    refine (zr_iconst (n := 1) (by decide +kernel)).trans ?_
    exact zr_cV (i := 68) (z := 51) (w := 0) (o := 7) (t := [.int (zi (1)), .int (zi (0)), .int (zi (5)), .ref x1]) (rest := []) (L := [.ref 7, .ref x1, .int (zi (5)), .int (zi (0)), .int (zi (1))]) (pc1 := 136) (by decide +kernel) (by decide +kernel) rfl (n := 4) (r := 0) rfl rfl rfl (by decide +kernel) rfl rfl
  refine (zSwg_ld (t := 169) rfl).trans ?_
  refine (zr_aload_n (n := 0) (x := 7) (by decide +kernel) rfl).trans ?_
  refine (zr_aload_n (n := 1) (x := x1) (by decide +kernel) rfl).trans ?_
  exact zr_cV (i := 78) (z := 61) (w := 0) (o := 7) (t := [.ref x1]) (rest := []) (L := [.ref 7, .ref x1, .null, .null, .null, .null, .null, .null, .null]) (pc1 := 174) (by decide +kernel) (by decide +kernel) rfl (n := 1) (r := 0) rfl rfl rfl (by decide +kernel) rfl rfl
theorem ze_49_101 {V : zVt} {J : zJt} {d : Nat → Nat → UInt64} (x1 : Nat) (s0 : Int) (h1 : zBk 10 x1) : zGo false 49 101 [.ref 7, .ref x1] [.int (zi s0)] (zm V J d) =
    zck (qw s0 = 0 ∨ qw s0 = 1) (some (.inl (some (.int (zi s0))), zm V J d)) := by
  exact zr_zret (a := s0) (by decide +kernel) rfl
theorem ze_49_108 {V : zVt} {J : zJt} {d : Nat → Nat → UInt64} (x1 : Nat) (s0 : Int) (h1 : zBk 10 x1) : zGo false 49 108 [.ref 7, .ref x1] [.int (zi s0)] (zm V J d) =
    zck (qw s0 = 0 ∨ qw s0 = 1) (some (.inl (some (.int (zi s0))), zm V J d)) := by
  exact zr_zret (a := s0) (by decide +kernel) rfl
theorem ze_49_115 {V : zVt} {J : zJt} {d : Nat → Nat → UInt64} (x1 : Nat) (s0 : Int) (h1 : zBk 10 x1) : zGo false 49 115 [.ref 7, .ref x1] [.int (zi s0)] (zm V J d) =
    zck (qw s0 = 0 ∨ qw s0 = 1) (some (.inl (some (.int (zi s0))), zm V J d)) := by
  exact zr_zret (a := s0) (by decide +kernel) rfl
theorem ze_49_121 {V : zVt} {J : zJt} {d : Nat → Nat → UInt64} (x1 : Nat) (s0 : Int) (h1 : zBk 10 x1) : zGo false 49 121 [.ref 7, .ref x1] [.int (zi s0)] (zm V J d) =
    zck (qw s0 = 0 ∨ qw s0 = 1) (some (.inl (some (.int (zi s0))), zm V J d)) := by
  exact zr_zret (a := s0) (by decide +kernel) rfl
theorem ze_49_127 {V : zVt} {J : zJt} {d : Nat → Nat → UInt64} (x1 : Nat) (s0 : Int) (h1 : zBk 10 x1) : zGo false 49 127 [.ref 7, .ref x1] [.int (zi s0)] (zm V J d) =
    zck (qw s0 = 0 ∨ qw s0 = 1) (some (.inl (some (.int (zi s0))), zm V J d)) := by
  exact zr_zret (a := s0) (by decide +kernel) rfl
theorem ze_49_136 {V : zVt} {J : zJt} {d : Nat → Nat → UInt64} (x1 : Nat) (s0 : Int) (h1 : zBk 10 x1) : zGo false 49 136 [.ref 7, .ref x1] [.int (zi s0)] (zm V J d) =
    zck (qw s0 = 0 ∨ qw s0 = 1) (some (.inl (some (.int (zi s0))), zm V J d)) := by
  exact zr_zret (a := s0) (by decide +kernel) rfl
theorem ze_49_146 {V : zVt} {J : zJt} {d : Nat → Nat → UInt64} (x1 : Nat) (s0 : Int) (h1 : zBk 10 x1) : zGo false 49 146 [.ref 7, .ref x1] [.int (zi s0)] (zm V J d) =
    zck (qw s0 = 0 ∨ qw s0 = 1) (some (.inl (some (.int (zi s0))), zm V J d)) := by
  exact zr_zret (a := s0) (by decide +kernel) rfl
theorem ze_49_152 {V : zVt} {J : zJt} {d : Nat → Nat → UInt64} (x1 : Nat) (s0 : Int) (h1 : zBk 10 x1) : zGo false 49 152 [.ref 7, .ref x1] [.int (zi s0)] (zm V J d) =
    zck (qw s0 = 0 ∨ qw s0 = 1) (some (.inl (some (.int (zi s0))), zm V J d)) := by
  exact zr_zret (a := s0) (by decide +kernel) rfl
theorem ze_49_158 {V : zVt} {J : zJt} {d : Nat → Nat → UInt64} (x1 : Nat) (s0 : Int) (h1 : zBk 10 x1) : zGo false 49 158 [.ref 7, .ref x1] [.int (zi s0)] (zm V J d) =
    zck (qw s0 = 0 ∨ qw s0 = 1) (some (.inl (some (.int (zi s0))), zm V J d)) := by
  exact zr_zret (a := s0) (by decide +kernel) rfl
theorem ze_49_168 {V : zVt} {J : zJt} {d : Nat → Nat → UInt64} (x1 : Nat) (s0 : Int) (h1 : zBk 10 x1) : zGo false 49 168 [.ref 7, .ref x1] [.int (zi s0)] (zm V J d) =
    zck (qw s0 = 0 ∨ qw s0 = 1) (some (.inl (some (.int (zi s0))), zm V J d)) := by
  exact zr_zret (a := s0) (by decide +kernel) rfl
theorem ze_49_174 {V : zVt} {J : zJt} {d : Nat → Nat → UInt64} (x1 : Nat) (s0 : Int) (h1 : zBk 10 x1) : zGo false 49 174 [.ref 7, .ref x1] [.int (zi s0)] (zm V J d) =
    zck (qw s0 = 0 ∨ qw s0 = 1) (some (.inl (some (.int (zi s0))), zm V J d)) := by
  exact zr_zret (a := s0) (by decide +kernel) rfl
/-! PartSongDesk$Reader readClef (LPartSongDesk$Tokens;)Z -/
theorem ze_50_0 {V : zVt} {J : zJt} {d : Nat → Nat → UInt64} (x1 : Nat) (h1 : zBk 10 x1) : zGo false 50 0 [.ref 7, .ref x1, .null] [] (zm V J d) =
    (zGo false 48 0 [.ref 7, .int (zi (1)), .null] [] (zm V J d)).bind (zGor false 50 5 [.ref 7, .ref x1, .null] []) := by
  refine (zr_aload_n (n := 0) (x := 7) (by decide +kernel) rfl).trans ?_
  refine (zr_iconst (n := 1) (by decide +kernel)).trans ?_
  exact zr_cV (i := 51) (z := 48) (w := 0) (o := 7) (t := [.int (zi (1))]) (rest := []) (L := [.ref 7, .int (zi (1)), .null]) (pc1 := 5) (by decide +kernel) (by decide +kernel) rfl (n := 1) (r := 0) rfl rfl rfl (by decide +kernel) rfl rfl
theorem ze_50_5 {V : zVt} {J : zJt} {d : Nat → Nat → UInt64} (x1 : Nat) (s0 : Int) (h1 : zBk 10 x1) : zGo false 50 5 [.ref 7, .ref x1, .null] [.int (zi s0)] (zm V J d) =
    (if qw s0 = qw (71) then zGo false 50 26 [.ref 7, .ref x1, .int (zi s0)] [] (zm V J d) else (if qw s0 = qw (70) then zGo false 50 26 [.ref 7, .ref x1, .int (zi s0)] [] (zm V J d) else (if qw s0 = qw (67) then zGo false 50 26 [.ref 7, .ref x1, .int (zi s0)] [] (zm V J d) else zck (qw (0) = 0 ∨ qw (0) = 1) (some (.inl (some (.int (zi (0)))), zm V J d))))) := by
  refine (zr_istore_n (n := 2) (l1 := [.ref 7, .ref x1, .int (zi s0)]) (by decide +kernel) rfl).trans ?_
  refine (zr_iload_n (n := 2) (x := zi s0) (by decide +kernel) rfl).trans ?_
  refine (zr_bipush (n := 71) (by decide +kernel) rfl).trans ?_
  refine (zr_ceq (off := 17) (a := s0) (b := (71)) (t := 26) (by decide +kernel) rfl).trans (zif_ct (fun _ => ?_) (fun _ => ?_))
  · rfl
  · refine (zr_iload_n (n := 2) (x := zi s0) (by decide +kernel) rfl).trans ?_
    refine (zr_bipush (n := 70) (by decide +kernel) rfl).trans ?_
    refine (zr_ceq (off := 11) (a := s0) (b := (70)) (t := 26) (by decide +kernel) rfl).trans (zif_ct (fun _ => ?_) (fun _ => ?_))
    · rfl
    · refine (zr_iload_n (n := 2) (x := zi s0) (by decide +kernel) rfl).trans ?_
      refine (zr_bipush (n := 67) (by decide +kernel) rfl).trans ?_
      refine (zr_ceq (off := 5) (a := s0) (b := (67)) (t := 26) (by decide +kernel) rfl).trans (zif_ct (fun _ => ?_) (fun _ => ?_))
      · rfl
      · refine (zr_iconst (n := 0) (by decide +kernel)).trans ?_
        exact zr_zret (a := (0)) (by decide +kernel) rfl
theorem ze_50_26 {V : zVt} {J : zJt} {d : Nat → Nat → UInt64} (x1 : Nat) (x2 : Int) (h1 : zBk 10 x1) : zGo false 50 26 [.ref 7, .ref x1, .int (zi x2)] [] (zm V J d) =
    (if qw x2 ≠ qw (71) then (if qw x2 ≠ qw (70) then zGo false 50 50 [.ref 7, .ref x1, .int (zi x2)] [.int (zi (2)), .int (zi (0)), .ref x1, .ref 7] (zm V J d) else zGo false 50 50 [.ref 7, .ref x1, .int (zi x2)] [.int (zi (1)), .int (zi (0)), .ref x1, .ref 7] (zm V J d)) else zGo false 50 50 [.ref 7, .ref x1, .int (zi x2)] [.int (zi (0)), .int (zi (0)), .ref x1, .ref 7] (zm V J d)) := by
  refine (zr_aload_n (n := 0) (x := 7) (by decide +kernel) rfl).trans ?_
  refine (zr_aload_n (n := 1) (x := x1) (by decide +kernel) rfl).trans ?_
  refine (zr_iconst (n := 0) (by decide +kernel)).trans ?_
  refine (zr_iload_n (n := 2) (x := zi x2) (by decide +kernel) rfl).trans ?_
  refine (zr_bipush (n := 71) (by decide +kernel) rfl).trans ?_
  refine (zr_cne (off := 7) (a := x2) (b := (71)) (t := 39) (by decide +kernel) rfl).trans (zif_ct (fun _ => ?_) (fun _ => ?_))
  · refine (zr_iload_n (n := 2) (x := zi x2) (by decide +kernel) rfl).trans ?_
    refine (zr_bipush (n := 70) (by decide +kernel) rfl).trans ?_
    refine (zr_cne (off := 7) (a := x2) (b := (70)) (t := 49) (by decide +kernel) rfl).trans (zif_ct (fun _ => ?_) (fun _ => ?_))
    · refine (zr_iconst (n := 2) (by decide +kernel)).trans ?_
      rfl
    · refine (zr_iconst (n := 1) (by decide +kernel)).trans ?_
      refine (zr_goto (off := 4) (t := 50) (by decide +kernel) rfl).trans ?_
      rfl
  · refine (zr_iconst (n := 0) (by decide +kernel)).trans ?_
    refine (zr_goto (off := 14) (t := 50) (by decide +kernel) rfl).trans ?_
    rfl
theorem ze_50_50 {V : zVt} {J : zJt} {d : Nat → Nat → UInt64} (x1 : Nat) (x2 : Int) (s1 : Nat) (s2 : Int) (s3 : Int) (h1 : zBk 10 x1) (g1 : zBk 10 s1) : zGo false 50 50 [.ref 7, .ref x1, .int (zi x2)] [.int (zi s3), .int (zi s2), .ref s1, .ref 7] (zm V J d) =
    (zGo false 51 0 [.ref 7, .ref s1, .int (zi s2), .int (zi s3), .int (zi (2))] [] (zm V J d)).bind (zGor false 50 54 [.ref 7, .ref x1, .int (zi x2)] []) := by
  refine (zr_iconst (n := 2) (by decide +kernel)).trans ?_
  exact zr_cV (i := 68) (z := 51) (w := 0) (o := 7) (t := [.int (zi (2)), .int (zi s3), .int (zi s2), .ref s1]) (rest := []) (L := [.ref 7, .ref s1, .int (zi s2), .int (zi s3), .int (zi (2))]) (pc1 := 54) (by decide +kernel) (by decide +kernel) rfl (n := 4) (r := 0) rfl rfl rfl (by decide +kernel) rfl rfl
theorem ze_50_54 {V : zVt} {J : zJt} {d : Nat → Nat → UInt64} (x1 : Nat) (x2 : Int) (s0 : Int) (h1 : zBk 10 x1) : zGo false 50 54 [.ref 7, .ref x1, .int (zi x2)] [.int (zi s0)] (zm V J d) =
    zck (qw s0 = 0 ∨ qw s0 = 1) (some (.inl (some (.int (zi s0))), zm V J d)) := by
  exact zr_zret (a := s0) (by decide +kernel) rfl
/-! PartSongDesk$Reader take (LPartSongDesk$Tokens;III)Z -/
theorem ze_51_0 {V : zVt} {J : zJt} {d : Nat → Nat → UInt64} (x1 : Nat) (x2 : Int) (x3 : Int) (x4 : Int) (h1 : zBk 10 x1) : zGo false 51 0 [.ref 7, .ref x1, .int (zi x2), .int (zi x3), .int (zi x4)] [] (zm V J d) =
    (zGo false 85 0 [.ref x1, .int (zi x2), .int (zi (V 7 2)), .int (zi x3)] [] (zm V J d)).bind (zGor false 51 10 [.ref 7, .ref x1, .int (zi x2), .int (zi x3), .int (zi x4)] []) := by
  refine (zr_aload_n (n := 1) (x := x1) (by decide +kernel) rfl).trans ?_
  refine (zr_iload_n (n := 2) (x := zi x2) (by decide +kernel) rfl).trans ?_
  refine (zr_aload_n (n := 0) (x := 7) (by decide +kernel) rfl).trans ?_
  refine (zr_getI (i := 25) (c := 7) (k := 2) (by decide +kernel) (by decide +kernel) rfl (by decide +kernel)).trans ?_
  refine (zr_iload_n (n := 3) (x := zi x3) (by decide +kernel) rfl).trans ?_
  exact zr_cV (i := 81) (z := 85) (w := 0) (o := x1) (t := [.int (zi x3), .int (zi (V 7 2)), .int (zi x2)]) (rest := []) (L := [.ref x1, .int (zi x2), .int (zi (V 7 2)), .int (zi x3)]) (pc1 := 10) (by decide +kernel) (by decide +kernel) (zb10_0 h1) (n := 3) (r := 0) rfl rfl rfl (by decide +kernel) rfl rfl
theorem ze_51_10 {V : zVt} {J : zJt} {d : Nat → Nat → UInt64} (x1 : Nat) (x2 : Int) (x3 : Int) (x4 : Int) (h1 : zBk 10 x1) : zGo false 51 10 [.ref 7, .ref x1, .int (zi x2), .int (zi x3), .int (zi x4)] [] (zm V J d) =
    zck (qw (1) = 0 ∨ qw (1) = 1) (some (.inl (some (.int (zi (1)))), zm (vup V 7 2 ((V 7 2) + x4)) J d)) := by
  refine (zr_aload_n (n := 0) (x := 7) (by decide +kernel) rfl).trans ?_
  refine (zr_dup (by decide +kernel) rfl).trans ?_
  refine (zr_getI (i := 25) (c := 7) (k := 2) (by decide +kernel) (by decide +kernel) rfl (by decide +kernel)).trans ?_
  refine (zr_iload (n := 4) (x := zi x4) (by decide +kernel) rfl).trans ?_
  refine (zr_iadd (a := (V 7 2)) (b := x4) (by decide +kernel)).trans ?_
  refine (zr_putI (i := 25) (c := 7) (k := 2) (x := ((V 7 2) + x4)) (by decide +kernel) (by decide +kernel) rfl (by decide +kernel)).trans ?_
  refine (zr_iconst (n := 1) (by decide +kernel)).trans ?_
  exact zr_zret (a := (1)) (by decide +kernel) rfl
/-! PartSongDesk$Reader readKey (LPartSongDesk$Tokens;I)Z -/
theorem ze_52_0 {V : zVt} {J : zJt} {d : Nat → Nat → UInt64} (x1 : Nat) (x2 : Int) (h1 : zBk 10 x1) : zGo false 52 0 [.ref 7, .ref x1, .int (zi x2), .null] [] (zm V J d) =
    (zGo false 53 0 [.ref 7, .int (zi (1)), .null] [] (zm V J d)).bind (zGor false 52 5 [.ref 7, .ref x1, .int (zi x2), .null] []) := by
  refine (zr_aload_n (n := 0) (x := 7) (by decide +kernel) rfl).trans ?_
  refine (zr_iconst (n := 1) (by decide +kernel)).trans ?_
  exact zr_cV (i := 85) (z := 53) (w := 0) (o := 7) (t := [.int (zi (1))]) (rest := []) (L := [.ref 7, .int (zi (1)), .null]) (pc1 := 5) (by decide +kernel) (by decide +kernel) rfl (n := 1) (r := 0) rfl rfl rfl (by decide +kernel) rfl rfl
theorem ze_52_5 {V : zVt} {J : zJt} {d : Nat → Nat → UInt64} (x1 : Nat) (x2 : Int) (s0 : Int) (h1 : zBk 10 x1) : zGo false 52 5 [.ref 7, .ref x1, .int (zi x2), .null] [.int (zi s0)] (zm V J d) =
    (if qw s0 < 0 then zGo false 52 33 [.ref 7, .ref x1, .int (zi x2), .int (zi s0)] [] (zm V J d) else (if qw (7) < qw s0 then zGo false 52 33 [.ref 7, .ref x1, .int (zi x2), .int (zi s0)] [] (zm V J d) else (zGo false 51 0 [.ref 7, .ref x1, .int (zi (1)), .int (zi (x2 * s0)), .int (zi (2))] [] (zm V J d)).bind (zGor false 52 26 [.ref 7, .ref x1, .int (zi x2), .int (zi s0)] []))) := by
  refine (zr_istore_n (n := 3) (l1 := [.ref 7, .ref x1, .int (zi x2), .int (zi s0)]) (by decide +kernel) rfl).trans ?_
  refine (zr_iload_n (n := 3) (x := zi s0) (by decide +kernel) rfl).trans ?_
  refine (zr_iflt (off := 26) (a := s0) (t := 33) (by decide +kernel) rfl).trans (zif_ct (fun _ => ?_) (fun _ => ?_))
  · rfl
  · refine (zr_iload_n (n := 3) (x := zi s0) (by decide +kernel) rfl).trans ?_
    refine (zr_bipush (n := 7) (by decide +kernel) rfl).trans ?_
    refine (zr_cgt (off := 20) (a := s0) (b := (7)) (t := 33) (by decide +kernel) rfl).trans (zif_ct (fun _ => ?_) (fun _ => ?_))
    · rfl
    · refine (zr_aload_n (n := 0) (x := 7) (by decide +kernel) rfl).trans ?_
      refine (zr_aload_n (n := 1) (x := x1) (by decide +kernel) rfl).trans ?_
      refine (zr_iconst (n := 1) (by decide +kernel)).trans ?_
      refine (zr_iload_n (n := 2) (x := zi x2) (by decide +kernel) rfl).trans ?_
      refine (zr_iload_n (n := 3) (x := zi s0) (by decide +kernel) rfl).trans ?_
      refine (zr_imul (a := x2) (b := s0) (by decide +kernel)).trans ?_
      refine (zr_iconst (n := 2) (by decide +kernel)).trans ?_
      exact zr_cV (i := 68) (z := 51) (w := 0) (o := 7) (t := [.int (zi (2)), .int (zi (x2 * s0)), .int (zi (1)), .ref x1]) (rest := []) (L := [.ref 7, .ref x1, .int (zi (1)), .int (zi (x2 * s0)), .int (zi (2))]) (pc1 := 26) (by decide +kernel) (by decide +kernel) rfl (n := 4) (r := 0) rfl rfl rfl (by decide +kernel) rfl rfl
theorem ze_52_26 {V : zVt} {J : zJt} {d : Nat → Nat → UInt64} (x1 : Nat) (x2 : Int) (x3 : Int) (s0 : Int) (h1 : zBk 10 x1) : zGo false 52 26 [.ref 7, .ref x1, .int (zi x2), .int (zi x3)] [.int (zi s0)] (zm V J d) =
    (if qw s0 = 0 then zGo false 52 33 [.ref 7, .ref x1, .int (zi x2), .int (zi x3)] [] (zm V J d) else zGo false 52 34 [.ref 7, .ref x1, .int (zi x2), .int (zi x3)] [.int (zi (1))] (zm V J d)) := by
  refine (zr_ifeq (off := 7) (a := s0) (t := 33) (by decide +kernel) rfl).trans (zif_ct (fun _ => ?_) (fun _ => ?_))
  · rfl
  · refine (zr_iconst (n := 1) (by decide +kernel)).trans ?_
    refine (zr_goto (off := 4) (t := 34) (by decide +kernel) rfl).trans ?_
    rfl
theorem ze_52_33 {V : zVt} {J : zJt} {d : Nat → Nat → UInt64} (x1 : Nat) (x2 : Int) (x3 : Int) (h1 : zBk 10 x1) : zGo false 52 33 [.ref 7, .ref x1, .int (zi x2), .int (zi x3)] [] (zm V J d) =
    zGo false 52 34 [.ref 7, .ref x1, .int (zi x2), .int (zi x3)] [.int (zi (0))] (zm V J d) := by
  refine (zr_iconst (n := 0) (by decide +kernel)).trans ?_
  rfl
theorem ze_52_34 {V : zVt} {J : zJt} {d : Nat → Nat → UInt64} (x1 : Nat) (x2 : Int) (x3 : Int) (s0 : Int) (h1 : zBk 10 x1) : zGo false 52 34 [.ref 7, .ref x1, .int (zi x2), .int (zi x3)] [.int (zi s0)] (zm V J d) =
    zck (qw s0 = 0 ∨ qw s0 = 1) (some (.inl (some (.int (zi s0))), zm V J d)) := by
  exact zr_zret (a := s0) (by decide +kernel) rfl
/-! PartSongDesk$Reader digitAt (I)I -/
theorem ze_53_0 {V : zVt} {J : zJt} {d : Nat → Nat → UInt64} (x1 : Int) : zGo false 53 0 [.ref 7, .int (zi x1), .null] [] (zm V J d) =
    (zGo false 48 0 [.ref 7, .int (zi x1), .null] [] (zm V J d)).bind (zGor false 53 5 [.ref 7, .int (zi x1), .null] []) := by
  refine (zr_aload_n (n := 0) (x := 7) (by decide +kernel) rfl).trans ?_
  refine (zr_iload_n (n := 1) (x := zi x1) (by decide +kernel) rfl).trans ?_
  exact zr_cV (i := 51) (z := 48) (w := 0) (o := 7) (t := [.int (zi x1)]) (rest := []) (L := [.ref 7, .int (zi x1), .null]) (pc1 := 5) (by decide +kernel) (by decide +kernel) rfl (n := 1) (r := 0) rfl rfl rfl (by decide +kernel) rfl rfl
theorem ze_53_5 {V : zVt} {J : zJt} {d : Nat → Nat → UInt64} (x1 : Int) (s0 : Int) : zGo false 53 5 [.ref 7, .int (zi x1), .null] [.int (zi s0)] (zm V J d) =
    (if qw s0 < qw (48) then zGo false 53 25 [.ref 7, .int (zi x1), .int (zi s0)] [] (zm V J d) else (if qw (57) < qw s0 then zGo false 53 25 [.ref 7, .int (zi x1), .int (zi s0)] [] (zm V J d) else zGo false 53 26 [.ref 7, .int (zi x1), .int (zi s0)] [.int (zi (s0 - (48)))] (zm V J d))) := by
  refine (zr_istore_n (n := 2) (l1 := [.ref 7, .int (zi x1), .int (zi s0)]) (by decide +kernel) rfl).trans ?_
  refine (zr_iload_n (n := 2) (x := zi s0) (by decide +kernel) rfl).trans ?_
  refine (zr_bipush (n := 48) (by decide +kernel) rfl).trans ?_
  refine (zr_clt (off := 16) (a := s0) (b := (48)) (t := 25) (by decide +kernel) rfl).trans (zif_ct (fun _ => ?_) (fun _ => ?_))
  · rfl
  · refine (zr_iload_n (n := 2) (x := zi s0) (by decide +kernel) rfl).trans ?_
    refine (zr_bipush (n := 57) (by decide +kernel) rfl).trans ?_
    refine (zr_cgt (off := 10) (a := s0) (b := (57)) (t := 25) (by decide +kernel) rfl).trans (zif_ct (fun _ => ?_) (fun _ => ?_))
    · rfl
    · refine (zr_iload_n (n := 2) (x := zi s0) (by decide +kernel) rfl).trans ?_
      refine (zr_bipush (n := 48) (by decide +kernel) rfl).trans ?_
      refine (zr_isub (a := s0) (b := (48)) (by decide +kernel)).trans ?_
      refine (zr_goto (off := 4) (t := 26) (by decide +kernel) rfl).trans ?_
      rfl
theorem ze_53_25 {V : zVt} {J : zJt} {d : Nat → Nat → UInt64} (x1 : Int) (x2 : Int) : zGo false 53 25 [.ref 7, .int (zi x1), .int (zi x2)] [] (zm V J d) =
    zGo false 53 26 [.ref 7, .int (zi x1), .int (zi x2)] [.int (zi (-1))] (zm V J d) := by
  refine (zr_iconst (n := -1) (by decide +kernel)).trans ?_
  rfl
theorem ze_53_26 {V : zVt} {J : zJt} {d : Nat → Nat → UInt64} (x1 : Int) (x2 : Int) (s0 : Int) : zGo false 53 26 [.ref 7, .int (zi x1), .int (zi x2)] [.int (zi s0)] (zm V J d) =
    some (.inl (some (.int (zi s0))), zm V J d) := by
  exact zr_iret (a := s0) (by decide +kernel) rfl
/-! PartSongDesk$Reader readMeter (LPartSongDesk$Tokens;)Z -/
theorem ze_54_0 {V : zVt} {J : zJt} {d : Nat → Nat → UInt64} (x1 : Nat) (h1 : zBk 10 x1) : zGo false 54 0 [.ref 7, .ref x1, .null, .null, .null] [] (zm V J d) =
    (zGo false 53 0 [.ref 7, .int (zi (1)), .null] [] (zm V J d)).bind (zGor false 54 5 [.ref 7, .ref x1, .null, .null, .null] []) := by
  refine (zr_aload_n (n := 0) (x := 7) (by decide +kernel) rfl).trans ?_
  refine (zr_iconst (n := 1) (by decide +kernel)).trans ?_
  exact zr_cV (i := 85) (z := 53) (w := 0) (o := 7) (t := [.int (zi (1))]) (rest := []) (L := [.ref 7, .int (zi (1)), .null]) (pc1 := 5) (by decide +kernel) (by decide +kernel) rfl (n := 1) (r := 0) rfl rfl rfl (by decide +kernel) rfl rfl
theorem ze_54_5 {V : zVt} {J : zJt} {d : Nat → Nat → UInt64} (x1 : Nat) (s0 : Int) (h1 : zBk 10 x1) : zGo false 54 5 [.ref 7, .ref x1, .null, .null, .null] [.int (zi s0)] (zm V J d) =
    (zGo false 53 0 [.ref 7, .int (zi (3)), .null] [] (zm V J d)).bind (zGor false 54 11 [.ref 7, .ref x1, .int (zi s0), .null, .null] []) := by
  refine (zr_istore_n (n := 2) (l1 := [.ref 7, .ref x1, .int (zi s0), .null, .null]) (by decide +kernel) rfl).trans ?_
  refine (zr_aload_n (n := 0) (x := 7) (by decide +kernel) rfl).trans ?_
  refine (zr_iconst (n := 3) (by decide +kernel)).trans ?_
  exact zr_cV (i := 85) (z := 53) (w := 0) (o := 7) (t := [.int (zi (3))]) (rest := []) (L := [.ref 7, .int (zi (3)), .null]) (pc1 := 11) (by decide +kernel) (by decide +kernel) rfl (n := 1) (r := 0) rfl rfl rfl (by decide +kernel) rfl rfl
theorem ze_54_11 {V : zVt} {J : zJt} {d : Nat → Nat → UInt64} (x1 : Nat) (x2 : Int) (s0 : Int) (h1 : zBk 10 x1) : zGo false 54 11 [.ref 7, .ref x1, .int (zi x2), .null, .null] [.int (zi s0)] (zm V J d) =
    (if qw x2 < qw (1) then zGo false 54 38 [.ref 7, .ref x1, .int (zi x2), .int (zi s0), .null] [] (zm V J d) else (zGo false 48 0 [.ref 7, .int (zi (2)), .null] [] (zm V J d)).bind (zGor false 54 22 [.ref 7, .ref x1, .int (zi x2), .int (zi s0), .null] [])) := by
  refine (zr_istore_n (n := 3) (l1 := [.ref 7, .ref x1, .int (zi x2), .int (zi s0), .null]) (by decide +kernel) rfl).trans ?_
  refine (zr_iload_n (n := 2) (x := zi x2) (by decide +kernel) rfl).trans ?_
  refine (zr_iconst (n := 1) (by decide +kernel)).trans ?_
  refine (zr_clt (off := 24) (a := x2) (b := (1)) (t := 38) (by decide +kernel) rfl).trans (zif_ct (fun _ => ?_) (fun _ => ?_))
  · rfl
  · refine (zr_aload_n (n := 0) (x := 7) (by decide +kernel) rfl).trans ?_
    refine (zr_iconst (n := 2) (by decide +kernel)).trans ?_
    exact zr_cV (i := 51) (z := 48) (w := 0) (o := 7) (t := [.int (zi (2))]) (rest := []) (L := [.ref 7, .int (zi (2)), .null]) (pc1 := 22) (by decide +kernel) (by decide +kernel) rfl (n := 1) (r := 0) rfl rfl rfl (by decide +kernel) rfl rfl
theorem ze_54_22 {V : zVt} {J : zJt} {d : Nat → Nat → UInt64} (x1 : Nat) (x2 : Int) (x3 : Int) (s0 : Int) (h1 : zBk 10 x1) : zGo false 54 22 [.ref 7, .ref x1, .int (zi x2), .int (zi x3), .null] [.int (zi s0)] (zm V J d) =
    (if qw s0 ≠ qw (47) then zGo false 54 38 [.ref 7, .ref x1, .int (zi x2), .int (zi x3), .null] [] (zm V J d) else (if qw x3 = qw (4) then zGo false 54 40 [.ref 7, .ref x1, .int (zi x2), .int (zi x3), .null] [] (zm V J d) else (if qw x3 = qw (8) then zGo false 54 40 [.ref 7, .ref x1, .int (zi x2), .int (zi x3), .null] [] (zm V J d) else zGo false 54 38 [.ref 7, .ref x1, .int (zi x2), .int (zi x3), .null] [] (zm V J d)))) := by
  refine (zr_bipush (n := 47) (by decide +kernel) rfl).trans ?_
  refine (zr_cne (off := 14) (a := s0) (b := (47)) (t := 38) (by decide +kernel) rfl).trans (zif_ct (fun _ => ?_) (fun _ => ?_))
  · rfl
  · refine (zr_iload_n (n := 3) (x := zi x3) (by decide +kernel) rfl).trans ?_
    refine (zr_iconst (n := 4) (by decide +kernel)).trans ?_
    refine (zr_ceq (off := 11) (a := x3) (b := (4)) (t := 40) (by decide +kernel) rfl).trans (zif_ct (fun _ => ?_) (fun _ => ?_))
    · rfl
    · refine (zr_iload_n (n := 3) (x := zi x3) (by decide +kernel) rfl).trans ?_
      refine (zr_bipush (n := 8) (by decide +kernel) rfl).trans ?_
      refine (zr_ceq (off := 5) (a := x3) (b := (8)) (t := 40) (by decide +kernel) rfl).trans (zif_ct (fun _ => ?_) (fun _ => ?_))
      · rfl
      · rfl
theorem ze_54_38 {V : zVt} {J : zJt} {d : Nat → Nat → UInt64} (x1 : Nat) (x2 : Int) (x3 : Int) (h1 : zBk 10 x1) : zGo false 54 38 [.ref 7, .ref x1, .int (zi x2), .int (zi x3), .null] [] (zm V J d) =
    zck (qw (0) = 0 ∨ qw (0) = 1) (some (.inl (some (.int (zi (0)))), zm V J d)) := by
  refine (zr_iconst (n := 0) (by decide +kernel)).trans ?_
  exact zr_zret (a := (0)) (by decide +kernel) rfl
theorem ze_54_40 {V : zVt} {J : zJt} {d : Nat → Nat → UInt64} (x1 : Nat) (x2 : Int) (x3 : Int) (h1 : zBk 10 x1) : zGo false 54 40 [.ref 7, .ref x1, .int (zi x2), .int (zi x3), .null] [] (zm V J d) =
    (if qw x3 ≠ qw (4) then zGo false 54 51 [.ref 7, .ref x1, .int (zi x2), .int (zi x3), .null] [.int (zi (2)), .int (zi x2)] (zm V J d) else zGo false 54 51 [.ref 7, .ref x1, .int (zi x2), .int (zi x3), .null] [.int (zi (4)), .int (zi x2)] (zm V J d)) := by
  refine (zr_iload_n (n := 2) (x := zi x2) (by decide +kernel) rfl).trans ?_
  refine (zr_iload_n (n := 3) (x := zi x3) (by decide +kernel) rfl).trans ?_
  refine (zr_iconst (n := 4) (by decide +kernel)).trans ?_
  refine (zr_cne (off := 7) (a := x3) (b := (4)) (t := 50) (by decide +kernel) rfl).trans (zif_ct (fun _ => ?_) (fun _ => ?_))
  · refine (zr_iconst (n := 2) (by decide +kernel)).trans ?_
    rfl
  · refine (zr_iconst (n := 4) (by decide +kernel)).trans ?_
    refine (zr_goto (off := 4) (t := 51) (by decide +kernel) rfl).trans ?_
    rfl
theorem ze_54_51 {V : zVt} {J : zJt} {d : Nat → Nat → UInt64} (x1 : Nat) (x2 : Int) (x3 : Int) (s0 : Int) (s1 : Int) (h1 : zBk 10 x1) : zGo false 54 51 [.ref 7, .ref x1, .int (zi x2), .int (zi x3), .null] [.int (zi s1), .int (zi s0)] (zm V J d) =
    (if qw (s0 * s1) < qw (2) then zGo false 54 83 [.ref 7, .ref x1, .int (zi x2), .int (zi x3), .int (zi (s0 * s1))] [] (zm V J d) else (if qw (16) < qw (s0 * s1) then zGo false 54 83 [.ref 7, .ref x1, .int (zi x2), .int (zi x3), .int (zi (s0 * s1))] [] (zm V J d) else (zGo false 51 0 [.ref 7, .ref x1, .int (zi (2)), .int (zi (s0 * s1)), .int (zi (4))] [] (zm V J d)).bind (zGor false 54 76 [.ref 7, .ref x1, .int (zi x2), .int (zi x3), .int (zi (s0 * s1))] []))) := by
  refine (zr_imul (a := s0) (b := s1) (by decide +kernel)).trans ?_
  refine (zr_istore (n := 4) (l1 := [.ref 7, .ref x1, .int (zi x2), .int (zi x3), .int (zi (s0 * s1))]) (by decide +kernel) rfl).trans ?_
  refine (zr_iload (n := 4) (x := zi (s0 * s1)) (by decide +kernel) rfl).trans ?_
  refine (zr_iconst (n := 2) (by decide +kernel)).trans ?_
  refine (zr_clt (off := 26) (a := (s0 * s1)) (b := (2)) (t := 83) (by decide +kernel) rfl).trans (zif_ct (fun _ => ?_) (fun _ => ?_))
  · rfl
  · refine (zr_iload (n := 4) (x := zi (s0 * s1)) (by decide +kernel) rfl).trans ?_
    refine (zr_bipush (n := 16) (by decide +kernel) rfl).trans ?_
    refine (zr_cgt (off := 19) (a := (s0 * s1)) (b := (16)) (t := 83) (by decide +kernel) rfl).trans (zif_ct (fun _ => ?_) (fun _ => ?_))
    · rfl
    · refine (zr_aload_n (n := 0) (x := 7) (by decide +kernel) rfl).trans ?_
      refine (zr_aload_n (n := 1) (x := x1) (by decide +kernel) rfl).trans ?_
      refine (zr_iconst (n := 2) (by decide +kernel)).trans ?_
      refine (zr_iload (n := 4) (x := zi (s0 * s1)) (by decide +kernel) rfl).trans ?_
      refine (zr_iconst (n := 4) (by decide +kernel)).trans ?_
      exact zr_cV (i := 68) (z := 51) (w := 0) (o := 7) (t := [.int (zi (4)), .int (zi (s0 * s1)), .int (zi (2)), .ref x1]) (rest := []) (L := [.ref 7, .ref x1, .int (zi (2)), .int (zi (s0 * s1)), .int (zi (4))]) (pc1 := 76) (by decide +kernel) (by decide +kernel) rfl (n := 4) (r := 0) rfl rfl rfl (by decide +kernel) rfl rfl
theorem ze_54_76 {V : zVt} {J : zJt} {d : Nat → Nat → UInt64} (x1 : Nat) (x2 : Int) (x3 : Int) (x4 : Int) (s0 : Int) (h1 : zBk 10 x1) : zGo false 54 76 [.ref 7, .ref x1, .int (zi x2), .int (zi x3), .int (zi x4)] [.int (zi s0)] (zm V J d) =
    (if qw s0 = 0 then zGo false 54 83 [.ref 7, .ref x1, .int (zi x2), .int (zi x3), .int (zi x4)] [] (zm V J d) else zGo false 54 84 [.ref 7, .ref x1, .int (zi x2), .int (zi x3), .int (zi x4)] [.int (zi (1))] (zm V J d)) := by
  refine (zr_ifeq (off := 7) (a := s0) (t := 83) (by decide +kernel) rfl).trans (zif_ct (fun _ => ?_) (fun _ => ?_))
  · rfl
  · refine (zr_iconst (n := 1) (by decide +kernel)).trans ?_
    refine (zr_goto (off := 4) (t := 84) (by decide +kernel) rfl).trans ?_
    rfl
theorem ze_54_83 {V : zVt} {J : zJt} {d : Nat → Nat → UInt64} (x1 : Nat) (x2 : Int) (x3 : Int) (x4 : Int) (h1 : zBk 10 x1) : zGo false 54 83 [.ref 7, .ref x1, .int (zi x2), .int (zi x3), .int (zi x4)] [] (zm V J d) =
    zGo false 54 84 [.ref 7, .ref x1, .int (zi x2), .int (zi x3), .int (zi x4)] [.int (zi (0))] (zm V J d) := by
  refine (zr_iconst (n := 0) (by decide +kernel)).trans ?_
  rfl
theorem ze_54_84 {V : zVt} {J : zJt} {d : Nat → Nat → UInt64} (x1 : Nat) (x2 : Int) (x3 : Int) (x4 : Int) (s0 : Int) (h1 : zBk 10 x1) : zGo false 54 84 [.ref 7, .ref x1, .int (zi x2), .int (zi x3), .int (zi x4)] [.int (zi s0)] (zm V J d) =
    zck (qw s0 = 0 ∨ qw s0 = 1) (some (.inl (some (.int (zi s0))), zm V J d)) := by
  exact zr_zret (a := s0) (by decide +kernel) rfl
/-! PartSongDesk$Reader readRest (LPartSongDesk$Tokens;)Z -/
theorem ze_55_0 {V : zVt} {J : zJt} {d : Nat → Nat → UInt64} (x1 : Nat) (h1 : zBk 10 x1) : zGo false 55 0 [.ref 7, .ref x1, .null, .null] [] (zm V J d) =
    (zGo false 48 0 [.ref 7, .int (zi (1)), .null] [] (zm V J d)).bind (zGor false 55 6 [.ref 7, .ref x1, .null, .null] [.ref 7]) := by
  refine (zr_aload_n (n := 0) (x := 7) (by decide +kernel) rfl).trans ?_
  refine (zr_aload_n (n := 0) (x := 7) (by decide +kernel) rfl).trans ?_
  refine (zr_iconst (n := 1) (by decide +kernel)).trans ?_
  exact zr_cV (i := 51) (z := 48) (w := 0) (o := 7) (t := [.int (zi (1))]) (rest := [.ref 7]) (L := [.ref 7, .int (zi (1)), .null]) (pc1 := 6) (by decide +kernel) (by decide +kernel) rfl (n := 1) (r := 1) rfl rfl rfl (by decide +kernel) rfl rfl
theorem ze_55_6 {V : zVt} {J : zJt} {d : Nat → Nat → UInt64} (x1 : Nat) (s1 : Int) (h1 : zBk 10 x1) : zGo false 55 6 [.ref 7, .ref x1, .null, .null] [.int (zi s1), .ref 7] (zm V J d) =
    (zGo false 48 0 [.ref 7, .int (zi (2)), .null] [] (zm V J d)).bind (zGor false 55 11 [.ref 7, .ref x1, .null, .null] [.int (zi s1), .ref 7]) := by
  refine (zr_aload_n (n := 0) (x := 7) (by decide +kernel) rfl).trans ?_
  refine (zr_iconst (n := 2) (by decide +kernel)).trans ?_
  exact zr_cV (i := 51) (z := 48) (w := 0) (o := 7) (t := [.int (zi (2))]) (rest := [.int (zi s1), .ref 7]) (L := [.ref 7, .int (zi (2)), .null]) (pc1 := 11) (by decide +kernel) (by decide +kernel) rfl (n := 1) (r := 2) rfl rfl rfl (by decide +kernel) rfl rfl
theorem ze_55_11 {V : zVt} {J : zJt} {d : Nat → Nat → UInt64} (x1 : Nat) (s1 : Int) (s2 : Int) (h1 : zBk 10 x1) : zGo false 55 11 [.ref 7, .ref x1, .null, .null] [.int (zi s2), .int (zi s1), .ref 7] (zm V J d) =
    (zGo false 56 0 [.ref 7, .int (zi s1), .int (zi s2), .null] [] (zm V J d)).bind (zGor false 55 14 [.ref 7, .ref x1, .null, .null] []) := by
  exact zr_cV (i := 89) (z := 56) (w := 0) (o := 7) (t := [.int (zi s2), .int (zi s1)]) (rest := []) (L := [.ref 7, .int (zi s1), .int (zi s2), .null]) (pc1 := 14) (by decide +kernel) (by decide +kernel) rfl (n := 2) (r := 0) rfl rfl rfl (by decide +kernel) rfl rfl
theorem ze_55_14 {V : zVt} {J : zJt} {d : Nat → Nat → UInt64} (x1 : Nat) (s0 : Int) (h1 : zBk 10 x1) : zGo false 55 14 [.ref 7, .ref x1, .null, .null] [.int (zi s0)] (zm V J d) =
    (if qw s0 ≠ 0 then (zGo false 48 0 [.ref 7, .int (zi (1)), .null] [] (zm V J d)).bind (zGor false 55 36 [.ref 7, .ref x1, .int (zi s0), .int (zi (V x1 0))] [.ref 7, .int (zi (0)), .int (zi (4)), .ref x1, .ref 7]) else zck (qw (0) = 0 ∨ qw (0) = 1) (some (.inl (some (.int (zi (0)))), zm V J d))) := by
  refine (zr_istore_n (n := 2) (l1 := [.ref 7, .ref x1, .int (zi s0), .null]) (by decide +kernel) rfl).trans ?_
  refine (zr_iload_n (n := 2) (x := zi s0) (by decide +kernel) rfl).trans ?_
  refine (zr_ifne (off := 5) (a := s0) (t := 21) (by decide +kernel) rfl).trans (zif_ct (fun _ => ?_) (fun _ => ?_))
  · refine (zr_aload_n (n := 1) (x := x1) (by decide +kernel) rfl).trans ?_
    refine (zr_getI (i := 40) (c := 10) (k := 0) (by decide +kernel) (by decide +kernel) (zb10_0 h1) (by decide +kernel)).trans ?_
    refine (zr_istore_n (n := 3) (l1 := [.ref 7, .ref x1, .int (zi s0), .int (zi (V x1 0))]) (by decide +kernel) rfl).trans ?_
    refine (zr_aload_n (n := 0) (x := 7) (by decide +kernel) rfl).trans ?_
    refine (zr_aload_n (n := 1) (x := x1) (by decide +kernel) rfl).trans ?_
    refine (zr_iconst (n := 4) (by decide +kernel)).trans ?_
    refine (zr_iconst (n := 0) (by decide +kernel)).trans ?_
    refine (zr_aload_n (n := 0) (x := 7) (by decide +kernel) rfl).trans ?_
    refine (zr_aload_n (n := 0) (x := 7) (by decide +kernel) rfl).trans ?_
    refine (zr_iconst (n := 1) (by decide +kernel)).trans ?_
    exact zr_cV (i := 51) (z := 48) (w := 0) (o := 7) (t := [.int (zi (1))]) (rest := [.ref 7, .int (zi (0)), .int (zi (4)), .ref x1, .ref 7]) (L := [.ref 7, .int (zi (1)), .null]) (pc1 := 36) (by decide +kernel) (by decide +kernel) rfl (n := 1) (r := 5) rfl rfl rfl (by decide +kernel) rfl rfl
  · refine (zr_iconst (n := 0) (by decide +kernel)).trans ?_
    exact zr_zret (a := (0)) (by decide +kernel) rfl
theorem ze_55_36 {V : zVt} {J : zJt} {d : Nat → Nat → UInt64} (x1 : Nat) (x2 : Int) (x3 : Int) (s1 : Nat) (s2 : Int) (s3 : Int) (s5 : Int) (h1 : zBk 10 x1) (g1 : zBk 10 s1) : zGo false 55 36 [.ref 7, .ref x1, .int (zi x2), .int (zi x3)] [.int (zi s5), .ref 7, .int (zi s3), .int (zi s2), .ref s1, .ref 7] (zm V J d) =
    (zGo false 48 0 [.ref 7, .int (zi (2)), .null] [] (zm V J d)).bind (zGor false 55 41 [.ref 7, .ref x1, .int (zi x2), .int (zi x3)] [.int (zi s5), .ref 7, .int (zi s3), .int (zi s2), .ref s1, .ref 7]) := by
  refine (zr_aload_n (n := 0) (x := 7) (by decide +kernel) rfl).trans ?_
  refine (zr_iconst (n := 2) (by decide +kernel)).trans ?_
  exact zr_cV (i := 51) (z := 48) (w := 0) (o := 7) (t := [.int (zi (2))]) (rest := [.int (zi s5), .ref 7, .int (zi s3), .int (zi s2), .ref s1, .ref 7]) (L := [.ref 7, .int (zi (2)), .null]) (pc1 := 41) (by decide +kernel) (by decide +kernel) rfl (n := 1) (r := 6) rfl rfl rfl (by decide +kernel) rfl rfl
theorem ze_55_41 {V : zVt} {J : zJt} {d : Nat → Nat → UInt64} (x1 : Nat) (x2 : Int) (x3 : Int) (s1 : Nat) (s2 : Int) (s3 : Int) (s5 : Int) (s6 : Int) (h1 : zBk 10 x1) (g1 : zBk 10 s1) : zGo false 55 41 [.ref 7, .ref x1, .int (zi x2), .int (zi x3)] [.int (zi s6), .int (zi s5), .ref 7, .int (zi s3), .int (zi s2), .ref s1, .ref 7] (zm V J d) =
    (zGo false 58 0 [.ref 7, .int (zi s5), .int (zi s6)] [] (zm V J d)).bind (zGor false 55 44 [.ref 7, .ref x1, .int (zi x2), .int (zi x3)] [.int (zi s3), .int (zi s2), .ref s1, .ref 7]) := by
  exact zr_cV (i := 93) (z := 58) (w := 0) (o := 7) (t := [.int (zi s6), .int (zi s5)]) (rest := [.int (zi s3), .int (zi s2), .ref s1, .ref 7]) (L := [.ref 7, .int (zi s5), .int (zi s6)]) (pc1 := 44) (by decide +kernel) (by decide +kernel) rfl (n := 2) (r := 4) rfl rfl rfl (by decide +kernel) rfl rfl
theorem ze_55_44 {V : zVt} {J : zJt} {d : Nat → Nat → UInt64} (x1 : Nat) (x2 : Int) (x3 : Int) (s1 : Nat) (s2 : Int) (s3 : Int) (s4 : Int) (h1 : zBk 10 x1) (g1 : zBk 10 s1) : zGo false 55 44 [.ref 7, .ref x1, .int (zi x2), .int (zi x3)] [.int (zi s4), .int (zi s3), .int (zi s2), .ref s1, .ref 7] (zm V J d) =
    (if qw s4 = 0 then zGo false 55 52 [.ref 7, .ref x1, .int (zi x2), .int (zi x3)] [.int (zi (2)), .int (zi s3), .int (zi s2), .ref s1, .ref 7] (zm V J d) else zGo false 55 52 [.ref 7, .ref x1, .int (zi x2), .int (zi x3)] [.int (zi (3)), .int (zi s3), .int (zi s2), .ref s1, .ref 7] (zm V J d)) := by
  refine (zr_ifeq (off := 7) (a := s4) (t := 51) (by decide +kernel) rfl).trans (zif_ct (fun _ => ?_) (fun _ => ?_))
  · refine (zr_iconst (n := 2) (by decide +kernel)).trans ?_
    rfl
  · refine (zr_iconst (n := 3) (by decide +kernel)).trans ?_
    refine (zr_goto (off := 4) (t := 52) (by decide +kernel) rfl).trans ?_
    rfl
theorem ze_55_52 {V : zVt} {J : zJt} {d : Nat → Nat → UInt64} (x1 : Nat) (x2 : Int) (x3 : Int) (s1 : Nat) (s2 : Int) (s3 : Int) (s4 : Int) (h1 : zBk 10 x1) (g1 : zBk 10 s1) : zGo false 55 52 [.ref 7, .ref x1, .int (zi x2), .int (zi x3)] [.int (zi s4), .int (zi s3), .int (zi s2), .ref s1, .ref 7] (zm V J d) =
    (zGo false 51 0 [.ref 7, .ref s1, .int (zi s2), .int (zi s3), .int (zi s4)] [] (zm V J d)).bind (zGor false 55 55 [.ref 7, .ref x1, .int (zi x2), .int (zi x3)] []) := by
  exact zr_cV (i := 68) (z := 51) (w := 0) (o := 7) (t := [.int (zi s4), .int (zi s3), .int (zi s2), .ref s1]) (rest := []) (L := [.ref 7, .ref s1, .int (zi s2), .int (zi s3), .int (zi s4)]) (pc1 := 55) (by decide +kernel) (by decide +kernel) rfl (n := 4) (r := 0) rfl rfl rfl (by decide +kernel) rfl rfl
theorem ze_55_55 {V : zVt} {J : zJt} {d : Nat → Nat → UInt64} (x1 : Nat) (x2 : Int) (x3 : Int) (s0 : Int) (h1 : zBk 10 x1) : zGo false 55 55 [.ref 7, .ref x1, .int (zi x2), .int (zi x3)] [.int (zi s0)] (zm V J d) =
    (zGo false 86 0 [.ref x1, .int (zi x3)] [] (zm V J d)).bind (zGor false 55 61 [.ref 7, .ref x1, .int (zi x2), .int (zi x3)] []) := by
  refine (zr_pop (by decide +kernel) rfl).trans ?_
  refine (zr_aload_n (n := 1) (x := x1) (by decide +kernel) rfl).trans ?_
  refine (zr_iload_n (n := 3) (x := zi x3) (by decide +kernel) rfl).trans ?_
  exact zr_cV (i := 97) (z := 86) (w := 0) (o := x1) (t := [.int (zi x3)]) (rest := []) (L := [.ref x1, .int (zi x3)]) (pc1 := 61) (by decide +kernel) (by decide +kernel) (zb10_0 h1) (n := 1) (r := 0) rfl rfl rfl (by decide +kernel) rfl rfl
theorem ze_55_61 {V : zVt} {J : zJt} {d : Nat → Nat → UInt64} (x1 : Nat) (x2 : Int) (x3 : Int) (s0 : Int) (h1 : zBk 10 x1) : zGo false 55 61 [.ref 7, .ref x1, .int (zi x2), .int (zi x3)] [.int (zi s0)] (zm V J d) =
    (if qw s0 = 0 then zGo false 55 71 [.ref 7, .ref x1, .int (zi x2), .int (zi x3)] [] (zm V J d) else zck (0 ≤ qw x3 ∧ qw x3 < (60 : Nat)) (zGo false 55 71 [.ref 7, .ref x1, .int (zi x2), .int (zi x3)] [] (zm (vup V (x1 + 6) (qw x3) x2) J d))) := by
  refine (zr_ifeq (off := 10) (a := s0) (t := 71) (by decide +kernel) rfl).trans (zif_ct (fun _ => ?_) (fun _ => ?_))
  · rfl
  · refine (zr_aload_n (n := 1) (x := x1) (by decide +kernel) rfl).trans ?_
    refine (zr_getR (i := 101) (c := 10) (k := 9) (r := (x1 + 6)) (by decide +kernel) (by decide +kernel) (zb10_0 h1) (by decide +kernel) (zR0_f (o := x1) (c := 10) (n := 0) (k := 9) (j := 6) (zb10_0 h1) (by decide) rfl)).trans ?_
    refine (zr_iload_n (n := 3) (x := zi x3) (by decide +kernel) rfl).trans ?_
    refine (zr_iload_n (n := 2) (x := zi x2) (by decide +kernel) rfl).trans ?_
    refine (zr_iast (n := 60) (e := x3) (x := x2) (by decide +kernel) (zb10_6 h1)).trans (zck_ct fun _ => ?_)
    rfl
theorem ze_55_71 {V : zVt} {J : zJt} {d : Nat → Nat → UInt64} (x1 : Nat) (x2 : Int) (x3 : Int) (h1 : zBk 10 x1) : zGo false 55 71 [.ref 7, .ref x1, .int (zi x2), .int (zi x3)] [] (zm V J d) =
    zck (qw (1) = 0 ∨ qw (1) = 1) (some (.inl (some (.int (zi (1)))), zm V J d)) := by
  refine (zr_iconst (n := 1) (by decide +kernel)).trans ?_
  exact zr_zret (a := (1)) (by decide +kernel) rfl
/-! PartSongDesk$Reader ticksOf (CC)I -/
theorem ze_56_0 {V : zVt} {J : zJt} {d : Nat → Nat → UInt64} (x1 : Int) (x2 : Int) : zGo false 56 0 [.ref 7, .int (zi x1), .int (zi x2), .null] [] (zm V J d) =
    (zGo false 57 0 [.ref 7, .int (zi x1)] [] (zm V J d)).bind (zGor false 56 5 [.ref 7, .int (zi x1), .int (zi x2), .null] []) := by
  refine (zr_aload_n (n := 0) (x := 7) (by decide +kernel) rfl).trans ?_
  refine (zr_iload_n (n := 1) (x := zi x1) (by decide +kernel) rfl).trans ?_
  exact zr_cV (i := 119) (z := 57) (w := 0) (o := 7) (t := [.int (zi x1)]) (rest := []) (L := [.ref 7, .int (zi x1)]) (pc1 := 5) (by decide +kernel) (by decide +kernel) rfl (n := 1) (r := 0) rfl rfl rfl (by decide +kernel) rfl rfl
theorem ze_56_5 {V : zVt} {J : zJt} {d : Nat → Nat → UInt64} (x1 : Int) (x2 : Int) (s0 : Int) : zGo false 56 5 [.ref 7, .int (zi x1), .int (zi x2), .null] [.int (zi s0)] (zm V J d) =
    (if qw x2 ≠ qw (46) then zGo false 56 25 [.ref 7, .int (zi x1), .int (zi x2), .int (zi s0)] [] (zm V J d) else (if qw s0 ≤ qw (1) then zGo false 56 25 [.ref 7, .int (zi x1), .int (zi x2), .int (zi s0)] [] (zm V J d) else zck (qw (2) ≠ 0) (zGo false 56 26 [.ref 7, .int (zi x1), .int (zi x2), .int (zi s0)] [.int (zi (s0 + (qdiv s0 (2))))] (zm V J d)))) := by
  refine (zr_istore_n (n := 3) (l1 := [.ref 7, .int (zi x1), .int (zi x2), .int (zi s0)]) (by decide +kernel) rfl).trans ?_
  refine (zr_iload_n (n := 2) (x := zi x2) (by decide +kernel) rfl).trans ?_
  refine (zr_bipush (n := 46) (by decide +kernel) rfl).trans ?_
  refine (zr_cne (off := 16) (a := x2) (b := (46)) (t := 25) (by decide +kernel) rfl).trans (zif_ct (fun _ => ?_) (fun _ => ?_))
  · rfl
  · refine (zr_iload_n (n := 3) (x := zi s0) (by decide +kernel) rfl).trans ?_
    refine (zr_iconst (n := 1) (by decide +kernel)).trans ?_
    refine (zr_cle (off := 11) (a := s0) (b := (1)) (t := 25) (by decide +kernel) rfl).trans (zif_ct (fun _ => ?_) (fun _ => ?_))
    · rfl
    · refine (zr_iload_n (n := 3) (x := zi s0) (by decide +kernel) rfl).trans ?_
      refine (zr_iload_n (n := 3) (x := zi s0) (by decide +kernel) rfl).trans ?_
      refine (zr_iconst (n := 2) (by decide +kernel)).trans ?_
      refine (zr_idiv (a := s0) (b := (2)) (by decide +kernel)).trans (zck_ct fun _ => ?_)
      refine (zr_iadd (a := s0) (b := (qdiv s0 (2))) (by decide +kernel)).trans ?_
      refine (zr_goto (off := 4) (t := 26) (by decide +kernel) rfl).trans ?_
      rfl
theorem ze_56_25 {V : zVt} {J : zJt} {d : Nat → Nat → UInt64} (x1 : Int) (x2 : Int) (x3 : Int) : zGo false 56 25 [.ref 7, .int (zi x1), .int (zi x2), .int (zi x3)] [] (zm V J d) =
    zGo false 56 26 [.ref 7, .int (zi x1), .int (zi x2), .int (zi x3)] [.int (zi x3)] (zm V J d) := by
  refine (zr_iload_n (n := 3) (x := zi x3) (by decide +kernel) rfl).trans ?_
  rfl
theorem ze_56_26 {V : zVt} {J : zJt} {d : Nat → Nat → UInt64} (x1 : Int) (x2 : Int) (x3 : Int) (s0 : Int) : zGo false 56 26 [.ref 7, .int (zi x1), .int (zi x2), .int (zi x3)] [.int (zi s0)] (zm V J d) =
    some (.inl (some (.int (zi s0))), zm V J d) := by
  exact zr_iret (a := s0) (by decide +kernel) rfl
/-! PartSongDesk$Reader plainTicksOf (C)I -/
theorem ze_57_0 {V : zVt} {J : zJt} {d : Nat → Nat → UInt64} (x1 : Int) : zGo false 57 0 [.ref 7, .int (zi x1)] [] (zm V J d) =
    (if qw x1 = 101 then some (.inl (some (.int (zi (2)))), zm V J d) else (if qw x1 = 104 then some (.inl (some (.int (zi (8)))), zm V J d) else (if qw x1 = 113 then some (.inl (some (.int (zi (4)))), zm V J d) else (if qw x1 = 115 then some (.inl (some (.int (zi (1)))), zm V J d) else (if qw x1 = 119 then some (.inl (some (.int (zi (16)))), zm V J d) else some (.inl (some (.int (zi (0)))), zm V J d)))))) := by
  refine (zr_iload_n (n := 1) (x := zi x1) (by decide +kernel) rfl).trans ?_
  refine (zr_lsw (dflt := 63) (ps := #[(101, 59), (104, 54), (113, 57), (115, 61), (119, 51)]) (len := 51) (a := x1) (by decide +kernel) (by decide)).trans ?_
  refine (zSwg_l (t := 60) rfl).trans (zif_ct (fun _ => ?_) (fun _ => ?_))
  · refine (zr_iconst (n := 2) (by decide +kernel)).trans ?_
    exact zr_iret (a := (2)) (by decide +kernel) rfl
  refine (zSwg_l (t := 55) rfl).trans (zif_ct (fun _ => ?_) (fun _ => ?_))
  · refine (zr_bipush (n := 8) (by decide +kernel) rfl).trans ?_
    exact zr_iret (a := (8)) (by decide +kernel) rfl
  refine (zSwg_l (t := 58) rfl).trans (zif_ct (fun _ => ?_) (fun _ => ?_))
  · refine (zr_iconst (n := 4) (by decide +kernel)).trans ?_
    exact zr_iret (a := (4)) (by decide +kernel) rfl
  refine (zSwg_l (t := 62) rfl).trans (zif_ct (fun _ => ?_) (fun _ => ?_))
  · refine (zr_iconst (n := 1) (by decide +kernel)).trans ?_
    exact zr_iret (a := (1)) (by decide +kernel) rfl
  refine (zSwg_l (t := 52) rfl).trans (zif_ct (fun _ => ?_) (fun _ => ?_))
  · refine (zr_bipush (n := 16) (by decide +kernel) rfl).trans ?_
    exact zr_iret (a := (16)) (by decide +kernel) rfl
  refine (zSwg_ld (t := 64) rfl).trans ?_
  refine (zr_iconst (n := 0) (by decide +kernel)).trans ?_
  exact zr_iret (a := (0)) (by decide +kernel) rfl
/-! PartSongDesk$Reader isDotted (CC)Z -/
theorem ze_58_0 {V : zVt} {J : zJt} {d : Nat → Nat → UInt64} (x1 : Int) (x2 : Int) : zGo false 58 0 [.ref 7, .int (zi x1), .int (zi x2)] [] (zm V J d) =
    (if qw x2 ≠ qw (46) then zGo false 58 19 [.ref 7, .int (zi x1), .int (zi x2)] [] (zm V J d) else (zGo false 57 0 [.ref 7, .int (zi x1)] [] (zm V J d)).bind (zGor false 58 11 [.ref 7, .int (zi x1), .int (zi x2)] [])) := by
  refine (zr_iload_n (n := 2) (x := zi x2) (by decide +kernel) rfl).trans ?_
  refine (zr_bipush (n := 46) (by decide +kernel) rfl).trans ?_
  refine (zr_cne (off := 16) (a := x2) (b := (46)) (t := 19) (by decide +kernel) rfl).trans (zif_ct (fun _ => ?_) (fun _ => ?_))
  · rfl
  · refine (zr_aload_n (n := 0) (x := 7) (by decide +kernel) rfl).trans ?_
    refine (zr_iload_n (n := 1) (x := zi x1) (by decide +kernel) rfl).trans ?_
    exact zr_cV (i := 119) (z := 57) (w := 0) (o := 7) (t := [.int (zi x1)]) (rest := []) (L := [.ref 7, .int (zi x1)]) (pc1 := 11) (by decide +kernel) (by decide +kernel) rfl (n := 1) (r := 0) rfl rfl rfl (by decide +kernel) rfl rfl
theorem ze_58_11 {V : zVt} {J : zJt} {d : Nat → Nat → UInt64} (x1 : Int) (x2 : Int) (s0 : Int) : zGo false 58 11 [.ref 7, .int (zi x1), .int (zi x2)] [.int (zi s0)] (zm V J d) =
    (if qw s0 ≤ qw (1) then zGo false 58 19 [.ref 7, .int (zi x1), .int (zi x2)] [] (zm V J d) else zGo false 58 20 [.ref 7, .int (zi x1), .int (zi x2)] [.int (zi (1))] (zm V J d)) := by
  refine (zr_iconst (n := 1) (by decide +kernel)).trans ?_
  refine (zr_cle (off := 7) (a := s0) (b := (1)) (t := 19) (by decide +kernel) rfl).trans (zif_ct (fun _ => ?_) (fun _ => ?_))
  · rfl
  · refine (zr_iconst (n := 1) (by decide +kernel)).trans ?_
    refine (zr_goto (off := 4) (t := 20) (by decide +kernel) rfl).trans ?_
    rfl
theorem ze_58_19 {V : zVt} {J : zJt} {d : Nat → Nat → UInt64} (x1 : Int) (x2 : Int) : zGo false 58 19 [.ref 7, .int (zi x1), .int (zi x2)] [] (zm V J d) =
    zGo false 58 20 [.ref 7, .int (zi x1), .int (zi x2)] [.int (zi (0))] (zm V J d) := by
  refine (zr_iconst (n := 0) (by decide +kernel)).trans ?_
  rfl
theorem ze_58_20 {V : zVt} {J : zJt} {d : Nat → Nat → UInt64} (x1 : Int) (x2 : Int) (s0 : Int) : zGo false 58 20 [.ref 7, .int (zi x1), .int (zi x2)] [.int (zi s0)] (zm V J d) =
    zck (qw s0 = 0 ∨ qw s0 = 1) (some (.inl (some (.int (zi s0))), zm V J d)) := by
  exact zr_zret (a := s0) (by decide +kernel) rfl
/-! PartSongDesk$Reader readClose (LPartSongDesk$Tokens;)Z -/
theorem ze_59_0 {V : zVt} {J : zJt} {d : Nat → Nat → UInt64} (x1 : Nat) (h1 : zBk 10 x1) : zGo false 59 0 [.ref 7, .ref x1, .null] [] (zm V J d) =
    (zGo false 53 0 [.ref 7, .int (zi (1)), .null] [] (zm V J d)).bind (zGor false 59 5 [.ref 7, .ref x1, .null] []) := by
  refine (zr_aload_n (n := 0) (x := 7) (by decide +kernel) rfl).trans ?_
  refine (zr_iconst (n := 1) (by decide +kernel)).trans ?_
  exact zr_cV (i := 85) (z := 53) (w := 0) (o := 7) (t := [.int (zi (1))]) (rest := []) (L := [.ref 7, .int (zi (1)), .null]) (pc1 := 5) (by decide +kernel) (by decide +kernel) rfl (n := 1) (r := 0) rfl rfl rfl (by decide +kernel) rfl rfl
theorem ze_59_5 {V : zVt} {J : zJt} {d : Nat → Nat → UInt64} (x1 : Nat) (s0 : Int) (h1 : zBk 10 x1) : zGo false 59 5 [.ref 7, .ref x1, .null] [.int (zi s0)] (zm V J d) =
    (if qw s0 < qw (2) then zGo false 59 32 [.ref 7, .ref x1, .int (zi s0)] [] (zm V J d) else (if qw (4) < qw s0 then zGo false 59 32 [.ref 7, .ref x1, .int (zi s0)] [] (zm V J d) else (zGo false 51 0 [.ref 7, .ref x1, .int (zi (7)), .int (zi s0), .int (zi (2))] [] (zm V J d)).bind (zGor false 59 25 [.ref 7, .ref x1, .int (zi s0)] []))) := by
  refine (zr_istore_n (n := 2) (l1 := [.ref 7, .ref x1, .int (zi s0)]) (by decide +kernel) rfl).trans ?_
  refine (zr_iload_n (n := 2) (x := zi s0) (by decide +kernel) rfl).trans ?_
  refine (zr_iconst (n := 2) (by decide +kernel)).trans ?_
  refine (zr_clt (off := 24) (a := s0) (b := (2)) (t := 32) (by decide +kernel) rfl).trans (zif_ct (fun _ => ?_) (fun _ => ?_))
  · rfl
  · refine (zr_iload_n (n := 2) (x := zi s0) (by decide +kernel) rfl).trans ?_
    refine (zr_iconst (n := 4) (by decide +kernel)).trans ?_
    refine (zr_cgt (off := 19) (a := s0) (b := (4)) (t := 32) (by decide +kernel) rfl).trans (zif_ct (fun _ => ?_) (fun _ => ?_))
    · rfl
    · refine (zr_aload_n (n := 0) (x := 7) (by decide +kernel) rfl).trans ?_
      refine (zr_aload_n (n := 1) (x := x1) (by decide +kernel) rfl).trans ?_
      refine (zr_bipush (n := 7) (by decide +kernel) rfl).trans ?_
      refine (zr_iload_n (n := 2) (x := zi s0) (by decide +kernel) rfl).trans ?_
      refine (zr_iconst (n := 2) (by decide +kernel)).trans ?_
      exact zr_cV (i := 68) (z := 51) (w := 0) (o := 7) (t := [.int (zi (2)), .int (zi s0), .int (zi (7)), .ref x1]) (rest := []) (L := [.ref 7, .ref x1, .int (zi (7)), .int (zi s0), .int (zi (2))]) (pc1 := 25) (by decide +kernel) (by decide +kernel) rfl (n := 4) (r := 0) rfl rfl rfl (by decide +kernel) rfl rfl
theorem ze_59_25 {V : zVt} {J : zJt} {d : Nat → Nat → UInt64} (x1 : Nat) (x2 : Int) (s0 : Int) (h1 : zBk 10 x1) : zGo false 59 25 [.ref 7, .ref x1, .int (zi x2)] [.int (zi s0)] (zm V J d) =
    (if qw s0 = 0 then zGo false 59 32 [.ref 7, .ref x1, .int (zi x2)] [] (zm V J d) else zGo false 59 33 [.ref 7, .ref x1, .int (zi x2)] [.int (zi (1))] (zm V J d)) := by
  refine (zr_ifeq (off := 7) (a := s0) (t := 32) (by decide +kernel) rfl).trans (zif_ct (fun _ => ?_) (fun _ => ?_))
  · rfl
  · refine (zr_iconst (n := 1) (by decide +kernel)).trans ?_
    refine (zr_goto (off := 4) (t := 33) (by decide +kernel) rfl).trans ?_
    rfl
theorem ze_59_32 {V : zVt} {J : zJt} {d : Nat → Nat → UInt64} (x1 : Nat) (x2 : Int) (h1 : zBk 10 x1) : zGo false 59 32 [.ref 7, .ref x1, .int (zi x2)] [] (zm V J d) =
    zGo false 59 33 [.ref 7, .ref x1, .int (zi x2)] [.int (zi (0))] (zm V J d) := by
  refine (zr_iconst (n := 0) (by decide +kernel)).trans ?_
  rfl
theorem ze_59_33 {V : zVt} {J : zJt} {d : Nat → Nat → UInt64} (x1 : Nat) (x2 : Int) (s0 : Int) (h1 : zBk 10 x1) : zGo false 59 33 [.ref 7, .ref x1, .int (zi x2)] [.int (zi s0)] (zm V J d) =
    zck (qw s0 = 0 ∨ qw s0 = 1) (some (.inl (some (.int (zi s0))), zm V J d)) := by
  exact zr_zret (a := s0) (by decide +kernel) rfl
/-! PartSongDesk$Reader readFirstOf (LPartSongDesk$Tokens;)Z -/
theorem ze_60_0 {V : zVt} {J : zJt} {d : Nat → Nat → UInt64} (x1 : Nat) (h1 : zBk 10 x1) : zGo false 60 0 [.ref 7, .ref x1, .null] [] (zm V J d) =
    (zGo false 53 0 [.ref 7, .int (zi (1)), .null] [] (zm V J d)).bind (zGor false 60 5 [.ref 7, .ref x1, .null] []) := by
  refine (zr_aload_n (n := 0) (x := 7) (by decide +kernel) rfl).trans ?_
  refine (zr_iconst (n := 1) (by decide +kernel)).trans ?_
  exact zr_cV (i := 85) (z := 53) (w := 0) (o := 7) (t := [.int (zi (1))]) (rest := []) (L := [.ref 7, .int (zi (1)), .null]) (pc1 := 5) (by decide +kernel) (by decide +kernel) rfl (n := 1) (r := 0) rfl rfl rfl (by decide +kernel) rfl rfl
theorem ze_60_5 {V : zVt} {J : zJt} {d : Nat → Nat → UInt64} (x1 : Nat) (s0 : Int) (h1 : zBk 10 x1) : zGo false 60 5 [.ref 7, .ref x1, .null] [.int (zi s0)] (zm V J d) =
    (if qw s0 < qw (1) then zGo false 60 42 [.ref 7, .ref x1, .int (zi s0)] [] (zm V J d) else (if qw (4) < qw s0 then zGo false 60 42 [.ref 7, .ref x1, .int (zi s0)] [] (zm V J d) else (zGo false 48 0 [.ref 7, .int (zi (2)), .null] [] (zm V J d)).bind (zGor false 60 21 [.ref 7, .ref x1, .int (zi s0)] []))) := by
  refine (zr_istore_n (n := 2) (l1 := [.ref 7, .ref x1, .int (zi s0)]) (by decide +kernel) rfl).trans ?_
  refine (zr_iload_n (n := 2) (x := zi s0) (by decide +kernel) rfl).trans ?_
  refine (zr_iconst (n := 1) (by decide +kernel)).trans ?_
  refine (zr_clt (off := 34) (a := s0) (b := (1)) (t := 42) (by decide +kernel) rfl).trans (zif_ct (fun _ => ?_) (fun _ => ?_))
  · rfl
  · refine (zr_iload_n (n := 2) (x := zi s0) (by decide +kernel) rfl).trans ?_
    refine (zr_iconst (n := 4) (by decide +kernel)).trans ?_
    refine (zr_cgt (off := 29) (a := s0) (b := (4)) (t := 42) (by decide +kernel) rfl).trans (zif_ct (fun _ => ?_) (fun _ => ?_))
    · rfl
    · refine (zr_aload_n (n := 0) (x := 7) (by decide +kernel) rfl).trans ?_
      refine (zr_iconst (n := 2) (by decide +kernel)).trans ?_
      exact zr_cV (i := 51) (z := 48) (w := 0) (o := 7) (t := [.int (zi (2))]) (rest := []) (L := [.ref 7, .int (zi (2)), .null]) (pc1 := 21) (by decide +kernel) (by decide +kernel) rfl (n := 1) (r := 0) rfl rfl rfl (by decide +kernel) rfl rfl
theorem ze_60_21 {V : zVt} {J : zJt} {d : Nat → Nat → UInt64} (x1 : Nat) (x2 : Int) (s0 : Int) (h1 : zBk 10 x1) : zGo false 60 21 [.ref 7, .ref x1, .int (zi x2)] [.int (zi s0)] (zm V J d) =
    (if qw s0 ≠ qw (58) then zGo false 60 42 [.ref 7, .ref x1, .int (zi x2)] [] (zm V J d) else (zGo false 51 0 [.ref 7, .ref x1, .int (zi (8)), .int (zi x2), .int (zi (3))] [] (zm V J d)).bind (zGor false 60 35 [.ref 7, .ref x1, .int (zi x2)] [])) := by
  refine (zr_bipush (n := 58) (by decide +kernel) rfl).trans ?_
  refine (zr_cne (off := 19) (a := s0) (b := (58)) (t := 42) (by decide +kernel) rfl).trans (zif_ct (fun _ => ?_) (fun _ => ?_))
  · rfl
  · refine (zr_aload_n (n := 0) (x := 7) (by decide +kernel) rfl).trans ?_
    refine (zr_aload_n (n := 1) (x := x1) (by decide +kernel) rfl).trans ?_
    refine (zr_bipush (n := 8) (by decide +kernel) rfl).trans ?_
    refine (zr_iload_n (n := 2) (x := zi x2) (by decide +kernel) rfl).trans ?_
    refine (zr_iconst (n := 3) (by decide +kernel)).trans ?_
    exact zr_cV (i := 68) (z := 51) (w := 0) (o := 7) (t := [.int (zi (3)), .int (zi x2), .int (zi (8)), .ref x1]) (rest := []) (L := [.ref 7, .ref x1, .int (zi (8)), .int (zi x2), .int (zi (3))]) (pc1 := 35) (by decide +kernel) (by decide +kernel) rfl (n := 4) (r := 0) rfl rfl rfl (by decide +kernel) rfl rfl
theorem ze_60_35 {V : zVt} {J : zJt} {d : Nat → Nat → UInt64} (x1 : Nat) (x2 : Int) (s0 : Int) (h1 : zBk 10 x1) : zGo false 60 35 [.ref 7, .ref x1, .int (zi x2)] [.int (zi s0)] (zm V J d) =
    (if qw s0 = 0 then zGo false 60 42 [.ref 7, .ref x1, .int (zi x2)] [] (zm V J d) else zGo false 60 43 [.ref 7, .ref x1, .int (zi x2)] [.int (zi (1))] (zm V J d)) := by
  refine (zr_ifeq (off := 7) (a := s0) (t := 42) (by decide +kernel) rfl).trans (zif_ct (fun _ => ?_) (fun _ => ?_))
  · rfl
  · refine (zr_iconst (n := 1) (by decide +kernel)).trans ?_
    refine (zr_goto (off := 4) (t := 43) (by decide +kernel) rfl).trans ?_
    rfl
theorem ze_60_42 {V : zVt} {J : zJt} {d : Nat → Nat → UInt64} (x1 : Nat) (x2 : Int) (h1 : zBk 10 x1) : zGo false 60 42 [.ref 7, .ref x1, .int (zi x2)] [] (zm V J d) =
    zGo false 60 43 [.ref 7, .ref x1, .int (zi x2)] [.int (zi (0))] (zm V J d) := by
  refine (zr_iconst (n := 0) (by decide +kernel)).trans ?_
  rfl
theorem ze_60_43 {V : zVt} {J : zJt} {d : Nat → Nat → UInt64} (x1 : Nat) (x2 : Int) (s0 : Int) (h1 : zBk 10 x1) : zGo false 60 43 [.ref 7, .ref x1, .int (zi x2)] [.int (zi s0)] (zm V J d) =
    zck (qw s0 = 0 ∨ qw s0 = 1) (some (.inl (some (.int (zi s0))), zm V J d)) := by
  exact zr_zret (a := s0) (by decide +kernel) rfl
/-! PartSongDesk$Reader readNote (LPartSongDesk$Tokens;)Z -/
theorem ze_61_0 {V : zVt} {J : zJt} {d : Nat → Nat → UInt64} (x1 : Nat) (h1 : zBk 10 x1) : zGo false 61 0 [.ref 7, .ref x1, .null, .null, .null, .null, .null, .null, .null] [] (zm V J d) =
    (zGo false 48 0 [.ref 7, .int (zi (0)), .null] [] (zm V J d)).bind (zGor false 61 6 [.ref 7, .ref x1, .null, .null, .null, .null, .null, .null, .null] [.ref 7]) := by
  refine (zr_aload_n (n := 0) (x := 7) (by decide +kernel) rfl).trans ?_
  refine (zr_aload_n (n := 0) (x := 7) (by decide +kernel) rfl).trans ?_
  refine (zr_iconst (n := 0) (by decide +kernel)).trans ?_
  exact zr_cV (i := 51) (z := 48) (w := 0) (o := 7) (t := [.int (zi (0))]) (rest := [.ref 7]) (L := [.ref 7, .int (zi (0)), .null]) (pc1 := 6) (by decide +kernel) (by decide +kernel) rfl (n := 1) (r := 1) rfl rfl rfl (by decide +kernel) rfl rfl
theorem ze_61_6 {V : zVt} {J : zJt} {d : Nat → Nat → UInt64} (x1 : Nat) (s1 : Int) (h1 : zBk 10 x1) : zGo false 61 6 [.ref 7, .ref x1, .null, .null, .null, .null, .null, .null, .null] [.int (zi s1), .ref 7] (zm V J d) =
    (zGo false 62 0 [.ref 7, .int (zi s1)] [] (zm V J d)).bind (zGor false 61 9 [.ref 7, .ref x1, .null, .null, .null, .null, .null, .null, .null] []) := by
  exact zr_cV (i := 105) (z := 62) (w := 0) (o := 7) (t := [.int (zi s1)]) (rest := []) (L := [.ref 7, .int (zi s1)]) (pc1 := 9) (by decide +kernel) (by decide +kernel) rfl (n := 1) (r := 0) rfl rfl rfl (by decide +kernel) rfl rfl
theorem ze_61_9 {V : zVt} {J : zJt} {d : Nat → Nat → UInt64} (x1 : Nat) (s0 : Int) (h1 : zBk 10 x1) : zGo false 61 9 [.ref 7, .ref x1, .null, .null, .null, .null, .null, .null, .null] [.int (zi s0)] (zm V J d) =
    (if qw s0 ≠ 0 then zGo false 61 19 [.ref 7, .ref x1, .int (zi s0), .null, .null, .null, .null, .null, .null] [.int (zi (1))] (zm V J d) else zGo false 61 19 [.ref 7, .ref x1, .int (zi s0), .null, .null, .null, .null, .null, .null] [.int (zi (0))] (zm V J d)) := by
  refine (zr_istore_n (n := 2) (l1 := [.ref 7, .ref x1, .int (zi s0), .null, .null, .null, .null, .null, .null]) (by decide +kernel) rfl).trans ?_
  refine (zr_iload_n (n := 2) (x := zi s0) (by decide +kernel) rfl).trans ?_
  refine (zr_ifne (off := 7) (a := s0) (t := 18) (by decide +kernel) rfl).trans (zif_ct (fun _ => ?_) (fun _ => ?_))
  · refine (zr_iconst (n := 1) (by decide +kernel)).trans ?_
    rfl
  · refine (zr_iconst (n := 0) (by decide +kernel)).trans ?_
    refine (zr_goto (off := 4) (t := 19) (by decide +kernel) rfl).trans ?_
    rfl
theorem ze_61_19 {V : zVt} {J : zJt} {d : Nat → Nat → UInt64} (x1 : Nat) (x2 : Int) (s0 : Int) (h1 : zBk 10 x1) : zGo false 61 19 [.ref 7, .ref x1, .int (zi x2), .null, .null, .null, .null, .null, .null] [.int (zi s0)] (zm V J d) =
    (zGo false 48 0 [.ref 7, .int (zi s0), .null] [] (zm V J d)).bind (zGor false 61 25 [.ref 7, .ref x1, .int (zi x2), .int (zi s0), .null, .null, .null, .null, .null] []) := by
  refine (zr_istore_n (n := 3) (l1 := [.ref 7, .ref x1, .int (zi x2), .int (zi s0), .null, .null, .null, .null, .null]) (by decide +kernel) rfl).trans ?_
  refine (zr_aload_n (n := 0) (x := 7) (by decide +kernel) rfl).trans ?_
  refine (zr_iload_n (n := 3) (x := zi s0) (by decide +kernel) rfl).trans ?_
  exact zr_cV (i := 51) (z := 48) (w := 0) (o := 7) (t := [.int (zi s0)]) (rest := []) (L := [.ref 7, .int (zi s0), .null]) (pc1 := 25) (by decide +kernel) (by decide +kernel) rfl (n := 1) (r := 0) rfl rfl rfl (by decide +kernel) rfl rfl
theorem ze_61_25 {V : zVt} {J : zJt} {d : Nat → Nat → UInt64} (x1 : Nat) (x2 : Int) (x3 : Int) (s0 : Int) (h1 : zBk 10 x1) : zGo false 61 25 [.ref 7, .ref x1, .int (zi x2), .int (zi x3), .null, .null, .null, .null, .null] [.int (zi s0)] (zm V J d) =
    (if qw s0 ≠ qw (45) then zGo false 61 35 [.ref 7, .ref x1, .int (zi x2), .int (zi x3), .null, .null, .null, .null, .null] [.int (zi (0))] (zm V J d) else zGo false 61 35 [.ref 7, .ref x1, .int (zi x2), .int (zi x3), .null, .null, .null, .null, .null] [.int (zi (1))] (zm V J d)) := by
  refine (zr_bipush (n := 45) (by decide +kernel) rfl).trans ?_
  refine (zr_cne (off := 7) (a := s0) (b := (45)) (t := 34) (by decide +kernel) rfl).trans (zif_ct (fun _ => ?_) (fun _ => ?_))
  · refine (zr_iconst (n := 0) (by decide +kernel)).trans ?_
    rfl
  · refine (zr_iconst (n := 1) (by decide +kernel)).trans ?_
    refine (zr_goto (off := 4) (t := 35) (by decide +kernel) rfl).trans ?_
    rfl
theorem ze_61_35 {V : zVt} {J : zJt} {d : Nat → Nat → UInt64} (x1 : Nat) (x2 : Int) (x3 : Int) (s0 : Int) (h1 : zBk 10 x1) : zGo false 61 35 [.ref 7, .ref x1, .int (zi x2), .int (zi x3), .null, .null, .null, .null, .null] [.int (zi s0)] (zm V J d) =
    (if qw s0 = 0 then zGo false 61 48 [.ref 7, .ref x1, .int (zi x2), .int (zi x3), .int (zi s0), .null, .null, .null, .null] [.int (zi (0)), .int (zi x3)] (zm V J d) else zGo false 61 48 [.ref 7, .ref x1, .int (zi x2), .int (zi x3), .int (zi s0), .null, .null, .null, .null] [.int (zi (1)), .int (zi x3)] (zm V J d)) := by
  refine (zr_istore (n := 4) (l1 := [.ref 7, .ref x1, .int (zi x2), .int (zi x3), .int (zi s0), .null, .null, .null, .null]) (by decide +kernel) rfl).trans ?_
  refine (zr_iload_n (n := 3) (x := zi x3) (by decide +kernel) rfl).trans ?_
  refine (zr_iload (n := 4) (x := zi s0) (by decide +kernel) rfl).trans ?_
  refine (zr_ifeq (off := 7) (a := s0) (t := 47) (by decide +kernel) rfl).trans (zif_ct (fun _ => ?_) (fun _ => ?_))
  · refine (zr_iconst (n := 0) (by decide +kernel)).trans ?_
    rfl
  · refine (zr_iconst (n := 1) (by decide +kernel)).trans ?_
    refine (zr_goto (off := 4) (t := 48) (by decide +kernel) rfl).trans ?_
    rfl
theorem ze_61_48 {V : zVt} {J : zJt} {d : Nat → Nat → UInt64} (x1 : Nat) (x2 : Int) (x3 : Int) (x4 : Int) (s0 : Int) (s1 : Int) (h1 : zBk 10 x1) : zGo false 61 48 [.ref 7, .ref x1, .int (zi x2), .int (zi x3), .int (zi x4), .null, .null, .null, .null] [.int (zi s1), .int (zi s0)] (zm V J d) =
    (zGo false 53 0 [.ref 7, .int (zi (s0 + s1)), .null] [] (zm V J d)).bind (zGor false 61 55 [.ref 7, .ref x1, .int (zi x2), .int (zi (s0 + s1)), .int (zi x4), .null, .null, .null, .null] []) := by
  refine (zr_iadd (a := s0) (b := s1) (by decide +kernel)).trans ?_
  refine (zr_istore_n (n := 3) (l1 := [.ref 7, .ref x1, .int (zi x2), .int (zi (s0 + s1)), .int (zi x4), .null, .null, .null, .null]) (by decide +kernel) rfl).trans ?_
  refine (zr_aload_n (n := 0) (x := 7) (by decide +kernel) rfl).trans ?_
  refine (zr_iload_n (n := 3) (x := zi (s0 + s1)) (by decide +kernel) rfl).trans ?_
  exact zr_cV (i := 85) (z := 53) (w := 0) (o := 7) (t := [.int (zi (s0 + s1))]) (rest := []) (L := [.ref 7, .int (zi (s0 + s1)), .null]) (pc1 := 55) (by decide +kernel) (by decide +kernel) rfl (n := 1) (r := 0) rfl rfl rfl (by decide +kernel) rfl rfl
theorem ze_61_55 {V : zVt} {J : zJt} {d : Nat → Nat → UInt64} (x1 : Nat) (x2 : Int) (x3 : Int) (x4 : Int) (s0 : Int) (h1 : zBk 10 x1) : zGo false 61 55 [.ref 7, .ref x1, .int (zi x2), .int (zi x3), .int (zi x4), .null, .null, .null, .null] [.int (zi s0)] (zm V J d) =
    (if 0 ≤ qw s0 then (zGo false 53 0 [.ref 7, .int (zi (x3 + 1)), .null] [] (zm V J d)).bind (zGor false 61 72 [.ref 7, .ref x1, .int (zi x2), .int (zi (x3 + 1)), .int (zi x4), .int (zi s0), .null, .null, .null] []) else zck (qw (0) = 0 ∨ qw (0) = 1) (some (.inl (some (.int (zi (0)))), zm V J d))) := by
  refine (zr_istore (n := 5) (l1 := [.ref 7, .ref x1, .int (zi x2), .int (zi x3), .int (zi x4), .int (zi s0), .null, .null, .null]) (by decide +kernel) rfl).trans ?_
  refine (zr_iload (n := 5) (x := zi s0) (by decide +kernel) rfl).trans ?_
  refine (zr_ifge (off := 5) (a := s0) (t := 64) (by decide +kernel) rfl).trans (zif_ct (fun _ => ?_) (fun _ => ?_))
  · refine (zr_iinc (n := 3) (k := 1) (x := x3) (l1 := [.ref 7, .ref x1, .int (zi x2), .int (zi (x3 + 1)), .int (zi x4), .int (zi s0), .null, .null, .null]) (by decide +kernel) rfl rfl).trans ?_
    refine (zr_aload_n (n := 0) (x := 7) (by decide +kernel) rfl).trans ?_
    refine (zr_iload_n (n := 3) (x := zi (x3 + 1)) (by decide +kernel) rfl).trans ?_
    exact zr_cV (i := 85) (z := 53) (w := 0) (o := 7) (t := [.int (zi (x3 + 1))]) (rest := []) (L := [.ref 7, .int (zi (x3 + 1)), .null]) (pc1 := 72) (by decide +kernel) (by decide +kernel) rfl (n := 1) (r := 0) rfl rfl rfl (by decide +kernel) rfl rfl
  · refine (zr_iconst (n := 0) (by decide +kernel)).trans ?_
    exact zr_zret (a := (0)) (by decide +kernel) rfl
theorem ze_61_72 {V : zVt} {J : zJt} {d : Nat → Nat → UInt64} (x1 : Nat) (x2 : Int) (x3 : Int) (x4 : Int) (x5 : Int) (s0 : Int) (h1 : zBk 10 x1) : zGo false 61 72 [.ref 7, .ref x1, .int (zi x2), .int (zi x3), .int (zi x4), .int (zi x5), .null, .null, .null] [.int (zi s0)] (zm V J d) =
    (if qw s0 < 0 then zGo false 61 91 [.ref 7, .ref x1, .int (zi x2), .int (zi x3), .int (zi x4), .int (zi x5), .null, .null, .null] [] (zm V J d) else (zGo false 53 0 [.ref 7, .int (zi x3), .null] [] (zm V J d)).bind (zGor false 61 85 [.ref 7, .ref x1, .int (zi x2), .int (zi x3), .int (zi x4), .int (zi x5), .null, .null, .null] [.int (zi ((10) * x5))])) := by
  refine (zr_iflt (off := 19) (a := s0) (t := 91) (by decide +kernel) rfl).trans (zif_ct (fun _ => ?_) (fun _ => ?_))
  · rfl
  · refine (zr_bipush (n := 10) (by decide +kernel) rfl).trans ?_
    refine (zr_iload (n := 5) (x := zi x5) (by decide +kernel) rfl).trans ?_
    refine (zr_imul (a := (10)) (b := x5) (by decide +kernel)).trans ?_
    refine (zr_aload_n (n := 0) (x := 7) (by decide +kernel) rfl).trans ?_
    refine (zr_iload_n (n := 3) (x := zi x3) (by decide +kernel) rfl).trans ?_
    exact zr_cV (i := 85) (z := 53) (w := 0) (o := 7) (t := [.int (zi x3)]) (rest := [.int (zi ((10) * x5))]) (L := [.ref 7, .int (zi x3), .null]) (pc1 := 85) (by decide +kernel) (by decide +kernel) rfl (n := 1) (r := 1) rfl rfl rfl (by decide +kernel) rfl rfl
theorem ze_61_85 {V : zVt} {J : zJt} {d : Nat → Nat → UInt64} (x1 : Nat) (x2 : Int) (x3 : Int) (x4 : Int) (x5 : Int) (s0 : Int) (s1 : Int) (h1 : zBk 10 x1) : zGo false 61 85 [.ref 7, .ref x1, .int (zi x2), .int (zi x3), .int (zi x4), .int (zi x5), .null, .null, .null] [.int (zi s1), .int (zi s0)] (zm V J d) =
    zGo false 61 91 [.ref 7, .ref x1, .int (zi x2), .int (zi (x3 + 1)), .int (zi x4), .int (zi (s0 + s1)), .null, .null, .null] [] (zm V J d) := by
  refine (zr_iadd (a := s0) (b := s1) (by decide +kernel)).trans ?_
  refine (zr_istore (n := 5) (l1 := [.ref 7, .ref x1, .int (zi x2), .int (zi x3), .int (zi x4), .int (zi (s0 + s1)), .null, .null, .null]) (by decide +kernel) rfl).trans ?_
  refine (zr_iinc (n := 3) (k := 1) (x := x3) (l1 := [.ref 7, .ref x1, .int (zi x2), .int (zi (x3 + 1)), .int (zi x4), .int (zi (s0 + s1)), .null, .null, .null]) (by decide +kernel) rfl rfl).trans ?_
  rfl
theorem ze_61_91 {V : zVt} {J : zJt} {d : Nat → Nat → UInt64} (x1 : Nat) (x2 : Int) (x3 : Int) (x4 : Int) (x5 : Int) (h1 : zBk 10 x1) : zGo false 61 91 [.ref 7, .ref x1, .int (zi x2), .int (zi x3), .int (zi x4), .int (zi x5), .null, .null, .null] [] (zm V J d) =
    (if qw x4 = 0 then zGo false 61 104 [.ref 7, .ref x1, .int (zi x2), .int (zi x3), .int (zi x4), .int (zi x5), .null, .null, .null] [.int (zi x5)] (zm V J d) else zGo false 61 104 [.ref 7, .ref x1, .int (zi x2), .int (zi x3), .int (zi x4), .int (zi x5), .null, .null, .null] [.int (zi (-x5))] (zm V J d)) := by
  refine (zr_iload (n := 4) (x := zi x4) (by decide +kernel) rfl).trans ?_
  refine (zr_ifeq (off := 9) (a := x4) (t := 102) (by decide +kernel) rfl).trans (zif_ct (fun _ => ?_) (fun _ => ?_))
  · refine (zr_iload (n := 5) (x := zi x5) (by decide +kernel) rfl).trans ?_
    rfl
  · refine (zr_iload (n := 5) (x := zi x5) (by decide +kernel) rfl).trans ?_
    refine (zr_ineg (a := x5) (by decide +kernel)).trans ?_
    refine (zr_goto (off := 5) (t := 104) (by decide +kernel) rfl).trans ?_
    rfl
theorem ze_61_104 {V : zVt} {J : zJt} {d : Nat → Nat → UInt64} (x1 : Nat) (x2 : Int) (x3 : Int) (x4 : Int) (x5 : Int) (s0 : Int) (h1 : zBk 10 x1) : zGo false 61 104 [.ref 7, .ref x1, .int (zi x2), .int (zi x3), .int (zi x4), .int (zi x5), .null, .null, .null] [.int (zi s0)] (zm V J d) =
    (zGo false 48 0 [.ref 7, .int (zi x3), .null] [] (zm V J d)).bind (zGor false 61 112 [.ref 7, .ref x1, .int (zi x2), .int (zi x3), .int (zi x4), .int (zi s0), .null, .null, .null] [.ref 7]) := by
  refine (zr_istore (n := 5) (l1 := [.ref 7, .ref x1, .int (zi x2), .int (zi x3), .int (zi x4), .int (zi s0), .null, .null, .null]) (by decide +kernel) rfl).trans ?_
  refine (zr_aload_n (n := 0) (x := 7) (by decide +kernel) rfl).trans ?_
  refine (zr_aload_n (n := 0) (x := 7) (by decide +kernel) rfl).trans ?_
  refine (zr_iload_n (n := 3) (x := zi x3) (by decide +kernel) rfl).trans ?_
  exact zr_cV (i := 51) (z := 48) (w := 0) (o := 7) (t := [.int (zi x3)]) (rest := [.ref 7]) (L := [.ref 7, .int (zi x3), .null]) (pc1 := 112) (by decide +kernel) (by decide +kernel) rfl (n := 1) (r := 1) rfl rfl rfl (by decide +kernel) rfl rfl
theorem ze_61_112 {V : zVt} {J : zJt} {d : Nat → Nat → UInt64} (x1 : Nat) (x2 : Int) (x3 : Int) (x4 : Int) (x5 : Int) (s1 : Int) (h1 : zBk 10 x1) : zGo false 61 112 [.ref 7, .ref x1, .int (zi x2), .int (zi x3), .int (zi x4), .int (zi x5), .null, .null, .null] [.int (zi s1), .ref 7] (zm V J d) =
    (zGo false 48 0 [.ref 7, .int (zi (x3 + (1))), .null] [] (zm V J d)).bind (zGor false 61 119 [.ref 7, .ref x1, .int (zi x2), .int (zi x3), .int (zi x4), .int (zi x5), .null, .null, .null] [.int (zi s1), .ref 7]) := by
  refine (zr_aload_n (n := 0) (x := 7) (by decide +kernel) rfl).trans ?_
  refine (zr_iload_n (n := 3) (x := zi x3) (by decide +kernel) rfl).trans ?_
  refine (zr_iconst (n := 1) (by decide +kernel)).trans ?_
  refine (zr_iadd (a := x3) (b := (1)) (by decide +kernel)).trans ?_
  exact zr_cV (i := 51) (z := 48) (w := 0) (o := 7) (t := [.int (zi (x3 + (1)))]) (rest := [.int (zi s1), .ref 7]) (L := [.ref 7, .int (zi (x3 + (1))), .null]) (pc1 := 119) (by decide +kernel) (by decide +kernel) rfl (n := 1) (r := 2) rfl rfl rfl (by decide +kernel) rfl rfl
theorem ze_61_119 {V : zVt} {J : zJt} {d : Nat → Nat → UInt64} (x1 : Nat) (x2 : Int) (x3 : Int) (x4 : Int) (x5 : Int) (s1 : Int) (s2 : Int) (h1 : zBk 10 x1) : zGo false 61 119 [.ref 7, .ref x1, .int (zi x2), .int (zi x3), .int (zi x4), .int (zi x5), .null, .null, .null] [.int (zi s2), .int (zi s1), .ref 7] (zm V J d) =
    (zGo false 56 0 [.ref 7, .int (zi s1), .int (zi s2), .null] [] (zm V J d)).bind (zGor false 61 122 [.ref 7, .ref x1, .int (zi x2), .int (zi x3), .int (zi x4), .int (zi x5), .null, .null, .null] []) := by
  exact zr_cV (i := 89) (z := 56) (w := 0) (o := 7) (t := [.int (zi s2), .int (zi s1)]) (rest := []) (L := [.ref 7, .int (zi s1), .int (zi s2), .null]) (pc1 := 122) (by decide +kernel) (by decide +kernel) rfl (n := 2) (r := 0) rfl rfl rfl (by decide +kernel) rfl rfl
theorem ze_61_122 {V : zVt} {J : zJt} {d : Nat → Nat → UInt64} (x1 : Nat) (x2 : Int) (x3 : Int) (x4 : Int) (x5 : Int) (s0 : Int) (h1 : zBk 10 x1) : zGo false 61 122 [.ref 7, .ref x1, .int (zi x2), .int (zi x3), .int (zi x4), .int (zi x5), .null, .null, .null] [.int (zi s0)] (zm V J d) =
    (if qw x5 < qw (-9) then zGo false 61 143 [.ref 7, .ref x1, .int (zi x2), .int (zi x3), .int (zi x4), .int (zi x5), .int (zi s0), .null, .null] [] (zm V J d) else (if qw (19) < qw x5 then zGo false 61 143 [.ref 7, .ref x1, .int (zi x2), .int (zi x3), .int (zi x4), .int (zi x5), .int (zi s0), .null, .null] [] (zm V J d) else (if qw s0 ≠ 0 then (zGo false 48 0 [.ref 7, .int (zi x3), .null] [] (zm V J d)).bind (zGor false 61 152 [.ref 7, .ref x1, .int (zi x2), .int (zi x3), .int (zi x4), .int (zi x5), .int (zi s0), .null, .null] [.ref 7, .int (zi x3)]) else zGo false 61 143 [.ref 7, .ref x1, .int (zi x2), .int (zi x3), .int (zi x4), .int (zi x5), .int (zi s0), .null, .null] [] (zm V J d)))) := by
  refine (zr_istore (n := 6) (l1 := [.ref 7, .ref x1, .int (zi x2), .int (zi x3), .int (zi x4), .int (zi x5), .int (zi s0), .null, .null]) (by decide +kernel) rfl).trans ?_
  refine (zr_iload (n := 5) (x := zi x5) (by decide +kernel) rfl).trans ?_
  refine (zr_bipush (n := -9) (by decide +kernel) rfl).trans ?_
  refine (zr_clt (off := 15) (a := x5) (b := (-9)) (t := 143) (by decide +kernel) rfl).trans (zif_ct (fun _ => ?_) (fun _ => ?_))
  · rfl
  · refine (zr_iload (n := 5) (x := zi x5) (by decide +kernel) rfl).trans ?_
    refine (zr_bipush (n := 19) (by decide +kernel) rfl).trans ?_
    refine (zr_cgt (off := 8) (a := x5) (b := (19)) (t := 143) (by decide +kernel) rfl).trans (zif_ct (fun _ => ?_) (fun _ => ?_))
    · rfl
    · refine (zr_iload (n := 6) (x := zi s0) (by decide +kernel) rfl).trans ?_
      refine (zr_ifne (off := 5) (a := s0) (t := 145) (by decide +kernel) rfl).trans (zif_ct (fun _ => ?_) (fun _ => ?_))
      · refine (zr_iload_n (n := 3) (x := zi x3) (by decide +kernel) rfl).trans ?_
        refine (zr_aload_n (n := 0) (x := 7) (by decide +kernel) rfl).trans ?_
        refine (zr_aload_n (n := 0) (x := 7) (by decide +kernel) rfl).trans ?_
        refine (zr_iload_n (n := 3) (x := zi x3) (by decide +kernel) rfl).trans ?_
        exact zr_cV (i := 51) (z := 48) (w := 0) (o := 7) (t := [.int (zi x3)]) (rest := [.ref 7, .int (zi x3)]) (L := [.ref 7, .int (zi x3), .null]) (pc1 := 152) (by decide +kernel) (by decide +kernel) rfl (n := 1) (r := 2) rfl rfl rfl (by decide +kernel) rfl rfl
      · rfl
theorem ze_61_143 {V : zVt} {J : zJt} {d : Nat → Nat → UInt64} (x1 : Nat) (x2 : Int) (x3 : Int) (x4 : Int) (x5 : Int) (x6 : Int) (h1 : zBk 10 x1) : zGo false 61 143 [.ref 7, .ref x1, .int (zi x2), .int (zi x3), .int (zi x4), .int (zi x5), .int (zi x6), .null, .null] [] (zm V J d) =
    zck (qw (0) = 0 ∨ qw (0) = 1) (some (.inl (some (.int (zi (0)))), zm V J d)) := by
  refine (zr_iconst (n := 0) (by decide +kernel)).trans ?_
  exact zr_zret (a := (0)) (by decide +kernel) rfl
theorem ze_61_152 {V : zVt} {J : zJt} {d : Nat → Nat → UInt64} (x1 : Nat) (x2 : Int) (x3 : Int) (x4 : Int) (x5 : Int) (x6 : Int) (s0 : Int) (s2 : Int) (h1 : zBk 10 x1) : zGo false 61 152 [.ref 7, .ref x1, .int (zi x2), .int (zi x3), .int (zi x4), .int (zi x5), .int (zi x6), .null, .null] [.int (zi s2), .ref 7, .int (zi s0)] (zm V J d) =
    (zGo false 48 0 [.ref 7, .int (zi (x3 + (1))), .null] [] (zm V J d)).bind (zGor false 61 159 [.ref 7, .ref x1, .int (zi x2), .int (zi x3), .int (zi x4), .int (zi x5), .int (zi x6), .null, .null] [.int (zi s2), .ref 7, .int (zi s0)]) := by
  refine (zr_aload_n (n := 0) (x := 7) (by decide +kernel) rfl).trans ?_
  refine (zr_iload_n (n := 3) (x := zi x3) (by decide +kernel) rfl).trans ?_
  refine (zr_iconst (n := 1) (by decide +kernel)).trans ?_
  refine (zr_iadd (a := x3) (b := (1)) (by decide +kernel)).trans ?_
  exact zr_cV (i := 51) (z := 48) (w := 0) (o := 7) (t := [.int (zi (x3 + (1)))]) (rest := [.int (zi s2), .ref 7, .int (zi s0)]) (L := [.ref 7, .int (zi (x3 + (1))), .null]) (pc1 := 159) (by decide +kernel) (by decide +kernel) rfl (n := 1) (r := 3) rfl rfl rfl (by decide +kernel) rfl rfl
theorem ze_61_159 {V : zVt} {J : zJt} {d : Nat → Nat → UInt64} (x1 : Nat) (x2 : Int) (x3 : Int) (x4 : Int) (x5 : Int) (x6 : Int) (s0 : Int) (s2 : Int) (s3 : Int) (h1 : zBk 10 x1) : zGo false 61 159 [.ref 7, .ref x1, .int (zi x2), .int (zi x3), .int (zi x4), .int (zi x5), .int (zi x6), .null, .null] [.int (zi s3), .int (zi s2), .ref 7, .int (zi s0)] (zm V J d) =
    (zGo false 58 0 [.ref 7, .int (zi s2), .int (zi s3)] [] (zm V J d)).bind (zGor false 61 162 [.ref 7, .ref x1, .int (zi x2), .int (zi x3), .int (zi x4), .int (zi x5), .int (zi x6), .null, .null] [.int (zi s0)]) := by
  exact zr_cV (i := 93) (z := 58) (w := 0) (o := 7) (t := [.int (zi s3), .int (zi s2)]) (rest := [.int (zi s0)]) (L := [.ref 7, .int (zi s2), .int (zi s3)]) (pc1 := 162) (by decide +kernel) (by decide +kernel) rfl (n := 2) (r := 1) rfl rfl rfl (by decide +kernel) rfl rfl
theorem ze_61_162 {V : zVt} {J : zJt} {d : Nat → Nat → UInt64} (x1 : Nat) (x2 : Int) (x3 : Int) (x4 : Int) (x5 : Int) (x6 : Int) (s0 : Int) (s1 : Int) (h1 : zBk 10 x1) : zGo false 61 162 [.ref 7, .ref x1, .int (zi x2), .int (zi x3), .int (zi x4), .int (zi x5), .int (zi x6), .null, .null] [.int (zi s1), .int (zi s0)] (zm V J d) =
    (if qw s1 = 0 then zGo false 61 170 [.ref 7, .ref x1, .int (zi x2), .int (zi x3), .int (zi x4), .int (zi x5), .int (zi x6), .null, .null] [.int (zi (1)), .int (zi s0)] (zm V J d) else zGo false 61 170 [.ref 7, .ref x1, .int (zi x2), .int (zi x3), .int (zi x4), .int (zi x5), .int (zi x6), .null, .null] [.int (zi (2)), .int (zi s0)] (zm V J d)) := by
  refine (zr_ifeq (off := 7) (a := s1) (t := 169) (by decide +kernel) rfl).trans (zif_ct (fun _ => ?_) (fun _ => ?_))
  · refine (zr_iconst (n := 1) (by decide +kernel)).trans ?_
    rfl
  · refine (zr_iconst (n := 2) (by decide +kernel)).trans ?_
    refine (zr_goto (off := 4) (t := 170) (by decide +kernel) rfl).trans ?_
    rfl
theorem ze_61_170 {V : zVt} {J : zJt} {d : Nat → Nat → UInt64} (x1 : Nat) (x2 : Int) (x3 : Int) (x4 : Int) (x5 : Int) (x6 : Int) (s0 : Int) (s1 : Int) (h1 : zBk 10 x1) : zGo false 61 170 [.ref 7, .ref x1, .int (zi x2), .int (zi x3), .int (zi x4), .int (zi x5), .int (zi x6), .null, .null] [.int (zi s1), .int (zi s0)] (zm V J d) =
    (zGo false 48 0 [.ref 7, .int (zi (s0 + s1)), .null] [] (zm V J d)).bind (zGor false 61 177 [.ref 7, .ref x1, .int (zi x2), .int (zi (s0 + s1)), .int (zi x4), .int (zi x5), .int (zi x6), .null, .null] []) := by
  refine (zr_iadd (a := s0) (b := s1) (by decide +kernel)).trans ?_
  refine (zr_istore_n (n := 3) (l1 := [.ref 7, .ref x1, .int (zi x2), .int (zi (s0 + s1)), .int (zi x4), .int (zi x5), .int (zi x6), .null, .null]) (by decide +kernel) rfl).trans ?_
  refine (zr_aload_n (n := 0) (x := 7) (by decide +kernel) rfl).trans ?_
  refine (zr_iload_n (n := 3) (x := zi (s0 + s1)) (by decide +kernel) rfl).trans ?_
  exact zr_cV (i := 51) (z := 48) (w := 0) (o := 7) (t := [.int (zi (s0 + s1))]) (rest := []) (L := [.ref 7, .int (zi (s0 + s1)), .null]) (pc1 := 177) (by decide +kernel) (by decide +kernel) rfl (n := 1) (r := 0) rfl rfl rfl (by decide +kernel) rfl rfl
theorem ze_61_177 {V : zVt} {J : zJt} {d : Nat → Nat → UInt64} (x1 : Nat) (x2 : Int) (x3 : Int) (x4 : Int) (x5 : Int) (x6 : Int) (s0 : Int) (h1 : zBk 10 x1) : zGo false 61 177 [.ref 7, .ref x1, .int (zi x2), .int (zi x3), .int (zi x4), .int (zi x5), .int (zi x6), .null, .null] [.int (zi s0)] (zm V J d) =
    (if qw s0 ≠ qw (126) then zGo false 61 187 [.ref 7, .ref x1, .int (zi x2), .int (zi x3), .int (zi x4), .int (zi x5), .int (zi x6), .null, .null] [.int (zi (0))] (zm V J d) else zGo false 61 187 [.ref 7, .ref x1, .int (zi x2), .int (zi x3), .int (zi x4), .int (zi x5), .int (zi x6), .null, .null] [.int (zi (1))] (zm V J d)) := by
  refine (zr_bipush (n := 126) (by decide +kernel) rfl).trans ?_
  refine (zr_cne (off := 7) (a := s0) (b := (126)) (t := 186) (by decide +kernel) rfl).trans (zif_ct (fun _ => ?_) (fun _ => ?_))
  · refine (zr_iconst (n := 0) (by decide +kernel)).trans ?_
    rfl
  · refine (zr_iconst (n := 1) (by decide +kernel)).trans ?_
    refine (zr_goto (off := 4) (t := 187) (by decide +kernel) rfl).trans ?_
    rfl
theorem ze_61_187 {V : zVt} {J : zJt} {d : Nat → Nat → UInt64} (x1 : Nat) (x2 : Int) (x3 : Int) (x4 : Int) (x5 : Int) (x6 : Int) (s0 : Int) (h1 : zBk 10 x1) : zGo false 61 187 [.ref 7, .ref x1, .int (zi x2), .int (zi x3), .int (zi x4), .int (zi x5), .int (zi x6), .null, .null] [.int (zi s0)] (zm V J d) =
    (if qw s0 = 0 then zGo false 61 211 [.ref 7, .ref x1, .int (zi x2), .int (zi x3), .int (zi x4), .int (zi x5), .int (zi x6), .int (zi s0), .int (zi (V x1 0))] [.int (zi x3), .int (zi (0)), .int (zi (3)), .ref x1, .ref 7] (zm V J d) else zGo false 61 211 [.ref 7, .ref x1, .int (zi x2), .int (zi x3), .int (zi x4), .int (zi x5), .int (zi x6), .int (zi s0), .int (zi (V x1 0))] [.int (zi (x3 + (1))), .int (zi (0)), .int (zi (3)), .ref x1, .ref 7] (zm V J d)) := by
  refine (zr_istore (n := 7) (l1 := [.ref 7, .ref x1, .int (zi x2), .int (zi x3), .int (zi x4), .int (zi x5), .int (zi x6), .int (zi s0), .null]) (by decide +kernel) rfl).trans ?_
  refine (zr_aload_n (n := 1) (x := x1) (by decide +kernel) rfl).trans ?_
  refine (zr_getI (i := 40) (c := 10) (k := 0) (by decide +kernel) (by decide +kernel) (zb10_0 h1) (by decide +kernel)).trans ?_
  refine (zr_istore (n := 8) (l1 := [.ref 7, .ref x1, .int (zi x2), .int (zi x3), .int (zi x4), .int (zi x5), .int (zi x6), .int (zi s0), .int (zi (V x1 0))]) (by decide +kernel) rfl).trans ?_
  refine (zr_aload_n (n := 0) (x := 7) (by decide +kernel) rfl).trans ?_
  refine (zr_aload_n (n := 1) (x := x1) (by decide +kernel) rfl).trans ?_
  refine (zr_iconst (n := 3) (by decide +kernel)).trans ?_
  refine (zr_iconst (n := 0) (by decide +kernel)).trans ?_
  refine (zr_iload (n := 7) (x := zi s0) (by decide +kernel) rfl).trans ?_
  refine (zr_ifeq (off := 9) (a := s0) (t := 210) (by decide +kernel) rfl).trans (zif_ct (fun _ => ?_) (fun _ => ?_))
  · refine (zr_iload_n (n := 3) (x := zi x3) (by decide +kernel) rfl).trans ?_
    rfl
  · refine (zr_iload_n (n := 3) (x := zi x3) (by decide +kernel) rfl).trans ?_
    refine (zr_iconst (n := 1) (by decide +kernel)).trans ?_
    refine (zr_iadd (a := x3) (b := (1)) (by decide +kernel)).trans ?_
    refine (zr_goto (off := 4) (t := 211) (by decide +kernel) rfl).trans ?_
    rfl
theorem ze_61_211 {V : zVt} {J : zJt} {d : Nat → Nat → UInt64} (x1 : Nat) (x2 : Int) (x3 : Int) (x4 : Int) (x5 : Int) (x6 : Int) (x7 : Int) (x8 : Int) (s1 : Nat) (s2 : Int) (s3 : Int) (s4 : Int) (h1 : zBk 10 x1) (g1 : zBk 10 s1) : zGo false 61 211 [.ref 7, .ref x1, .int (zi x2), .int (zi x3), .int (zi x4), .int (zi x5), .int (zi x6), .int (zi x7), .int (zi x8)] [.int (zi s4), .int (zi s3), .int (zi s2), .ref s1, .ref 7] (zm V J d) =
    (zGo false 51 0 [.ref 7, .ref s1, .int (zi s2), .int (zi s3), .int (zi s4)] [] (zm V J d)).bind (zGor false 61 214 [.ref 7, .ref x1, .int (zi x2), .int (zi x3), .int (zi x4), .int (zi x5), .int (zi x6), .int (zi x7), .int (zi x8)] []) := by
  exact zr_cV (i := 68) (z := 51) (w := 0) (o := 7) (t := [.int (zi s4), .int (zi s3), .int (zi s2), .ref s1]) (rest := []) (L := [.ref 7, .ref s1, .int (zi s2), .int (zi s3), .int (zi s4)]) (pc1 := 214) (by decide +kernel) (by decide +kernel) rfl (n := 4) (r := 0) rfl rfl rfl (by decide +kernel) rfl rfl
theorem ze_61_214 {V : zVt} {J : zJt} {d : Nat → Nat → UInt64} (x1 : Nat) (x2 : Int) (x3 : Int) (x4 : Int) (x5 : Int) (x6 : Int) (x7 : Int) (x8 : Int) (s0 : Int) (h1 : zBk 10 x1) : zGo false 61 214 [.ref 7, .ref x1, .int (zi x2), .int (zi x3), .int (zi x4), .int (zi x5), .int (zi x6), .int (zi x7), .int (zi x8)] [.int (zi s0)] (zm V J d) =
    (zGo false 86 0 [.ref x1, .int (zi x8)] [] (zm V J d)).bind (zGor false 61 221 [.ref 7, .ref x1, .int (zi x2), .int (zi x3), .int (zi x4), .int (zi x5), .int (zi x6), .int (zi x7), .int (zi x8)] []) := by
  refine (zr_pop (by decide +kernel) rfl).trans ?_
  refine (zr_aload_n (n := 1) (x := x1) (by decide +kernel) rfl).trans ?_
  refine (zr_iload (n := 8) (x := zi x8) (by decide +kernel) rfl).trans ?_
  exact zr_cV (i := 97) (z := 86) (w := 0) (o := x1) (t := [.int (zi x8)]) (rest := []) (L := [.ref x1, .int (zi x8)]) (pc1 := 221) (by decide +kernel) (by decide +kernel) (zb10_0 h1) (n := 1) (r := 0) rfl rfl rfl (by decide +kernel) rfl rfl
theorem ze_61_221 {V : zVt} {J : zJt} {d : Nat → Nat → UInt64} (x1 : Nat) (x2 : Int) (x3 : Int) (x4 : Int) (x5 : Int) (x6 : Int) (x7 : Int) (x8 : Int) (s0 : Int) (h1 : zBk 10 x1) : zGo false 61 221 [.ref 7, .ref x1, .int (zi x2), .int (zi x3), .int (zi x4), .int (zi x5), .int (zi x6), .int (zi x7), .int (zi x8)] [.int (zi s0)] (zm V J d) =
    (if qw s0 = 0 then zGo false 61 259 [.ref 7, .ref x1, .int (zi x2), .int (zi x3), .int (zi x4), .int (zi x5), .int (zi x6), .int (zi x7), .int (zi x8)] [] (zm V J d) else zck (0 ≤ qw x8 ∧ qw x8 < (60 : Nat)) (zck (0 ≤ qw x8 ∧ qw x8 < (60 : Nat)) (zck (0 ≤ qw x8 ∧ qw x8 < (60 : Nat)) (zck ((0 ≤ qw x8 ∧ qw x8 < (60 : Nat)) ∧ (qw x7 = 0 ∨ qw x7 = 1)) (zGo false 61 259 [.ref 7, .ref x1, .int (zi x2), .int (zi x3), .int (zi x4), .int (zi x5), .int (zi x6), .int (zi x7), .int (zi x8)] [] (zm (vup (vup (vup (vup V (x1 + 4) (qw x8) x5) (x1 + 5) (qw x8) x2) (x1 + 6) (qw x8) x6) (x1 + 7) (qw x8) x7) J d)))))) := by
  refine (zr_ifeq (off := 38) (a := s0) (t := 259) (by decide +kernel) rfl).trans (zif_ct (fun _ => ?_) (fun _ => ?_))
  · rfl
  · refine (zr_aload_n (n := 1) (x := x1) (by decide +kernel) rfl).trans ?_
    refine (zr_getR (i := 109) (c := 10) (k := 7) (r := (x1 + 4)) (by decide +kernel) (by decide +kernel) (zb10_0 h1) (by decide +kernel) (zR0_f (o := x1) (c := 10) (n := 0) (k := 7) (j := 4) (zb10_0 h1) (by decide) rfl)).trans ?_
    refine (zr_iload (n := 8) (x := zi x8) (by decide +kernel) rfl).trans ?_
    refine (zr_iload (n := 5) (x := zi x5) (by decide +kernel) rfl).trans ?_
    refine (zr_iast (n := 60) (e := x8) (x := x5) (by decide +kernel) (zb10_4 h1)).trans (zck_ct fun _ => ?_)
    refine (zr_aload_n (n := 1) (x := x1) (by decide +kernel) rfl).trans ?_
    refine (zr_getR (i := 112) (c := 10) (k := 8) (r := (x1 + 5)) (by decide +kernel) (by decide +kernel) (zb10_0 h1) (by decide +kernel) (zR0_f (o := x1) (c := 10) (n := 0) (k := 8) (j := 5) (zb10_0 h1) (by decide) rfl)).trans ?_
    refine (zr_iload (n := 8) (x := zi x8) (by decide +kernel) rfl).trans ?_
    refine (zr_iload_n (n := 2) (x := zi x2) (by decide +kernel) rfl).trans ?_
    refine (zr_iast (n := 60) (e := x8) (x := x2) (by decide +kernel) (zb10_5 h1)).trans (zck_ct fun _ => ?_)
    refine (zr_aload_n (n := 1) (x := x1) (by decide +kernel) rfl).trans ?_
    refine (zr_getR (i := 101) (c := 10) (k := 9) (r := (x1 + 6)) (by decide +kernel) (by decide +kernel) (zb10_0 h1) (by decide +kernel) (zR0_f (o := x1) (c := 10) (n := 0) (k := 9) (j := 6) (zb10_0 h1) (by decide) rfl)).trans ?_
    refine (zr_iload (n := 8) (x := zi x8) (by decide +kernel) rfl).trans ?_
    refine (zr_iload (n := 6) (x := zi x6) (by decide +kernel) rfl).trans ?_
    refine (zr_iast (n := 60) (e := x8) (x := x6) (by decide +kernel) (zb10_6 h1)).trans (zck_ct fun _ => ?_)
    refine (zr_aload_n (n := 1) (x := x1) (by decide +kernel) rfl).trans ?_
    refine (zr_getR (i := 115) (c := 10) (k := 10) (r := (x1 + 7)) (by decide +kernel) (by decide +kernel) (zb10_0 h1) (by decide +kernel) (zR0_f (o := x1) (c := 10) (n := 0) (k := 10) (j := 7) (zb10_0 h1) (by decide) rfl)).trans ?_
    refine (zr_iload (n := 8) (x := zi x8) (by decide +kernel) rfl).trans ?_
    refine (zr_iload (n := 7) (x := zi x7) (by decide +kernel) rfl).trans ?_
    refine (zr_zast (n := 60) (e := x8) (x := x7) (by decide +kernel) (zb10_7 h1)).trans (zck_ct fun _ => ?_)
    rfl
theorem ze_61_259 {V : zVt} {J : zJt} {d : Nat → Nat → UInt64} (x1 : Nat) (x2 : Int) (x3 : Int) (x4 : Int) (x5 : Int) (x6 : Int) (x7 : Int) (x8 : Int) (h1 : zBk 10 x1) : zGo false 61 259 [.ref 7, .ref x1, .int (zi x2), .int (zi x3), .int (zi x4), .int (zi x5), .int (zi x6), .int (zi x7), .int (zi x8)] [] (zm V J d) =
    zck (qw (1) = 0 ∨ qw (1) = 1) (some (.inl (some (.int (zi (1)))), zm V J d)) := by
  refine (zr_iconst (n := 1) (by decide +kernel)).trans ?_
  exact zr_zret (a := (1)) (by decide +kernel) rfl
/-! PartSongDesk$Reader signOf (C)I -/
theorem ze_62_0 {V : zVt} {J : zJt} {d : Nat → Nat → UInt64} (x1 : Int) : zGo false 62 0 [.ref 7, .int (zi x1)] [] (zm V J d) =
    (if qw x1 ≠ qw (94) then (if qw x1 ≠ qw (95) then (if qw x1 ≠ qw (61) then zGo false 62 31 [.ref 7, .int (zi x1)] [.int (zi (0))] (zm V J d) else zGo false 62 31 [.ref 7, .int (zi x1)] [.int (zi (3))] (zm V J d)) else zGo false 62 31 [.ref 7, .int (zi x1)] [.int (zi (2))] (zm V J d)) else zGo false 62 31 [.ref 7, .int (zi x1)] [.int (zi (1))] (zm V J d)) := by
  refine (zr_iload_n (n := 1) (x := zi x1) (by decide +kernel) rfl).trans ?_
  refine (zr_bipush (n := 94) (by decide +kernel) rfl).trans ?_
  refine (zr_cne (off := 7) (a := x1) (b := (94)) (t := 10) (by decide +kernel) rfl).trans (zif_ct (fun _ => ?_) (fun _ => ?_))
  · refine (zr_iload_n (n := 1) (x := zi x1) (by decide +kernel) rfl).trans ?_
    refine (zr_bipush (n := 95) (by decide +kernel) rfl).trans ?_
    refine (zr_cne (off := 7) (a := x1) (b := (95)) (t := 20) (by decide +kernel) rfl).trans (zif_ct (fun _ => ?_) (fun _ => ?_))
    · refine (zr_iload_n (n := 1) (x := zi x1) (by decide +kernel) rfl).trans ?_
      refine (zr_bipush (n := 61) (by decide +kernel) rfl).trans ?_
      refine (zr_cne (off := 7) (a := x1) (b := (61)) (t := 30) (by decide +kernel) rfl).trans (zif_ct (fun _ => ?_) (fun _ => ?_))
      · refine (zr_iconst (n := 0) (by decide +kernel)).trans ?_
        rfl
      · refine (zr_iconst (n := 3) (by decide +kernel)).trans ?_
        refine (zr_goto (off := 4) (t := 31) (by decide +kernel) rfl).trans ?_
        rfl
    · refine (zr_iconst (n := 2) (by decide +kernel)).trans ?_
      refine (zr_goto (off := 14) (t := 31) (by decide +kernel) rfl).trans ?_
      rfl
  · refine (zr_iconst (n := 1) (by decide +kernel)).trans ?_
    refine (zr_goto (off := 24) (t := 31) (by decide +kernel) rfl).trans ?_
    rfl
theorem ze_62_31 {V : zVt} {J : zJt} {d : Nat → Nat → UInt64} (x1 : Int) (s0 : Int) : zGo false 62 31 [.ref 7, .int (zi x1)] [.int (zi s0)] (zm V J d) =
    some (.inl (some (.int (zi s0))), zm V J d) := by
  exact zr_iret (a := s0) (by decide +kernel) rfl
/-! PartSongDesk$Rehearsals beginDay ()I -/
theorem ze_64_0 {V : zVt} {J : zJt} {d : Nat → Nat → UInt64} : zGo false 64 0 [.ref 37, .null, .null] [] (zm V J d) =
    zGo false 64 12 [.ref 37, .int (zi (0)), .null] [] (zm (vup V 37 7 ((V 37 7) + (1))) J d) := by
  refine (zr_aload_n (n := 0) (x := 37) (by decide +kernel) rfl).trans ?_
  refine (zr_dup (by decide +kernel) rfl).trans ?_
  refine (zr_getI (i := 41) (c := 8) (k := 7) (by decide +kernel) (by decide +kernel) rfl (by decide +kernel)).trans ?_
  refine (zr_iconst (n := 1) (by decide +kernel)).trans ?_
  refine (zr_iadd (a := (V 37 7)) (b := (1)) (by decide +kernel)).trans ?_
  refine (zr_putI (i := 41) (c := 8) (k := 7) (x := ((V 37 7) + (1))) (by decide +kernel) (by decide +kernel) rfl (by decide +kernel)).trans ?_
  refine (zr_iconst (n := 0) (by decide +kernel)).trans ?_
  refine (zr_istore_n (n := 1) (l1 := [.ref 37, .int (zi (0)), .null]) (by decide +kernel) rfl).trans ?_
  rfl
theorem ze_64_12 {V : zVt} {J : zJt} {d : Nat → Nat → UInt64} (x1 : Int) (x2 : Value) : zGo false 64 12 [.ref 37, .int (zi x1), x2] [] (zm V J d) =
    (if qw (4) ≤ qw x1 then some (.inl (some (.int (zi (V 37 7)))), zm V J d) else zck (0 ≤ qw x1 ∧ qw x1 < (4 : Nat)) (zGo false 64 26 [.ref 37, .int (zi x1), .int (zi (0))] [] (zm (vup V 45 (qw x1) (0)) J d))) := by
  refine (zr_iload_n (n := 1) (x := zi x1) (by decide +kernel) rfl).trans ?_
  refine (zr_iconst (n := 4) (by decide +kernel)).trans ?_
  refine (zr_cge (off := 40) (a := x1) (b := (4)) (t := 54) (by decide +kernel) rfl).trans (zif_ct (fun _ => ?_) (fun _ => ?_))
  · refine (zr_aload_n (n := 0) (x := 37) (by decide +kernel) rfl).trans ?_
    refine (zr_getI (i := 41) (c := 8) (k := 7) (by decide +kernel) (by decide +kernel) rfl (by decide +kernel)).trans ?_
    exact zr_iret (a := (V 37 7)) (by decide +kernel) rfl
  · refine (zr_aload_n (n := 0) (x := 37) (by decide +kernel) rfl).trans ?_
    refine (zr_getR (i := 34) (c := 8) (k := 9) (r := 45) (by decide +kernel) (by decide +kernel) rfl (by decide +kernel) (zR0_f (o := 37) (c := 8) (n := 0) (k := 9) (j := 8) rfl (by decide) rfl)).trans ?_
    refine (zr_iload_n (n := 1) (x := zi x1) (by decide +kernel) rfl).trans ?_
    refine (zr_iconst (n := 0) (by decide +kernel)).trans ?_
    refine (zr_iast (n := 4) (e := x1) (x := (0)) (by decide +kernel) rfl).trans (zck_ct fun _ => ?_)
    refine (zr_iconst (n := 0) (by decide +kernel)).trans ?_
    refine (zr_istore_n (n := 2) (l1 := [.ref 37, .int (zi x1), .int (zi (0))]) (by decide +kernel) rfl).trans ?_
    rfl
theorem ze_64_26 {V : zVt} {J : zJt} {d : Nat → Nat → UInt64} (x1 : Int) (x2 : Int) : zGo false 64 26 [.ref 37, .int (zi x1), .int (zi x2)] [] (zm V J d) =
    (if qw (4) ≤ qw x2 then zGo false 64 12 [.ref 37, .int (zi (x1 + 1)), .int (zi x2)] [] (zm V J d) else zck ((0 ≤ qw ((x1 * (4)) + x2) ∧ qw ((x1 * (4)) + x2) < (16 : Nat)) ∧ (qw (0) = 0 ∨ qw (0) = 1)) (zGo false 64 26 [.ref 37, .int (zi x1), .int (zi (x2 + 1))] [] (zm (vup V 44 (qw ((x1 * (4)) + x2)) (0)) J d))) := by
  refine (zr_iload_n (n := 2) (x := zi x2) (by decide +kernel) rfl).trans ?_
  refine (zr_iconst (n := 4) (by decide +kernel)).trans ?_
  refine (zr_cge (off := 20) (a := x2) (b := (4)) (t := 48) (by decide +kernel) rfl).trans (zif_ct (fun _ => ?_) (fun _ => ?_))
  · refine (zr_iinc (n := 1) (k := 1) (x := x1) (l1 := [.ref 37, .int (zi (x1 + 1)), .int (zi x2)]) (by decide +kernel) rfl rfl).trans ?_
    refine (zr_goto (off := -39) (t := 12) (by decide +kernel) rfl).trans ?_
    rfl
  · refine (zr_aload_n (n := 0) (x := 37) (by decide +kernel) rfl).trans ?_
    refine (zr_getR (i := 30) (c := 8) (k := 8) (r := 44) (by decide +kernel) (by decide +kernel) rfl (by decide +kernel) (zR0_f (o := 37) (c := 8) (n := 0) (k := 8) (j := 7) rfl (by decide) rfl)).trans ?_
    refine (zr_iload_n (n := 1) (x := zi x1) (by decide +kernel) rfl).trans ?_
    refine (zr_iconst (n := 4) (by decide +kernel)).trans ?_
    refine (zr_imul (a := x1) (b := (4)) (by decide +kernel)).trans ?_
    refine (zr_iload_n (n := 2) (x := zi x2) (by decide +kernel) rfl).trans ?_
    refine (zr_iadd (a := (x1 * (4))) (b := x2) (by decide +kernel)).trans ?_
    refine (zr_iconst (n := 0) (by decide +kernel)).trans ?_
    refine (zr_zast (n := 16) (e := ((x1 * (4)) + x2)) (x := (0)) (by decide +kernel) rfl).trans (zck_ct fun _ => ?_)
    refine (zr_iinc (n := 2) (k := 1) (x := x2) (l1 := [.ref 37, .int (zi x1), .int (zi (x2 + 1))]) (by decide +kernel) rfl rfl).trans ?_
    refine (zr_goto (off := -19) (t := 26) (by decide +kernel) rfl).trans ?_
    rfl
/-! PartSongDesk$Rehearsals give (II)Z -/
theorem ze_65_0 {V : zVt} {J : zJt} {d : Nat → Nat → UInt64} (x1 : Int) (x2 : Int) : zGo false 65 0 [.ref 37, .int (zi x1), .int (zi x2), .null, .null] [] (zm V J d) =
    zGo false 65 2 [.ref 37, .int (zi x1), .int (zi x2), .int (zi (0)), .null] [] (zm V J d) := by
  refine (zr_iconst (n := 0) (by decide +kernel)).trans ?_
  refine (zr_istore_n (n := 3) (l1 := [.ref 37, .int (zi x1), .int (zi x2), .int (zi (0)), .null]) (by decide +kernel) rfl).trans ?_
  rfl
theorem ze_65_2 {V : zVt} {J : zJt} {d : Nat → Nat → UInt64} (x1 : Int) (x2 : Int) (x3 : Int) (x4 : Value) : zGo false 65 2 [.ref 37, .int (zi x1), .int (zi x2), .int (zi x3), x4] [] (zm V J d) =
    (if qw (4) ≤ qw x3 then zck (qw (0) = 0 ∨ qw (0) = 1) (some (.inl (some (.int (zi (0)))), zm V J d)) else zGo false 65 10 [.ref 37, .int (zi x1), .int (zi x2), .int (zi x3), .int (zi (0))] [] (zm V J d)) := by
  refine (zr_iload_n (n := 3) (x := zi x3) (by decide +kernel) rfl).trans ?_
  refine (zr_iconst (n := 4) (by decide +kernel)).trans ?_
  refine (zr_cge (off := 108) (a := x3) (b := (4)) (t := 112) (by decide +kernel) rfl).trans (zif_ct (fun _ => ?_) (fun _ => ?_))
  · refine (zr_iconst (n := 0) (by decide +kernel)).trans ?_
    exact zr_zret (a := (0)) (by decide +kernel) rfl
  · refine (zr_iconst (n := 0) (by decide +kernel)).trans ?_
    refine (zr_istore (n := 4) (l1 := [.ref 37, .int (zi x1), .int (zi x2), .int (zi x3), .int (zi (0))]) (by decide +kernel) rfl).trans ?_
    rfl
theorem ze_65_10 {V : zVt} {J : zJt} {d : Nat → Nat → UInt64} (x1 : Int) (x2 : Int) (x3 : Int) (x4 : Int) : zGo false 65 10 [.ref 37, .int (zi x1), .int (zi x2), .int (zi x3), .int (zi x4)] [] (zm V J d) =
    (if qw (4) ≤ qw x4 then zGo false 65 2 [.ref 37, .int (zi x1), .int (zi x2), .int (zi (x3 + 1)), .int (zi x4)] [] (zm V J d) else zck (0 ≤ qw x3 ∧ qw x3 < (4 : Nat)) ((if qw (qand (V 45 (qw x3)) x2) ≠ 0 then zGo false 65 100 [.ref 37, .int (zi x1), .int (zi x2), .int (zi x3), .int (zi x4)] [] (zm V J d) else zck (0 ≤ qw ((x3 * (4)) + x4) ∧ qw ((x3 * (4)) + x4) < (16 : Nat)) ((if qw (V 44 (qw ((x3 * (4)) + x4))) ≠ 0 then zGo false 65 100 [.ref 37, .int (zi x1), .int (zi x2), .int (zi x3), .int (zi x4)] [] (zm V J d) else zck (0 ≤ qw x4 ∧ qw x4 < (4 : Nat)) ((zGo false 235 0 [.int (zi x2)] [] (zm V J d)).bind (zGor false 65 52 [.ref 37, .int (zi x1), .int (zi x2), .int (zi x3), .int (zi x4)] [.int (zi (V 43 (qw x4)))]))))))) := by
  refine (zr_iload (n := 4) (x := zi x4) (by decide +kernel) rfl).trans ?_
  refine (zr_iconst (n := 4) (by decide +kernel)).trans ?_
  refine (zr_cge (off := 93) (a := x4) (b := (4)) (t := 106) (by decide +kernel) rfl).trans (zif_ct (fun _ => ?_) (fun _ => ?_))
  · refine (zr_iinc (n := 3) (k := 1) (x := x3) (l1 := [.ref 37, .int (zi x1), .int (zi x2), .int (zi (x3 + 1)), .int (zi x4)]) (by decide +kernel) rfl rfl).trans ?_
    refine (zr_goto (off := -107) (t := 2) (by decide +kernel) rfl).trans ?_
    rfl
  · refine (zr_aload_n (n := 0) (x := 37) (by decide +kernel) rfl).trans ?_
    refine (zr_getR (i := 34) (c := 8) (k := 9) (r := 45) (by decide +kernel) (by decide +kernel) rfl (by decide +kernel) (zR0_f (o := 37) (c := 8) (n := 0) (k := 9) (j := 8) rfl (by decide) rfl)).trans ?_
    refine (zr_iload_n (n := 3) (x := zi x3) (by decide +kernel) rfl).trans ?_
    refine (zr_iald (n := 4) (e := x3) (by decide +kernel) rfl).trans (zck_ct fun _ => ?_)
    refine (zr_iload_n (n := 2) (x := zi x2) (by decide +kernel) rfl).trans ?_
    refine (zr_iand (a := (V 45 (qw x3))) (b := x2) (by decide +kernel)).trans ?_
    refine (zr_ifne (off := 76) (a := (qand (V 45 (qw x3)) x2)) (t := 100) (by decide +kernel) rfl).trans (zif_ct (fun _ => ?_) (fun _ => ?_))
    · rfl
    · refine (zr_aload_n (n := 0) (x := 37) (by decide +kernel) rfl).trans ?_
      refine (zr_getR (i := 30) (c := 8) (k := 8) (r := 44) (by decide +kernel) (by decide +kernel) rfl (by decide +kernel) (zR0_f (o := 37) (c := 8) (n := 0) (k := 8) (j := 7) rfl (by decide) rfl)).trans ?_
      refine (zr_iload_n (n := 3) (x := zi x3) (by decide +kernel) rfl).trans ?_
      refine (zr_iconst (n := 4) (by decide +kernel)).trans ?_
      refine (zr_imul (a := x3) (b := (4)) (by decide +kernel)).trans ?_
      refine (zr_iload (n := 4) (x := zi x4) (by decide +kernel) rfl).trans ?_
      refine (zr_iadd (a := (x3 * (4))) (b := x4) (by decide +kernel)).trans ?_
      refine (zr_zald (n := 16) (e := ((x3 * (4)) + x4)) (by decide +kernel) rfl).trans (zck_ct fun _ => ?_)
      refine (zr_ifne (off := 62) (a := (V 44 (qw ((x3 * (4)) + x4)))) (t := 100) (by decide +kernel) rfl).trans (zif_ct (fun _ => ?_) (fun _ => ?_))
      · rfl
      · refine (zr_aload_n (n := 0) (x := 37) (by decide +kernel) rfl).trans ?_
        refine (zr_getR (i := 27) (c := 8) (k := 6) (r := 43) (by decide +kernel) (by decide +kernel) rfl (by decide +kernel) (zR0_f (o := 37) (c := 8) (n := 0) (k := 6) (j := 6) rfl (by decide) rfl)).trans ?_
        refine (zr_iload (n := 4) (x := zi x4) (by decide +kernel) rfl).trans ?_
        refine (zr_iald (n := 4) (e := x4) (by decide +kernel) rfl).trans (zck_ct fun _ => ?_)
        refine (zr_iload_n (n := 2) (x := zi x2) (by decide +kernel) rfl).trans ?_
        exact zr_cS (i := 44) (z := 235) (w := 0) (t := [.int (zi x2)]) (rest := [.int (zi (V 43 (qw x4)))]) (L := [.int (zi x2)]) (pc1 := 52) (by decide +kernel) (by decide +kernel) (n := 1) (r := 1) rfl rfl rfl (by decide +kernel) rfl rfl
theorem ze_65_52 {V : zVt} {J : zJt} {d : Nat → Nat → UInt64} (x1 : Int) (x2 : Int) (x3 : Int) (x4 : Int) (s0 : Int) (s1 : Int) : zGo false 65 52 [.ref 37, .int (zi x1), .int (zi x2), .int (zi x3), .int (zi x4)] [.int (zi s1), .int (zi s0)] (zm V J d) =
    (if qw s0 < qw s1 then zGo false 65 100 [.ref 37, .int (zi x1), .int (zi x2), .int (zi x3), .int (zi x4)] [] (zm V J d) else zck (0 ≤ qw x3 ∧ qw x3 < (4 : Nat)) (zck (0 ≤ qw x3 ∧ qw x3 < (4 : Nat)) (zck ((0 ≤ qw ((x3 * (4)) + x4) ∧ qw ((x3 * (4)) + x4) < (16 : Nat)) ∧ (qw (1) = 0 ∨ qw (1) = 1)) (zck (0 ≤ qw x1 ∧ qw x1 < (40 : Nat)) (zck (qw (1) = 0 ∨ qw (1) = 1) (some (.inl (some (.int (zi (1)))), zm (vup (vup (vup V 45 (qw x3) (qor (V 45 (qw x3)) x2)) 44 (qw ((x3 * (4)) + x4)) (1)) 42 (qw x1) ((((100) * ((vup (vup V 45 (qw x3) (qor (V 45 (qw x3)) x2)) 44 (qw ((x3 * (4)) + x4)) (1)) 37 7)) + ((10) * x3)) + x4)) J d))))))) := by
  refine (zr_clt (off := 48) (a := s0) (b := s1) (t := 100) (by decide +kernel) rfl).trans (zif_ct (fun _ => ?_) (fun _ => ?_))
  · rfl
  · refine (zr_aload_n (n := 0) (x := 37) (by decide +kernel) rfl).trans ?_
    refine (zr_getR (i := 34) (c := 8) (k := 9) (r := 45) (by decide +kernel) (by decide +kernel) rfl (by decide +kernel) (zR0_f (o := 37) (c := 8) (n := 0) (k := 9) (j := 8) rfl (by decide) rfl)).trans ?_
    refine (zr_iload_n (n := 3) (x := zi x3) (by decide +kernel) rfl).trans ?_
    refine (zr_dup2 (by decide +kernel) rfl rfl).trans ?_
    refine (zr_iald (n := 4) (e := x3) (by decide +kernel) rfl).trans (zck_ct fun _ => ?_)
    refine (zr_iload_n (n := 2) (x := zi x2) (by decide +kernel) rfl).trans ?_
    refine (zr_ior (a := (V 45 (qw x3))) (b := x2) (by decide +kernel)).trans ?_
    refine (zr_iast (n := 4) (e := x3) (x := (qor (V 45 (qw x3)) x2)) (by decide +kernel) rfl).trans (zck_ct fun _ => ?_)
    refine (zr_aload_n (n := 0) (x := 37) (by decide +kernel) rfl).trans ?_
    refine (zr_getR (i := 30) (c := 8) (k := 8) (r := 44) (by decide +kernel) (by decide +kernel) rfl (by decide +kernel) (zR0_f (o := 37) (c := 8) (n := 0) (k := 8) (j := 7) rfl (by decide) rfl)).trans ?_
    refine (zr_iload_n (n := 3) (x := zi x3) (by decide +kernel) rfl).trans ?_
    refine (zr_iconst (n := 4) (by decide +kernel)).trans ?_
    refine (zr_imul (a := x3) (b := (4)) (by decide +kernel)).trans ?_
    refine (zr_iload (n := 4) (x := zi x4) (by decide +kernel) rfl).trans ?_
    refine (zr_iadd (a := (x3 * (4))) (b := x4) (by decide +kernel)).trans ?_
    refine (zr_iconst (n := 1) (by decide +kernel)).trans ?_
    refine (zr_zast (n := 16) (e := ((x3 * (4)) + x4)) (x := (1)) (by decide +kernel) rfl).trans (zck_ct fun _ => ?_)
    refine (zr_aload_n (n := 0) (x := 37) (by decide +kernel) rfl).trans ?_
    refine (zr_getR (i := 24) (c := 8) (k := 4) (r := 42) (by decide +kernel) (by decide +kernel) rfl (by decide +kernel) (zR0_f (o := 37) (c := 8) (n := 0) (k := 4) (j := 5) rfl (by decide) rfl)).trans ?_
    refine (zr_iload_n (n := 1) (x := zi x1) (by decide +kernel) rfl).trans ?_
    refine (zr_bipush (n := 100) (by decide +kernel) rfl).trans ?_
    refine (zr_aload_n (n := 0) (x := 37) (by decide +kernel) rfl).trans ?_
    refine (zr_getI (i := 41) (c := 8) (k := 7) (by decide +kernel) (by decide +kernel) rfl (by decide +kernel)).trans ?_
    refine (zr_imul (a := (100)) (b := ((vup (vup V 45 (qw x3) (qor (V 45 (qw x3)) x2)) 44 (qw ((x3 * (4)) + x4)) (1)) 37 7)) (by decide +kernel)).trans ?_
    refine (zr_bipush (n := 10) (by decide +kernel) rfl).trans ?_
    refine (zr_iload_n (n := 3) (x := zi x3) (by decide +kernel) rfl).trans ?_
    refine (zr_imul (a := (10)) (b := x3) (by decide +kernel)).trans ?_
    refine (zr_iadd (a := ((100) * ((vup (vup V 45 (qw x3) (qor (V 45 (qw x3)) x2)) 44 (qw ((x3 * (4)) + x4)) (1)) 37 7))) (b := ((10) * x3)) (by decide +kernel)).trans ?_
    refine (zr_iload (n := 4) (x := zi x4) (by decide +kernel) rfl).trans ?_
    refine (zr_iadd (a := (((100) * ((vup (vup V 45 (qw x3) (qor (V 45 (qw x3)) x2)) 44 (qw ((x3 * (4)) + x4)) (1)) 37 7)) + ((10) * x3))) (b := x4) (by decide +kernel)).trans ?_
    refine (zr_iast (n := 40) (e := x1) (x := ((((100) * ((vup (vup V 45 (qw x3) (qor (V 45 (qw x3)) x2)) 44 (qw ((x3 * (4)) + x4)) (1)) 37 7)) + ((10) * x3)) + x4)) (by decide +kernel) rfl).trans (zck_ct fun _ => ?_)
    refine (zr_iconst (n := 1) (by decide +kernel)).trans ?_
    exact zr_zret (a := (1)) (by decide +kernel) rfl
theorem ze_65_100 {V : zVt} {J : zJt} {d : Nat → Nat → UInt64} (x1 : Int) (x2 : Int) (x3 : Int) (x4 : Int) : zGo false 65 100 [.ref 37, .int (zi x1), .int (zi x2), .int (zi x3), .int (zi x4)] [] (zm V J d) =
    zGo false 65 10 [.ref 37, .int (zi x1), .int (zi x2), .int (zi x3), .int (zi (x4 + 1))] [] (zm V J d) := by
  refine (zr_iinc (n := 4) (k := 1) (x := x4) (l1 := [.ref 37, .int (zi x1), .int (zi x2), .int (zi x3), .int (zi (x4 + 1))]) (by decide +kernel) rfl rfl).trans ?_
  refine (zr_goto (off := -93) (t := 10) (by decide +kernel) rfl).trans ?_
  rfl
/-! PartSongDesk$Rehearsals add (IIII)I -/
theorem ze_66_0 {V : zVt} {J : zJt} {d : Nat → Nat → UInt64} (x1 : Int) (x2 : Int) (x3 : Int) (x4 : Int) : zGo false 66 0 [.ref 37, .int (zi x1), .int (zi x2), .int (zi x3), .int (zi x4)] [] (zm V J d) =
    (if qw (V 37 5) < qw (40) then zck (0 ≤ qw (V 37 5) ∧ qw (V 37 5) < (40 : Nat)) (zck (0 ≤ qw ((vup V 38 (qw (V 37 5)) x1) 37 5) ∧ qw ((vup V 38 (qw (V 37 5)) x1) 37 5) < (40 : Nat)) (zck (0 ≤ qw ((vup (vup V 38 (qw (V 37 5)) x1) 39 (qw ((vup V 38 (qw (V 37 5)) x1) 37 5)) x2) 37 5) ∧ qw ((vup (vup V 38 (qw (V 37 5)) x1) 39 (qw ((vup V 38 (qw (V 37 5)) x1) 37 5)) x2) 37 5) < (40 : Nat)) (zck (0 ≤ qw ((vup (vup (vup V 38 (qw (V 37 5)) x1) 39 (qw ((vup V 38 (qw (V 37 5)) x1) 37 5)) x2) 40 (qw ((vup (vup V 38 (qw (V 37 5)) x1) 39 (qw ((vup V 38 (qw (V 37 5)) x1) 37 5)) x2) 37 5)) x3) 37 5) ∧ qw ((vup (vup (vup V 38 (qw (V 37 5)) x1) 39 (qw ((vup V 38 (qw (V 37 5)) x1) 37 5)) x2) 40 (qw ((vup (vup V 38 (qw (V 37 5)) x1) 39 (qw ((vup V 38 (qw (V 37 5)) x1) 37 5)) x2) 37 5)) x3) 37 5) < (40 : Nat)) (zck (0 ≤ qw ((vup (vup (vup (vup V 38 (qw (V 37 5)) x1) 39 (qw ((vup V 38 (qw (V 37 5)) x1) 37 5)) x2) 40 (qw ((vup (vup V 38 (qw (V 37 5)) x1) 39 (qw ((vup V 38 (qw (V 37 5)) x1) 37 5)) x2) 37 5)) x3) 41 (qw ((vup (vup (vup V 38 (qw (V 37 5)) x1) 39 (qw ((vup V 38 (qw (V 37 5)) x1) 37 5)) x2) 40 (qw ((vup (vup V 38 (qw (V 37 5)) x1) 39 (qw ((vup V 38 (qw (V 37 5)) x1) 37 5)) x2) 37 5)) x3) 37 5)) x4) 37 5) ∧ qw ((vup (vup (vup (vup V 38 (qw (V 37 5)) x1) 39 (qw ((vup V 38 (qw (V 37 5)) x1) 37 5)) x2) 40 (qw ((vup (vup V 38 (qw (V 37 5)) x1) 39 (qw ((vup V 38 (qw (V 37 5)) x1) 37 5)) x2) 37 5)) x3) 41 (qw ((vup (vup (vup V 38 (qw (V 37 5)) x1) 39 (qw ((vup V 38 (qw (V 37 5)) x1) 37 5)) x2) 40 (qw ((vup (vup V 38 (qw (V 37 5)) x1) 39 (qw ((vup V 38 (qw (V 37 5)) x1) 37 5)) x2) 37 5)) x3) 37 5)) x4) 37 5) < (40 : Nat)) (some (.inl (some (.int (zi (((vup (vup (vup (vup (vup (vup V 38 (qw (V 37 5)) x1) 39 (qw ((vup V 38 (qw (V 37 5)) x1) 37 5)) x2) 40 (qw ((vup (vup V 38 (qw (V 37 5)) x1) 39 (qw ((vup V 38 (qw (V 37 5)) x1) 37 5)) x2) 37 5)) x3) 41 (qw ((vup (vup (vup V 38 (qw (V 37 5)) x1) 39 (qw ((vup V 38 (qw (V 37 5)) x1) 37 5)) x2) 40 (qw ((vup (vup V 38 (qw (V 37 5)) x1) 39 (qw ((vup V 38 (qw (V 37 5)) x1) 37 5)) x2) 37 5)) x3) 37 5)) x4) 42 (qw ((vup (vup (vup (vup V 38 (qw (V 37 5)) x1) 39 (qw ((vup V 38 (qw (V 37 5)) x1) 37 5)) x2) 40 (qw ((vup (vup V 38 (qw (V 37 5)) x1) 39 (qw ((vup V 38 (qw (V 37 5)) x1) 37 5)) x2) 37 5)) x3) 41 (qw ((vup (vup (vup V 38 (qw (V 37 5)) x1) 39 (qw ((vup V 38 (qw (V 37 5)) x1) 37 5)) x2) 40 (qw ((vup (vup V 38 (qw (V 37 5)) x1) 39 (qw ((vup V 38 (qw (V 37 5)) x1) 37 5)) x2) 37 5)) x3) 37 5)) x4) 37 5)) (-1)) 37 5 (((vup (vup (vup (vup (vup V 38 (qw (V 37 5)) x1) 39 (qw ((vup V 38 (qw (V 37 5)) x1) 37 5)) x2) 40 (qw ((vup (vup V 38 (qw (V 37 5)) x1) 39 (qw ((vup V 38 (qw (V 37 5)) x1) 37 5)) x2) 37 5)) x3) 41 (qw ((vup (vup (vup V 38 (qw (V 37 5)) x1) 39 (qw ((vup V 38 (qw (V 37 5)) x1) 37 5)) x2) 40 (qw ((vup (vup V 38 (qw (V 37 5)) x1) 39 (qw ((vup V 38 (qw (V 37 5)) x1) 37 5)) x2) 37 5)) x3) 37 5)) x4) 42 (qw ((vup (vup (vup (vup V 38 (qw (V 37 5)) x1) 39 (qw ((vup V 38 (qw (V 37 5)) x1) 37 5)) x2) 40 (qw ((vup (vup V 38 (qw (V 37 5)) x1) 39 (qw ((vup V 38 (qw (V 37 5)) x1) 37 5)) x2) 37 5)) x3) 41 (qw ((vup (vup (vup V 38 (qw (V 37 5)) x1) 39 (qw ((vup V 38 (qw (V 37 5)) x1) 37 5)) x2) 40 (qw ((vup (vup V 38 (qw (V 37 5)) x1) 39 (qw ((vup V 38 (qw (V 37 5)) x1) 37 5)) x2) 37 5)) x3) 37 5)) x4) 37 5)) (-1)) 37 5) + (1))) 37 5) - (1))))), zm (vup (vup (vup (vup (vup (vup V 38 (qw (V 37 5)) x1) 39 (qw ((vup V 38 (qw (V 37 5)) x1) 37 5)) x2) 40 (qw ((vup (vup V 38 (qw (V 37 5)) x1) 39 (qw ((vup V 38 (qw (V 37 5)) x1) 37 5)) x2) 37 5)) x3) 41 (qw ((vup (vup (vup V 38 (qw (V 37 5)) x1) 39 (qw ((vup V 38 (qw (V 37 5)) x1) 37 5)) x2) 40 (qw ((vup (vup V 38 (qw (V 37 5)) x1) 39 (qw ((vup V 38 (qw (V 37 5)) x1) 37 5)) x2) 37 5)) x3) 37 5)) x4) 42 (qw ((vup (vup (vup (vup V 38 (qw (V 37 5)) x1) 39 (qw ((vup V 38 (qw (V 37 5)) x1) 37 5)) x2) 40 (qw ((vup (vup V 38 (qw (V 37 5)) x1) 39 (qw ((vup V 38 (qw (V 37 5)) x1) 37 5)) x2) 37 5)) x3) 41 (qw ((vup (vup (vup V 38 (qw (V 37 5)) x1) 39 (qw ((vup V 38 (qw (V 37 5)) x1) 37 5)) x2) 40 (qw ((vup (vup V 38 (qw (V 37 5)) x1) 39 (qw ((vup V 38 (qw (V 37 5)) x1) 37 5)) x2) 37 5)) x3) 37 5)) x4) 37 5)) (-1)) 37 5 (((vup (vup (vup (vup (vup V 38 (qw (V 37 5)) x1) 39 (qw ((vup V 38 (qw (V 37 5)) x1) 37 5)) x2) 40 (qw ((vup (vup V 38 (qw (V 37 5)) x1) 39 (qw ((vup V 38 (qw (V 37 5)) x1) 37 5)) x2) 37 5)) x3) 41 (qw ((vup (vup (vup V 38 (qw (V 37 5)) x1) 39 (qw ((vup V 38 (qw (V 37 5)) x1) 37 5)) x2) 40 (qw ((vup (vup V 38 (qw (V 37 5)) x1) 39 (qw ((vup V 38 (qw (V 37 5)) x1) 37 5)) x2) 37 5)) x3) 37 5)) x4) 42 (qw ((vup (vup (vup (vup V 38 (qw (V 37 5)) x1) 39 (qw ((vup V 38 (qw (V 37 5)) x1) 37 5)) x2) 40 (qw ((vup (vup V 38 (qw (V 37 5)) x1) 39 (qw ((vup V 38 (qw (V 37 5)) x1) 37 5)) x2) 37 5)) x3) 41 (qw ((vup (vup (vup V 38 (qw (V 37 5)) x1) 39 (qw ((vup V 38 (qw (V 37 5)) x1) 37 5)) x2) 40 (qw ((vup (vup V 38 (qw (V 37 5)) x1) 39 (qw ((vup V 38 (qw (V 37 5)) x1) 37 5)) x2) 37 5)) x3) 37 5)) x4) 37 5)) (-1)) 37 5) + (1))) J d)))))) else some (.inl (some (.int (zi (-1)))), zm V J d)) := by
  refine (zr_aload_n (n := 0) (x := 37) (by decide +kernel) rfl).trans ?_
  refine (zr_getI (i := 37) (c := 8) (k := 5) (by decide +kernel) (by decide +kernel) rfl (by decide +kernel)).trans ?_
  refine (zr_bipush (n := 40) (by decide +kernel) rfl).trans ?_
  refine (zr_clt (off := 5) (a := (V 37 5)) (b := (40)) (t := 11) (by decide +kernel) rfl).trans (zif_ct (fun _ => ?_) (fun _ => ?_))
  · refine (zr_aload_n (n := 0) (x := 37) (by decide +kernel) rfl).trans ?_
    refine (zr_getR (i := 9) (c := 8) (k := 0) (r := 38) (by decide +kernel) (by decide +kernel) rfl (by decide +kernel) (zR0_f (o := 37) (c := 8) (n := 0) (k := 0) (j := 1) rfl (by decide) rfl)).trans ?_
    refine (zr_aload_n (n := 0) (x := 37) (by decide +kernel) rfl).trans ?_
    refine (zr_getI (i := 37) (c := 8) (k := 5) (by decide +kernel) (by decide +kernel) rfl (by decide +kernel)).trans ?_
    refine (zr_iload_n (n := 1) (x := zi x1) (by decide +kernel) rfl).trans ?_
    refine (zr_iast (n := 40) (e := (V 37 5)) (x := x1) (by decide +kernel) rfl).trans (zck_ct fun _ => ?_)
    refine (zr_aload_n (n := 0) (x := 37) (by decide +kernel) rfl).trans ?_
    refine (zr_getR (i := 15) (c := 8) (k := 1) (r := 39) (by decide +kernel) (by decide +kernel) rfl (by decide +kernel) (zR0_f (o := 37) (c := 8) (n := 0) (k := 1) (j := 2) rfl (by decide) rfl)).trans ?_
    refine (zr_aload_n (n := 0) (x := 37) (by decide +kernel) rfl).trans ?_
    refine (zr_getI (i := 37) (c := 8) (k := 5) (by decide +kernel) (by decide +kernel) rfl (by decide +kernel)).trans ?_
    refine (zr_iload_n (n := 2) (x := zi x2) (by decide +kernel) rfl).trans ?_
    refine (zr_iast (n := 40) (e := ((vup V 38 (qw (V 37 5)) x1) 37 5)) (x := x2) (by decide +kernel) rfl).trans (zck_ct fun _ => ?_)
    refine (zr_aload_n (n := 0) (x := 37) (by decide +kernel) rfl).trans ?_
    refine (zr_getR (i := 18) (c := 8) (k := 2) (r := 40) (by decide +kernel) (by decide +kernel) rfl (by decide +kernel) (zR0_f (o := 37) (c := 8) (n := 0) (k := 2) (j := 3) rfl (by decide) rfl)).trans ?_
    refine (zr_aload_n (n := 0) (x := 37) (by decide +kernel) rfl).trans ?_
    refine (zr_getI (i := 37) (c := 8) (k := 5) (by decide +kernel) (by decide +kernel) rfl (by decide +kernel)).trans ?_
    refine (zr_iload_n (n := 3) (x := zi x3) (by decide +kernel) rfl).trans ?_
    refine (zr_iast (n := 40) (e := ((vup (vup V 38 (qw (V 37 5)) x1) 39 (qw ((vup V 38 (qw (V 37 5)) x1) 37 5)) x2) 37 5)) (x := x3) (by decide +kernel) rfl).trans (zck_ct fun _ => ?_)
    refine (zr_aload_n (n := 0) (x := 37) (by decide +kernel) rfl).trans ?_
    refine (zr_getR (i := 21) (c := 8) (k := 3) (r := 41) (by decide +kernel) (by decide +kernel) rfl (by decide +kernel) (zR0_f (o := 37) (c := 8) (n := 0) (k := 3) (j := 4) rfl (by decide) rfl)).trans ?_
    refine (zr_aload_n (n := 0) (x := 37) (by decide +kernel) rfl).trans ?_
    refine (zr_getI (i := 37) (c := 8) (k := 5) (by decide +kernel) (by decide +kernel) rfl (by decide +kernel)).trans ?_
    refine (zr_iload (n := 4) (x := zi x4) (by decide +kernel) rfl).trans ?_
    refine (zr_iast (n := 40) (e := ((vup (vup (vup V 38 (qw (V 37 5)) x1) 39 (qw ((vup V 38 (qw (V 37 5)) x1) 37 5)) x2) 40 (qw ((vup (vup V 38 (qw (V 37 5)) x1) 39 (qw ((vup V 38 (qw (V 37 5)) x1) 37 5)) x2) 37 5)) x3) 37 5)) (x := x4) (by decide +kernel) rfl).trans (zck_ct fun _ => ?_)
    refine (zr_aload_n (n := 0) (x := 37) (by decide +kernel) rfl).trans ?_
    refine (zr_getR (i := 24) (c := 8) (k := 4) (r := 42) (by decide +kernel) (by decide +kernel) rfl (by decide +kernel) (zR0_f (o := 37) (c := 8) (n := 0) (k := 4) (j := 5) rfl (by decide) rfl)).trans ?_
    refine (zr_aload_n (n := 0) (x := 37) (by decide +kernel) rfl).trans ?_
    refine (zr_getI (i := 37) (c := 8) (k := 5) (by decide +kernel) (by decide +kernel) rfl (by decide +kernel)).trans ?_
    refine (zr_iconst (n := -1) (by decide +kernel)).trans ?_
    refine (zr_iast (n := 40) (e := ((vup (vup (vup (vup V 38 (qw (V 37 5)) x1) 39 (qw ((vup V 38 (qw (V 37 5)) x1) 37 5)) x2) 40 (qw ((vup (vup V 38 (qw (V 37 5)) x1) 39 (qw ((vup V 38 (qw (V 37 5)) x1) 37 5)) x2) 37 5)) x3) 41 (qw ((vup (vup (vup V 38 (qw (V 37 5)) x1) 39 (qw ((vup V 38 (qw (V 37 5)) x1) 37 5)) x2) 40 (qw ((vup (vup V 38 (qw (V 37 5)) x1) 39 (qw ((vup V 38 (qw (V 37 5)) x1) 37 5)) x2) 37 5)) x3) 37 5)) x4) 37 5)) (x := (-1)) (by decide +kernel) rfl).trans (zck_ct fun _ => ?_)
    refine (zr_aload_n (n := 0) (x := 37) (by decide +kernel) rfl).trans ?_
    refine (zr_dup (by decide +kernel) rfl).trans ?_
    refine (zr_getI (i := 37) (c := 8) (k := 5) (by decide +kernel) (by decide +kernel) rfl (by decide +kernel)).trans ?_
    refine (zr_iconst (n := 1) (by decide +kernel)).trans ?_
    refine (zr_iadd (a := ((vup (vup (vup (vup (vup V 38 (qw (V 37 5)) x1) 39 (qw ((vup V 38 (qw (V 37 5)) x1) 37 5)) x2) 40 (qw ((vup (vup V 38 (qw (V 37 5)) x1) 39 (qw ((vup V 38 (qw (V 37 5)) x1) 37 5)) x2) 37 5)) x3) 41 (qw ((vup (vup (vup V 38 (qw (V 37 5)) x1) 39 (qw ((vup V 38 (qw (V 37 5)) x1) 37 5)) x2) 40 (qw ((vup (vup V 38 (qw (V 37 5)) x1) 39 (qw ((vup V 38 (qw (V 37 5)) x1) 37 5)) x2) 37 5)) x3) 37 5)) x4) 42 (qw ((vup (vup (vup (vup V 38 (qw (V 37 5)) x1) 39 (qw ((vup V 38 (qw (V 37 5)) x1) 37 5)) x2) 40 (qw ((vup (vup V 38 (qw (V 37 5)) x1) 39 (qw ((vup V 38 (qw (V 37 5)) x1) 37 5)) x2) 37 5)) x3) 41 (qw ((vup (vup (vup V 38 (qw (V 37 5)) x1) 39 (qw ((vup V 38 (qw (V 37 5)) x1) 37 5)) x2) 40 (qw ((vup (vup V 38 (qw (V 37 5)) x1) 39 (qw ((vup V 38 (qw (V 37 5)) x1) 37 5)) x2) 37 5)) x3) 37 5)) x4) 37 5)) (-1)) 37 5)) (b := (1)) (by decide +kernel)).trans ?_
    refine (zr_putI (i := 37) (c := 8) (k := 5) (x := (((vup (vup (vup (vup (vup V 38 (qw (V 37 5)) x1) 39 (qw ((vup V 38 (qw (V 37 5)) x1) 37 5)) x2) 40 (qw ((vup (vup V 38 (qw (V 37 5)) x1) 39 (qw ((vup V 38 (qw (V 37 5)) x1) 37 5)) x2) 37 5)) x3) 41 (qw ((vup (vup (vup V 38 (qw (V 37 5)) x1) 39 (qw ((vup V 38 (qw (V 37 5)) x1) 37 5)) x2) 40 (qw ((vup (vup V 38 (qw (V 37 5)) x1) 39 (qw ((vup V 38 (qw (V 37 5)) x1) 37 5)) x2) 37 5)) x3) 37 5)) x4) 42 (qw ((vup (vup (vup (vup V 38 (qw (V 37 5)) x1) 39 (qw ((vup V 38 (qw (V 37 5)) x1) 37 5)) x2) 40 (qw ((vup (vup V 38 (qw (V 37 5)) x1) 39 (qw ((vup V 38 (qw (V 37 5)) x1) 37 5)) x2) 37 5)) x3) 41 (qw ((vup (vup (vup V 38 (qw (V 37 5)) x1) 39 (qw ((vup V 38 (qw (V 37 5)) x1) 37 5)) x2) 40 (qw ((vup (vup V 38 (qw (V 37 5)) x1) 39 (qw ((vup V 38 (qw (V 37 5)) x1) 37 5)) x2) 37 5)) x3) 37 5)) x4) 37 5)) (-1)) 37 5) + (1))) (by decide +kernel) (by decide +kernel) rfl (by decide +kernel)).trans ?_
    refine (zr_aload_n (n := 0) (x := 37) (by decide +kernel) rfl).trans ?_
    refine (zr_getI (i := 37) (c := 8) (k := 5) (by decide +kernel) (by decide +kernel) rfl (by decide +kernel)).trans ?_
    refine (zr_iconst (n := 1) (by decide +kernel)).trans ?_
    refine (zr_isub (a := ((vup (vup (vup (vup (vup (vup V 38 (qw (V 37 5)) x1) 39 (qw ((vup V 38 (qw (V 37 5)) x1) 37 5)) x2) 40 (qw ((vup (vup V 38 (qw (V 37 5)) x1) 39 (qw ((vup V 38 (qw (V 37 5)) x1) 37 5)) x2) 37 5)) x3) 41 (qw ((vup (vup (vup V 38 (qw (V 37 5)) x1) 39 (qw ((vup V 38 (qw (V 37 5)) x1) 37 5)) x2) 40 (qw ((vup (vup V 38 (qw (V 37 5)) x1) 39 (qw ((vup V 38 (qw (V 37 5)) x1) 37 5)) x2) 37 5)) x3) 37 5)) x4) 42 (qw ((vup (vup (vup (vup V 38 (qw (V 37 5)) x1) 39 (qw ((vup V 38 (qw (V 37 5)) x1) 37 5)) x2) 40 (qw ((vup (vup V 38 (qw (V 37 5)) x1) 39 (qw ((vup V 38 (qw (V 37 5)) x1) 37 5)) x2) 37 5)) x3) 41 (qw ((vup (vup (vup V 38 (qw (V 37 5)) x1) 39 (qw ((vup V 38 (qw (V 37 5)) x1) 37 5)) x2) 40 (qw ((vup (vup V 38 (qw (V 37 5)) x1) 39 (qw ((vup V 38 (qw (V 37 5)) x1) 37 5)) x2) 37 5)) x3) 37 5)) x4) 37 5)) (-1)) 37 5 (((vup (vup (vup (vup (vup V 38 (qw (V 37 5)) x1) 39 (qw ((vup V 38 (qw (V 37 5)) x1) 37 5)) x2) 40 (qw ((vup (vup V 38 (qw (V 37 5)) x1) 39 (qw ((vup V 38 (qw (V 37 5)) x1) 37 5)) x2) 37 5)) x3) 41 (qw ((vup (vup (vup V 38 (qw (V 37 5)) x1) 39 (qw ((vup V 38 (qw (V 37 5)) x1) 37 5)) x2) 40 (qw ((vup (vup V 38 (qw (V 37 5)) x1) 39 (qw ((vup V 38 (qw (V 37 5)) x1) 37 5)) x2) 37 5)) x3) 37 5)) x4) 42 (qw ((vup (vup (vup (vup V 38 (qw (V 37 5)) x1) 39 (qw ((vup V 38 (qw (V 37 5)) x1) 37 5)) x2) 40 (qw ((vup (vup V 38 (qw (V 37 5)) x1) 39 (qw ((vup V 38 (qw (V 37 5)) x1) 37 5)) x2) 37 5)) x3) 41 (qw ((vup (vup (vup V 38 (qw (V 37 5)) x1) 39 (qw ((vup V 38 (qw (V 37 5)) x1) 37 5)) x2) 40 (qw ((vup (vup V 38 (qw (V 37 5)) x1) 39 (qw ((vup V 38 (qw (V 37 5)) x1) 37 5)) x2) 37 5)) x3) 37 5)) x4) 37 5)) (-1)) 37 5) + (1))) 37 5)) (b := (1)) (by decide +kernel)).trans ?_
    exact zr_iret (a := (((vup (vup (vup (vup (vup (vup V 38 (qw (V 37 5)) x1) 39 (qw ((vup V 38 (qw (V 37 5)) x1) 37 5)) x2) 40 (qw ((vup (vup V 38 (qw (V 37 5)) x1) 39 (qw ((vup V 38 (qw (V 37 5)) x1) 37 5)) x2) 37 5)) x3) 41 (qw ((vup (vup (vup V 38 (qw (V 37 5)) x1) 39 (qw ((vup V 38 (qw (V 37 5)) x1) 37 5)) x2) 40 (qw ((vup (vup V 38 (qw (V 37 5)) x1) 39 (qw ((vup V 38 (qw (V 37 5)) x1) 37 5)) x2) 37 5)) x3) 37 5)) x4) 42 (qw ((vup (vup (vup (vup V 38 (qw (V 37 5)) x1) 39 (qw ((vup V 38 (qw (V 37 5)) x1) 37 5)) x2) 40 (qw ((vup (vup V 38 (qw (V 37 5)) x1) 39 (qw ((vup V 38 (qw (V 37 5)) x1) 37 5)) x2) 37 5)) x3) 41 (qw ((vup (vup (vup V 38 (qw (V 37 5)) x1) 39 (qw ((vup V 38 (qw (V 37 5)) x1) 37 5)) x2) 40 (qw ((vup (vup V 38 (qw (V 37 5)) x1) 39 (qw ((vup V 38 (qw (V 37 5)) x1) 37 5)) x2) 37 5)) x3) 37 5)) x4) 37 5)) (-1)) 37 5 (((vup (vup (vup (vup (vup V 38 (qw (V 37 5)) x1) 39 (qw ((vup V 38 (qw (V 37 5)) x1) 37 5)) x2) 40 (qw ((vup (vup V 38 (qw (V 37 5)) x1) 39 (qw ((vup V 38 (qw (V 37 5)) x1) 37 5)) x2) 37 5)) x3) 41 (qw ((vup (vup (vup V 38 (qw (V 37 5)) x1) 39 (qw ((vup V 38 (qw (V 37 5)) x1) 37 5)) x2) 40 (qw ((vup (vup V 38 (qw (V 37 5)) x1) 39 (qw ((vup V 38 (qw (V 37 5)) x1) 37 5)) x2) 37 5)) x3) 37 5)) x4) 42 (qw ((vup (vup (vup (vup V 38 (qw (V 37 5)) x1) 39 (qw ((vup V 38 (qw (V 37 5)) x1) 37 5)) x2) 40 (qw ((vup (vup V 38 (qw (V 37 5)) x1) 39 (qw ((vup V 38 (qw (V 37 5)) x1) 37 5)) x2) 37 5)) x3) 41 (qw ((vup (vup (vup V 38 (qw (V 37 5)) x1) 39 (qw ((vup V 38 (qw (V 37 5)) x1) 37 5)) x2) 40 (qw ((vup (vup V 38 (qw (V 37 5)) x1) 39 (qw ((vup V 38 (qw (V 37 5)) x1) 37 5)) x2) 37 5)) x3) 37 5)) x4) 37 5)) (-1)) 37 5) + (1))) 37 5) - (1))) (by decide +kernel) rfl
  · refine (zr_iconst (n := -1) (by decide +kernel)).trans ?_
    exact zr_iret (a := (-1)) (by decide +kernel) rfl
/-! PartSongDesk$Singing sing (LPartSongDesk$Tokens;LPartSongDesk$Marks;LPartSongDesk$Corrections;LPartSongDesk$Music;)V -/
theorem ze_68_0 {V : zVt} {J : zJt} {d : Nat → Nat → UInt64} (x1 : Nat) (x2 : Nat) (x4 : Nat) (h1 : zBk 10 x1) (h2 : zBk 4 x2) (h4 : zBk 5 x4) : zGo false 68 0 [.ref 12, .ref x1, .ref x2, .ref 3, .ref x4, .null] [] (zm V J d) =
    (if qw (V x1 2) ≠ 0 then zGo false 68 15 [.ref 12, .ref x1, .ref x2, .ref 3, .ref x4, .null] [] (zm V J d) else (if qw (3) ≤ qw (V x1 0) then (zGo false 3 0 [.ref 3, .ref x1, .ref x2, .ref 13, .null] [] (zm V J d)).bind (zGor false 68 45 [.ref 12, .ref x1, .ref x2, .ref 3, .ref x4, .null] []) else zGo false 68 15 [.ref 12, .ref x1, .ref x2, .ref 3, .ref x4, .null] [] (zm V J d))) := by
  refine (zr_aload_n (n := 1) (x := x1) (by decide +kernel) rfl).trans ?_
  refine (zr_getI (i := 33) (c := 10) (k := 2) (by decide +kernel) (by decide +kernel) (zb10_0 h1) (by decide +kernel)).trans ?_
  refine (zr_ifne (off := 11) (a := (V x1 2)) (t := 15) (by decide +kernel) rfl).trans (zif_ct (fun _ => ?_) (fun _ => ?_))
  · rfl
  · refine (zr_aload_n (n := 1) (x := x1) (by decide +kernel) rfl).trans ?_
    refine (zr_getI (i := 37) (c := 10) (k := 0) (by decide +kernel) (by decide +kernel) (zb10_0 h1) (by decide +kernel)).trans ?_
    refine (zr_iconst (n := 3) (by decide +kernel)).trans ?_
    refine (zr_cge (off := 23) (a := (V x1 0)) (b := (3)) (t := 35) (by decide +kernel) rfl).trans (zif_ct (fun _ => ?_) (fun _ => ?_))
    · refine (zr_aload_n (n := 3) (x := 3) (by decide +kernel) rfl).trans ?_
      refine (zr_aload_n (n := 1) (x := x1) (by decide +kernel) rfl).trans ?_
      refine (zr_aload_n (n := 2) (x := x2) (by decide +kernel) rfl).trans ?_
      refine (zr_aload_n (n := 0) (x := 12) (by decide +kernel) rfl).trans ?_
      refine (zr_getR (i := 12) (c := 9) (k := 0) (r := 13) (by decide +kernel) (by decide +kernel) rfl (by decide +kernel) (zR0_f (o := 12) (c := 9) (n := 0) (k := 0) (j := 1) rfl (by decide) rfl)).trans ?_
      exact zr_cV (i := 53) (z := 3) (w := 0) (o := 3) (t := [.ref 13, .ref x2, .ref x1]) (rest := []) (L := [.ref 3, .ref x1, .ref x2, .ref 13, .null]) (pc1 := 45) (by decide +kernel) (by decide +kernel) rfl (n := 3) (r := 0) rfl rfl rfl (by decide +kernel) rfl rfl
    · rfl
theorem ze_68_15 {V : zVt} {J : zJt} {d : Nat → Nat → UInt64} (x1 : Nat) (x2 : Nat) (x4 : Nat) (h1 : zBk 10 x1) (h2 : zBk 4 x2) (h4 : zBk 5 x4) : zGo false 68 15 [.ref 12, .ref x1, .ref x2, .ref 3, .ref x4, .null] [] (zm V J d) =
    (zGo false 33 0 [.ref x4, .int (zi (0))] [] (zm V J d)).bind (zGor false 68 21 [.ref 12, .ref x1, .ref x2, .ref 3, .ref x4, .null] []) := by
  refine (zr_aload (n := 4) (x := x4) (by decide +kernel) rfl).trans ?_
  refine (zr_iconst (n := 0) (by decide +kernel)).trans ?_
  exact zr_cV (i := 40) (z := 33) (w := 0) (o := x4) (t := [.int (zi (0))]) (rest := []) (L := [.ref x4, .int (zi (0))]) (pc1 := 21) (by decide +kernel) (by decide +kernel) (zb5_0 h4) (n := 1) (r := 0) rfl rfl rfl (by decide +kernel) rfl rfl
theorem ze_68_21 {V : zVt} {J : zJt} {d : Nat → Nat → UInt64} (x1 : Nat) (x2 : Nat) (x4 : Nat) (h1 : zBk 10 x1) (h2 : zBk 4 x2) (h4 : zBk 5 x4) : zGo false 68 21 [.ref 12, .ref x1, .ref x2, .ref 3, .ref x4, .null] [] (zm V J d) =
    (zGo false 34 0 [.ref x4, .int (zi (V x1 2)), .int (zi (V x1 3))] [] (zm V J d)).bind (zGor false 68 34 [.ref 12, .ref x1, .ref x2, .ref 3, .ref x4, .null] []) := by
  refine (zr_aload (n := 4) (x := x4) (by decide +kernel) rfl).trans ?_
  refine (zr_aload_n (n := 1) (x := x1) (by decide +kernel) rfl).trans ?_
  refine (zr_getI (i := 33) (c := 10) (k := 2) (by decide +kernel) (by decide +kernel) (zb10_0 h1) (by decide +kernel)).trans ?_
  refine (zr_aload_n (n := 1) (x := x1) (by decide +kernel) rfl).trans ?_
  refine (zr_getI (i := 46) (c := 10) (k := 3) (by decide +kernel) (by decide +kernel) (zb10_0 h1) (by decide +kernel)).trans ?_
  exact zr_cV (i := 49) (z := 34) (w := 0) (o := x4) (t := [.int (zi (V x1 3)), .int (zi (V x1 2))]) (rest := []) (L := [.ref x4, .int (zi (V x1 2)), .int (zi (V x1 3))]) (pc1 := 34) (by decide +kernel) (by decide +kernel) (zb5_0 h4) (n := 2) (r := 0) rfl rfl rfl (by decide +kernel) rfl rfl
theorem ze_68_34 {V : zVt} {J : zJt} {d : Nat → Nat → UInt64} (x1 : Nat) (x2 : Nat) (x4 : Nat) (h1 : zBk 10 x1) (h2 : zBk 4 x2) (h4 : zBk 5 x4) : zGo false 68 34 [.ref 12, .ref x1, .ref x2, .ref 3, .ref x4, .null] [] (zm V J d) =
    some (.inl none, zm V J d) := by
  exact zr_vret (by decide +kernel) rfl
theorem ze_68_45 {V : zVt} {J : zJt} {d : Nat → Nat → UInt64} (x1 : Nat) (x2 : Nat) (x4 : Nat) (h1 : zBk 10 x1) (h2 : zBk 4 x2) (h4 : zBk 5 x4) : zGo false 68 45 [.ref 12, .ref x1, .ref x2, .ref 3, .ref x4, .null] [] (zm V J d) =
    (zGo false 69 0 [.ref 12] [] (zm V J d)).bind (zGor false 68 49 [.ref 12, .ref x1, .ref x2, .ref 3, .ref x4, .null] []) := by
  refine (zr_aload_n (n := 0) (x := 12) (by decide +kernel) rfl).trans ?_
  exact zr_cV (i := 59) (z := 69) (w := 0) (o := 12) (t := []) (rest := []) (L := [.ref 12]) (pc1 := 49) (by decide +kernel) (by decide +kernel) rfl (n := 0) (r := 0) rfl rfl rfl (by decide +kernel) rfl rfl
theorem ze_68_49 {V : zVt} {J : zJt} {d : Nat → Nat → UInt64} (x1 : Nat) (x2 : Nat) (x4 : Nat) (h1 : zBk 10 x1) (h2 : zBk 4 x2) (h4 : zBk 5 x4) : zGo false 68 49 [.ref 12, .ref x1, .ref x2, .ref 3, .ref x4, .null] [] (zm V J d) =
    zck (0 ≤ qw (2) ∧ qw (2) < (60 : Nat)) ((zGo false 33 0 [.ref x4, .int (zi (V (13 + 3) (qw (2))))] [] (zm V J d)).bind (zGor false 68 63 [.ref 12, .ref x1, .ref x2, .ref 3, .ref x4, .null] [])) := by
  refine (zr_aload (n := 4) (x := x4) (by decide +kernel) rfl).trans ?_
  refine (zr_aload_n (n := 0) (x := 12) (by decide +kernel) rfl).trans ?_
  refine (zr_getR (i := 12) (c := 9) (k := 0) (r := 13) (by decide +kernel) (by decide +kernel) rfl (by decide +kernel) (zR0_f (o := 12) (c := 9) (n := 0) (k := 0) (j := 1) rfl (by decide) rfl)).trans ?_
  refine (zr_getR (i := 62) (c := 10) (k := 6) (r := (13 + 3)) (by decide +kernel) (by decide +kernel) (zb10_0 zBk_13) (by decide +kernel) (zR0_f (o := 13) (c := 10) (n := 0) (k := 6) (j := 3) (zb10_0 zBk_13) (by decide) rfl)).trans ?_
  refine (zr_iconst (n := 2) (by decide +kernel)).trans ?_
  refine (zr_iald (n := 60) (e := (2)) (by decide +kernel) (zb10_3 zBk_13)).trans (zck_ct fun _ => ?_)
  exact zr_cV (i := 40) (z := 33) (w := 0) (o := x4) (t := [.int (zi (V (13 + 3) (qw (2))))]) (rest := []) (L := [.ref x4, .int (zi (V (13 + 3) (qw (2))))]) (pc1 := 63) (by decide +kernel) (by decide +kernel) (zb5_0 h4) (n := 1) (r := 0) rfl rfl rfl (by decide +kernel) rfl rfl
theorem ze_68_63 {V : zVt} {J : zJt} {d : Nat → Nat → UInt64} (x1 : Nat) (x2 : Nat) (x4 : Nat) (h1 : zBk 10 x1) (h2 : zBk 4 x2) (h4 : zBk 5 x4) : zGo false 68 63 [.ref 12, .ref x1, .ref x2, .ref 3, .ref x4, .null] [] (zm V J d) =
    zGo false 68 66 [.ref 12, .ref x1, .ref x2, .ref 3, .ref x4, .int (zi (0))] [] (zm V J d) := by
  refine (zr_iconst (n := 0) (by decide +kernel)).trans ?_
  refine (zr_istore (n := 5) (l1 := [.ref 12, .ref x1, .ref x2, .ref 3, .ref x4, .int (zi (0))]) (by decide +kernel) rfl).trans ?_
  rfl
theorem ze_68_66 {V : zVt} {J : zJt} {d : Nat → Nat → UInt64} (x1 : Nat) (x2 : Nat) (x4 : Nat) (x5 : Int) (h1 : zBk 10 x1) (h2 : zBk 4 x2) (h4 : zBk 5 x4) : zGo false 68 66 [.ref 12, .ref x1, .ref x2, .ref 3, .ref x4, .int (zi x5)] [] (zm V J d) =
    (if qw (1000000 : Nat) ≤ qw x5 then zGo false 68 107 [.ref 12, .ref x1, .ref x2, .ref 3, .ref x4, .int (zi x5)] [] (zm V J d) else (zGo false 86 0 [.ref 13, .int (zi (V 12 7))] [] (zm V J d)).bind (zGor false 68 84 [.ref 12, .ref x1, .ref x2, .ref 3, .ref x4, .int (zi x5)] [])) := by
  refine (zr_iload (n := 5) (x := zi x5) (by decide +kernel) rfl).trans ?_
  refine (zr_ldcI (i := 65) (v := 1000000) (w := 0) (by decide +kernel) (by decide +kernel)).trans ?_
  refine (zr_cge (off := 37) (a := x5) (b := (1000000 : Nat)) (t := 107) (by decide +kernel) rfl).trans (zif_ct (fun _ => ?_) (fun _ => ?_))
  · rfl
  · refine (zr_aload_n (n := 0) (x := 12) (by decide +kernel) rfl).trans ?_
    refine (zr_getR (i := 12) (c := 9) (k := 0) (r := 13) (by decide +kernel) (by decide +kernel) rfl (by decide +kernel) (zR0_f (o := 12) (c := 9) (n := 0) (k := 0) (j := 1) rfl (by decide) rfl)).trans ?_
    refine (zr_aload_n (n := 0) (x := 12) (by decide +kernel) rfl).trans ?_
    refine (zr_getI (i := 66) (c := 9) (k := 7) (by decide +kernel) (by decide +kernel) rfl (by decide +kernel)).trans ?_
    exact zr_cV (i := 69) (z := 86) (w := 0) (o := 13) (t := [.int (zi (V 12 7))]) (rest := []) (L := [.ref 13, .int (zi (V 12 7))]) (pc1 := 84) (by decide +kernel) (by decide +kernel) (zb10_0 zBk_13) (n := 1) (r := 0) rfl rfl rfl (by decide +kernel) rfl rfl
theorem ze_68_84 {V : zVt} {J : zJt} {d : Nat → Nat → UInt64} (x1 : Nat) (x2 : Nat) (x4 : Nat) (x5 : Int) (s0 : Int) (h1 : zBk 10 x1) (h2 : zBk 4 x2) (h4 : zBk 5 x4) : zGo false 68 84 [.ref 12, .ref x1, .ref x2, .ref 3, .ref x4, .int (zi x5)] [.int (zi s0)] (zm V J d) =
    (if qw s0 = 0 then zGo false 68 107 [.ref 12, .ref x1, .ref x2, .ref 3, .ref x4, .int (zi x5)] [] (zm V J d) else (if qw (V x4 0) ≠ 0 then zGo false 68 107 [.ref 12, .ref x1, .ref x2, .ref 3, .ref x4, .int (zi x5)] [] (zm V J d) else (zGo false 71 0 [.ref 12, .ref x4] [] (zm V J d)).bind (zGor false 68 101 [.ref 12, .ref x1, .ref x2, .ref 3, .ref x4, .int (zi x5)] []))) := by
  refine (zr_ifeq (off := 23) (a := s0) (t := 107) (by decide +kernel) rfl).trans (zif_ct (fun _ => ?_) (fun _ => ?_))
  · rfl
  · refine (zr_aload (n := 4) (x := x4) (by decide +kernel) rfl).trans ?_
    refine (zr_getI (i := 73) (c := 5) (k := 0) (by decide +kernel) (by decide +kernel) (zb5_0 h4) (by decide +kernel)).trans ?_
    refine (zr_ifne (off := 15) (a := (V x4 0)) (t := 107) (by decide +kernel) rfl).trans (zif_ct (fun _ => ?_) (fun _ => ?_))
    · rfl
    · refine (zr_aload_n (n := 0) (x := 12) (by decide +kernel) rfl).trans ?_
      refine (zr_aload (n := 4) (x := x4) (by decide +kernel) rfl).trans ?_
      exact zr_cV (i := 74) (z := 71) (w := 0) (o := 12) (t := [.ref x4]) (rest := []) (L := [.ref 12, .ref x4]) (pc1 := 101) (by decide +kernel) (by decide +kernel) rfl (n := 1) (r := 0) rfl rfl rfl (by decide +kernel) rfl rfl
theorem ze_68_101 {V : zVt} {J : zJt} {d : Nat → Nat → UInt64} (x1 : Nat) (x2 : Nat) (x4 : Nat) (x5 : Int) (h1 : zBk 10 x1) (h2 : zBk 4 x2) (h4 : zBk 5 x4) : zGo false 68 101 [.ref 12, .ref x1, .ref x2, .ref 3, .ref x4, .int (zi x5)] [] (zm V J d) =
    zGo false 68 66 [.ref 12, .ref x1, .ref x2, .ref 3, .ref x4, .int (zi (x5 + 1))] [] (zm V J d) := by
  refine (zr_iinc (n := 5) (k := 1) (x := x5) (l1 := [.ref 12, .ref x1, .ref x2, .ref 3, .ref x4, .int (zi (x5 + 1))]) (by decide +kernel) rfl rfl).trans ?_
  refine (zr_goto (off := -38) (t := 66) (by decide +kernel) rfl).trans ?_
  rfl
theorem ze_68_107 {V : zVt} {J : zJt} {d : Nat → Nat → UInt64} (x1 : Nat) (x2 : Nat) (x4 : Nat) (x5 : Int) (h1 : zBk 10 x1) (h2 : zBk 4 x2) (h4 : zBk 5 x4) : zGo false 68 107 [.ref 12, .ref x1, .ref x2, .ref 3, .ref x4, .int (zi x5)] [] (zm V J d) =
    (if qw (V x4 0) ≠ 0 then zGo false 68 121 [.ref 12, .ref x1, .ref x2, .ref 3, .ref x4, .int (zi x5)] [] (zm V J d) else (zGo false 82 0 [.ref 12, .ref x4] [] (zm V J d)).bind (zGor false 68 121 [.ref 12, .ref x1, .ref x2, .ref 3, .ref x4, .int (zi x5)] [])) := by
  refine (zr_aload (n := 4) (x := x4) (by decide +kernel) rfl).trans ?_
  refine (zr_getI (i := 73) (c := 5) (k := 0) (by decide +kernel) (by decide +kernel) (zb5_0 h4) (by decide +kernel)).trans ?_
  refine (zr_ifne (off := 9) (a := (V x4 0)) (t := 121) (by decide +kernel) rfl).trans (zif_ct (fun _ => ?_) (fun _ => ?_))
  · rfl
  · refine (zr_aload_n (n := 0) (x := 12) (by decide +kernel) rfl).trans ?_
    refine (zr_aload (n := 4) (x := x4) (by decide +kernel) rfl).trans ?_
    exact zr_cV (i := 78) (z := 82) (w := 0) (o := 12) (t := [.ref x4]) (rest := []) (L := [.ref 12, .ref x4]) (pc1 := 121) (by decide +kernel) (by decide +kernel) rfl (n := 1) (r := 0) rfl rfl rfl (by decide +kernel) rfl rfl
theorem ze_68_121 {V : zVt} {J : zJt} {d : Nat → Nat → UInt64} (x1 : Nat) (x2 : Nat) (x4 : Nat) (x5 : Int) (h1 : zBk 10 x1) (h2 : zBk 4 x2) (h4 : zBk 5 x4) : zGo false 68 121 [.ref 12, .ref x1, .ref x2, .ref 3, .ref x4, .int (zi x5)] [] (zm V J d) =
    some (.inl none, zm V J d) := by
  exact zr_vret (by decide +kernel) rfl
/-! PartSongDesk$Singing begin ()V -/
theorem ze_69_0 {V : zVt} {J : zJt} {d : Nat → Nat → UInt64} : zGo false 69 0 [.ref 12] [] (zm V J d) =
    zck (0 ≤ qw (1) ∧ qw (1) < (60 : Nat)) ((zGo false 236 0 [.ref 23, .int (zi (9)), .null, .null] [] (zm (vup (vup (vup (vup (vup V 12 8 (V (13 + 3) (qw (1)))) 12 4 (0)) 12 6 (0)) 12 9 (-1)) 12 7 (3)) J d)).bind (zGor false 69 42 [.ref 12] [])) := by
  refine (zr_aload_n (n := 0) (x := 12) (by decide +kernel) rfl).trans ?_
  refine (zr_aload_n (n := 0) (x := 12) (by decide +kernel) rfl).trans ?_
  refine (zr_getR (i := 12) (c := 9) (k := 0) (r := 13) (by decide +kernel) (by decide +kernel) rfl (by decide +kernel) (zR0_f (o := 12) (c := 9) (n := 0) (k := 0) (j := 1) rfl (by decide) rfl)).trans ?_
  refine (zr_getR (i := 62) (c := 10) (k := 6) (r := (13 + 3)) (by decide +kernel) (by decide +kernel) (zb10_0 zBk_13) (by decide +kernel) (zR0_f (o := 13) (c := 10) (n := 0) (k := 6) (j := 3) (zb10_0 zBk_13) (by decide) rfl)).trans ?_
  refine (zr_iconst (n := 1) (by decide +kernel)).trans ?_
  refine (zr_iald (n := 60) (e := (1)) (by decide +kernel) (zb10_3 zBk_13)).trans (zck_ct fun _ => ?_)
  refine (zr_putI (i := 81) (c := 9) (k := 8) (x := (V (13 + 3) (qw (1)))) (by decide +kernel) (by decide +kernel) rfl (by decide +kernel)).trans ?_
  refine (zr_aload_n (n := 0) (x := 12) (by decide +kernel) rfl).trans ?_
  refine (zr_iconst (n := 0) (by decide +kernel)).trans ?_
  refine (zr_putI (i := 84) (c := 9) (k := 4) (x := (0)) (by decide +kernel) (by decide +kernel) rfl (by decide +kernel)).trans ?_
  refine (zr_aload_n (n := 0) (x := 12) (by decide +kernel) rfl).trans ?_
  refine (zr_iconst (n := 0) (by decide +kernel)).trans ?_
  refine (zr_putI (i := 87) (c := 9) (k := 6) (x := (0)) (by decide +kernel) (by decide +kernel) rfl (by decide +kernel)).trans ?_
  refine (zr_aload_n (n := 0) (x := 12) (by decide +kernel) rfl).trans ?_
  refine (zr_iconst (n := -1) (by decide +kernel)).trans ?_
  refine (zr_putI (i := 90) (c := 9) (k := 9) (x := (-1)) (by decide +kernel) (by decide +kernel) rfl (by decide +kernel)).trans ?_
  refine (zr_aload_n (n := 0) (x := 12) (by decide +kernel) rfl).trans ?_
  refine (zr_iconst (n := 3) (by decide +kernel)).trans ?_
  refine (zr_putI (i := 66) (c := 9) (k := 7) (x := (3)) (by decide +kernel) (by decide +kernel) rfl (by decide +kernel)).trans ?_
  refine (zr_aload_n (n := 0) (x := 12) (by decide +kernel) rfl).trans ?_
  refine (zr_getR (i := 22) (c := 9) (k := 2) (r := 23) (by decide +kernel) (by decide +kernel) rfl (by decide +kernel) (zR0_f (o := 12) (c := 9) (n := 0) (k := 2) (j := 11) rfl (by decide) rfl)).trans ?_
  refine (zr_bipush (n := 9) (by decide +kernel) rfl).trans ?_
  exact zr_cS (i := 93) (z := 236) (w := 0) (t := [.int (zi (9)), .ref 23]) (rest := []) (L := [.ref 23, .int (zi (9)), .null, .null]) (pc1 := 42) (by decide +kernel) (by decide +kernel) (n := 2) (r := 0) rfl rfl rfl (by decide +kernel) rfl rfl
theorem ze_69_42 {V : zVt} {J : zJt} {d : Nat → Nat → UInt64} : zGo false 69 42 [.ref 12] [] (zm V J d) =
    (zGo false 70 0 [.ref 12, .null, .null, .null] [] (zm V J d)).bind (zGor false 69 46 [.ref 12] []) := by
  refine (zr_aload_n (n := 0) (x := 12) (by decide +kernel) rfl).trans ?_
  exact zr_cV (i := 99) (z := 70) (w := 0) (o := 12) (t := []) (rest := []) (L := [.ref 12, .null, .null, .null]) (pc1 := 46) (by decide +kernel) (by decide +kernel) rfl (n := 0) (r := 0) rfl rfl rfl (by decide +kernel) rfl rfl
theorem ze_69_46 {V : zVt} {J : zJt} {d : Nat → Nat → UInt64} : zGo false 69 46 [.ref 12] [] (zm V J d) =
    some (.inl none, zm V J d) := by
  exact zr_vret (by decide +kernel) rfl
/-! PartSongDesk$Singing findSteps ()V -/
theorem ze_70_0 {V : zVt} {J : zJt} {d : Nat → Nat → UInt64} : zGo false 70 0 [.ref 12, .null, .null, .null] [] (zm V J d) =
    zGo false 70 4 [.ref 12, .int (zi (0)), .int (zi (0)), .null] [] (zm V J d) := by
  refine (zr_iconst (n := 0) (by decide +kernel)).trans ?_
  refine (zr_istore_n (n := 1) (l1 := [.ref 12, .int (zi (0)), .null, .null]) (by decide +kernel) rfl).trans ?_
  refine (zr_iconst (n := 0) (by decide +kernel)).trans ?_
  refine (zr_istore_n (n := 2) (l1 := [.ref 12, .int (zi (0)), .int (zi (0)), .null]) (by decide +kernel) rfl).trans ?_
  rfl
theorem ze_70_4 {V : zVt} {J : zJt} {d : Nat → Nat → UInt64} (x1 : Int) (x2 : Int) (x3 : Value) : zGo false 70 4 [.ref 12, .int (zi x1), .int (zi x2), x3] [] (zm V J d) =
    (if qw (V 13 0) ≤ qw x2 then some (.inl none, zm V J d) else zck (0 ≤ qw x2 ∧ qw x2 < (60 : Nat)) ((if qw (V (13 + 1) (qw x2)) ≠ 0 then zGo false 70 59 [.ref 12, .int (zi x1), .int (zi x2), x3] [] (zm V J d) else zck (0 ≤ qw x2 ∧ qw x2 < (60 : Nat)) ((if qw (V (13 + 3) (qw x2)) ≠ 0 then (if qw (V (13 + 3) (qw x2)) ≠ qw (1) then zGo false 70 58 [.ref 12, .int (zi x1), .int (zi x2), .int (zi (V (13 + 3) (qw x2)))] [.int (zi (24))] (zm V J d) else zGo false 70 58 [.ref 12, .int (zi x1), .int (zi x2), .int (zi (V (13 + 3) (qw x2)))] [.int (zi (18))] (zm V J d)) else zGo false 70 58 [.ref 12, .int (zi x1), .int (zi x2), .int (zi (V (13 + 3) (qw x2)))] [.int (zi (30))] (zm V J d)))))) := by
  refine (zr_iload_n (n := 2) (x := zi x2) (by decide +kernel) rfl).trans ?_
  refine (zr_aload_n (n := 0) (x := 12) (by decide +kernel) rfl).trans ?_
  refine (zr_getR (i := 12) (c := 9) (k := 0) (r := 13) (by decide +kernel) (by decide +kernel) rfl (by decide +kernel) (zR0_f (o := 12) (c := 9) (n := 0) (k := 0) (j := 1) rfl (by decide) rfl)).trans ?_
  refine (zr_getI (i := 37) (c := 10) (k := 0) (by decide +kernel) (by decide +kernel) (zb10_0 zBk_13) (by decide +kernel)).trans ?_
  refine (zr_cge (off := 70) (a := x2) (b := (V 13 0)) (t := 82) (by decide +kernel) rfl).trans (zif_ct (fun _ => ?_) (fun _ => ?_))
  · exact zr_vret (by decide +kernel) rfl
  · refine (zr_aload_n (n := 0) (x := 12) (by decide +kernel) rfl).trans ?_
    refine (zr_getR (i := 12) (c := 9) (k := 0) (r := 13) (by decide +kernel) (by decide +kernel) rfl (by decide +kernel) (zR0_f (o := 12) (c := 9) (n := 0) (k := 0) (j := 1) rfl (by decide) rfl)).trans ?_
    refine (zr_getR (i := 102) (c := 10) (k := 4) (r := (13 + 1)) (by decide +kernel) (by decide +kernel) (zb10_0 zBk_13) (by decide +kernel) (zR0_f (o := 13) (c := 10) (n := 0) (k := 4) (j := 1) (zb10_0 zBk_13) (by decide) rfl)).trans ?_
    refine (zr_iload_n (n := 2) (x := zi x2) (by decide +kernel) rfl).trans ?_
    refine (zr_iald (n := 60) (e := x2) (by decide +kernel) (zb10_1 zBk_13)).trans (zck_ct fun _ => ?_)
    refine (zr_ifne (off := 35) (a := (V (13 + 1) (qw x2))) (t := 59) (by decide +kernel) rfl).trans (zif_ct (fun _ => ?_) (fun _ => ?_))
    · rfl
    · refine (zr_aload_n (n := 0) (x := 12) (by decide +kernel) rfl).trans ?_
      refine (zr_getR (i := 12) (c := 9) (k := 0) (r := 13) (by decide +kernel) (by decide +kernel) rfl (by decide +kernel) (zR0_f (o := 12) (c := 9) (n := 0) (k := 0) (j := 1) rfl (by decide) rfl)).trans ?_
      refine (zr_getR (i := 62) (c := 10) (k := 6) (r := (13 + 3)) (by decide +kernel) (by decide +kernel) (zb10_0 zBk_13) (by decide +kernel) (zR0_f (o := 13) (c := 10) (n := 0) (k := 6) (j := 3) (zb10_0 zBk_13) (by decide) rfl)).trans ?_
      refine (zr_iload_n (n := 2) (x := zi x2) (by decide +kernel) rfl).trans ?_
      refine (zr_iald (n := 60) (e := x2) (by decide +kernel) (zb10_3 zBk_13)).trans (zck_ct fun _ => ?_)
      refine (zr_istore_n (n := 3) (l1 := [.ref 12, .int (zi x1), .int (zi x2), .int (zi (V (13 + 3) (qw x2)))]) (by decide +kernel) rfl).trans ?_
      refine (zr_iload_n (n := 3) (x := zi (V (13 + 3) (qw x2))) (by decide +kernel) rfl).trans ?_
      refine (zr_ifne (off := 8) (a := (V (13 + 3) (qw x2))) (t := 46) (by decide +kernel) rfl).trans (zif_ct (fun _ => ?_) (fun _ => ?_))
      · refine (zr_iload_n (n := 3) (x := zi (V (13 + 3) (qw x2))) (by decide +kernel) rfl).trans ?_
        refine (zr_iconst (n := 1) (by decide +kernel)).trans ?_
        refine (zr_cne (off := 8) (a := (V (13 + 3) (qw x2))) (b := (1)) (t := 56) (by decide +kernel) rfl).trans (zif_ct (fun _ => ?_) (fun _ => ?_))
        · refine (zr_bipush (n := 24) (by decide +kernel) rfl).trans ?_
          rfl
        · refine (zr_bipush (n := 18) (by decide +kernel) rfl).trans ?_
          refine (zr_goto (off := 5) (t := 58) (by decide +kernel) rfl).trans ?_
          rfl
      · refine (zr_bipush (n := 30) (by decide +kernel) rfl).trans ?_
        refine (zr_goto (off := 15) (t := 58) (by decide +kernel) rfl).trans ?_
        rfl
theorem ze_70_58 {V : zVt} {J : zJt} {d : Nat → Nat → UInt64} (x1 : Int) (x2 : Int) (x3 : Int) (s0 : Int) : zGo false 70 58 [.ref 12, .int (zi x1), .int (zi x2), .int (zi x3)] [.int (zi s0)] (zm V J d) =
    zGo false 70 59 [.ref 12, .int (zi s0), .int (zi x2), .int (zi x3)] [] (zm V J d) := by
  refine (zr_istore_n (n := 1) (l1 := [.ref 12, .int (zi s0), .int (zi x2), .int (zi x3)]) (by decide +kernel) rfl).trans ?_
  rfl
theorem ze_70_59 {V : zVt} {J : zJt} {d : Nat → Nat → UInt64} (x1 : Int) (x2 : Int) (x3 : Value) : zGo false 70 59 [.ref 12, .int (zi x1), .int (zi x2), x3] [] (zm V J d) =
    zck (0 ≤ qw x2 ∧ qw x2 < (60 : Nat)) (zck (0 ≤ qw x2 ∧ qw x2 < (60 : Nat)) (zGo false 70 4 [.ref 12, .int (zi x1), .int (zi (x2 + 1)), x3] [] (zm (vup V 22 (qw x2) (x1 + (V (13 + 4) (qw x2)))) J d))) := by
  refine (zr_aload_n (n := 0) (x := 12) (by decide +kernel) rfl).trans ?_
  refine (zr_getR (i := 18) (c := 9) (k := 1) (r := 22) (by decide +kernel) (by decide +kernel) rfl (by decide +kernel) (zR0_f (o := 12) (c := 9) (n := 0) (k := 1) (j := 10) rfl (by decide) rfl)).trans ?_
  refine (zr_iload_n (n := 2) (x := zi x2) (by decide +kernel) rfl).trans ?_
  refine (zr_iload_n (n := 1) (x := zi x1) (by decide +kernel) rfl).trans ?_
  refine (zr_aload_n (n := 0) (x := 12) (by decide +kernel) rfl).trans ?_
  refine (zr_getR (i := 12) (c := 9) (k := 0) (r := 13) (by decide +kernel) (by decide +kernel) rfl (by decide +kernel) (zR0_f (o := 12) (c := 9) (n := 0) (k := 0) (j := 1) rfl (by decide) rfl)).trans ?_
  refine (zr_getR (i := 105) (c := 10) (k := 7) (r := (13 + 4)) (by decide +kernel) (by decide +kernel) (zb10_0 zBk_13) (by decide +kernel) (zR0_f (o := 13) (c := 10) (n := 0) (k := 7) (j := 4) (zb10_0 zBk_13) (by decide) rfl)).trans ?_
  refine (zr_iload_n (n := 2) (x := zi x2) (by decide +kernel) rfl).trans ?_
  refine (zr_iald (n := 60) (e := x2) (by decide +kernel) (zb10_4 zBk_13)).trans (zck_ct fun _ => ?_)
  refine (zr_iadd (a := x1) (b := (V (13 + 4) (qw x2))) (by decide +kernel)).trans ?_
  refine (zr_iast (n := 60) (e := x2) (x := (x1 + (V (13 + 4) (qw x2)))) (by decide +kernel) rfl).trans (zck_ct fun _ => ?_)
  refine (zr_iinc (n := 2) (k := 1) (x := x2) (l1 := [.ref 12, .int (zi x1), .int (zi (x2 + 1)), x3]) (by decide +kernel) rfl rfl).trans ?_
  refine (zr_goto (off := -75) (t := 4) (by decide +kernel) rfl).trans ?_
  rfl
/-! PartSongDesk$Singing singToken (LPartSongDesk$Music;)V -/
theorem ze_71_0 {V : zVt} {J : zJt} {d : Nat → Nat → UInt64} (x1 : Nat) (h1 : zBk 5 x1) : zGo false 71 0 [.ref 12, .ref x1] [] (zm V J d) =
    zck (0 ≤ qw (V 12 7) ∧ qw (V 12 7) < (60 : Nat)) ((if qw (V (13 + 1) (qw (V 12 7))) = 3 then (zGo false 72 0 [.ref 12, .ref x1, .null, .null, .null, .null, .null] [] (zm V J d)).bind (zGor false 71 57 [.ref 12, .ref x1] []) else (if qw (V (13 + 1) (qw (V 12 7))) = 4 then (zGo false 78 0 [.ref 12, .ref x1] [] (zm V J d)).bind (zGor false 71 65 [.ref 12, .ref x1] []) else (if qw (V (13 + 1) (qw (V 12 7))) = 5 then zck (0 ≤ qw (V 12 7) ∧ qw (V 12 7) < (60 : Nat)) ((zGo false 79 0 [.ref 12, .ref x1, .int (zi (V (13 + 2) (qw (V 12 7))))] [] (zm V J d)).bind (zGor false 71 85 [.ref 12, .ref x1] [])) else (if qw (V (13 + 1) (qw (V 12 7))) = 6 then (zGo false 80 0 [.ref 12] [] (zm V J d)).bind (zGor false 71 92 [.ref 12, .ref x1] []) else (if qw (V (13 + 1) (qw (V 12 7))) = 7 then (zGo false 81 0 [.ref 12] [] (zm V J d)).bind (zGor false 71 99 [.ref 12, .ref x1] []) else (if qw (V (13 + 1) (qw (V 12 7))) = 8 then zck (0 ≤ qw (V 12 7) ∧ qw (V 12 7) < (60 : Nat)) (zck (0 ≤ qw (V 12 6) ∧ qw (V 12 6) < (4 : Nat)) ((if qw (V (13 + 3) (qw (V 12 7))) ≠ qw (V 25 (qw (V 12 6))) then zck (0 ≤ qw (V 12 7) ∧ qw (V 12 7) < (60 : Nat)) (zGo false 71 144 [.ref 12, .ref x1] [.int (zi (V (13 + 8) (qw (V 12 7)))), .ref 12] (zm V J d)) else zGo false 71 144 [.ref 12, .ref x1] [.int (zi (V 12 7)), .ref 12] (zm V J d)))) else zGo false 71 150 [.ref 12, .ref x1] [] (zm V J d)))))))) := by
  refine (zr_aload_n (n := 0) (x := 12) (by decide +kernel) rfl).trans ?_
  refine (zr_getR (i := 12) (c := 9) (k := 0) (r := 13) (by decide +kernel) (by decide +kernel) rfl (by decide +kernel) (zR0_f (o := 12) (c := 9) (n := 0) (k := 0) (j := 1) rfl (by decide) rfl)).trans ?_
  refine (zr_getR (i := 102) (c := 10) (k := 4) (r := (13 + 1)) (by decide +kernel) (by decide +kernel) (zb10_0 zBk_13) (by decide +kernel) (zR0_f (o := 13) (c := 10) (n := 0) (k := 4) (j := 1) (zb10_0 zBk_13) (by decide) rfl)).trans ?_
  refine (zr_aload_n (n := 0) (x := 12) (by decide +kernel) rfl).trans ?_
  refine (zr_getI (i := 66) (c := 9) (k := 7) (by decide +kernel) (by decide +kernel) rfl (by decide +kernel)).trans ?_
  refine (zr_iald (n := 60) (e := (V 12 7)) (by decide +kernel) (zb10_1 zBk_13)).trans (zck_ct fun _ => ?_)
  refine (zr_tsw (dflt := 138) (lo := 3) (hi := 8) (offs := #[40, 48, 56, 76, 83, 88]) (len := 40) (a := (V (13 + 1) (qw (V 12 7)))) (by decide +kernel) rfl).trans ?_
  refine (zSwg_t (t := 52) rfl).trans (zif_ct (fun _ => ?_) (fun _ => ?_))
  · refine (zr_aload_n (n := 0) (x := 12) (by decide +kernel) rfl).trans ?_
    refine (zr_aload_n (n := 1) (x := x1) (by decide +kernel) rfl).trans ?_
    exact zr_cV (i := 108) (z := 72) (w := 0) (o := 12) (t := [.ref x1]) (rest := []) (L := [.ref 12, .ref x1, .null, .null, .null, .null, .null]) (pc1 := 57) (by decide +kernel) (by decide +kernel) rfl (n := 1) (r := 0) rfl rfl rfl (by decide +kernel) rfl rfl
  refine (zSwg_t (t := 60) rfl).trans (zif_ct (fun _ => ?_) (fun _ => ?_))
  · refine (zr_aload_n (n := 0) (x := 12) (by decide +kernel) rfl).trans ?_
    refine (zr_aload_n (n := 1) (x := x1) (by decide +kernel) rfl).trans ?_
    exact zr_cV (i := 111) (z := 78) (w := 0) (o := 12) (t := [.ref x1]) (rest := []) (L := [.ref 12, .ref x1]) (pc1 := 65) (by decide +kernel) (by decide +kernel) rfl (n := 1) (r := 0) rfl rfl rfl (by decide +kernel) rfl rfl
  refine (zSwg_t (t := 68) rfl).trans (zif_ct (fun _ => ?_) (fun _ => ?_))
  · refine (zr_aload_n (n := 0) (x := 12) (by decide +kernel) rfl).trans ?_
    refine (zr_aload_n (n := 1) (x := x1) (by decide +kernel) rfl).trans ?_
    refine (zr_aload_n (n := 0) (x := 12) (by decide +kernel) rfl).trans ?_
    refine (zr_getR (i := 12) (c := 9) (k := 0) (r := 13) (by decide +kernel) (by decide +kernel) rfl (by decide +kernel) (zR0_f (o := 12) (c := 9) (n := 0) (k := 0) (j := 1) rfl (by decide) rfl)).trans ?_
    refine (zr_getR (i := 114) (c := 10) (k := 5) (r := (13 + 2)) (by decide +kernel) (by decide +kernel) (zb10_0 zBk_13) (by decide +kernel) (zR0_f (o := 13) (c := 10) (n := 0) (k := 5) (j := 2) (zb10_0 zBk_13) (by decide) rfl)).trans ?_
    refine (zr_aload_n (n := 0) (x := 12) (by decide +kernel) rfl).trans ?_
    refine (zr_getI (i := 66) (c := 9) (k := 7) (by decide +kernel) (by decide +kernel) rfl (by decide +kernel)).trans ?_
    refine (zr_iald (n := 60) (e := (V 12 7)) (by decide +kernel) (zb10_2 zBk_13)).trans (zck_ct fun _ => ?_)
    exact zr_cV (i := 117) (z := 79) (w := 0) (o := 12) (t := [.int (zi (V (13 + 2) (qw (V 12 7)))), .ref x1]) (rest := []) (L := [.ref 12, .ref x1, .int (zi (V (13 + 2) (qw (V 12 7))))]) (pc1 := 85) (by decide +kernel) (by decide +kernel) rfl (n := 2) (r := 0) rfl rfl rfl (by decide +kernel) rfl rfl
  refine (zSwg_t (t := 88) rfl).trans (zif_ct (fun _ => ?_) (fun _ => ?_))
  · refine (zr_aload_n (n := 0) (x := 12) (by decide +kernel) rfl).trans ?_
    exact zr_cV (i := 121) (z := 80) (w := 0) (o := 12) (t := []) (rest := []) (L := [.ref 12]) (pc1 := 92) (by decide +kernel) (by decide +kernel) rfl (n := 0) (r := 0) rfl rfl rfl (by decide +kernel) rfl rfl
  refine (zSwg_t (t := 95) rfl).trans (zif_ct (fun _ => ?_) (fun _ => ?_))
  · refine (zr_aload_n (n := 0) (x := 12) (by decide +kernel) rfl).trans ?_
    exact zr_cV (i := 124) (z := 81) (w := 0) (o := 12) (t := []) (rest := []) (L := [.ref 12]) (pc1 := 99) (by decide +kernel) (by decide +kernel) rfl (n := 0) (r := 0) rfl rfl rfl (by decide +kernel) rfl rfl
  refine (zSwg_t (t := 100) rfl).trans (zif_ct (fun _ => ?_) (fun _ => ?_))
  · refine (zr_aload_n (n := 0) (x := 12) (by decide +kernel) rfl).trans ?_
    refine (zr_aload_n (n := 0) (x := 12) (by decide +kernel) rfl).trans ?_
    refine (zr_getR (i := 12) (c := 9) (k := 0) (r := 13) (by decide +kernel) (by decide +kernel) rfl (by decide +kernel) (zR0_f (o := 12) (c := 9) (n := 0) (k := 0) (j := 1) rfl (by decide) rfl)).trans ?_
    refine (zr_getR (i := 62) (c := 10) (k := 6) (r := (13 + 3)) (by decide +kernel) (by decide +kernel) (zb10_0 zBk_13) (by decide +kernel) (zR0_f (o := 13) (c := 10) (n := 0) (k := 6) (j := 3) (zb10_0 zBk_13) (by decide) rfl)).trans ?_
    refine (zr_aload_n (n := 0) (x := 12) (by decide +kernel) rfl).trans ?_
    refine (zr_getI (i := 66) (c := 9) (k := 7) (by decide +kernel) (by decide +kernel) rfl (by decide +kernel)).trans ?_
    refine (zr_iald (n := 60) (e := (V 12 7)) (by decide +kernel) (zb10_3 zBk_13)).trans (zck_ct fun _ => ?_)
    refine (zr_aload_n (n := 0) (x := 12) (by decide +kernel) rfl).trans ?_
    refine (zr_getR (i := 30) (c := 9) (k := 5) (r := 25) (by decide +kernel) (by decide +kernel) rfl (by decide +kernel) (zR0_f (o := 12) (c := 9) (n := 0) (k := 5) (j := 13) rfl (by decide) rfl)).trans ?_
    refine (zr_aload_n (n := 0) (x := 12) (by decide +kernel) rfl).trans ?_
    refine (zr_getI (i := 87) (c := 9) (k := 6) (by decide +kernel) (by decide +kernel) rfl (by decide +kernel)).trans ?_
    refine (zr_iald (n := 4) (e := (V 12 6)) (by decide +kernel) rfl).trans (zck_ct fun _ => ?_)
    refine (zr_cne (off := 10) (a := (V (13 + 3) (qw (V 12 7)))) (b := (V 25 (qw (V 12 6)))) (t := 132) (by decide +kernel) rfl).trans (zif_ct (fun _ => ?_) (fun _ => ?_))
    · refine (zr_aload_n (n := 0) (x := 12) (by decide +kernel) rfl).trans ?_
      refine (zr_getR (i := 12) (c := 9) (k := 0) (r := 13) (by decide +kernel) (by decide +kernel) rfl (by decide +kernel) (zR0_f (o := 12) (c := 9) (n := 0) (k := 0) (j := 1) rfl (by decide) rfl)).trans ?_
      refine (zr_getR (i := 127) (c := 10) (k := 11) (r := (13 + 8)) (by decide +kernel) (by decide +kernel) (zb10_0 zBk_13) (by decide +kernel) (zR0_f (o := 13) (c := 10) (n := 0) (k := 11) (j := 8) (zb10_0 zBk_13) (by decide) rfl)).trans ?_
      refine (zr_aload_n (n := 0) (x := 12) (by decide +kernel) rfl).trans ?_
      refine (zr_getI (i := 66) (c := 9) (k := 7) (by decide +kernel) (by decide +kernel) rfl (by decide +kernel)).trans ?_
      refine (zr_iald (n := 60) (e := (V 12 7)) (by decide +kernel) (zb10_8 zBk_13)).trans (zck_ct fun _ => ?_)
      rfl
    · refine (zr_aload_n (n := 0) (x := 12) (by decide +kernel) rfl).trans ?_
      refine (zr_getI (i := 66) (c := 9) (k := 7) (by decide +kernel) (by decide +kernel) rfl (by decide +kernel)).trans ?_
      refine (zr_goto (off := 15) (t := 144) (by decide +kernel) rfl).trans ?_
      rfl
  refine (zSwg_td (t := 150) rfl).trans ?_
  rfl
theorem ze_71_57 {V : zVt} {J : zJt} {d : Nat → Nat → UInt64} (x1 : Nat) (h1 : zBk 5 x1) : zGo false 71 57 [.ref 12, .ref x1] [] (zm V J d) =
    zGo false 71 150 [.ref 12, .ref x1] [] (zm V J d) := by
  refine (zr_goto (off := 93) (t := 150) (by decide +kernel) rfl).trans ?_
  rfl
theorem ze_71_65 {V : zVt} {J : zJt} {d : Nat → Nat → UInt64} (x1 : Nat) (h1 : zBk 5 x1) : zGo false 71 65 [.ref 12, .ref x1] [] (zm V J d) =
    zGo false 71 150 [.ref 12, .ref x1] [] (zm V J d) := by
  refine (zr_goto (off := 85) (t := 150) (by decide +kernel) rfl).trans ?_
  rfl
theorem ze_71_85 {V : zVt} {J : zJt} {d : Nat → Nat → UInt64} (x1 : Nat) (h1 : zBk 5 x1) : zGo false 71 85 [.ref 12, .ref x1] [] (zm V J d) =
    zGo false 71 150 [.ref 12, .ref x1] [] (zm V J d) := by
  refine (zr_goto (off := 65) (t := 150) (by decide +kernel) rfl).trans ?_
  rfl
theorem ze_71_92 {V : zVt} {J : zJt} {d : Nat → Nat → UInt64} (x1 : Nat) (h1 : zBk 5 x1) : zGo false 71 92 [.ref 12, .ref x1] [] (zm V J d) =
    zGo false 71 150 [.ref 12, .ref x1] [] (zm V J d) := by
  refine (zr_goto (off := 58) (t := 150) (by decide +kernel) rfl).trans ?_
  rfl
theorem ze_71_99 {V : zVt} {J : zJt} {d : Nat → Nat → UInt64} (x1 : Nat) (h1 : zBk 5 x1) : zGo false 71 99 [.ref 12, .ref x1] [] (zm V J d) =
    some (.inl none, zm V J d) := by
  exact zr_vret (by decide +kernel) rfl
theorem ze_71_144 {V : zVt} {J : zJt} {d : Nat → Nat → UInt64} (x1 : Nat) (s1 : Int) (h1 : zBk 5 x1) : zGo false 71 144 [.ref 12, .ref x1] [.int (zi s1), .ref 12] (zm V J d) =
    zGo false 71 150 [.ref 12, .ref x1] [] (zm (vup V 12 7 s1) J d) := by
  refine (zr_putI (i := 66) (c := 9) (k := 7) (x := s1) (by decide +kernel) (by decide +kernel) rfl (by decide +kernel)).trans ?_
  refine (zr_goto (off := 3) (t := 150) (by decide +kernel) rfl).trans ?_
  rfl
theorem ze_71_150 {V : zVt} {J : zJt} {d : Nat → Nat → UInt64} (x1 : Nat) (h1 : zBk 5 x1) : zGo false 71 150 [.ref 12, .ref x1] [] (zm V J d) =
    some (.inl none, zm (vup V 12 7 ((V 12 7) + (1))) J d) := by
  refine (zr_aload_n (n := 0) (x := 12) (by decide +kernel) rfl).trans ?_
  refine (zr_dup (by decide +kernel) rfl).trans ?_
  refine (zr_getI (i := 66) (c := 9) (k := 7) (by decide +kernel) (by decide +kernel) rfl (by decide +kernel)).trans ?_
  refine (zr_iconst (n := 1) (by decide +kernel)).trans ?_
  refine (zr_iadd (a := (V 12 7)) (b := (1)) (by decide +kernel)).trans ?_
  refine (zr_putI (i := 66) (c := 9) (k := 7) (x := ((V 12 7) + (1))) (by decide +kernel) (by decide +kernel) rfl (by decide +kernel)).trans ?_
  exact zr_vret (by decide +kernel) rfl
/-! PartSongDesk$Singing singNote (LPartSongDesk$Music;)V -/
theorem ze_72_0 {V : zVt} {J : zJt} {d : Nat → Nat → UInt64} (x1 : Nat) (h1 : zBk 5 x1) : zGo false 72 0 [.ref 12, .ref x1, .null, .null, .null, .null, .null] [] (zm V J d) =
    zck (0 ≤ qw (V 12 7) ∧ qw (V 12 7) < (60 : Nat)) (zck (0 ≤ qw (V 12 7) ∧ qw (V 12 7) < (60 : Nat)) ((if qw (V 12 9) = qw (-1) then zGo false 72 36 [.ref 12, .ref x1, .int (zi (V 22 (qw (V 12 7)))), .int (zi (V (13 + 5) (qw (V 12 7)))), .null, .null, .null] [.int (zi (0))] (zm V J d) else zGo false 72 36 [.ref 12, .ref x1, .int (zi (V 22 (qw (V 12 7)))), .int (zi (V (13 + 5) (qw (V 12 7)))), .null, .null, .null] [.int (zi (1))] (zm V J d)))) := by
  refine (zr_aload_n (n := 0) (x := 12) (by decide +kernel) rfl).trans ?_
  refine (zr_getR (i := 18) (c := 9) (k := 1) (r := 22) (by decide +kernel) (by decide +kernel) rfl (by decide +kernel) (zR0_f (o := 12) (c := 9) (n := 0) (k := 1) (j := 10) rfl (by decide) rfl)).trans ?_
  refine (zr_aload_n (n := 0) (x := 12) (by decide +kernel) rfl).trans ?_
  refine (zr_getI (i := 66) (c := 9) (k := 7) (by decide +kernel) (by decide +kernel) rfl (by decide +kernel)).trans ?_
  refine (zr_iald (n := 60) (e := (V 12 7)) (by decide +kernel) rfl).trans (zck_ct fun _ => ?_)
  refine (zr_istore_n (n := 2) (l1 := [.ref 12, .ref x1, .int (zi (V 22 (qw (V 12 7)))), .null, .null, .null, .null]) (by decide +kernel) rfl).trans ?_
  refine (zr_aload_n (n := 0) (x := 12) (by decide +kernel) rfl).trans ?_
  refine (zr_getR (i := 12) (c := 9) (k := 0) (r := 13) (by decide +kernel) (by decide +kernel) rfl (by decide +kernel) (zR0_f (o := 12) (c := 9) (n := 0) (k := 0) (j := 1) rfl (by decide) rfl)).trans ?_
  refine (zr_getR (i := 136) (c := 10) (k := 8) (r := (13 + 5)) (by decide +kernel) (by decide +kernel) (zb10_0 zBk_13) (by decide +kernel) (zR0_f (o := 13) (c := 10) (n := 0) (k := 8) (j := 5) (zb10_0 zBk_13) (by decide) rfl)).trans ?_
  refine (zr_aload_n (n := 0) (x := 12) (by decide +kernel) rfl).trans ?_
  refine (zr_getI (i := 66) (c := 9) (k := 7) (by decide +kernel) (by decide +kernel) rfl (by decide +kernel)).trans ?_
  refine (zr_iald (n := 60) (e := (V 12 7)) (by decide +kernel) (zb10_5 zBk_13)).trans (zck_ct fun _ => ?_)
  refine (zr_istore_n (n := 3) (l1 := [.ref 12, .ref x1, .int (zi (V 22 (qw (V 12 7)))), .int (zi (V (13 + 5) (qw (V 12 7)))), .null, .null, .null]) (by decide +kernel) rfl).trans ?_
  refine (zr_aload_n (n := 0) (x := 12) (by decide +kernel) rfl).trans ?_
  refine (zr_getI (i := 90) (c := 9) (k := 9) (by decide +kernel) (by decide +kernel) rfl (by decide +kernel)).trans ?_
  refine (zr_iconst (n := -1) (by decide +kernel)).trans ?_
  refine (zr_ceq (off := 7) (a := (V 12 9)) (b := (-1)) (t := 35) (by decide +kernel) rfl).trans (zif_ct (fun _ => ?_) (fun _ => ?_))
  · refine (zr_iconst (n := 0) (by decide +kernel)).trans ?_
    rfl
  · refine (zr_iconst (n := 1) (by decide +kernel)).trans ?_
    refine (zr_goto (off := 4) (t := 36) (by decide +kernel) rfl).trans ?_
    rfl
theorem ze_72_36 {V : zVt} {J : zJt} {d : Nat → Nat → UInt64} (x1 : Nat) (x2 : Int) (x3 : Int) (s0 : Int) (h1 : zBk 5 x1) : zGo false 72 36 [.ref 12, .ref x1, .int (zi x2), .int (zi x3), .null, .null, .null] [.int (zi s0)] (zm V J d) =
    (if qw s0 = 0 then (zGo false 73 0 [.ref 12, .int (zi x2), .int (zi x3)] [] (zm V J d)).bind (zGor false 72 56 [.ref 12, .ref x1, .int (zi x2), .int (zi x3), .int (zi s0), .null, .null] []) else zGo false 72 56 [.ref 12, .ref x1, .int (zi x2), .int (zi x3), .int (zi s0), .null, .null] [.int (zi (V 12 11))] (zm V J d)) := by
  refine (zr_istore (n := 4) (l1 := [.ref 12, .ref x1, .int (zi x2), .int (zi x3), .int (zi s0), .null, .null]) (by decide +kernel) rfl).trans ?_
  refine (zr_iload (n := 4) (x := zi s0) (by decide +kernel) rfl).trans ?_
  refine (zr_ifeq (off := 10) (a := s0) (t := 50) (by decide +kernel) rfl).trans (zif_ct (fun _ => ?_) (fun _ => ?_))
  · refine (zr_aload_n (n := 0) (x := 12) (by decide +kernel) rfl).trans ?_
    refine (zr_iload_n (n := 2) (x := zi x2) (by decide +kernel) rfl).trans ?_
    refine (zr_iload_n (n := 3) (x := zi x3) (by decide +kernel) rfl).trans ?_
    exact zr_cV (i := 142) (z := 73) (w := 0) (o := 12) (t := [.int (zi x3), .int (zi x2)]) (rest := []) (L := [.ref 12, .int (zi x2), .int (zi x3)]) (pc1 := 56) (by decide +kernel) (by decide +kernel) rfl (n := 2) (r := 0) rfl rfl rfl (by decide +kernel) rfl rfl
  · refine (zr_aload_n (n := 0) (x := 12) (by decide +kernel) rfl).trans ?_
    refine (zr_getI (i := 139) (c := 9) (k := 11) (by decide +kernel) (by decide +kernel) rfl (by decide +kernel)).trans ?_
    refine (zr_goto (off := 9) (t := 56) (by decide +kernel) rfl).trans ?_
    rfl
theorem ze_72_56 {V : zVt} {J : zJt} {d : Nat → Nat → UInt64} (x1 : Nat) (x2 : Int) (x3 : Int) (x4 : Int) (s0 : Int) (h1 : zBk 5 x1) : zGo false 72 56 [.ref 12, .ref x1, .int (zi x2), .int (zi x3), .int (zi x4), .null, .null] [.int (zi s0)] (zm V J d) =
    zck (qw (7) ≠ 0) ((zGo false 233 0 [.int (zi x2), .int (zi (7)), .null] [] (zm V J d)).bind (zGor false 72 74 [.ref 12, .ref x1, .int (zi x2), .int (zi x3), .int (zi x4), .int (zi s0), .null] [.ref 1048576, .int (zi ((12) * (qdiv x2 (7))))])) := by
  refine (zr_istore (n := 5) (l1 := [.ref 12, .ref x1, .int (zi x2), .int (zi x3), .int (zi x4), .int (zi s0), .null]) (by decide +kernel) rfl).trans ?_
  refine (zr_bipush (n := 12) (by decide +kernel) rfl).trans ?_
  refine (zr_iload_n (n := 2) (x := zi x2) (by decide +kernel) rfl).trans ?_
  refine (zr_bipush (n := 7) (by decide +kernel) rfl).trans ?_
  refine (zr_idiv (a := x2) (b := (7)) (by decide +kernel)).trans (zck_ct fun _ => ?_)
  refine (zr_imul (a := (12)) (b := (qdiv x2 (7))) (by decide +kernel)).trans ?_
  refine (zr_gets0 (i := 145) (w := 0) (by decide +kernel) (by decide +kernel)).trans ?_
  refine (zr_iload_n (n := 2) (x := zi x2) (by decide +kernel) rfl).trans ?_
  refine (zr_bipush (n := 7) (by decide +kernel) rfl).trans ?_
  exact zr_cS (i := 148) (z := 233) (w := 0) (t := [.int (zi (7)), .int (zi x2)]) (rest := [.ref 1048576, .int (zi ((12) * (qdiv x2 (7))))]) (L := [.int (zi x2), .int (zi (7)), .null]) (pc1 := 74) (by decide +kernel) (by decide +kernel) (n := 2) (r := 2) rfl rfl rfl (by decide +kernel) rfl rfl
theorem ze_72_74 {V : zVt} {J : zJt} {d : Nat → Nat → UInt64} (x1 : Nat) (x2 : Int) (x3 : Int) (x4 : Int) (x5 : Int) (s0 : Int) (s2 : Int) (h1 : zBk 5 x1) : zGo false 72 74 [.ref 12, .ref x1, .int (zi x2), .int (zi x3), .int (zi x4), .int (zi x5), .null] [.int (zi s2), .ref 1048576, .int (zi s0)] (zm V J d) =
    zck (0 ≤ qw s2 ∧ qw s2 < 7) ((if qw x4 = 0 then zGo false 72 115 [.ref 12, .ref x1, .int (zi x2), .int (zi x3), .int (zi x4), .int (zi x5), .int (zi ((s0 + (ztab 21 (qw s2).toNat).toInt) + x5))] [] (zm V J d) else (if qw ((s0 + (ztab 21 (qw s2).toNat).toInt) + x5) ≠ qw (V 12 10) then zGo false 72 109 [.ref 12, .ref x1, .int (zi x2), .int (zi x3), .int (zi x4), .int (zi x5), .int (zi ((s0 + (ztab 21 (qw s2).toNat).toInt) + x5))] [] (zm V J d) else (if qw x3 = 0 then zGo false 72 115 [.ref 12, .ref x1, .int (zi x2), .int (zi x3), .int (zi x4), .int (zi x5), .int (zi ((s0 + (ztab 21 (qw s2).toNat).toInt) + x5))] [] (zm V J d) else (zGo false 74 0 [.ref 12, .int (zi x3)] [] (zm V J d)).bind (zGor false 72 104 [.ref 12, .ref x1, .int (zi x2), .int (zi x3), .int (zi x4), .int (zi x5), .int (zi ((s0 + (ztab 21 (qw s2).toNat).toInt) + x5))] []))))) := by
  refine (zr_tald (e := s2) (by decide +kernel) rfl (by decide)).trans (zck_ct fun _ => ?_)
  refine (zr_iadd (a := s0) (b := (ztab 21 (qw s2).toNat).toInt) (by decide +kernel)).trans ?_
  refine (zr_iload (n := 5) (x := zi x5) (by decide +kernel) rfl).trans ?_
  refine (zr_iadd (a := (s0 + (ztab 21 (qw s2).toNat).toInt)) (b := x5) (by decide +kernel)).trans ?_
  refine (zr_istore (n := 6) (l1 := [.ref 12, .ref x1, .int (zi x2), .int (zi x3), .int (zi x4), .int (zi x5), .int (zi ((s0 + (ztab 21 (qw s2).toNat).toInt) + x5))]) (by decide +kernel) rfl).trans ?_
  refine (zr_iload (n := 4) (x := zi x4) (by decide +kernel) rfl).trans ?_
  refine (zr_ifeq (off := 32) (a := x4) (t := 115) (by decide +kernel) rfl).trans (zif_ct (fun _ => ?_) (fun _ => ?_))
  · rfl
  · refine (zr_iload (n := 6) (x := zi ((s0 + (ztab 21 (qw s2).toNat).toInt) + x5)) (by decide +kernel) rfl).trans ?_
    refine (zr_aload_n (n := 0) (x := 12) (by decide +kernel) rfl).trans ?_
    refine (zr_getI (i := 151) (c := 9) (k := 10) (by decide +kernel) (by decide +kernel) rfl (by decide +kernel)).trans ?_
    refine (zr_cne (off := 17) (a := ((s0 + (ztab 21 (qw s2).toNat).toInt) + x5)) (b := (V 12 10)) (t := 109) (by decide +kernel) rfl).trans (zif_ct (fun _ => ?_) (fun _ => ?_))
    · rfl
    · refine (zr_iload_n (n := 3) (x := zi x3) (by decide +kernel) rfl).trans ?_
      refine (zr_ifeq (off := 19) (a := x3) (t := 115) (by decide +kernel) rfl).trans (zif_ct (fun _ => ?_) (fun _ => ?_))
      · rfl
      · refine (zr_aload_n (n := 0) (x := 12) (by decide +kernel) rfl).trans ?_
        refine (zr_iload_n (n := 3) (x := zi x3) (by decide +kernel) rfl).trans ?_
        exact zr_cV (i := 154) (z := 74) (w := 0) (o := 12) (t := [.int (zi x3)]) (rest := []) (L := [.ref 12, .int (zi x3)]) (pc1 := 104) (by decide +kernel) (by decide +kernel) rfl (n := 1) (r := 0) rfl rfl rfl (by decide +kernel) rfl rfl
theorem ze_72_104 {V : zVt} {J : zJt} {d : Nat → Nat → UInt64} (x1 : Nat) (x2 : Int) (x3 : Int) (x4 : Int) (x5 : Int) (x6 : Int) (s0 : Int) (h1 : zBk 5 x1) : zGo false 72 104 [.ref 12, .ref x1, .int (zi x2), .int (zi x3), .int (zi x4), .int (zi x5), .int (zi x6)] [.int (zi s0)] (zm V J d) =
    (if qw s0 = qw x5 then zGo false 72 115 [.ref 12, .ref x1, .int (zi x2), .int (zi x3), .int (zi x4), .int (zi x5), .int (zi x6)] [] (zm V J d) else zGo false 72 109 [.ref 12, .ref x1, .int (zi x2), .int (zi x3), .int (zi x4), .int (zi x5), .int (zi x6)] [] (zm V J d)) := by
  refine (zr_iload (n := 5) (x := zi x5) (by decide +kernel) rfl).trans ?_
  refine (zr_ceq (off := 9) (a := s0) (b := x5) (t := 115) (by decide +kernel) rfl).trans (zif_ct (fun _ => ?_) (fun _ => ?_))
  · rfl
  · rfl
theorem ze_72_109 {V : zVt} {J : zJt} {d : Nat → Nat → UInt64} (x1 : Nat) (x2 : Int) (x3 : Int) (x4 : Int) (x5 : Int) (x6 : Int) (h1 : zBk 5 x1) : zGo false 72 109 [.ref 12, .ref x1, .int (zi x2), .int (zi x3), .int (zi x4), .int (zi x5), .int (zi x6)] [] (zm V J d) =
    (zGo false 76 0 [.ref 12, .ref x1] [] (zm V J d)).bind (zGor false 72 114 [.ref 12, .ref x1, .int (zi x2), .int (zi x3), .int (zi x4), .int (zi x5), .int (zi x6)] []) := by
  refine (zr_aload_n (n := 0) (x := 12) (by decide +kernel) rfl).trans ?_
  refine (zr_aload_n (n := 1) (x := x1) (by decide +kernel) rfl).trans ?_
  exact zr_cV (i := 158) (z := 76) (w := 0) (o := 12) (t := [.ref x1]) (rest := []) (L := [.ref 12, .ref x1]) (pc1 := 114) (by decide +kernel) (by decide +kernel) rfl (n := 1) (r := 0) rfl rfl rfl (by decide +kernel) rfl rfl
theorem ze_72_114 {V : zVt} {J : zJt} {d : Nat → Nat → UInt64} (x1 : Nat) (x2 : Int) (x3 : Int) (x4 : Int) (x5 : Int) (x6 : Int) (h1 : zBk 5 x1) : zGo false 72 114 [.ref 12, .ref x1, .int (zi x2), .int (zi x3), .int (zi x4), .int (zi x5), .int (zi x6)] [] (zm V J d) =
    some (.inl none, zm V J d) := by
  exact zr_vret (by decide +kernel) rfl
theorem ze_72_115 {V : zVt} {J : zJt} {d : Nat → Nat → UInt64} (x1 : Nat) (x2 : Int) (x3 : Int) (x4 : Int) (x5 : Int) (x6 : Int) (h1 : zBk 5 x1) : zGo false 72 115 [.ref 12, .ref x1, .int (zi x2), .int (zi x3), .int (zi x4), .int (zi x5), .int (zi x6)] [] (zm V J d) =
    (if qw x4 = 0 then zGo false 72 133 [.ref 12, .ref x1, .int (zi x2), .int (zi x3), .int (zi x4), .int (zi x5), .int (zi x6)] [.int (zi (x6 + (128))), .ref x1, .ref 12] (zm V J d) else zGo false 72 133 [.ref 12, .ref x1, .int (zi x2), .int (zi x3), .int (zi x4), .int (zi x5), .int (zi x6)] [.int (zi x6), .ref x1, .ref 12] (zm V J d)) := by
  refine (zr_aload_n (n := 0) (x := 12) (by decide +kernel) rfl).trans ?_
  refine (zr_aload_n (n := 1) (x := x1) (by decide +kernel) rfl).trans ?_
  refine (zr_iload (n := 4) (x := zi x4) (by decide +kernel) rfl).trans ?_
  refine (zr_ifeq (off := 8) (a := x4) (t := 127) (by decide +kernel) rfl).trans (zif_ct (fun _ => ?_) (fun _ => ?_))
  · refine (zr_iload (n := 6) (x := zi x6) (by decide +kernel) rfl).trans ?_
    refine (zr_sipush (n := 128) (by decide +kernel) rfl).trans ?_
    refine (zr_iadd (a := x6) (b := (128)) (by decide +kernel)).trans ?_
    rfl
  · refine (zr_iload (n := 6) (x := zi x6) (by decide +kernel) rfl).trans ?_
    refine (zr_goto (off := 9) (t := 133) (by decide +kernel) rfl).trans ?_
    rfl
theorem ze_72_133 {V : zVt} {J : zJt} {d : Nat → Nat → UInt64} (x1 : Nat) (x2 : Int) (x3 : Int) (x4 : Int) (x5 : Int) (x6 : Int) (s1 : Nat) (s2 : Int) (h1 : zBk 5 x1) (g1 : zBk 5 s1) : zGo false 72 133 [.ref 12, .ref x1, .int (zi x2), .int (zi x3), .int (zi x4), .int (zi x5), .int (zi x6)] [.int (zi s2), .ref s1, .ref 12] (zm V J d) =
    (zGo false 77 0 [.ref 12, .ref s1, .int (zi s2), .int (zi x6), .null, .null] [] (zm V J d)).bind (zGor false 72 138 [.ref 12, .ref x1, .int (zi x2), .int (zi x3), .int (zi x4), .int (zi x5), .int (zi x6)] []) := by
  refine (zr_iload (n := 6) (x := zi x6) (by decide +kernel) rfl).trans ?_
  exact zr_cV (i := 161) (z := 77) (w := 0) (o := 12) (t := [.int (zi x6), .int (zi s2), .ref s1]) (rest := []) (L := [.ref 12, .ref s1, .int (zi s2), .int (zi x6), .null, .null]) (pc1 := 138) (by decide +kernel) (by decide +kernel) rfl (n := 3) (r := 0) rfl rfl rfl (by decide +kernel) rfl rfl
theorem ze_72_138 {V : zVt} {J : zJt} {d : Nat → Nat → UInt64} (x1 : Nat) (x2 : Int) (x3 : Int) (x4 : Int) (x5 : Int) (x6 : Int) (s0 : Int) (h1 : zBk 5 x1) : zGo false 72 138 [.ref 12, .ref x1, .int (zi x2), .int (zi x3), .int (zi x4), .int (zi x5), .int (zi x6)] [.int (zi s0)] (zm V J d) =
    (if qw s0 ≠ 0 then (if qw x3 = 0 then zGo false 72 167 [.ref 12, .ref x1, .int (zi x2), .int (zi x3), .int (zi x4), .int (zi x5), .int (zi x6)] [] (zm V J d) else (if qw x2 < 0 then zGo false 72 167 [.ref 12, .ref x1, .int (zi x2), .int (zi x3), .int (zi x4), .int (zi x5), .int (zi x6)] [] (zm V J d) else (if qw (50) ≤ qw x2 then zGo false 72 167 [.ref 12, .ref x1, .int (zi x2), .int (zi x3), .int (zi x4), .int (zi x5), .int (zi x6)] [] (zm V J d) else (zGo false 74 0 [.ref 12, .int (zi x3)] [] (zm V J d)).bind (zGor false 72 166 [.ref 12, .ref x1, .int (zi x2), .int (zi x3), .int (zi x4), .int (zi x5), .int (zi x6)] [.int (zi x2), .ref 23])))) else some (.inl none, zm V J d)) := by
  refine (zr_ifne (off := 4) (a := s0) (t := 142) (by decide +kernel) rfl).trans (zif_ct (fun _ => ?_) (fun _ => ?_))
  · refine (zr_iload_n (n := 3) (x := zi x3) (by decide +kernel) rfl).trans ?_
    refine (zr_ifeq (off := 24) (a := x3) (t := 167) (by decide +kernel) rfl).trans (zif_ct (fun _ => ?_) (fun _ => ?_))
    · rfl
    · refine (zr_iload_n (n := 2) (x := zi x2) (by decide +kernel) rfl).trans ?_
      refine (zr_iflt (off := 20) (a := x2) (t := 167) (by decide +kernel) rfl).trans (zif_ct (fun _ => ?_) (fun _ => ?_))
      · rfl
      · refine (zr_iload_n (n := 2) (x := zi x2) (by decide +kernel) rfl).trans ?_
        refine (zr_bipush (n := 50) (by decide +kernel) rfl).trans ?_
        refine (zr_cge (off := 14) (a := x2) (b := (50)) (t := 167) (by decide +kernel) rfl).trans (zif_ct (fun _ => ?_) (fun _ => ?_))
        · rfl
        · refine (zr_aload_n (n := 0) (x := 12) (by decide +kernel) rfl).trans ?_
          refine (zr_getR (i := 22) (c := 9) (k := 2) (r := 23) (by decide +kernel) (by decide +kernel) rfl (by decide +kernel) (zR0_f (o := 12) (c := 9) (n := 0) (k := 2) (j := 11) rfl (by decide) rfl)).trans ?_
          refine (zr_iload_n (n := 2) (x := zi x2) (by decide +kernel) rfl).trans ?_
          refine (zr_aload_n (n := 0) (x := 12) (by decide +kernel) rfl).trans ?_
          refine (zr_iload_n (n := 3) (x := zi x3) (by decide +kernel) rfl).trans ?_
          exact zr_cV (i := 154) (z := 74) (w := 0) (o := 12) (t := [.int (zi x3)]) (rest := [.int (zi x2), .ref 23]) (L := [.ref 12, .int (zi x3)]) (pc1 := 166) (by decide +kernel) (by decide +kernel) rfl (n := 1) (r := 2) rfl rfl rfl (by decide +kernel) rfl rfl
  · exact zr_vret (by decide +kernel) rfl
theorem ze_72_166 {V : zVt} {J : zJt} {d : Nat → Nat → UInt64} (x1 : Nat) (x2 : Int) (x3 : Int) (x4 : Int) (x5 : Int) (x6 : Int) (s1 : Int) (s2 : Int) (h1 : zBk 5 x1) : zGo false 72 166 [.ref 12, .ref x1, .int (zi x2), .int (zi x3), .int (zi x4), .int (zi x5), .int (zi x6)] [.int (zi s2), .int (zi s1), .ref 23] (zm V J d) =
    zck (0 ≤ qw s1 ∧ qw s1 < (50 : Nat)) (zGo false 72 167 [.ref 12, .ref x1, .int (zi x2), .int (zi x3), .int (zi x4), .int (zi x5), .int (zi x6)] [] (zm (vup V 23 (qw s1) s2) J d)) := by
  refine (zr_iast (n := 50) (e := s1) (x := s2) (by decide +kernel) rfl).trans (zck_ct fun _ => ?_)
  rfl
theorem ze_72_167 {V : zVt} {J : zJt} {d : Nat → Nat → UInt64} (x1 : Nat) (x2 : Int) (x3 : Int) (x4 : Int) (x5 : Int) (x6 : Int) (h1 : zBk 5 x1) : zGo false 72 167 [.ref 12, .ref x1, .int (zi x2), .int (zi x3), .int (zi x4), .int (zi x5), .int (zi x6)] [] (zm V J d) =
    zck (0 ≤ qw (V 12 7) ∧ qw (V 12 7) < (60 : Nat)) ((if qw (V (13 + 7) (qw (V 12 7))) = 0 then zGo false 72 191 [.ref 12, .ref x1, .int (zi x2), .int (zi x3), .int (zi x4), .int (zi x5), .int (zi x6)] [.int (zi (-1)), .ref 12] (zm V J d) else zGo false 72 191 [.ref 12, .ref x1, .int (zi x2), .int (zi x3), .int (zi x4), .int (zi x5), .int (zi x6)] [.int (zi (V 12 7)), .ref 12] (zm V J d))) := by
  refine (zr_aload_n (n := 0) (x := 12) (by decide +kernel) rfl).trans ?_
  refine (zr_aload_n (n := 0) (x := 12) (by decide +kernel) rfl).trans ?_
  refine (zr_getR (i := 12) (c := 9) (k := 0) (r := 13) (by decide +kernel) (by decide +kernel) rfl (by decide +kernel) (zR0_f (o := 12) (c := 9) (n := 0) (k := 0) (j := 1) rfl (by decide) rfl)).trans ?_
  refine (zr_getR (i := 164) (c := 10) (k := 10) (r := (13 + 7)) (by decide +kernel) (by decide +kernel) (zb10_0 zBk_13) (by decide +kernel) (zR0_f (o := 13) (c := 10) (n := 0) (k := 10) (j := 7) (zb10_0 zBk_13) (by decide) rfl)).trans ?_
  refine (zr_aload_n (n := 0) (x := 12) (by decide +kernel) rfl).trans ?_
  refine (zr_getI (i := 66) (c := 9) (k := 7) (by decide +kernel) (by decide +kernel) rfl (by decide +kernel)).trans ?_
  refine (zr_zald (n := 60) (e := (V 12 7)) (by decide +kernel) (zb10_7 zBk_13)).trans (zck_ct fun _ => ?_)
  refine (zr_ifeq (off := 10) (a := (V (13 + 7) (qw (V 12 7)))) (t := 190) (by decide +kernel) rfl).trans (zif_ct (fun _ => ?_) (fun _ => ?_))
  · refine (zr_iconst (n := -1) (by decide +kernel)).trans ?_
    rfl
  · refine (zr_aload_n (n := 0) (x := 12) (by decide +kernel) rfl).trans ?_
    refine (zr_getI (i := 66) (c := 9) (k := 7) (by decide +kernel) (by decide +kernel) rfl (by decide +kernel)).trans ?_
    refine (zr_goto (off := 4) (t := 191) (by decide +kernel) rfl).trans ?_
    rfl
theorem ze_72_191 {V : zVt} {J : zJt} {d : Nat → Nat → UInt64} (x1 : Nat) (x2 : Int) (x3 : Int) (x4 : Int) (x5 : Int) (x6 : Int) (s1 : Int) (h1 : zBk 5 x1) : zGo false 72 191 [.ref 12, .ref x1, .int (zi x2), .int (zi x3), .int (zi x4), .int (zi x5), .int (zi x6)] [.int (zi s1), .ref 12] (zm V J d) =
    some (.inl none, zm (vup (vup (vup V 12 9 s1) 12 10 x6) 12 11 x5) J d) := by
  refine (zr_putI (i := 90) (c := 9) (k := 9) (x := s1) (by decide +kernel) (by decide +kernel) rfl (by decide +kernel)).trans ?_
  refine (zr_aload_n (n := 0) (x := 12) (by decide +kernel) rfl).trans ?_
  refine (zr_iload (n := 6) (x := zi x6) (by decide +kernel) rfl).trans ?_
  refine (zr_putI (i := 151) (c := 9) (k := 10) (x := x6) (by decide +kernel) (by decide +kernel) rfl (by decide +kernel)).trans ?_
  refine (zr_aload_n (n := 0) (x := 12) (by decide +kernel) rfl).trans ?_
  refine (zr_iload (n := 5) (x := zi x5) (by decide +kernel) rfl).trans ?_
  refine (zr_putI (i := 139) (c := 9) (k := 11) (x := x5) (by decide +kernel) (by decide +kernel) rfl (by decide +kernel)).trans ?_
  exact zr_vret (by decide +kernel) rfl
/-! PartSongDesk$Singing changeOf (II)I -/
theorem ze_73_0 {V : zVt} {J : zJt} {d : Nat → Nat → UInt64} (x1 : Int) (x2 : Int) : zGo false 73 0 [.ref 12, .int (zi x1), .int (zi x2)] [] (zm V J d) =
    (if qw x2 = 0 then (if qw x1 < 0 then zGo false 73 38 [.ref 12, .int (zi x1), .int (zi x2)] [] (zm V J d) else (if qw (50) ≤ qw x1 then zGo false 73 38 [.ref 12, .int (zi x1), .int (zi x2)] [] (zm V J d) else zck (0 ≤ qw x1 ∧ qw x1 < (50 : Nat)) ((if qw (V 23 (qw x1)) = qw (9) then zGo false 73 38 [.ref 12, .int (zi x1), .int (zi x2)] [] (zm V J d) else zck (0 ≤ qw x1 ∧ qw x1 < (50 : Nat)) (some (.inl (some (.int (zi (V 23 (qw x1))))), zm V J d)))))) else (zGo false 74 0 [.ref 12, .int (zi x2)] [] (zm V J d)).bind (zGor false 73 9 [.ref 12, .int (zi x1), .int (zi x2)] [])) := by
  refine (zr_iload_n (n := 2) (x := zi x2) (by decide +kernel) rfl).trans ?_
  refine (zr_ifeq (off := 9) (a := x2) (t := 10) (by decide +kernel) rfl).trans (zif_ct (fun _ => ?_) (fun _ => ?_))
  · refine (zr_iload_n (n := 1) (x := zi x1) (by decide +kernel) rfl).trans ?_
    refine (zr_iflt (off := 27) (a := x1) (t := 38) (by decide +kernel) rfl).trans (zif_ct (fun _ => ?_) (fun _ => ?_))
    · rfl
    · refine (zr_iload_n (n := 1) (x := zi x1) (by decide +kernel) rfl).trans ?_
      refine (zr_bipush (n := 50) (by decide +kernel) rfl).trans ?_
      refine (zr_cge (off := 21) (a := x1) (b := (50)) (t := 38) (by decide +kernel) rfl).trans (zif_ct (fun _ => ?_) (fun _ => ?_))
      · rfl
      · refine (zr_aload_n (n := 0) (x := 12) (by decide +kernel) rfl).trans ?_
        refine (zr_getR (i := 22) (c := 9) (k := 2) (r := 23) (by decide +kernel) (by decide +kernel) rfl (by decide +kernel) (zR0_f (o := 12) (c := 9) (n := 0) (k := 2) (j := 11) rfl (by decide) rfl)).trans ?_
        refine (zr_iload_n (n := 1) (x := zi x1) (by decide +kernel) rfl).trans ?_
        refine (zr_iald (n := 50) (e := x1) (by decide +kernel) rfl).trans (zck_ct fun _ => ?_)
        refine (zr_bipush (n := 9) (by decide +kernel) rfl).trans ?_
        refine (zr_ceq (off := 10) (a := (V 23 (qw x1))) (b := (9)) (t := 38) (by decide +kernel) rfl).trans (zif_ct (fun _ => ?_) (fun _ => ?_))
        · rfl
        · refine (zr_aload_n (n := 0) (x := 12) (by decide +kernel) rfl).trans ?_
          refine (zr_getR (i := 22) (c := 9) (k := 2) (r := 23) (by decide +kernel) (by decide +kernel) rfl (by decide +kernel) (zR0_f (o := 12) (c := 9) (n := 0) (k := 2) (j := 11) rfl (by decide) rfl)).trans ?_
          refine (zr_iload_n (n := 1) (x := zi x1) (by decide +kernel) rfl).trans ?_
          refine (zr_iald (n := 50) (e := x1) (by decide +kernel) rfl).trans (zck_ct fun _ => ?_)
          exact zr_iret (a := (V 23 (qw x1))) (by decide +kernel) rfl
  · refine (zr_aload_n (n := 0) (x := 12) (by decide +kernel) rfl).trans ?_
    refine (zr_iload_n (n := 2) (x := zi x2) (by decide +kernel) rfl).trans ?_
    exact zr_cV (i := 154) (z := 74) (w := 0) (o := 12) (t := [.int (zi x2)]) (rest := []) (L := [.ref 12, .int (zi x2)]) (pc1 := 9) (by decide +kernel) (by decide +kernel) rfl (n := 1) (r := 0) rfl rfl rfl (by decide +kernel) rfl rfl
theorem ze_73_9 {V : zVt} {J : zJt} {d : Nat → Nat → UInt64} (x1 : Int) (x2 : Int) (s0 : Int) : zGo false 73 9 [.ref 12, .int (zi x1), .int (zi x2)] [.int (zi s0)] (zm V J d) =
    some (.inl (some (.int (zi s0))), zm V J d) := by
  exact zr_iret (a := s0) (by decide +kernel) rfl
theorem ze_73_38 {V : zVt} {J : zJt} {d : Nat → Nat → UInt64} (x1 : Int) (x2 : Int) : zGo false 73 38 [.ref 12, .int (zi x1), .int (zi x2)] [] (zm V J d) =
    (zGo false 233 0 [.int (zi x1), .int (zi (7)), .null] [] (zm V J d)).bind (zGor false 73 45 [.ref 12, .int (zi x1), .int (zi x2)] [.ref 12]) := by
  refine (zr_aload_n (n := 0) (x := 12) (by decide +kernel) rfl).trans ?_
  refine (zr_iload_n (n := 1) (x := zi x1) (by decide +kernel) rfl).trans ?_
  refine (zr_bipush (n := 7) (by decide +kernel) rfl).trans ?_
  exact zr_cS (i := 148) (z := 233) (w := 0) (t := [.int (zi (7)), .int (zi x1)]) (rest := [.ref 12]) (L := [.int (zi x1), .int (zi (7)), .null]) (pc1 := 45) (by decide +kernel) (by decide +kernel) (n := 2) (r := 1) rfl rfl rfl (by decide +kernel) rfl rfl
theorem ze_73_45 {V : zVt} {J : zJt} {d : Nat → Nat → UInt64} (x1 : Int) (x2 : Int) (s1 : Int) : zGo false 73 45 [.ref 12, .int (zi x1), .int (zi x2)] [.int (zi s1), .ref 12] (zm V J d) =
    (zGo false 75 0 [.ref 12, .int (zi s1)] [] (zm V J d)).bind (zGor false 73 48 [.ref 12, .int (zi x1), .int (zi x2)] []) := by
  exact zr_cV (i := 183) (z := 75) (w := 0) (o := 12) (t := [.int (zi s1)]) (rest := []) (L := [.ref 12, .int (zi s1)]) (pc1 := 48) (by decide +kernel) (by decide +kernel) rfl (n := 1) (r := 0) rfl rfl rfl (by decide +kernel) rfl rfl
theorem ze_73_48 {V : zVt} {J : zJt} {d : Nat → Nat → UInt64} (x1 : Int) (x2 : Int) (s0 : Int) : zGo false 73 48 [.ref 12, .int (zi x1), .int (zi x2)] [.int (zi s0)] (zm V J d) =
    some (.inl (some (.int (zi s0))), zm V J d) := by
  exact zr_iret (a := s0) (by decide +kernel) rfl
/-! PartSongDesk$Singing changeBySign (I)I -/
theorem ze_74_0 {V : zVt} {J : zJt} {d : Nat → Nat → UInt64} (x1 : Int) : zGo false 74 0 [.ref 12, .int (zi x1)] [] (zm V J d) =
    (if qw x1 ≠ qw (1) then (if qw x1 ≠ qw (2) then zGo false 74 19 [.ref 12, .int (zi x1)] [.int (zi (0))] (zm V J d) else zGo false 74 19 [.ref 12, .int (zi x1)] [.int (zi (-1))] (zm V J d)) else zGo false 74 19 [.ref 12, .int (zi x1)] [.int (zi (1))] (zm V J d)) := by
  refine (zr_iload_n (n := 1) (x := zi x1) (by decide +kernel) rfl).trans ?_
  refine (zr_iconst (n := 1) (by decide +kernel)).trans ?_
  refine (zr_cne (off := 7) (a := x1) (b := (1)) (t := 9) (by decide +kernel) rfl).trans (zif_ct (fun _ => ?_) (fun _ => ?_))
  · refine (zr_iload_n (n := 1) (x := zi x1) (by decide +kernel) rfl).trans ?_
    refine (zr_iconst (n := 2) (by decide +kernel)).trans ?_
    refine (zr_cne (off := 7) (a := x1) (b := (2)) (t := 18) (by decide +kernel) rfl).trans (zif_ct (fun _ => ?_) (fun _ => ?_))
    · refine (zr_iconst (n := 0) (by decide +kernel)).trans ?_
      rfl
    · refine (zr_iconst (n := -1) (by decide +kernel)).trans ?_
      refine (zr_goto (off := 4) (t := 19) (by decide +kernel) rfl).trans ?_
      rfl
  · refine (zr_iconst (n := 1) (by decide +kernel)).trans ?_
    refine (zr_goto (off := 13) (t := 19) (by decide +kernel) rfl).trans ?_
    rfl
theorem ze_74_19 {V : zVt} {J : zJt} {d : Nat → Nat → UInt64} (x1 : Int) (s0 : Int) : zGo false 74 19 [.ref 12, .int (zi x1)] [.int (zi s0)] (zm V J d) =
    some (.inl (some (.int (zi s0))), zm V J d) := by
  exact zr_iret (a := s0) (by decide +kernel) rfl
