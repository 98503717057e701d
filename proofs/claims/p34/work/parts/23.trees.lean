/-! part 23: methods as equations; printed by program (wip/p34/gen/gen_tree.py, gen_trees_all.py) -/
theorem zb6_0 {T : Nat} (h : zBk 6 T) : zS0 (T) = (6, 0) := h 0 _ rfl
theorem zb6_1 {T : Nat} (h : zBk 6 T) : zS0 (T + 1) = (15, 160) := h 1 _ rfl
theorem zb6_2 {T : Nat} (h : zBk 6 T) : zS0 (T + 2) = (10, 0) := h 2 _ rfl
theorem zb6_3 {T : Nat} (h : zBk 6 T) : zS0 (T + 3) = (13, 60) := h 3 _ rfl
theorem zb6_4 {T : Nat} (h : zBk 6 T) : zS0 (T + 4) = (13, 60) := h 4 _ rfl
theorem zb6_5 {T : Nat} (h : zBk 6 T) : zS0 (T + 5) = (13, 60) := h 5 _ rfl
theorem zb6_6 {T : Nat} (h : zBk 6 T) : zS0 (T + 6) = (13, 60) := h 6 _ rfl
theorem zb6_7 {T : Nat} (h : zBk 6 T) : zS0 (T + 7) = (13, 60) := h 7 _ rfl
theorem zb6_8 {T : Nat} (h : zBk 6 T) : zS0 (T + 8) = (13, 60) := h 8 _ rfl
theorem zb6_9 {T : Nat} (h : zBk 6 T) : zS0 (T + 9) = (14, 60) := h 9 _ rfl
theorem zb6_10 {T : Nat} (h : zBk 6 T) : zS0 (T + 10) = (13, 60) := h 10 _ rfl
theorem zb6_11 {T : Nat} (h : zBk 6 T) : zS0 (T + 11) = (4, 0) := h 11 _ rfl
theorem zb6_12 {T : Nat} (h : zBk 6 T) : zS0 (T + 12) = (14, 200) := h 12 _ rfl
theorem zb6_13 {T : Nat} (h : zBk 6 T) : zS0 (T + 13) = (5, 0) := h 13 _ rfl
theorem zb6_14 {T : Nat} (h : zBk 6 T) : zS0 (T + 14) = (16, 80) := h 14 _ rfl
theorem zb10_0 {T : Nat} (h : zBk 10 T) : zS0 (T) = (10, 0) := h 0 _ rfl
theorem zb10_1 {T : Nat} (h : zBk 10 T) : zS0 (T + 1) = (13, 60) := h 1 _ rfl
theorem zb10_2 {T : Nat} (h : zBk 10 T) : zS0 (T + 2) = (13, 60) := h 2 _ rfl
theorem zb10_3 {T : Nat} (h : zBk 10 T) : zS0 (T + 3) = (13, 60) := h 3 _ rfl
theorem zb10_4 {T : Nat} (h : zBk 10 T) : zS0 (T + 4) = (13, 60) := h 4 _ rfl
theorem zb10_5 {T : Nat} (h : zBk 10 T) : zS0 (T + 5) = (13, 60) := h 5 _ rfl
theorem zb10_6 {T : Nat} (h : zBk 10 T) : zS0 (T + 6) = (13, 60) := h 6 _ rfl
theorem zb10_7 {T : Nat} (h : zBk 10 T) : zS0 (T + 7) = (14, 60) := h 7 _ rfl
theorem zb10_8 {T : Nat} (h : zBk 10 T) : zS0 (T + 8) = (13, 60) := h 8 _ rfl
theorem zb4_0 {T : Nat} (h : zBk 4 T) : zS0 (T) = (4, 0) := h 0 _ rfl
theorem zb4_1 {T : Nat} (h : zBk 4 T) : zS0 (T + 1) = (14, 200) := h 1 _ rfl
theorem zb5_0 {T : Nat} (h : zBk 5 T) : zS0 (T) = (5, 0) := h 0 _ rfl
theorem zb5_1 {T : Nat} (h : zBk 5 T) : zS0 (T + 1) = (16, 80) := h 1 _ rfl
theorem zb0_0 {T : Nat} (h : zBk 0 T) : zS0 (T) = (0, 0) := h 0 _ rfl
theorem zb0_1 {T : Nat} (h : zBk 0 T) : zS0 (T + 1) = (4, 0) := h 1 _ rfl
theorem zb0_2 {T : Nat} (h : zBk 0 T) : zS0 (T + 2) = (14, 200) := h 2 _ rfl
theorem zb0_3 {T : Nat} (h : zBk 0 T) : zS0 (T + 3) = (5, 0) := h 3 _ rfl
theorem zb0_4 {T : Nat} (h : zBk 0 T) : zS0 (T + 4) = (16, 80) := h 4 _ rfl
/-! PartSongDesk$Copy isLentOf (I)Z -/
theorem ze_1_0 {V : zVt} {J : zJt} {d : Nat → Nat → UInt64} (x0 : Nat) (x1 : Int) (h0 : zBk 0 x0) : zGo false 1 0 [.ref x0, .int (zi x1)] [] (zm V J d) =
    (if qw (V x0 1) = qw (-1) then zGo false 1 22 [.ref x0, .int (zi x1)] [] (zm V J d) else zck (qw (4) ≠ 0) ((if qw (qdiv (V x0 0) (4)) ≠ qw x1 then zGo false 1 22 [.ref x0, .int (zi x1)] [] (zm V J d) else zGo false 1 23 [.ref x0, .int (zi x1)] [.int (zi (1))] (zm V J d)))) := by
  refine (zr_aload_n (n := 0) (x := x0) (by decide +kernel) rfl).trans ?_
  refine (zr_getI (i := 9) (c := 0) (k := 1) (by decide +kernel) (by decide +kernel) (zb0_0 h0) (by decide +kernel)).trans ?_
  refine (zr_iconst (n := -1) (by decide +kernel)).trans ?_
  refine (zr_ceq (off := 17) (a := (V x0 1)) (b := (-1)) (t := 22) (by decide +kernel) rfl).trans (zif_ct (fun _ => ?_) (fun _ => ?_))
  · rfl
  · refine (zr_aload_n (n := 0) (x := x0) (by decide +kernel) rfl).trans ?_
    refine (zr_getI (i := 29) (c := 0) (k := 0) (by decide +kernel) (by decide +kernel) (zb0_0 h0) (by decide +kernel)).trans ?_
    refine (zr_iconst (n := 4) (by decide +kernel)).trans ?_
    refine (zr_idiv (a := (V x0 0)) (b := (4)) (by decide +kernel)).trans (zck_ct fun _ => ?_)
    refine (zr_iload_n (n := 1) (x := zi x1) (by decide +kernel) rfl).trans ?_
    refine (zr_cne (off := 7) (a := (qdiv (V x0 0) (4))) (b := x1) (t := 22) (by decide +kernel) rfl).trans (zif_ct (fun _ => ?_) (fun _ => ?_))
    · rfl
    · refine (zr_iconst (n := 1) (by decide +kernel)).trans ?_
      refine (zr_goto (off := 4) (t := 23) (by decide +kernel) rfl).trans ?_
      rfl
theorem ze_1_22 {V : zVt} {J : zJt} {d : Nat → Nat → UInt64} (x0 : Nat) (x1 : Int) (h0 : zBk 0 x0) : zGo false 1 22 [.ref x0, .int (zi x1)] [] (zm V J d) =
    zGo false 1 23 [.ref x0, .int (zi x1)] [.int (zi (0))] (zm V J d) := by
  refine (zr_iconst (n := 0) (by decide +kernel)).trans ?_
  rfl
theorem ze_1_23 {V : zVt} {J : zJt} {d : Nat → Nat → UInt64} (x0 : Nat) (x1 : Int) (s0 : Int) (h0 : zBk 0 x0) : zGo false 1 23 [.ref x0, .int (zi x1)] [.int (zi s0)] (zm V J d) =
    zck (qw s0 = 0 ∨ qw s0 = 1) (some (.inl (some (.int (zi s0))), zm V J d)) := by
  exact zr_zret (a := s0) (by decide +kernel) rfl
/-! PartSongDesk$Corrections apply (LPartSongDesk$Tokens;LPartSongDesk$Marks;LPartSongDesk$Tokens;)V -/
theorem ze_3_0 {V : zVt} {J : zJt} {d : Nat → Nat → UInt64} (x1 : Nat) (x2 : Nat) (x3 : Nat) (h1 : zBk 10 x1) (h2 : zBk 4 x2) (h3 : zBk 10 x3) : zGo false 3 0 [.ref 3, .ref x1, .ref x2, .ref x3, .null] [] (zm V J d) =
    (zGo false 88 0 [.ref x3, .ref x1, .null] [] (zm V J d)).bind (zGor false 3 5 [.ref 3, .ref x1, .ref x2, .ref x3, .null] []) := by
  refine (zr_aload_n (n := 3) (x := x3) (by decide +kernel) rfl).trans ?_
  refine (zr_aload_n (n := 1) (x := x1) (by decide +kernel) rfl).trans ?_
  exact zr_cV (i := 29) (z := 88) (w := 0) (o := x3) (t := [.ref x1]) (rest := []) (L := [.ref x3, .ref x1, .null]) (pc1 := 5) (by decide +kernel) (by decide +kernel) (zb10_0 h3) (n := 1) (r := 0) rfl rfl rfl (by decide +kernel) rfl rfl
theorem ze_3_5 {V : zVt} {J : zJt} {d : Nat → Nat → UInt64} (x1 : Nat) (x2 : Nat) (x3 : Nat) (h1 : zBk 10 x1) (h2 : zBk 4 x2) (h3 : zBk 10 x3) : zGo false 3 5 [.ref 3, .ref x1, .ref x2, .ref x3, .null] [] (zm V J d) =
    zGo false 3 8 [.ref 3, .ref x1, .ref x2, .ref x3, .int (zi (0))] [] (zm V J d) := by
  refine (zr_iconst (n := 0) (by decide +kernel)).trans ?_
  refine (zr_istore (n := 4) (l1 := [.ref 3, .ref x1, .ref x2, .ref x3, .int (zi (0))]) (by decide +kernel) rfl).trans ?_
  rfl
theorem ze_3_8 {V : zVt} {J : zJt} {d : Nat → Nat → UInt64} (x1 : Nat) (x2 : Nat) (x3 : Nat) (x4 : Int) (h1 : zBk 10 x1) (h2 : zBk 4 x2) (h3 : zBk 10 x3) : zGo false 3 8 [.ref 3, .ref x1, .ref x2, .ref x3, .int (zi x4)] [] (zm V J d) =
    (if qw (V 3 0) ≤ qw x4 then some (.inl none, zm V J d) else zck (0 ≤ qw x4 ∧ qw x4 < (200 : Nat)) ((if qw (V (x2 + 1) (qw x4)) = 0 then zGo false 3 49 [.ref 3, .ref x1, .ref x2, .ref x3, .int (zi x4)] [] (zm V J d) else zck (0 ≤ qw x4 ∧ qw x4 < (200 : Nat)) ((zGo false 86 0 [.ref x3, .int (zi (V 4 (qw x4)))] [] (zm V J d)).bind (zGor false 3 38 [.ref 3, .ref x1, .ref x2, .ref x3, .int (zi x4)] []))))) := by
  refine (zr_iload (n := 4) (x := zi x4) (by decide +kernel) rfl).trans ?_
  refine (zr_aload_n (n := 0) (x := 3) (by decide +kernel) rfl).trans ?_
  refine (zr_getI (i := 25) (c := 1) (k := 0) (by decide +kernel) (by decide +kernel) rfl (by decide +kernel)).trans ?_
  refine (zr_cge (off := 41) (a := x4) (b := (V 3 0)) (t := 55) (by decide +kernel) rfl).trans (zif_ct (fun _ => ?_) (fun _ => ?_))
  · exact zr_vret (by decide +kernel) rfl
  · refine (zr_aload_n (n := 2) (x := x2) (by decide +kernel) rfl).trans ?_
    refine (zr_getR (i := 35) (c := 4) (k := 0) (r := (x2 + 1)) (by decide +kernel) (by decide +kernel) (zb4_0 h2) (by decide +kernel) (zR0_f (o := x2) (c := 4) (n := 0) (k := 0) (j := 1) (zb4_0 h2) (by decide) rfl)).trans ?_
    refine (zr_iload (n := 4) (x := zi x4) (by decide +kernel) rfl).trans ?_
    refine (zr_zald (n := 200) (e := x4) (by decide +kernel) (zb4_1 h2)).trans (zck_ct fun _ => ?_)
    refine (zr_ifeq (off := 25) (a := (V (x2 + 1) (qw x4))) (t := 49) (by decide +kernel) rfl).trans (zif_ct (fun _ => ?_) (fun _ => ?_))
    · rfl
    · refine (zr_aload_n (n := 3) (x := x3) (by decide +kernel) rfl).trans ?_
      refine (zr_aload_n (n := 0) (x := 3) (by decide +kernel) rfl).trans ?_
      refine (zr_getR (i := 9) (c := 1) (k := 1) (r := 4) (by decide +kernel) (by decide +kernel) rfl (by decide +kernel) (zR0_f (o := 3) (c := 1) (n := 0) (k := 1) (j := 1) rfl (by decide) rfl)).trans ?_
      refine (zr_iload (n := 4) (x := zi x4) (by decide +kernel) rfl).trans ?_
      refine (zr_iald (n := 200) (e := x4) (by decide +kernel) rfl).trans (zck_ct fun _ => ?_)
      exact zr_cV (i := 41) (z := 86) (w := 0) (o := x3) (t := [.int (zi (V 4 (qw x4)))]) (rest := []) (L := [.ref x3, .int (zi (V 4 (qw x4)))]) (pc1 := 38) (by decide +kernel) (by decide +kernel) (zb10_0 h3) (n := 1) (r := 0) rfl rfl rfl (by decide +kernel) rfl rfl
theorem ze_3_38 {V : zVt} {J : zJt} {d : Nat → Nat → UInt64} (x1 : Nat) (x2 : Nat) (x3 : Nat) (x4 : Int) (s0 : Int) (h1 : zBk 10 x1) (h2 : zBk 4 x2) (h3 : zBk 10 x3) : zGo false 3 38 [.ref 3, .ref x1, .ref x2, .ref x3, .int (zi x4)] [.int (zi s0)] (zm V J d) =
    (if qw s0 = 0 then zGo false 3 49 [.ref 3, .ref x1, .ref x2, .ref x3, .int (zi x4)] [] (zm V J d) else (zGo false 4 0 [.ref 3, .int (zi x4), .ref x1, .ref x3, .null, .null, .null] [] (zm V J d)).bind (zGor false 3 49 [.ref 3, .ref x1, .ref x2, .ref x3, .int (zi x4)] [])) := by
  refine (zr_ifeq (off := 11) (a := s0) (t := 49) (by decide +kernel) rfl).trans (zif_ct (fun _ => ?_) (fun _ => ?_))
  · rfl
  · refine (zr_aload_n (n := 0) (x := 3) (by decide +kernel) rfl).trans ?_
    refine (zr_iload (n := 4) (x := zi x4) (by decide +kernel) rfl).trans ?_
    refine (zr_aload_n (n := 1) (x := x1) (by decide +kernel) rfl).trans ?_
    refine (zr_aload_n (n := 3) (x := x3) (by decide +kernel) rfl).trans ?_
    exact zr_cV (i := 43) (z := 4) (w := 0) (o := 3) (t := [.ref x3, .ref x1, .int (zi x4)]) (rest := []) (L := [.ref 3, .int (zi x4), .ref x1, .ref x3, .null, .null, .null]) (pc1 := 49) (by decide +kernel) (by decide +kernel) rfl (n := 3) (r := 0) rfl rfl rfl (by decide +kernel) rfl rfl
theorem ze_3_49 {V : zVt} {J : zJt} {d : Nat → Nat → UInt64} (x1 : Nat) (x2 : Nat) (x3 : Nat) (x4 : Int) (h1 : zBk 10 x1) (h2 : zBk 4 x2) (h3 : zBk 10 x3) : zGo false 3 49 [.ref 3, .ref x1, .ref x2, .ref x3, .int (zi x4)] [] (zm V J d) =
    zGo false 3 8 [.ref 3, .ref x1, .ref x2, .ref x3, .int (zi (x4 + 1))] [] (zm V J d) := by
  refine (zr_iinc (n := 4) (k := 1) (x := x4) (l1 := [.ref 3, .ref x1, .ref x2, .ref x3, .int (zi (x4 + 1))]) (by decide +kernel) rfl rfl).trans ?_
  refine (zr_goto (off := -44) (t := 8) (by decide +kernel) rfl).trans ?_
  rfl
/-! PartSongDesk$Corrections applyOne (ILPartSongDesk$Tokens;LPartSongDesk$Tokens;)V -/
theorem ze_4_0 {V : zVt} {J : zJt} {d : Nat → Nat → UInt64} (x1 : Int) (x2 : Nat) (x3 : Nat) (h2 : zBk 10 x2) (h3 : zBk 10 x3) : zGo false 4 0 [.ref 3, .int (zi x1), .ref x2, .ref x3, .null, .null, .null] [] (zm V J d) =
    zck (0 ≤ qw x1 ∧ qw x1 < (200 : Nat)) (zck (0 ≤ qw x1 ∧ qw x1 < (200 : Nat)) ((if qw (V 6 (qw x1)) ≠ qw (100) then zGo false 4 28 [.ref 3, .int (zi x1), .ref x2, .ref x3, .int (zi (V 4 (qw x1))), .int (zi (V 6 (qw x1))), .null] [.int (zi (0))] (zm V J d) else zGo false 4 28 [.ref 3, .int (zi x1), .ref x2, .ref x3, .int (zi (V 4 (qw x1))), .int (zi (V 6 (qw x1))), .null] [.int (zi (1))] (zm V J d)))) := by
  refine (zr_aload_n (n := 0) (x := 3) (by decide +kernel) rfl).trans ?_
  refine (zr_getR (i := 9) (c := 1) (k := 1) (r := 4) (by decide +kernel) (by decide +kernel) rfl (by decide +kernel) (zR0_f (o := 3) (c := 1) (n := 0) (k := 1) (j := 1) rfl (by decide) rfl)).trans ?_
  refine (zr_iload_n (n := 1) (x := zi x1) (by decide +kernel) rfl).trans ?_
  refine (zr_iald (n := 200) (e := x1) (by decide +kernel) rfl).trans (zck_ct fun _ => ?_)
  refine (zr_istore (n := 4) (l1 := [.ref 3, .int (zi x1), .ref x2, .ref x3, .int (zi (V 4 (qw x1))), .null, .null]) (by decide +kernel) rfl).trans ?_
  refine (zr_aload_n (n := 0) (x := 3) (by decide +kernel) rfl).trans ?_
  refine (zr_getR (i := 18) (c := 1) (k := 3) (r := 6) (by decide +kernel) (by decide +kernel) rfl (by decide +kernel) (zR0_f (o := 3) (c := 1) (n := 0) (k := 3) (j := 3) rfl (by decide) rfl)).trans ?_
  refine (zr_iload_n (n := 1) (x := zi x1) (by decide +kernel) rfl).trans ?_
  refine (zr_iald (n := 200) (e := x1) (by decide +kernel) rfl).trans (zck_ct fun _ => ?_)
  refine (zr_istore (n := 5) (l1 := [.ref 3, .int (zi x1), .ref x2, .ref x3, .int (zi (V 4 (qw x1))), .int (zi (V 6 (qw x1))), .null]) (by decide +kernel) rfl).trans ?_
  refine (zr_iload (n := 5) (x := zi (V 6 (qw x1))) (by decide +kernel) rfl).trans ?_
  refine (zr_bipush (n := 100) (by decide +kernel) rfl).trans ?_
  refine (zr_cne (off := 7) (a := (V 6 (qw x1))) (b := (100)) (t := 27) (by decide +kernel) rfl).trans (zif_ct (fun _ => ?_) (fun _ => ?_))
  · refine (zr_iconst (n := 0) (by decide +kernel)).trans ?_
    rfl
  · refine (zr_iconst (n := 1) (by decide +kernel)).trans ?_
    refine (zr_goto (off := 4) (t := 28) (by decide +kernel) rfl).trans ?_
    rfl
theorem ze_4_28 {V : zVt} {J : zJt} {d : Nat → Nat → UInt64} (x1 : Int) (x2 : Nat) (x3 : Nat) (x4 : Int) (x5 : Int) (s0 : Int) (h2 : zBk 10 x2) (h3 : zBk 10 x3) : zGo false 4 28 [.ref 3, .int (zi x1), .ref x2, .ref x3, .int (zi x4), .int (zi x5), .null] [.int (zi s0)] (zm V J d) =
    zck (0 ≤ qw x1 ∧ qw x1 < (200 : Nat)) ((if qw (V 5 (qw x1)) = 0 then (if qw s0 = 0 then zGo false 4 91 [.ref 3, .int (zi x1), .ref x2, .ref x3, .int (zi x4), .int (zi x5), .int (zi s0)] [.int (zi x5), .int (zi x4), .ref (x3 + 3)] (zm V J d) else zck (0 ≤ qw x4 ∧ qw x4 < (60 : Nat)) (zGo false 4 91 [.ref 3, .int (zi x1), .ref x2, .ref x3, .int (zi x4), .int (zi x5), .int (zi s0)] [.int (zi (V (x2 + 3) (qw x4))), .int (zi x4), .ref (x3 + 3)] (zm V J d))) else (if qw (V 5 (qw x1)) = 1 then (if qw s0 = 0 then zGo false 4 118 [.ref 3, .int (zi x1), .ref x2, .ref x3, .int (zi x4), .int (zi x5), .int (zi s0)] [.int (zi x5), .int (zi x4), .ref (x3 + 4)] (zm V J d) else zck (0 ≤ qw x4 ∧ qw x4 < (60 : Nat)) (zGo false 4 118 [.ref 3, .int (zi x1), .ref x2, .ref x3, .int (zi x4), .int (zi x5), .int (zi s0)] [.int (zi (V (x2 + 4) (qw x4))), .int (zi x4), .ref (x3 + 4)] (zm V J d))) else (if qw (V 5 (qw x1)) = 2 then (if qw s0 = 0 then zGo false 4 145 [.ref 3, .int (zi x1), .ref x2, .ref x3, .int (zi x4), .int (zi x5), .int (zi s0)] [.int (zi x5), .int (zi x4), .ref (x3 + 5)] (zm V J d) else zck (0 ≤ qw x4 ∧ qw x4 < (60 : Nat)) (zGo false 4 145 [.ref 3, .int (zi x1), .ref x2, .ref x3, .int (zi x4), .int (zi x5), .int (zi s0)] [.int (zi (V (x2 + 5) (qw x4))), .int (zi x4), .ref (x3 + 5)] (zm V J d))) else (if qw (V 5 (qw x1)) = 3 then (if qw s0 = 0 then zGo false 4 172 [.ref 3, .int (zi x1), .ref x2, .ref x3, .int (zi x4), .int (zi x5), .int (zi s0)] [.int (zi x5), .int (zi x4), .ref (x3 + 6)] (zm V J d) else zck (0 ≤ qw x4 ∧ qw x4 < (60 : Nat)) (zGo false 4 172 [.ref 3, .int (zi x1), .ref x2, .ref x3, .int (zi x4), .int (zi x5), .int (zi s0)] [.int (zi (V (x2 + 6) (qw x4))), .int (zi x4), .ref (x3 + 6)] (zm V J d))) else (if qw x5 ≠ qw (1) then zGo false 4 193 [.ref 3, .int (zi x1), .ref x2, .ref x3, .int (zi x4), .int (zi x5), .int (zi s0)] [.int (zi (3)), .int (zi x4), .ref (x3 + 1)] (zm V J d) else zGo false 4 193 [.ref 3, .int (zi x1), .ref x2, .ref x3, .int (zi x4), .int (zi x5), .int (zi s0)] [.int (zi (4)), .int (zi x4), .ref (x3 + 1)] (zm V J d))))))) := by
  refine (zr_istore (n := 6) (l1 := [.ref 3, .int (zi x1), .ref x2, .ref x3, .int (zi x4), .int (zi x5), .int (zi s0)]) (by decide +kernel) rfl).trans ?_
  refine (zr_aload_n (n := 0) (x := 3) (by decide +kernel) rfl).trans ?_
  refine (zr_getR (i := 15) (c := 1) (k := 2) (r := 5) (by decide +kernel) (by decide +kernel) rfl (by decide +kernel) (zR0_f (o := 3) (c := 1) (n := 0) (k := 2) (j := 2) rfl (by decide) rfl)).trans ?_
  refine (zr_iload_n (n := 1) (x := zi x1) (by decide +kernel) rfl).trans ?_
  refine (zr_iald (n := 200) (e := x1) (by decide +kernel) rfl).trans (zck_ct fun _ => ?_)
  refine (zr_tsw (dflt := 140) (lo := 0) (hi := 3) (offs := #[32, 59, 86, 113]) (len := 32) (a := (V 5 (qw x1))) (by decide +kernel) rfl).trans ?_
  refine (zSwg_t (t := 68) rfl).trans (zif_ct (fun _ => ?_) (fun _ => ?_))
  · refine (zr_aload_n (n := 3) (x := x3) (by decide +kernel) rfl).trans ?_
    refine (zr_getR (i := 47) (c := 10) (k := 6) (r := (x3 + 3)) (by decide +kernel) (by decide +kernel) (zb10_0 h3) (by decide +kernel) (zR0_f (o := x3) (c := 10) (n := 0) (k := 6) (j := 3) (zb10_0 h3) (by decide) rfl)).trans ?_
    refine (zr_iload (n := 4) (x := zi x4) (by decide +kernel) rfl).trans ?_
    refine (zr_iload (n := 6) (x := zi s0) (by decide +kernel) rfl).trans ?_
    refine (zr_ifeq (off := 13) (a := s0) (t := 89) (by decide +kernel) rfl).trans (zif_ct (fun _ => ?_) (fun _ => ?_))
    · refine (zr_iload (n := 5) (x := zi x5) (by decide +kernel) rfl).trans ?_
      rfl
    · refine (zr_aload_n (n := 2) (x := x2) (by decide +kernel) rfl).trans ?_
      refine (zr_getR (i := 47) (c := 10) (k := 6) (r := (x2 + 3)) (by decide +kernel) (by decide +kernel) (zb10_0 h2) (by decide +kernel) (zR0_f (o := x2) (c := 10) (n := 0) (k := 6) (j := 3) (zb10_0 h2) (by decide) rfl)).trans ?_
      refine (zr_iload (n := 4) (x := zi x4) (by decide +kernel) rfl).trans ?_
      refine (zr_iald (n := 60) (e := x4) (by decide +kernel) (zb10_3 h2)).trans (zck_ct fun _ => ?_)
      refine (zr_goto (off := 5) (t := 91) (by decide +kernel) rfl).trans ?_
      rfl
  refine (zSwg_t (t := 95) rfl).trans (zif_ct (fun _ => ?_) (fun _ => ?_))
  · refine (zr_aload_n (n := 3) (x := x3) (by decide +kernel) rfl).trans ?_
    refine (zr_getR (i := 50) (c := 10) (k := 7) (r := (x3 + 4)) (by decide +kernel) (by decide +kernel) (zb10_0 h3) (by decide +kernel) (zR0_f (o := x3) (c := 10) (n := 0) (k := 7) (j := 4) (zb10_0 h3) (by decide) rfl)).trans ?_
    refine (zr_iload (n := 4) (x := zi x4) (by decide +kernel) rfl).trans ?_
    refine (zr_iload (n := 6) (x := zi s0) (by decide +kernel) rfl).trans ?_
    refine (zr_ifeq (off := 13) (a := s0) (t := 116) (by decide +kernel) rfl).trans (zif_ct (fun _ => ?_) (fun _ => ?_))
    · refine (zr_iload (n := 5) (x := zi x5) (by decide +kernel) rfl).trans ?_
      rfl
    · refine (zr_aload_n (n := 2) (x := x2) (by decide +kernel) rfl).trans ?_
      refine (zr_getR (i := 50) (c := 10) (k := 7) (r := (x2 + 4)) (by decide +kernel) (by decide +kernel) (zb10_0 h2) (by decide +kernel) (zR0_f (o := x2) (c := 10) (n := 0) (k := 7) (j := 4) (zb10_0 h2) (by decide) rfl)).trans ?_
      refine (zr_iload (n := 4) (x := zi x4) (by decide +kernel) rfl).trans ?_
      refine (zr_iald (n := 60) (e := x4) (by decide +kernel) (zb10_4 h2)).trans (zck_ct fun _ => ?_)
      refine (zr_goto (off := 5) (t := 118) (by decide +kernel) rfl).trans ?_
      rfl
  refine (zSwg_t (t := 122) rfl).trans (zif_ct (fun _ => ?_) (fun _ => ?_))
  · refine (zr_aload_n (n := 3) (x := x3) (by decide +kernel) rfl).trans ?_
    refine (zr_getR (i := 53) (c := 10) (k := 8) (r := (x3 + 5)) (by decide +kernel) (by decide +kernel) (zb10_0 h3) (by decide +kernel) (zR0_f (o := x3) (c := 10) (n := 0) (k := 8) (j := 5) (zb10_0 h3) (by decide) rfl)).trans ?_
    refine (zr_iload (n := 4) (x := zi x4) (by decide +kernel) rfl).trans ?_
    refine (zr_iload (n := 6) (x := zi s0) (by decide +kernel) rfl).trans ?_
    refine (zr_ifeq (off := 13) (a := s0) (t := 143) (by decide +kernel) rfl).trans (zif_ct (fun _ => ?_) (fun _ => ?_))
    · refine (zr_iload (n := 5) (x := zi x5) (by decide +kernel) rfl).trans ?_
      rfl
    · refine (zr_aload_n (n := 2) (x := x2) (by decide +kernel) rfl).trans ?_
      refine (zr_getR (i := 53) (c := 10) (k := 8) (r := (x2 + 5)) (by decide +kernel) (by decide +kernel) (zb10_0 h2) (by decide +kernel) (zR0_f (o := x2) (c := 10) (n := 0) (k := 8) (j := 5) (zb10_0 h2) (by decide) rfl)).trans ?_
      refine (zr_iload (n := 4) (x := zi x4) (by decide +kernel) rfl).trans ?_
      refine (zr_iald (n := 60) (e := x4) (by decide +kernel) (zb10_5 h2)).trans (zck_ct fun _ => ?_)
      refine (zr_goto (off := 5) (t := 145) (by decide +kernel) rfl).trans ?_
      rfl
  refine (zSwg_t (t := 149) rfl).trans (zif_ct (fun _ => ?_) (fun _ => ?_))
  · refine (zr_aload_n (n := 3) (x := x3) (by decide +kernel) rfl).trans ?_
    refine (zr_getR (i := 56) (c := 10) (k := 9) (r := (x3 + 6)) (by decide +kernel) (by decide +kernel) (zb10_0 h3) (by decide +kernel) (zR0_f (o := x3) (c := 10) (n := 0) (k := 9) (j := 6) (zb10_0 h3) (by decide) rfl)).trans ?_
    refine (zr_iload (n := 4) (x := zi x4) (by decide +kernel) rfl).trans ?_
    refine (zr_iload (n := 6) (x := zi s0) (by decide +kernel) rfl).trans ?_
    refine (zr_ifeq (off := 13) (a := s0) (t := 170) (by decide +kernel) rfl).trans (zif_ct (fun _ => ?_) (fun _ => ?_))
    · refine (zr_iload (n := 5) (x := zi x5) (by decide +kernel) rfl).trans ?_
      rfl
    · refine (zr_aload_n (n := 2) (x := x2) (by decide +kernel) rfl).trans ?_
      refine (zr_getR (i := 56) (c := 10) (k := 9) (r := (x2 + 6)) (by decide +kernel) (by decide +kernel) (zb10_0 h2) (by decide +kernel) (zR0_f (o := x2) (c := 10) (n := 0) (k := 9) (j := 6) (zb10_0 h2) (by decide) rfl)).trans ?_
      refine (zr_iload (n := 4) (x := zi x4) (by decide +kernel) rfl).trans ?_
      refine (zr_iald (n := 60) (e := x4) (by decide +kernel) (zb10_6 h2)).trans (zck_ct fun _ => ?_)
      refine (zr_goto (off := 5) (t := 172) (by decide +kernel) rfl).trans ?_
      rfl
  refine (zSwg_td (t := 176) rfl).trans ?_
  refine (zr_aload_n (n := 3) (x := x3) (by decide +kernel) rfl).trans ?_
  refine (zr_getR (i := 59) (c := 10) (k := 4) (r := (x3 + 1)) (by decide +kernel) (by decide +kernel) (zb10_0 h3) (by decide +kernel) (zR0_f (o := x3) (c := 10) (n := 0) (k := 4) (j := 1) (zb10_0 h3) (by decide) rfl)).trans ?_
  refine (zr_iload (n := 4) (x := zi x4) (by decide +kernel) rfl).trans ?_
  refine (zr_iload (n := 5) (x := zi x5) (by decide +kernel) rfl).trans ?_
  refine (zr_iconst (n := 1) (by decide +kernel)).trans ?_
  refine (zr_cne (off := 7) (a := x5) (b := (1)) (t := 192) (by decide +kernel) rfl).trans (zif_ct (fun _ => ?_) (fun _ => ?_))
  · refine (zr_iconst (n := 3) (by decide +kernel)).trans ?_
    rfl
  · refine (zr_iconst (n := 4) (by decide +kernel)).trans ?_
    refine (zr_goto (off := 4) (t := 193) (by decide +kernel) rfl).trans ?_
    rfl
theorem ze_4_91 {V : zVt} {J : zJt} {d : Nat → Nat → UInt64} (x1 : Int) (x2 : Nat) (x3 : Nat) (x4 : Int) (x5 : Int) (x6 : Int) (s0 : Nat) (s1 : Int) (s2 : Int) (h2 : zBk 10 x2) (h3 : zBk 10 x3) (g0 : zS0 s0 = (13, 60)) : zGo false 4 91 [.ref 3, .int (zi x1), .ref x2, .ref x3, .int (zi x4), .int (zi x5), .int (zi x6)] [.int (zi s2), .int (zi s1), .ref s0] (zm V J d) =
    zck (0 ≤ qw s1 ∧ qw s1 < (60 : Nat)) (zGo false 4 194 [.ref 3, .int (zi x1), .ref x2, .ref x3, .int (zi x4), .int (zi x5), .int (zi x6)] [] (zm (vup V s0 (qw s1) s2) J d)) := by
  refine (zr_iast (n := 60) (e := s1) (x := s2) (by decide +kernel) g0).trans (zck_ct fun _ => ?_)
  refine (zr_goto (off := 102) (t := 194) (by decide +kernel) rfl).trans ?_
  rfl
theorem ze_4_118 {V : zVt} {J : zJt} {d : Nat → Nat → UInt64} (x1 : Int) (x2 : Nat) (x3 : Nat) (x4 : Int) (x5 : Int) (x6 : Int) (s0 : Nat) (s1 : Int) (s2 : Int) (h2 : zBk 10 x2) (h3 : zBk 10 x3) (g0 : zS0 s0 = (13, 60)) : zGo false 4 118 [.ref 3, .int (zi x1), .ref x2, .ref x3, .int (zi x4), .int (zi x5), .int (zi x6)] [.int (zi s2), .int (zi s1), .ref s0] (zm V J d) =
    zck (0 ≤ qw s1 ∧ qw s1 < (60 : Nat)) (zGo false 4 194 [.ref 3, .int (zi x1), .ref x2, .ref x3, .int (zi x4), .int (zi x5), .int (zi x6)] [] (zm (vup V s0 (qw s1) s2) J d)) := by
  refine (zr_iast (n := 60) (e := s1) (x := s2) (by decide +kernel) g0).trans (zck_ct fun _ => ?_)
  refine (zr_goto (off := 75) (t := 194) (by decide +kernel) rfl).trans ?_
  rfl
theorem ze_4_145 {V : zVt} {J : zJt} {d : Nat → Nat → UInt64} (x1 : Int) (x2 : Nat) (x3 : Nat) (x4 : Int) (x5 : Int) (x6 : Int) (s0 : Nat) (s1 : Int) (s2 : Int) (h2 : zBk 10 x2) (h3 : zBk 10 x3) (g0 : zS0 s0 = (13, 60)) : zGo false 4 145 [.ref 3, .int (zi x1), .ref x2, .ref x3, .int (zi x4), .int (zi x5), .int (zi x6)] [.int (zi s2), .int (zi s1), .ref s0] (zm V J d) =
    zck (0 ≤ qw s1 ∧ qw s1 < (60 : Nat)) (zGo false 4 194 [.ref 3, .int (zi x1), .ref x2, .ref x3, .int (zi x4), .int (zi x5), .int (zi x6)] [] (zm (vup V s0 (qw s1) s2) J d)) := by
  refine (zr_iast (n := 60) (e := s1) (x := s2) (by decide +kernel) g0).trans (zck_ct fun _ => ?_)
  refine (zr_goto (off := 48) (t := 194) (by decide +kernel) rfl).trans ?_
  rfl
theorem ze_4_172 {V : zVt} {J : zJt} {d : Nat → Nat → UInt64} (x1 : Int) (x2 : Nat) (x3 : Nat) (x4 : Int) (x5 : Int) (x6 : Int) (s0 : Nat) (s1 : Int) (s2 : Int) (h2 : zBk 10 x2) (h3 : zBk 10 x3) (g0 : zS0 s0 = (13, 60)) : zGo false 4 172 [.ref 3, .int (zi x1), .ref x2, .ref x3, .int (zi x4), .int (zi x5), .int (zi x6)] [.int (zi s2), .int (zi s1), .ref s0] (zm V J d) =
    zck (0 ≤ qw s1 ∧ qw s1 < (60 : Nat)) (zGo false 4 194 [.ref 3, .int (zi x1), .ref x2, .ref x3, .int (zi x4), .int (zi x5), .int (zi x6)] [] (zm (vup V s0 (qw s1) s2) J d)) := by
  refine (zr_iast (n := 60) (e := s1) (x := s2) (by decide +kernel) g0).trans (zck_ct fun _ => ?_)
  refine (zr_goto (off := 21) (t := 194) (by decide +kernel) rfl).trans ?_
  rfl
theorem ze_4_193 {V : zVt} {J : zJt} {d : Nat → Nat → UInt64} (x1 : Int) (x2 : Nat) (x3 : Nat) (x4 : Int) (x5 : Int) (x6 : Int) (s0 : Nat) (s1 : Int) (s2 : Int) (h2 : zBk 10 x2) (h3 : zBk 10 x3) (g0 : zS0 s0 = (13, 60)) : zGo false 4 193 [.ref 3, .int (zi x1), .ref x2, .ref x3, .int (zi x4), .int (zi x5), .int (zi x6)] [.int (zi s2), .int (zi s1), .ref s0] (zm V J d) =
    zck (0 ≤ qw s1 ∧ qw s1 < (60 : Nat)) (zGo false 4 194 [.ref 3, .int (zi x1), .ref x2, .ref x3, .int (zi x4), .int (zi x5), .int (zi x6)] [] (zm (vup V s0 (qw s1) s2) J d)) := by
  refine (zr_iast (n := 60) (e := s1) (x := s2) (by decide +kernel) g0).trans (zck_ct fun _ => ?_)
  rfl
theorem ze_4_194 {V : zVt} {J : zJt} {d : Nat → Nat → UInt64} (x1 : Int) (x2 : Nat) (x3 : Nat) (x4 : Int) (x5 : Int) (x6 : Int) (h2 : zBk 10 x2) (h3 : zBk 10 x3) : zGo false 4 194 [.ref 3, .int (zi x1), .ref x2, .ref x3, .int (zi x4), .int (zi x5), .int (zi x6)] [] (zm V J d) =
    some (.inl none, zm V J d) := by
  exact zr_vret (by decide +kernel) rfl
/-! PartSongDesk$Corrections isValue (II)Z -/
theorem ze_5_0 {V : zVt} {J : zJt} {d : Nat → Nat → UInt64} (x1 : Int) (x2 : Int) : zGo false 5 0 [.ref 3, .int (zi x1), .int (zi x2)] [] (zm V J d) =
    (if qw x1 < 0 then zGo false 5 9 [.ref 3, .int (zi x1), .int (zi x2)] [] (zm V J d) else (if qw x1 ≤ qw (4) then (if qw x2 ≠ qw (100) then (if qw x1 = 0 then (if qw x2 < 0 then zGo false 5 65 [.ref 3, .int (zi x1), .int (zi x2)] [] (zm V J d) else (if qw (2) < qw x2 then zGo false 5 65 [.ref 3, .int (zi x1), .int (zi x2)] [] (zm V J d) else zGo false 5 66 [.ref 3, .int (zi x1), .int (zi x2)] [.int (zi (1))] (zm V J d))) else (if qw x1 = 1 then (if qw x2 < qw (-9) then zGo false 5 83 [.ref 3, .int (zi x1), .int (zi x2)] [] (zm V J d) else (if qw (19) < qw x2 then zGo false 5 83 [.ref 3, .int (zi x1), .int (zi x2)] [] (zm V J d) else zGo false 5 84 [.ref 3, .int (zi x1), .int (zi x2)] [.int (zi (1))] (zm V J d))) else (if qw x1 = 2 then (if qw x2 < 0 then zGo false 5 98 [.ref 3, .int (zi x1), .int (zi x2)] [] (zm V J d) else (if qw (3) < qw x2 then zGo false 5 98 [.ref 3, .int (zi x1), .int (zi x2)] [] (zm V J d) else zGo false 5 99 [.ref 3, .int (zi x1), .int (zi x2)] [.int (zi (1))] (zm V J d))) else (if qw x1 = 3 then (zGo false 6 0 [.ref 3, .int (zi x2)] [] (zm V J d)).bind (zGor false 5 105 [.ref 3, .int (zi x1), .int (zi x2)] []) else (if qw x2 = 0 then zGo false 5 115 [.ref 3, .int (zi x1), .int (zi x2)] [] (zm V J d) else (if qw x2 ≠ qw (1) then zGo false 5 120 [.ref 3, .int (zi x1), .int (zi x2)] [.int (zi (0))] (zm V J d) else zGo false 5 115 [.ref 3, .int (zi x1), .int (zi x2)] [] (zm V J d))))))) else zck (qw (1) = 0 ∨ qw (1) = 1) (some (.inl (some (.int (zi (1)))), zm V J d))) else zGo false 5 9 [.ref 3, .int (zi x1), .int (zi x2)] [] (zm V J d))) := by
  refine (zr_iload_n (n := 1) (x := zi x1) (by decide +kernel) rfl).trans ?_
  refine (zr_iflt (off := 8) (a := x1) (t := 9) (by decide +kernel) rfl).trans (zif_ct (fun _ => ?_) (fun _ => ?_))
  · rfl
  · refine (zr_iload_n (n := 1) (x := zi x1) (by decide +kernel) rfl).trans ?_
    refine (zr_iconst (n := 4) (by decide +kernel)).trans ?_
    refine (zr_cle (off := 5) (a := x1) (b := (4)) (t := 11) (by decide +kernel) rfl).trans (zif_ct (fun _ => ?_) (fun _ => ?_))
    · refine (zr_iload_n (n := 2) (x := zi x2) (by decide +kernel) rfl).trans ?_
      refine (zr_bipush (n := 100) (by decide +kernel) rfl).trans ?_
      refine (zr_cne (off := 5) (a := x2) (b := (100)) (t := 19) (by decide +kernel) rfl).trans (zif_ct (fun _ => ?_) (fun _ => ?_))
      · refine (zr_iload_n (n := 1) (x := zi x1) (by decide +kernel) rfl).trans ?_
        refine (zr_tsw (dflt := 86) (lo := 0) (hi := 3) (offs := #[32, 47, 65, 80]) (len := 32) (a := x1) (by decide +kernel) rfl).trans ?_
        refine (zSwg_t (t := 52) rfl).trans (zif_ct (fun _ => ?_) (fun _ => ?_))
        · refine (zr_iload_n (n := 2) (x := zi x2) (by decide +kernel) rfl).trans ?_
          refine (zr_iflt (off := 12) (a := x2) (t := 65) (by decide +kernel) rfl).trans (zif_ct (fun _ => ?_) (fun _ => ?_))
          · rfl
          · refine (zr_iload_n (n := 2) (x := zi x2) (by decide +kernel) rfl).trans ?_
            refine (zr_iconst (n := 2) (by decide +kernel)).trans ?_
            refine (zr_cgt (off := 7) (a := x2) (b := (2)) (t := 65) (by decide +kernel) rfl).trans (zif_ct (fun _ => ?_) (fun _ => ?_))
            · rfl
            · refine (zr_iconst (n := 1) (by decide +kernel)).trans ?_
              refine (zr_goto (off := 4) (t := 66) (by decide +kernel) rfl).trans ?_
              rfl
        refine (zSwg_t (t := 67) rfl).trans (zif_ct (fun _ => ?_) (fun _ => ?_))
        · refine (zr_iload_n (n := 2) (x := zi x2) (by decide +kernel) rfl).trans ?_
          refine (zr_bipush (n := -9) (by decide +kernel) rfl).trans ?_
          refine (zr_clt (off := 13) (a := x2) (b := (-9)) (t := 83) (by decide +kernel) rfl).trans (zif_ct (fun _ => ?_) (fun _ => ?_))
          · rfl
          · refine (zr_iload_n (n := 2) (x := zi x2) (by decide +kernel) rfl).trans ?_
            refine (zr_bipush (n := 19) (by decide +kernel) rfl).trans ?_
            refine (zr_cgt (off := 7) (a := x2) (b := (19)) (t := 83) (by decide +kernel) rfl).trans (zif_ct (fun _ => ?_) (fun _ => ?_))
            · rfl
            · refine (zr_iconst (n := 1) (by decide +kernel)).trans ?_
              refine (zr_goto (off := 4) (t := 84) (by decide +kernel) rfl).trans ?_
              rfl
        refine (zSwg_t (t := 85) rfl).trans (zif_ct (fun _ => ?_) (fun _ => ?_))
        · refine (zr_iload_n (n := 2) (x := zi x2) (by decide +kernel) rfl).trans ?_
          refine (zr_iflt (off := 12) (a := x2) (t := 98) (by decide +kernel) rfl).trans (zif_ct (fun _ => ?_) (fun _ => ?_))
          · rfl
          · refine (zr_iload_n (n := 2) (x := zi x2) (by decide +kernel) rfl).trans ?_
            refine (zr_iconst (n := 3) (by decide +kernel)).trans ?_
            refine (zr_cgt (off := 7) (a := x2) (b := (3)) (t := 98) (by decide +kernel) rfl).trans (zif_ct (fun _ => ?_) (fun _ => ?_))
            · rfl
            · refine (zr_iconst (n := 1) (by decide +kernel)).trans ?_
              refine (zr_goto (off := 4) (t := 99) (by decide +kernel) rfl).trans ?_
              rfl
        refine (zSwg_t (t := 100) rfl).trans (zif_ct (fun _ => ?_) (fun _ => ?_))
        · refine (zr_aload_n (n := 0) (x := 3) (by decide +kernel) rfl).trans ?_
          refine (zr_iload_n (n := 2) (x := zi x2) (by decide +kernel) rfl).trans ?_
          exact zr_cV (i := 21) (z := 6) (w := 0) (o := 3) (t := [.int (zi x2)]) (rest := []) (L := [.ref 3, .int (zi x2)]) (pc1 := 105) (by decide +kernel) (by decide +kernel) rfl (n := 1) (r := 0) rfl rfl rfl (by decide +kernel) rfl rfl
        refine (zSwg_td (t := 106) rfl).trans ?_
        refine (zr_iload_n (n := 2) (x := zi x2) (by decide +kernel) rfl).trans ?_
        refine (zr_ifeq (off := 8) (a := x2) (t := 115) (by decide +kernel) rfl).trans (zif_ct (fun _ => ?_) (fun _ => ?_))
        · rfl
        · refine (zr_iload_n (n := 2) (x := zi x2) (by decide +kernel) rfl).trans ?_
          refine (zr_iconst (n := 1) (by decide +kernel)).trans ?_
          refine (zr_cne (off := 7) (a := x2) (b := (1)) (t := 119) (by decide +kernel) rfl).trans (zif_ct (fun _ => ?_) (fun _ => ?_))
          · refine (zr_iconst (n := 0) (by decide +kernel)).trans ?_
            rfl
          · rfl
      · refine (zr_iconst (n := 1) (by decide +kernel)).trans ?_
        exact zr_zret (a := (1)) (by decide +kernel) rfl
    · rfl
theorem ze_5_9 {V : zVt} {J : zJt} {d : Nat → Nat → UInt64} (x1 : Int) (x2 : Int) : zGo false 5 9 [.ref 3, .int (zi x1), .int (zi x2)] [] (zm V J d) =
    zck (qw (0) = 0 ∨ qw (0) = 1) (some (.inl (some (.int (zi (0)))), zm V J d)) := by
  refine (zr_iconst (n := 0) (by decide +kernel)).trans ?_
  exact zr_zret (a := (0)) (by decide +kernel) rfl
theorem ze_5_65 {V : zVt} {J : zJt} {d : Nat → Nat → UInt64} (x1 : Int) (x2 : Int) : zGo false 5 65 [.ref 3, .int (zi x1), .int (zi x2)] [] (zm V J d) =
    zGo false 5 66 [.ref 3, .int (zi x1), .int (zi x2)] [.int (zi (0))] (zm V J d) := by
  refine (zr_iconst (n := 0) (by decide +kernel)).trans ?_
  rfl
theorem ze_5_66 {V : zVt} {J : zJt} {d : Nat → Nat → UInt64} (x1 : Int) (x2 : Int) (s0 : Int) : zGo false 5 66 [.ref 3, .int (zi x1), .int (zi x2)] [.int (zi s0)] (zm V J d) =
    zck (qw s0 = 0 ∨ qw s0 = 1) (some (.inl (some (.int (zi s0))), zm V J d)) := by
  exact zr_zret (a := s0) (by decide +kernel) rfl
theorem ze_5_83 {V : zVt} {J : zJt} {d : Nat → Nat → UInt64} (x1 : Int) (x2 : Int) : zGo false 5 83 [.ref 3, .int (zi x1), .int (zi x2)] [] (zm V J d) =
    zGo false 5 84 [.ref 3, .int (zi x1), .int (zi x2)] [.int (zi (0))] (zm V J d) := by
  refine (zr_iconst (n := 0) (by decide +kernel)).trans ?_
  rfl
theorem ze_5_84 {V : zVt} {J : zJt} {d : Nat → Nat → UInt64} (x1 : Int) (x2 : Int) (s0 : Int) : zGo false 5 84 [.ref 3, .int (zi x1), .int (zi x2)] [.int (zi s0)] (zm V J d) =
    zck (qw s0 = 0 ∨ qw s0 = 1) (some (.inl (some (.int (zi s0))), zm V J d)) := by
  exact zr_zret (a := s0) (by decide +kernel) rfl
theorem ze_5_98 {V : zVt} {J : zJt} {d : Nat → Nat → UInt64} (x1 : Int) (x2 : Int) : zGo false 5 98 [.ref 3, .int (zi x1), .int (zi x2)] [] (zm V J d) =
    zGo false 5 99 [.ref 3, .int (zi x1), .int (zi x2)] [.int (zi (0))] (zm V J d) := by
  refine (zr_iconst (n := 0) (by decide +kernel)).trans ?_
  rfl
theorem ze_5_99 {V : zVt} {J : zJt} {d : Nat → Nat → UInt64} (x1 : Int) (x2 : Int) (s0 : Int) : zGo false 5 99 [.ref 3, .int (zi x1), .int (zi x2)] [.int (zi s0)] (zm V J d) =
    zck (qw s0 = 0 ∨ qw s0 = 1) (some (.inl (some (.int (zi s0))), zm V J d)) := by
  exact zr_zret (a := s0) (by decide +kernel) rfl
theorem ze_5_105 {V : zVt} {J : zJt} {d : Nat → Nat → UInt64} (x1 : Int) (x2 : Int) (s0 : Int) : zGo false 5 105 [.ref 3, .int (zi x1), .int (zi x2)] [.int (zi s0)] (zm V J d) =
    zck (qw s0 = 0 ∨ qw s0 = 1) (some (.inl (some (.int (zi s0))), zm V J d)) := by
  exact zr_zret (a := s0) (by decide +kernel) rfl
theorem ze_5_115 {V : zVt} {J : zJt} {d : Nat → Nat → UInt64} (x1 : Int) (x2 : Int) : zGo false 5 115 [.ref 3, .int (zi x1), .int (zi x2)] [] (zm V J d) =
    zGo false 5 120 [.ref 3, .int (zi x1), .int (zi x2)] [.int (zi (1))] (zm V J d) := by
  refine (zr_iconst (n := 1) (by decide +kernel)).trans ?_
  refine (zr_goto (off := 4) (t := 120) (by decide +kernel) rfl).trans ?_
  rfl
theorem ze_5_120 {V : zVt} {J : zJt} {d : Nat → Nat → UInt64} (x1 : Int) (x2 : Int) (s0 : Int) : zGo false 5 120 [.ref 3, .int (zi x1), .int (zi x2)] [.int (zi s0)] (zm V J d) =
    zck (qw s0 = 0 ∨ qw s0 = 1) (some (.inl (some (.int (zi s0))), zm V J d)) := by
  exact zr_zret (a := s0) (by decide +kernel) rfl
/-! PartSongDesk$Corrections isLength (I)Z -/
theorem ze_6_0 {V : zVt} {J : zJt} {d : Nat → Nat → UInt64} (x1 : Int) : zGo false 6 0 [.ref 3, .int (zi x1)] [] (zm V J d) =
    (if qw x1 = 1 then zck (qw (1) = 0 ∨ qw (1) = 1) (some (.inl (some (.int (zi (1)))), zm V J d)) else (if qw x1 = 2 then zck (qw (1) = 0 ∨ qw (1) = 1) (some (.inl (some (.int (zi (1)))), zm V J d)) else (if qw x1 = 3 then zck (qw (1) = 0 ∨ qw (1) = 1) (some (.inl (some (.int (zi (1)))), zm V J d)) else (if qw x1 = 4 then zck (qw (1) = 0 ∨ qw (1) = 1) (some (.inl (some (.int (zi (1)))), zm V J d)) else (if qw x1 = 5 then zck (qw (0) = 0 ∨ qw (0) = 1) (some (.inl (some (.int (zi (0)))), zm V J d)) else (if qw x1 = 6 then zck (qw (1) = 0 ∨ qw (1) = 1) (some (.inl (some (.int (zi (1)))), zm V J d)) else (if qw x1 = 7 then zck (qw (0) = 0 ∨ qw (0) = 1) (some (.inl (some (.int (zi (0)))), zm V J d)) else (if qw x1 = 8 then zck (qw (1) = 0 ∨ qw (1) = 1) (some (.inl (some (.int (zi (1)))), zm V J d)) else (if qw x1 = 9 then zck (qw (0) = 0 ∨ qw (0) = 1) (some (.inl (some (.int (zi (0)))), zm V J d)) else (if qw x1 = 10 then zck (qw (0) = 0 ∨ qw (0) = 1) (some (.inl (some (.int (zi (0)))), zm V J d)) else (if qw x1 = 11 then zck (qw (0) = 0 ∨ qw (0) = 1) (some (.inl (some (.int (zi (0)))), zm V J d)) else (if qw x1 = 12 then zck (qw (1) = 0 ∨ qw (1) = 1) (some (.inl (some (.int (zi (1)))), zm V J d)) else (if qw x1 = 13 then zck (qw (0) = 0 ∨ qw (0) = 1) (some (.inl (some (.int (zi (0)))), zm V J d)) else (if qw x1 = 14 then zck (qw (0) = 0 ∨ qw (0) = 1) (some (.inl (some (.int (zi (0)))), zm V J d)) else (if qw x1 = 15 then zck (qw (0) = 0 ∨ qw (0) = 1) (some (.inl (some (.int (zi (0)))), zm V J d)) else (if qw x1 = 16 then zck (qw (1) = 0 ∨ qw (1) = 1) (some (.inl (some (.int (zi (1)))), zm V J d)) else (if qw x1 = 17 then zck (qw (0) = 0 ∨ qw (0) = 1) (some (.inl (some (.int (zi (0)))), zm V J d)) else (if qw x1 = 18 then zck (qw (0) = 0 ∨ qw (0) = 1) (some (.inl (some (.int (zi (0)))), zm V J d)) else (if qw x1 = 19 then zck (qw (0) = 0 ∨ qw (0) = 1) (some (.inl (some (.int (zi (0)))), zm V J d)) else (if qw x1 = 20 then zck (qw (0) = 0 ∨ qw (0) = 1) (some (.inl (some (.int (zi (0)))), zm V J d)) else (if qw x1 = 21 then zck (qw (0) = 0 ∨ qw (0) = 1) (some (.inl (some (.int (zi (0)))), zm V J d)) else (if qw x1 = 22 then zck (qw (0) = 0 ∨ qw (0) = 1) (some (.inl (some (.int (zi (0)))), zm V J d)) else (if qw x1 = 23 then zck (qw (0) = 0 ∨ qw (0) = 1) (some (.inl (some (.int (zi (0)))), zm V J d)) else (if qw x1 = 24 then zck (qw (1) = 0 ∨ qw (1) = 1) (some (.inl (some (.int (zi (1)))), zm V J d)) else zck (qw (0) = 0 ∨ qw (0) = 1) (some (.inl (some (.int (zi (0)))), zm V J d)))))))))))))))))))))))))) := by
  refine (zr_iload_n (n := 1) (x := zi x1) (by decide +kernel) rfl).trans ?_
  refine (zr_tsw (dflt := 113) (lo := 1) (hi := 24) (offs := #[111, 111, 111, 111, 113, 111, 113, 111, 113, 113, 113, 111, 113, 113, 113, 111, 113, 113, 113, 113, 113, 113, 113, 111]) (len := 111) (a := x1) (by decide +kernel) rfl).trans ?_
  refine (zSwg_t (t := 112) rfl).trans (zif_ct (fun _ => ?_) (fun _ => ?_))
  · refine (zr_iconst (n := 1) (by decide +kernel)).trans ?_
    exact zr_zret (a := (1)) (by decide +kernel) rfl
  refine (zSwg_t (t := 112) rfl).trans (zif_ct (fun _ => ?_) (fun _ => ?_))
  · refine (zr_iconst (n := 1) (by decide +kernel)).trans ?_
    exact zr_zret (a := (1)) (by decide +kernel) rfl
  refine (zSwg_t (t := 112) rfl).trans (zif_ct (fun _ => ?_) (fun _ => ?_))
  · refine (zr_iconst (n := 1) (by decide +kernel)).trans ?_
    exact zr_zret (a := (1)) (by decide +kernel) rfl
  refine (zSwg_t (t := 112) rfl).trans (zif_ct (fun _ => ?_) (fun _ => ?_))
  · refine (zr_iconst (n := 1) (by decide +kernel)).trans ?_
    exact zr_zret (a := (1)) (by decide +kernel) rfl
  refine (zSwg_t (t := 114) rfl).trans (zif_ct (fun _ => ?_) (fun _ => ?_))
  · refine (zr_iconst (n := 0) (by decide +kernel)).trans ?_
    exact zr_zret (a := (0)) (by decide +kernel) rfl
  refine (zSwg_t (t := 112) rfl).trans (zif_ct (fun _ => ?_) (fun _ => ?_))
  · refine (zr_iconst (n := 1) (by decide +kernel)).trans ?_
    exact zr_zret (a := (1)) (by decide +kernel) rfl
  refine (zSwg_t (t := 114) rfl).trans (zif_ct (fun _ => ?_) (fun _ => ?_))
  · refine (zr_iconst (n := 0) (by decide +kernel)).trans ?_
    exact zr_zret (a := (0)) (by decide +kernel) rfl
  refine (zSwg_t (t := 112) rfl).trans (zif_ct (fun _ => ?_) (fun _ => ?_))
  · refine (zr_iconst (n := 1) (by decide +kernel)).trans ?_
    exact zr_zret (a := (1)) (by decide +kernel) rfl
  refine (zSwg_t (t := 114) rfl).trans (zif_ct (fun _ => ?_) (fun _ => ?_))
  · refine (zr_iconst (n := 0) (by decide +kernel)).trans ?_
    exact zr_zret (a := (0)) (by decide +kernel) rfl
  refine (zSwg_t (t := 114) rfl).trans (zif_ct (fun _ => ?_) (fun _ => ?_))
  · refine (zr_iconst (n := 0) (by decide +kernel)).trans ?_
    exact zr_zret (a := (0)) (by decide +kernel) rfl
  refine (zSwg_t (t := 114) rfl).trans (zif_ct (fun _ => ?_) (fun _ => ?_))
  · refine (zr_iconst (n := 0) (by decide +kernel)).trans ?_
    exact zr_zret (a := (0)) (by decide +kernel) rfl
  refine (zSwg_t (t := 112) rfl).trans (zif_ct (fun _ => ?_) (fun _ => ?_))
  · refine (zr_iconst (n := 1) (by decide +kernel)).trans ?_
    exact zr_zret (a := (1)) (by decide +kernel) rfl
  refine (zSwg_t (t := 114) rfl).trans (zif_ct (fun _ => ?_) (fun _ => ?_))
  · refine (zr_iconst (n := 0) (by decide +kernel)).trans ?_
    exact zr_zret (a := (0)) (by decide +kernel) rfl
  refine (zSwg_t (t := 114) rfl).trans (zif_ct (fun _ => ?_) (fun _ => ?_))
  · refine (zr_iconst (n := 0) (by decide +kernel)).trans ?_
    exact zr_zret (a := (0)) (by decide +kernel) rfl
  refine (zSwg_t (t := 114) rfl).trans (zif_ct (fun _ => ?_) (fun _ => ?_))
  · refine (zr_iconst (n := 0) (by decide +kernel)).trans ?_
    exact zr_zret (a := (0)) (by decide +kernel) rfl
  refine (zSwg_t (t := 112) rfl).trans (zif_ct (fun _ => ?_) (fun _ => ?_))
  · refine (zr_iconst (n := 1) (by decide +kernel)).trans ?_
    exact zr_zret (a := (1)) (by decide +kernel) rfl
  refine (zSwg_t (t := 114) rfl).trans (zif_ct (fun _ => ?_) (fun _ => ?_))
  · refine (zr_iconst (n := 0) (by decide +kernel)).trans ?_
    exact zr_zret (a := (0)) (by decide +kernel) rfl
  refine (zSwg_t (t := 114) rfl).trans (zif_ct (fun _ => ?_) (fun _ => ?_))
  · refine (zr_iconst (n := 0) (by decide +kernel)).trans ?_
    exact zr_zret (a := (0)) (by decide +kernel) rfl
  refine (zSwg_t (t := 114) rfl).trans (zif_ct (fun _ => ?_) (fun _ => ?_))
  · refine (zr_iconst (n := 0) (by decide +kernel)).trans ?_
    exact zr_zret (a := (0)) (by decide +kernel) rfl
  refine (zSwg_t (t := 114) rfl).trans (zif_ct (fun _ => ?_) (fun _ => ?_))
  · refine (zr_iconst (n := 0) (by decide +kernel)).trans ?_
    exact zr_zret (a := (0)) (by decide +kernel) rfl
  refine (zSwg_t (t := 114) rfl).trans (zif_ct (fun _ => ?_) (fun _ => ?_))
  · refine (zr_iconst (n := 0) (by decide +kernel)).trans ?_
    exact zr_zret (a := (0)) (by decide +kernel) rfl
  refine (zSwg_t (t := 114) rfl).trans (zif_ct (fun _ => ?_) (fun _ => ?_))
  · refine (zr_iconst (n := 0) (by decide +kernel)).trans ?_
    exact zr_zret (a := (0)) (by decide +kernel) rfl
  refine (zSwg_t (t := 114) rfl).trans (zif_ct (fun _ => ?_) (fun _ => ?_))
  · refine (zr_iconst (n := 0) (by decide +kernel)).trans ?_
    exact zr_zret (a := (0)) (by decide +kernel) rfl
  refine (zSwg_t (t := 112) rfl).trans (zif_ct (fun _ => ?_) (fun _ => ?_))
  · refine (zr_iconst (n := 1) (by decide +kernel)).trans ?_
    exact zr_zret (a := (1)) (by decide +kernel) rfl
  refine (zSwg_td (t := 114) rfl).trans ?_
  refine (zr_iconst (n := 0) (by decide +kernel)).trans ?_
  exact zr_zret (a := (0)) (by decide +kernel) rfl
/-! PartSongDesk$Corrections isFor (II)Z -/
theorem ze_7_0 {V : zVt} {J : zJt} {d : Nat → Nat → UInt64} (x1 : Int) (x2 : Int) : zGo false 7 0 [.ref 3, .int (zi x1), .int (zi x2)] [] (zm V J d) =
    (if qw x1 ≠ 0 then (if qw x2 = qw (3) then zGo false 7 29 [.ref 3, .int (zi x1), .int (zi x2)] [] (zm V J d) else (if qw x1 ≠ qw (3) then zGo false 7 33 [.ref 3, .int (zi x1), .int (zi x2)] [] (zm V J d) else (if qw x2 ≠ qw (4) then zGo false 7 33 [.ref 3, .int (zi x1), .int (zi x2)] [] (zm V J d) else zGo false 7 29 [.ref 3, .int (zi x1), .int (zi x2)] [] (zm V J d)))) else (if qw x2 ≠ 0 then zGo false 7 13 [.ref 3, .int (zi x1), .int (zi x2)] [.int (zi (0))] (zm V J d) else zGo false 7 13 [.ref 3, .int (zi x1), .int (zi x2)] [.int (zi (1))] (zm V J d))) := by
  refine (zr_iload_n (n := 1) (x := zi x1) (by decide +kernel) rfl).trans ?_
  refine (zr_ifne (off := 13) (a := x1) (t := 14) (by decide +kernel) rfl).trans (zif_ct (fun _ => ?_) (fun _ => ?_))
  · refine (zr_iload_n (n := 2) (x := zi x2) (by decide +kernel) rfl).trans ?_
    refine (zr_iconst (n := 3) (by decide +kernel)).trans ?_
    refine (zr_ceq (off := 13) (a := x2) (b := (3)) (t := 29) (by decide +kernel) rfl).trans (zif_ct (fun _ => ?_) (fun _ => ?_))
    · rfl
    · refine (zr_iload_n (n := 1) (x := zi x1) (by decide +kernel) rfl).trans ?_
      refine (zr_iconst (n := 3) (by decide +kernel)).trans ?_
      refine (zr_cne (off := 12) (a := x1) (b := (3)) (t := 33) (by decide +kernel) rfl).trans (zif_ct (fun _ => ?_) (fun _ => ?_))
      · rfl
      · refine (zr_iload_n (n := 2) (x := zi x2) (by decide +kernel) rfl).trans ?_
        refine (zr_iconst (n := 4) (by decide +kernel)).trans ?_
        refine (zr_cne (off := 7) (a := x2) (b := (4)) (t := 33) (by decide +kernel) rfl).trans (zif_ct (fun _ => ?_) (fun _ => ?_))
        · rfl
        · rfl
  · refine (zr_iload_n (n := 2) (x := zi x2) (by decide +kernel) rfl).trans ?_
    refine (zr_ifne (off := 7) (a := x2) (t := 12) (by decide +kernel) rfl).trans (zif_ct (fun _ => ?_) (fun _ => ?_))
    · refine (zr_iconst (n := 0) (by decide +kernel)).trans ?_
      rfl
    · refine (zr_iconst (n := 1) (by decide +kernel)).trans ?_
      refine (zr_goto (off := 4) (t := 13) (by decide +kernel) rfl).trans ?_
      rfl
theorem ze_7_13 {V : zVt} {J : zJt} {d : Nat → Nat → UInt64} (x1 : Int) (x2 : Int) (s0 : Int) : zGo false 7 13 [.ref 3, .int (zi x1), .int (zi x2)] [.int (zi s0)] (zm V J d) =
    zck (qw s0 = 0 ∨ qw s0 = 1) (some (.inl (some (.int (zi s0))), zm V J d)) := by
  exact zr_zret (a := s0) (by decide +kernel) rfl
theorem ze_7_29 {V : zVt} {J : zJt} {d : Nat → Nat → UInt64} (x1 : Int) (x2 : Int) : zGo false 7 29 [.ref 3, .int (zi x1), .int (zi x2)] [] (zm V J d) =
    zGo false 7 34 [.ref 3, .int (zi x1), .int (zi x2)] [.int (zi (1))] (zm V J d) := by
  refine (zr_iconst (n := 1) (by decide +kernel)).trans ?_
  refine (zr_goto (off := 4) (t := 34) (by decide +kernel) rfl).trans ?_
  rfl
theorem ze_7_33 {V : zVt} {J : zJt} {d : Nat → Nat → UInt64} (x1 : Int) (x2 : Int) : zGo false 7 33 [.ref 3, .int (zi x1), .int (zi x2)] [] (zm V J d) =
    zGo false 7 34 [.ref 3, .int (zi x1), .int (zi x2)] [.int (zi (0))] (zm V J d) := by
  refine (zr_iconst (n := 0) (by decide +kernel)).trans ?_
  rfl
theorem ze_7_34 {V : zVt} {J : zJt} {d : Nat → Nat → UInt64} (x1 : Int) (x2 : Int) (s0 : Int) : zGo false 7 34 [.ref 3, .int (zi x1), .int (zi x2)] [.int (zi s0)] (zm V J d) =
    zck (qw s0 = 0 ∨ qw s0 = 1) (some (.inl (some (.int (zi s0))), zm V J d)) := by
  exact zr_zret (a := s0) (by decide +kernel) rfl
/-! PartSongDesk$Corrections add (III)I -/
theorem ze_8_0 {V : zVt} {J : zJt} {d : Nat → Nat → UInt64} (x1 : Int) (x2 : Int) (x3 : Int) : zGo false 8 0 [.ref 3, .int (zi x1), .int (zi x2), .int (zi x3)] [] (zm V J d) =
    (if qw (V 3 0) < qw (200) then zck (0 ≤ qw (V 3 0) ∧ qw (V 3 0) < (200 : Nat)) (zck (0 ≤ qw ((vup V 4 (qw (V 3 0)) x1) 3 0) ∧ qw ((vup V 4 (qw (V 3 0)) x1) 3 0) < (200 : Nat)) (zck (0 ≤ qw ((vup (vup V 4 (qw (V 3 0)) x1) 5 (qw ((vup V 4 (qw (V 3 0)) x1) 3 0)) x2) 3 0) ∧ qw ((vup (vup V 4 (qw (V 3 0)) x1) 5 (qw ((vup V 4 (qw (V 3 0)) x1) 3 0)) x2) 3 0) < (200 : Nat)) (some (.inl (some (.int (zi (((vup (vup (vup (vup V 4 (qw (V 3 0)) x1) 5 (qw ((vup V 4 (qw (V 3 0)) x1) 3 0)) x2) 6 (qw ((vup (vup V 4 (qw (V 3 0)) x1) 5 (qw ((vup V 4 (qw (V 3 0)) x1) 3 0)) x2) 3 0)) x3) 3 0 (((vup (vup (vup V 4 (qw (V 3 0)) x1) 5 (qw ((vup V 4 (qw (V 3 0)) x1) 3 0)) x2) 6 (qw ((vup (vup V 4 (qw (V 3 0)) x1) 5 (qw ((vup V 4 (qw (V 3 0)) x1) 3 0)) x2) 3 0)) x3) 3 0) + (1))) 3 0) - (1))))), zm (vup (vup (vup (vup V 4 (qw (V 3 0)) x1) 5 (qw ((vup V 4 (qw (V 3 0)) x1) 3 0)) x2) 6 (qw ((vup (vup V 4 (qw (V 3 0)) x1) 5 (qw ((vup V 4 (qw (V 3 0)) x1) 3 0)) x2) 3 0)) x3) 3 0 (((vup (vup (vup V 4 (qw (V 3 0)) x1) 5 (qw ((vup V 4 (qw (V 3 0)) x1) 3 0)) x2) 6 (qw ((vup (vup V 4 (qw (V 3 0)) x1) 5 (qw ((vup V 4 (qw (V 3 0)) x1) 3 0)) x2) 3 0)) x3) 3 0) + (1))) J d)))) else some (.inl (some (.int (zi (-1)))), zm V J d)) := by
  refine (zr_aload_n (n := 0) (x := 3) (by decide +kernel) rfl).trans ?_
  refine (zr_getI (i := 25) (c := 1) (k := 0) (by decide +kernel) (by decide +kernel) rfl (by decide +kernel)).trans ?_
  refine (zr_sipush (n := 200) (by decide +kernel) rfl).trans ?_
  refine (zr_clt (off := 5) (a := (V 3 0)) (b := (200)) (t := 12) (by decide +kernel) rfl).trans (zif_ct (fun _ => ?_) (fun _ => ?_))
  · refine (zr_aload_n (n := 0) (x := 3) (by decide +kernel) rfl).trans ?_
    refine (zr_getR (i := 9) (c := 1) (k := 1) (r := 4) (by decide +kernel) (by decide +kernel) rfl (by decide +kernel) (zR0_f (o := 3) (c := 1) (n := 0) (k := 1) (j := 1) rfl (by decide) rfl)).trans ?_
    refine (zr_aload_n (n := 0) (x := 3) (by decide +kernel) rfl).trans ?_
    refine (zr_getI (i := 25) (c := 1) (k := 0) (by decide +kernel) (by decide +kernel) rfl (by decide +kernel)).trans ?_
    refine (zr_iload_n (n := 1) (x := zi x1) (by decide +kernel) rfl).trans ?_
    refine (zr_iast (n := 200) (e := (V 3 0)) (x := x1) (by decide +kernel) rfl).trans (zck_ct fun _ => ?_)
    refine (zr_aload_n (n := 0) (x := 3) (by decide +kernel) rfl).trans ?_
    refine (zr_getR (i := 15) (c := 1) (k := 2) (r := 5) (by decide +kernel) (by decide +kernel) rfl (by decide +kernel) (zR0_f (o := 3) (c := 1) (n := 0) (k := 2) (j := 2) rfl (by decide) rfl)).trans ?_
    refine (zr_aload_n (n := 0) (x := 3) (by decide +kernel) rfl).trans ?_
    refine (zr_getI (i := 25) (c := 1) (k := 0) (by decide +kernel) (by decide +kernel) rfl (by decide +kernel)).trans ?_
    refine (zr_iload_n (n := 2) (x := zi x2) (by decide +kernel) rfl).trans ?_
    refine (zr_iast (n := 200) (e := ((vup V 4 (qw (V 3 0)) x1) 3 0)) (x := x2) (by decide +kernel) rfl).trans (zck_ct fun _ => ?_)
    refine (zr_aload_n (n := 0) (x := 3) (by decide +kernel) rfl).trans ?_
    refine (zr_getR (i := 18) (c := 1) (k := 3) (r := 6) (by decide +kernel) (by decide +kernel) rfl (by decide +kernel) (zR0_f (o := 3) (c := 1) (n := 0) (k := 3) (j := 3) rfl (by decide) rfl)).trans ?_
    refine (zr_aload_n (n := 0) (x := 3) (by decide +kernel) rfl).trans ?_
    refine (zr_getI (i := 25) (c := 1) (k := 0) (by decide +kernel) (by decide +kernel) rfl (by decide +kernel)).trans ?_
    refine (zr_iload_n (n := 3) (x := zi x3) (by decide +kernel) rfl).trans ?_
    refine (zr_iast (n := 200) (e := ((vup (vup V 4 (qw (V 3 0)) x1) 5 (qw ((vup V 4 (qw (V 3 0)) x1) 3 0)) x2) 3 0)) (x := x3) (by decide +kernel) rfl).trans (zck_ct fun _ => ?_)
    refine (zr_aload_n (n := 0) (x := 3) (by decide +kernel) rfl).trans ?_
    refine (zr_dup (by decide +kernel) rfl).trans ?_
    refine (zr_getI (i := 25) (c := 1) (k := 0) (by decide +kernel) (by decide +kernel) rfl (by decide +kernel)).trans ?_
    refine (zr_iconst (n := 1) (by decide +kernel)).trans ?_
    refine (zr_iadd (a := ((vup (vup (vup V 4 (qw (V 3 0)) x1) 5 (qw ((vup V 4 (qw (V 3 0)) x1) 3 0)) x2) 6 (qw ((vup (vup V 4 (qw (V 3 0)) x1) 5 (qw ((vup V 4 (qw (V 3 0)) x1) 3 0)) x2) 3 0)) x3) 3 0)) (b := (1)) (by decide +kernel)).trans ?_
    refine (zr_putI (i := 25) (c := 1) (k := 0) (x := (((vup (vup (vup V 4 (qw (V 3 0)) x1) 5 (qw ((vup V 4 (qw (V 3 0)) x1) 3 0)) x2) 6 (qw ((vup (vup V 4 (qw (V 3 0)) x1) 5 (qw ((vup V 4 (qw (V 3 0)) x1) 3 0)) x2) 3 0)) x3) 3 0) + (1))) (by decide +kernel) (by decide +kernel) rfl (by decide +kernel)).trans ?_
    refine (zr_aload_n (n := 0) (x := 3) (by decide +kernel) rfl).trans ?_
    refine (zr_getI (i := 25) (c := 1) (k := 0) (by decide +kernel) (by decide +kernel) rfl (by decide +kernel)).trans ?_
    refine (zr_iconst (n := 1) (by decide +kernel)).trans ?_
    refine (zr_isub (a := ((vup (vup (vup (vup V 4 (qw (V 3 0)) x1) 5 (qw ((vup V 4 (qw (V 3 0)) x1) 3 0)) x2) 6 (qw ((vup (vup V 4 (qw (V 3 0)) x1) 5 (qw ((vup V 4 (qw (V 3 0)) x1) 3 0)) x2) 3 0)) x3) 3 0 (((vup (vup (vup V 4 (qw (V 3 0)) x1) 5 (qw ((vup V 4 (qw (V 3 0)) x1) 3 0)) x2) 6 (qw ((vup (vup V 4 (qw (V 3 0)) x1) 5 (qw ((vup V 4 (qw (V 3 0)) x1) 3 0)) x2) 3 0)) x3) 3 0) + (1))) 3 0)) (b := (1)) (by decide +kernel)).trans ?_
    exact zr_iret (a := (((vup (vup (vup (vup V 4 (qw (V 3 0)) x1) 5 (qw ((vup V 4 (qw (V 3 0)) x1) 3 0)) x2) 6 (qw ((vup (vup V 4 (qw (V 3 0)) x1) 5 (qw ((vup V 4 (qw (V 3 0)) x1) 3 0)) x2) 3 0)) x3) 3 0 (((vup (vup (vup V 4 (qw (V 3 0)) x1) 5 (qw ((vup V 4 (qw (V 3 0)) x1) 3 0)) x2) 6 (qw ((vup (vup V 4 (qw (V 3 0)) x1) 5 (qw ((vup V 4 (qw (V 3 0)) x1) 3 0)) x2) 3 0)) x3) 3 0) + (1))) 3 0) - (1))) (by decide +kernel) rfl
  · refine (zr_iconst (n := -1) (by decide +kernel)).trans ?_
    exact zr_iret (a := (-1)) (by decide +kernel) rfl
/-! PartSongDesk$Grammar check (LPartSongDesk$Tokens;)V -/
theorem ze_10_0 {V : zVt} {J : zJt} {d : Nat → Nat → UInt64} (x1 : Nat) (h1 : zBk 10 x1) : zGo false 10 0 [.ref 9, .ref x1, .null, .null] [] (zm V J d) =
    zGo false 10 12 [.ref 9, .ref x1, .int (zi (0)), .null] [] (zm (vup (vup V 9 2 (0)) 9 3 (-1)) J d) := by
  refine (zr_aload_n (n := 0) (x := 9) (by decide +kernel) rfl).trans ?_
  refine (zr_iconst (n := 0) (by decide +kernel)).trans ?_
  refine (zr_putI (i := 18) (c := 2) (k := 2) (x := (0)) (by decide +kernel) (by decide +kernel) rfl (by decide +kernel)).trans ?_
  refine (zr_aload_n (n := 0) (x := 9) (by decide +kernel) rfl).trans ?_
  refine (zr_iconst (n := -1) (by decide +kernel)).trans ?_
  refine (zr_putI (i := 22) (c := 2) (k := 3) (x := (-1)) (by decide +kernel) (by decide +kernel) rfl (by decide +kernel)).trans ?_
  refine (zr_iconst (n := 0) (by decide +kernel)).trans ?_
  refine (zr_istore_n (n := 2) (l1 := [.ref 9, .ref x1, .int (zi (0)), .null]) (by decide +kernel) rfl).trans ?_
  rfl
theorem ze_10_12 {V : zVt} {J : zJt} {d : Nat → Nat → UInt64} (x1 : Nat) (x2 : Int) (x3 : Value) (h1 : zBk 10 x1) : zGo false 10 12 [.ref 9, .ref x1, .int (zi x2), x3] [] (zm V J d) =
    (if qw (V x1 0) ≤ qw x2 then (if qw (3) ≤ qw (V x1 0) then (if qw (V 9 2) ≤ 0 then zGo false 10 100 [.ref 9, .ref x1, .int (zi x2), x3] [] (zm V J d) else (zGo false 87 0 [.ref x1, .int (zi (6)), .int (zi (V x1 1))] [] (zm V J d)).bind (zGor false 10 100 [.ref 9, .ref x1, .int (zi x2), x3] [])) else (zGo false 87 0 [.ref x1, .int (zi (2)), .int (zi (V x1 1))] [] (zm V J d)).bind (zGor false 10 80 [.ref 9, .ref x1, .int (zi x2), x3] [])) else (if qw (3) ≤ qw x2 then (zGo false 12 0 [.ref 9, .ref x1, .int (zi x2)] [] (zm V J d)).bind (zGor false 10 40 [.ref 9, .ref x1, .int (zi x2), x3] []) else (zGo false 11 0 [.ref 9, .ref x1, .int (zi x2), .null] [] (zm V J d)).bind (zGor false 10 31 [.ref 9, .ref x1, .int (zi x2), x3] []))) := by
  refine (zr_iload_n (n := 2) (x := zi x2) (by decide +kernel) rfl).trans ?_
  refine (zr_aload_n (n := 1) (x := x1) (by decide +kernel) rfl).trans ?_
  refine (zr_getI (i := 25) (c := 10) (k := 0) (by decide +kernel) (by decide +kernel) (zb10_0 h1) (by decide +kernel)).trans ?_
  refine (zr_cge (off := 46) (a := x2) (b := (V x1 0)) (t := 63) (by decide +kernel) rfl).trans (zif_ct (fun _ => ?_) (fun _ => ?_))
  · refine (zr_aload_n (n := 1) (x := x1) (by decide +kernel) rfl).trans ?_
    refine (zr_getI (i := 25) (c := 10) (k := 0) (by decide +kernel) (by decide +kernel) (zb10_0 h1) (by decide +kernel)).trans ?_
    refine (zr_iconst (n := 3) (by decide +kernel)).trans ?_
    refine (zr_cge (off := 15) (a := (V x1 0)) (b := (3)) (t := 83) (by decide +kernel) rfl).trans (zif_ct (fun _ => ?_) (fun _ => ?_))
    · refine (zr_aload_n (n := 0) (x := 9) (by decide +kernel) rfl).trans ?_
      refine (zr_getI (i := 18) (c := 2) (k := 2) (by decide +kernel) (by decide +kernel) rfl (by decide +kernel)).trans ?_
      refine (zr_ifle (off := 13) (a := (V 9 2)) (t := 100) (by decide +kernel) rfl).trans (zif_ct (fun _ => ?_) (fun _ => ?_))
      · rfl
      · refine (zr_aload_n (n := 1) (x := x1) (by decide +kernel) rfl).trans ?_
        refine (zr_bipush (n := 6) (by decide +kernel) rfl).trans ?_
        refine (zr_aload_n (n := 1) (x := x1) (by decide +kernel) rfl).trans ?_
        refine (zr_getI (i := 44) (c := 10) (k := 1) (by decide +kernel) (by decide +kernel) (zb10_0 h1) (by decide +kernel)).trans ?_
        exact zr_cV (i := 40) (z := 87) (w := 0) (o := x1) (t := [.int (zi (V x1 1)), .int (zi (6))]) (rest := []) (L := [.ref x1, .int (zi (6)), .int (zi (V x1 1))]) (pc1 := 100) (by decide +kernel) (by decide +kernel) (zb10_0 h1) (n := 2) (r := 0) rfl rfl rfl (by decide +kernel) rfl rfl
    · refine (zr_aload_n (n := 1) (x := x1) (by decide +kernel) rfl).trans ?_
      refine (zr_iconst (n := 2) (by decide +kernel)).trans ?_
      refine (zr_aload_n (n := 1) (x := x1) (by decide +kernel) rfl).trans ?_
      refine (zr_getI (i := 44) (c := 10) (k := 1) (by decide +kernel) (by decide +kernel) (zb10_0 h1) (by decide +kernel)).trans ?_
      exact zr_cV (i := 40) (z := 87) (w := 0) (o := x1) (t := [.int (zi (V x1 1)), .int (zi (2))]) (rest := []) (L := [.ref x1, .int (zi (2)), .int (zi (V x1 1))]) (pc1 := 80) (by decide +kernel) (by decide +kernel) (zb10_0 h1) (n := 2) (r := 0) rfl rfl rfl (by decide +kernel) rfl rfl
  · refine (zr_iload_n (n := 2) (x := zi x2) (by decide +kernel) rfl).trans ?_
    refine (zr_iconst (n := 3) (by decide +kernel)).trans ?_
    refine (zr_cge (off := 12) (a := x2) (b := (3)) (t := 34) (by decide +kernel) rfl).trans (zif_ct (fun _ => ?_) (fun _ => ?_))
    · refine (zr_aload_n (n := 0) (x := 9) (by decide +kernel) rfl).trans ?_
      refine (zr_aload_n (n := 1) (x := x1) (by decide +kernel) rfl).trans ?_
      refine (zr_iload_n (n := 2) (x := zi x2) (by decide +kernel) rfl).trans ?_
      exact zr_cV (i := 34) (z := 12) (w := 0) (o := 9) (t := [.int (zi x2), .ref x1]) (rest := []) (L := [.ref 9, .ref x1, .int (zi x2)]) (pc1 := 40) (by decide +kernel) (by decide +kernel) rfl (n := 2) (r := 0) rfl rfl rfl (by decide +kernel) rfl rfl
    · refine (zr_aload_n (n := 0) (x := 9) (by decide +kernel) rfl).trans ?_
      refine (zr_aload_n (n := 1) (x := x1) (by decide +kernel) rfl).trans ?_
      refine (zr_iload_n (n := 2) (x := zi x2) (by decide +kernel) rfl).trans ?_
      exact zr_cV (i := 30) (z := 11) (w := 0) (o := 9) (t := [.int (zi x2), .ref x1]) (rest := []) (L := [.ref 9, .ref x1, .int (zi x2), .null]) (pc1 := 31) (by decide +kernel) (by decide +kernel) rfl (n := 2) (r := 0) rfl rfl rfl (by decide +kernel) rfl rfl
theorem ze_10_31 {V : zVt} {J : zJt} {d : Nat → Nat → UInt64} (x1 : Nat) (x2 : Int) (x3 : Value) (s0 : Int) (h1 : zBk 10 x1) : zGo false 10 31 [.ref 9, .ref x1, .int (zi x2), x3] [.int (zi s0)] (zm V J d) =
    zGo false 10 40 [.ref 9, .ref x1, .int (zi x2), x3] [.int (zi s0)] (zm V J d) := by
  refine (zr_goto (off := 9) (t := 40) (by decide +kernel) rfl).trans ?_
  rfl
theorem ze_10_40 {V : zVt} {J : zJt} {d : Nat → Nat → UInt64} (x1 : Nat) (x2 : Int) (x3 : Value) (s0 : Int) (h1 : zBk 10 x1) : zGo false 10 40 [.ref 9, .ref x1, .int (zi x2), x3] [.int (zi s0)] (zm V J d) =
    (if qw s0 = 0 then zGo false 10 12 [.ref 9, .ref x1, .int (zi (x2 + 1)), .int (zi s0)] [] (zm V J d) else zck (0 ≤ qw x2 ∧ qw x2 < (60 : Nat)) ((zGo false 87 0 [.ref x1, .int (zi s0), .int (zi (V (x1 + 2) (qw x2)))] [] (zm V J d)).bind (zGor false 10 56 [.ref 9, .ref x1, .int (zi x2), .int (zi s0)] []))) := by
  refine (zr_istore_n (n := 3) (l1 := [.ref 9, .ref x1, .int (zi x2), .int (zi s0)]) (by decide +kernel) rfl).trans ?_
  refine (zr_iload_n (n := 3) (x := zi s0) (by decide +kernel) rfl).trans ?_
  refine (zr_ifeq (off := 15) (a := s0) (t := 57) (by decide +kernel) rfl).trans (zif_ct (fun _ => ?_) (fun _ => ?_))
  · refine (zr_iinc (n := 2) (k := 1) (x := x2) (l1 := [.ref 9, .ref x1, .int (zi (x2 + 1)), .int (zi s0)]) (by decide +kernel) rfl rfl).trans ?_
    refine (zr_goto (off := -48) (t := 12) (by decide +kernel) rfl).trans ?_
    rfl
  · refine (zr_aload_n (n := 1) (x := x1) (by decide +kernel) rfl).trans ?_
    refine (zr_iload_n (n := 3) (x := zi s0) (by decide +kernel) rfl).trans ?_
    refine (zr_aload_n (n := 1) (x := x1) (by decide +kernel) rfl).trans ?_
    refine (zr_getR (i := 37) (c := 10) (k := 5) (r := (x1 + 2)) (by decide +kernel) (by decide +kernel) (zb10_0 h1) (by decide +kernel) (zR0_f (o := x1) (c := 10) (n := 0) (k := 5) (j := 2) (zb10_0 h1) (by decide) rfl)).trans ?_
    refine (zr_iload_n (n := 2) (x := zi x2) (by decide +kernel) rfl).trans ?_
    refine (zr_iald (n := 60) (e := x2) (by decide +kernel) (zb10_2 h1)).trans (zck_ct fun _ => ?_)
    exact zr_cV (i := 40) (z := 87) (w := 0) (o := x1) (t := [.int (zi (V (x1 + 2) (qw x2))), .int (zi s0)]) (rest := []) (L := [.ref x1, .int (zi s0), .int (zi (V (x1 + 2) (qw x2)))]) (pc1 := 56) (by decide +kernel) (by decide +kernel) (zb10_0 h1) (n := 2) (r := 0) rfl rfl rfl (by decide +kernel) rfl rfl
theorem ze_10_56 {V : zVt} {J : zJt} {d : Nat → Nat → UInt64} (x1 : Nat) (x2 : Int) (x3 : Int) (h1 : zBk 10 x1) : zGo false 10 56 [.ref 9, .ref x1, .int (zi x2), .int (zi x3)] [] (zm V J d) =
    some (.inl none, zm V J d) := by
  exact zr_vret (by decide +kernel) rfl
theorem ze_10_80 {V : zVt} {J : zJt} {d : Nat → Nat → UInt64} (x1 : Nat) (x2 : Int) (x3 : Value) (h1 : zBk 10 x1) : zGo false 10 80 [.ref 9, .ref x1, .int (zi x2), x3] [] (zm V J d) =
    zGo false 10 100 [.ref 9, .ref x1, .int (zi x2), x3] [] (zm V J d) := by
  refine (zr_goto (off := 20) (t := 100) (by decide +kernel) rfl).trans ?_
  rfl
theorem ze_10_100 {V : zVt} {J : zJt} {d : Nat → Nat → UInt64} (x1 : Nat) (x2 : Int) (x3 : Value) (h1 : zBk 10 x1) : zGo false 10 100 [.ref 9, .ref x1, .int (zi x2), x3] [] (zm V J d) =
    some (.inl none, zm V J d) := by
  exact zr_vret (by decide +kernel) rfl
/-! PartSongDesk$Grammar headerFault (LPartSongDesk$Tokens;I)I -/
theorem ze_11_0 {V : zVt} {J : zJt} {d : Nat → Nat → UInt64} (x1 : Nat) (x2 : Int) (h1 : zBk 10 x1) : zGo false 11 0 [.ref 9, .ref x1, .int (zi x2), .null] [] (zm V J d) =
    (if qw x2 ≠ 0 then (if qw x2 ≠ qw (1) then zGo false 11 18 [.ref 9, .ref x1, .int (zi x2), .null] [.int (zi (2))] (zm V J d) else zGo false 11 18 [.ref 9, .ref x1, .int (zi x2), .null] [.int (zi (1))] (zm V J d)) else zGo false 11 18 [.ref 9, .ref x1, .int (zi x2), .null] [.int (zi (0))] (zm V J d)) := by
  refine (zr_iload_n (n := 2) (x := zi x2) (by decide +kernel) rfl).trans ?_
  refine (zr_ifne (off := 7) (a := x2) (t := 8) (by decide +kernel) rfl).trans (zif_ct (fun _ => ?_) (fun _ => ?_))
  · refine (zr_iload_n (n := 2) (x := zi x2) (by decide +kernel) rfl).trans ?_
    refine (zr_iconst (n := 1) (by decide +kernel)).trans ?_
    refine (zr_cne (off := 7) (a := x2) (b := (1)) (t := 17) (by decide +kernel) rfl).trans (zif_ct (fun _ => ?_) (fun _ => ?_))
    · refine (zr_iconst (n := 2) (by decide +kernel)).trans ?_
      rfl
    · refine (zr_iconst (n := 1) (by decide +kernel)).trans ?_
      refine (zr_goto (off := 4) (t := 18) (by decide +kernel) rfl).trans ?_
      rfl
  · refine (zr_iconst (n := 0) (by decide +kernel)).trans ?_
    refine (zr_goto (off := 13) (t := 18) (by decide +kernel) rfl).trans ?_
    rfl
theorem ze_11_18 {V : zVt} {J : zJt} {d : Nat → Nat → UInt64} (x1 : Nat) (x2 : Int) (s0 : Int) (h1 : zBk 10 x1) : zGo false 11 18 [.ref 9, .ref x1, .int (zi x2), .null] [.int (zi s0)] (zm V J d) =
    zck (0 ≤ qw x2 ∧ qw x2 < (60 : Nat)) ((if qw (V (x1 + 1) (qw x2)) ≠ qw s0 then zGo false 11 34 [.ref 9, .ref x1, .int (zi x2), .int (zi s0)] [.int (zi (2))] (zm V J d) else zGo false 11 34 [.ref 9, .ref x1, .int (zi x2), .int (zi s0)] [.int (zi (0))] (zm V J d))) := by
  refine (zr_istore_n (n := 3) (l1 := [.ref 9, .ref x1, .int (zi x2), .int (zi s0)]) (by decide +kernel) rfl).trans ?_
  refine (zr_aload_n (n := 1) (x := x1) (by decide +kernel) rfl).trans ?_
  refine (zr_getR (i := 47) (c := 10) (k := 4) (r := (x1 + 1)) (by decide +kernel) (by decide +kernel) (zb10_0 h1) (by decide +kernel) (zR0_f (o := x1) (c := 10) (n := 0) (k := 4) (j := 1) (zb10_0 h1) (by decide) rfl)).trans ?_
  refine (zr_iload_n (n := 2) (x := zi x2) (by decide +kernel) rfl).trans ?_
  refine (zr_iald (n := 60) (e := x2) (by decide +kernel) (zb10_1 h1)).trans (zck_ct fun _ => ?_)
  refine (zr_iload_n (n := 3) (x := zi s0) (by decide +kernel) rfl).trans ?_
  refine (zr_cne (off := 7) (a := (V (x1 + 1) (qw x2))) (b := s0) (t := 33) (by decide +kernel) rfl).trans (zif_ct (fun _ => ?_) (fun _ => ?_))
  · refine (zr_iconst (n := 2) (by decide +kernel)).trans ?_
    rfl
  · refine (zr_iconst (n := 0) (by decide +kernel)).trans ?_
    refine (zr_goto (off := 4) (t := 34) (by decide +kernel) rfl).trans ?_
    rfl
theorem ze_11_34 {V : zVt} {J : zJt} {d : Nat → Nat → UInt64} (x1 : Nat) (x2 : Int) (x3 : Int) (s0 : Int) (h1 : zBk 10 x1) : zGo false 11 34 [.ref 9, .ref x1, .int (zi x2), .int (zi x3)] [.int (zi s0)] (zm V J d) =
    some (.inl (some (.int (zi s0))), zm V J d) := by
  exact zr_iret (a := s0) (by decide +kernel) rfl
/-! PartSongDesk$Grammar bodyFault (LPartSongDesk$Tokens;I)I -/
theorem ze_12_0 {V : zVt} {J : zJt} {d : Nat → Nat → UInt64} (x1 : Nat) (x2 : Int) (h1 : zBk 10 x1) : zGo false 12 0 [.ref 9, .ref x1, .int (zi x2)] [] (zm V J d) =
    zck (0 ≤ qw x2 ∧ qw x2 < (60 : Nat)) ((if qw (V (x1 + 1) (qw x2)) = 1 then some (.inl (some (.int (zi (3)))), zm V J d) else (if qw (V (x1 + 1) (qw x2)) = 2 then some (.inl (some (.int (zi (3)))), zm V J d) else (if qw (V (x1 + 1) (qw x2)) = 3 then (zGo false 14 0 [.ref 9] [] (zm V J d)).bind (zGor false 12 89 [.ref 9, .ref x1, .int (zi x2)] []) else (if qw (V (x1 + 1) (qw x2)) = 4 then (zGo false 14 0 [.ref 9] [] (zm V J d)).bind (zGor false 12 89 [.ref 9, .ref x1, .int (zi x2)] []) else (if qw (V (x1 + 1) (qw x2)) = 5 then (zGo false 14 0 [.ref 9] [] (zm V J d)).bind (zGor false 12 89 [.ref 9, .ref x1, .int (zi x2)] []) else (if qw (V (x1 + 1) (qw x2)) = 6 then (zGo false 13 0 [.ref 9, .int (zi x2)] [] (zm V J d)).bind (zGor false 12 63 [.ref 9, .ref x1, .int (zi x2)] []) else (if qw (V (x1 + 1) (qw x2)) = 7 then (zGo false 15 0 [.ref 9, .ref x1, .int (zi x2)] [] (zm V J d)).bind (zGor false 12 70 [.ref 9, .ref x1, .int (zi x2)] []) else (if qw (V (x1 + 1) (qw x2)) = 8 then (zGo false 16 0 [.ref 9, .ref x1, .int (zi x2)] [] (zm V J d)).bind (zGor false 12 77 [.ref 9, .ref x1, .int (zi x2)] []) else (if qw (V (x1 + 1) (qw x2)) = 9 then (zGo false 17 0 [.ref 9, .ref x1, .int (zi x2)] [] (zm V J d)).bind (zGor false 12 84 [.ref 9, .ref x1, .int (zi x2)] []) else (zGo false 14 0 [.ref 9] [] (zm V J d)).bind (zGor false 12 89 [.ref 9, .ref x1, .int (zi x2)] []))))))))))) := by
  refine (zr_aload_n (n := 1) (x := x1) (by decide +kernel) rfl).trans ?_
  refine (zr_getR (i := 47) (c := 10) (k := 4) (r := (x1 + 1)) (by decide +kernel) (by decide +kernel) (zb10_0 h1) (by decide +kernel) (zR0_f (o := x1) (c := 10) (n := 0) (k := 4) (j := 1) (zb10_0 h1) (by decide) rfl)).trans ?_
  refine (zr_iload_n (n := 2) (x := zi x2) (by decide +kernel) rfl).trans ?_
  refine (zr_iald (n := 60) (e := x2) (by decide +kernel) (zb10_1 h1)).trans (zck_ct fun _ => ?_)
  refine (zr_tsw (dflt := 79) (lo := 1) (hi := 9) (offs := #[50, 50, 79, 79, 79, 52, 58, 65, 72]) (len := 50) (a := (V (x1 + 1) (qw x2))) (by decide +kernel) rfl).trans ?_
  refine (zSwg_t (t := 56) rfl).trans (zif_ct (fun _ => ?_) (fun _ => ?_))
  · refine (zr_iconst (n := 3) (by decide +kernel)).trans ?_
    exact zr_iret (a := (3)) (by decide +kernel) rfl
  refine (zSwg_t (t := 56) rfl).trans (zif_ct (fun _ => ?_) (fun _ => ?_))
  · refine (zr_iconst (n := 3) (by decide +kernel)).trans ?_
    exact zr_iret (a := (3)) (by decide +kernel) rfl
  refine (zSwg_t (t := 85) rfl).trans (zif_ct (fun _ => ?_) (fun _ => ?_))
  · refine (zr_aload_n (n := 0) (x := 9) (by decide +kernel) rfl).trans ?_
    exact zr_cV (i := 63) (z := 14) (w := 0) (o := 9) (t := []) (rest := []) (L := [.ref 9]) (pc1 := 89) (by decide +kernel) (by decide +kernel) rfl (n := 0) (r := 0) rfl rfl rfl (by decide +kernel) rfl rfl
  refine (zSwg_t (t := 85) rfl).trans (zif_ct (fun _ => ?_) (fun _ => ?_))
  · refine (zr_aload_n (n := 0) (x := 9) (by decide +kernel) rfl).trans ?_
    exact zr_cV (i := 63) (z := 14) (w := 0) (o := 9) (t := []) (rest := []) (L := [.ref 9]) (pc1 := 89) (by decide +kernel) (by decide +kernel) rfl (n := 0) (r := 0) rfl rfl rfl (by decide +kernel) rfl rfl
  refine (zSwg_t (t := 85) rfl).trans (zif_ct (fun _ => ?_) (fun _ => ?_))
  · refine (zr_aload_n (n := 0) (x := 9) (by decide +kernel) rfl).trans ?_
    exact zr_cV (i := 63) (z := 14) (w := 0) (o := 9) (t := []) (rest := []) (L := [.ref 9]) (pc1 := 89) (by decide +kernel) (by decide +kernel) rfl (n := 0) (r := 0) rfl rfl rfl (by decide +kernel) rfl rfl
  refine (zSwg_t (t := 58) rfl).trans (zif_ct (fun _ => ?_) (fun _ => ?_))
  · refine (zr_aload_n (n := 0) (x := 9) (by decide +kernel) rfl).trans ?_
    refine (zr_iload_n (n := 2) (x := zi x2) (by decide +kernel) rfl).trans ?_
    exact zr_cV (i := 50) (z := 13) (w := 0) (o := 9) (t := [.int (zi x2)]) (rest := []) (L := [.ref 9, .int (zi x2)]) (pc1 := 63) (by decide +kernel) (by decide +kernel) rfl (n := 1) (r := 0) rfl rfl rfl (by decide +kernel) rfl rfl
  refine (zSwg_t (t := 64) rfl).trans (zif_ct (fun _ => ?_) (fun _ => ?_))
  · refine (zr_aload_n (n := 0) (x := 9) (by decide +kernel) rfl).trans ?_
    refine (zr_aload_n (n := 1) (x := x1) (by decide +kernel) rfl).trans ?_
    refine (zr_iload_n (n := 2) (x := zi x2) (by decide +kernel) rfl).trans ?_
    exact zr_cV (i := 54) (z := 15) (w := 0) (o := 9) (t := [.int (zi x2), .ref x1]) (rest := []) (L := [.ref 9, .ref x1, .int (zi x2)]) (pc1 := 70) (by decide +kernel) (by decide +kernel) rfl (n := 2) (r := 0) rfl rfl rfl (by decide +kernel) rfl rfl
  refine (zSwg_t (t := 71) rfl).trans (zif_ct (fun _ => ?_) (fun _ => ?_))
  · refine (zr_aload_n (n := 0) (x := 9) (by decide +kernel) rfl).trans ?_
    refine (zr_aload_n (n := 1) (x := x1) (by decide +kernel) rfl).trans ?_
    refine (zr_iload_n (n := 2) (x := zi x2) (by decide +kernel) rfl).trans ?_
    exact zr_cV (i := 57) (z := 16) (w := 0) (o := 9) (t := [.int (zi x2), .ref x1]) (rest := []) (L := [.ref 9, .ref x1, .int (zi x2)]) (pc1 := 77) (by decide +kernel) (by decide +kernel) rfl (n := 2) (r := 0) rfl rfl rfl (by decide +kernel) rfl rfl
  refine (zSwg_t (t := 78) rfl).trans (zif_ct (fun _ => ?_) (fun _ => ?_))
  · refine (zr_aload_n (n := 0) (x := 9) (by decide +kernel) rfl).trans ?_
    refine (zr_aload_n (n := 1) (x := x1) (by decide +kernel) rfl).trans ?_
    refine (zr_iload_n (n := 2) (x := zi x2) (by decide +kernel) rfl).trans ?_
    exact zr_cV (i := 60) (z := 17) (w := 0) (o := 9) (t := [.int (zi x2), .ref x1]) (rest := []) (L := [.ref 9, .ref x1, .int (zi x2)]) (pc1 := 84) (by decide +kernel) (by decide +kernel) rfl (n := 2) (r := 0) rfl rfl rfl (by decide +kernel) rfl rfl
  refine (zSwg_td (t := 85) rfl).trans ?_
  refine (zr_aload_n (n := 0) (x := 9) (by decide +kernel) rfl).trans ?_
  exact zr_cV (i := 63) (z := 14) (w := 0) (o := 9) (t := []) (rest := []) (L := [.ref 9]) (pc1 := 89) (by decide +kernel) (by decide +kernel) rfl (n := 0) (r := 0) rfl rfl rfl (by decide +kernel) rfl rfl
theorem ze_12_63 {V : zVt} {J : zJt} {d : Nat → Nat → UInt64} (x1 : Nat) (x2 : Int) (s0 : Int) (h1 : zBk 10 x1) : zGo false 12 63 [.ref 9, .ref x1, .int (zi x2)] [.int (zi s0)] (zm V J d) =
    some (.inl (some (.int (zi s0))), zm V J d) := by
  exact zr_iret (a := s0) (by decide +kernel) rfl
theorem ze_12_70 {V : zVt} {J : zJt} {d : Nat → Nat → UInt64} (x1 : Nat) (x2 : Int) (s0 : Int) (h1 : zBk 10 x1) : zGo false 12 70 [.ref 9, .ref x1, .int (zi x2)] [.int (zi s0)] (zm V J d) =
    some (.inl (some (.int (zi s0))), zm V J d) := by
  exact zr_iret (a := s0) (by decide +kernel) rfl
theorem ze_12_77 {V : zVt} {J : zJt} {d : Nat → Nat → UInt64} (x1 : Nat) (x2 : Int) (s0 : Int) (h1 : zBk 10 x1) : zGo false 12 77 [.ref 9, .ref x1, .int (zi x2)] [.int (zi s0)] (zm V J d) =
    some (.inl (some (.int (zi s0))), zm V J d) := by
  exact zr_iret (a := s0) (by decide +kernel) rfl
theorem ze_12_84 {V : zVt} {J : zJt} {d : Nat → Nat → UInt64} (x1 : Nat) (x2 : Int) (s0 : Int) (h1 : zBk 10 x1) : zGo false 12 84 [.ref 9, .ref x1, .int (zi x2)] [.int (zi s0)] (zm V J d) =
    some (.inl (some (.int (zi s0))), zm V J d) := by
  exact zr_iret (a := s0) (by decide +kernel) rfl
theorem ze_12_89 {V : zVt} {J : zJt} {d : Nat → Nat → UInt64} (x1 : Nat) (x2 : Int) (s0 : Int) (h1 : zBk 10 x1) : zGo false 12 89 [.ref 9, .ref x1, .int (zi x2)] [.int (zi s0)] (zm V J d) =
    (if qw s0 = 0 then zGo false 12 97 [.ref 9, .ref x1, .int (zi x2)] [.int (zi (0))] (zm V J d) else zGo false 12 97 [.ref 9, .ref x1, .int (zi x2)] [.int (zi (3))] (zm V J d)) := by
  refine (zr_ifeq (off := 7) (a := s0) (t := 96) (by decide +kernel) rfl).trans (zif_ct (fun _ => ?_) (fun _ => ?_))
  · refine (zr_iconst (n := 0) (by decide +kernel)).trans ?_
    rfl
  · refine (zr_iconst (n := 3) (by decide +kernel)).trans ?_
    refine (zr_goto (off := 4) (t := 97) (by decide +kernel) rfl).trans ?_
    rfl
theorem ze_12_97 {V : zVt} {J : zJt} {d : Nat → Nat → UInt64} (x1 : Nat) (x2 : Int) (s0 : Int) (h1 : zBk 10 x1) : zGo false 12 97 [.ref 9, .ref x1, .int (zi x2)] [.int (zi s0)] (zm V J d) =
    some (.inl (some (.int (zi s0))), zm V J d) := by
  exact zr_iret (a := s0) (by decide +kernel) rfl
/-! PartSongDesk$Grammar openRepeat (I)I -/
theorem ze_13_0 {V : zVt} {J : zJt} {d : Nat → Nat → UInt64} (x1 : Int) : zGo false 13 0 [.ref 9, .int (zi x1)] [] (zm V J d) =
    (if qw (V 9 3) ≠ qw (-1) then zGo false 13 15 [.ref 9, .int (zi x1)] [] (zm V J d) else (zGo false 14 0 [.ref 9] [] (zm V J d)).bind (zGor false 13 12 [.ref 9, .int (zi x1)] [])) := by
  refine (zr_aload_n (n := 0) (x := 9) (by decide +kernel) rfl).trans ?_
  refine (zr_getI (i := 22) (c := 2) (k := 3) (by decide +kernel) (by decide +kernel) rfl (by decide +kernel)).trans ?_
  refine (zr_iconst (n := -1) (by decide +kernel)).trans ?_
  refine (zr_cne (off := 10) (a := (V 9 3)) (b := (-1)) (t := 15) (by decide +kernel) rfl).trans (zif_ct (fun _ => ?_) (fun _ => ?_))
  · rfl
  · refine (zr_aload_n (n := 0) (x := 9) (by decide +kernel) rfl).trans ?_
    exact zr_cV (i := 63) (z := 14) (w := 0) (o := 9) (t := []) (rest := []) (L := [.ref 9]) (pc1 := 12) (by decide +kernel) (by decide +kernel) rfl (n := 0) (r := 0) rfl rfl rfl (by decide +kernel) rfl rfl
theorem ze_13_12 {V : zVt} {J : zJt} {d : Nat → Nat → UInt64} (x1 : Int) (s0 : Int) : zGo false 13 12 [.ref 9, .int (zi x1)] [.int (zi s0)] (zm V J d) =
    (if qw s0 = 0 then (if qw (V 9 2) < qw (3) then zck (0 ≤ qw (V 9 2) ∧ qw (V 9 2) < (3 : Nat)) (zck (0 ≤ qw ((vup V 10 (qw (V 9 2)) x1) 9 2) ∧ qw ((vup V 10 (qw (V 9 2)) x1) 9 2) < (3 : Nat)) (some (.inl (some (.int (zi (0)))), zm (vup (vup (vup V 10 (qw (V 9 2)) x1) 11 (qw ((vup V 10 (qw (V 9 2)) x1) 9 2)) (0)) 9 2 (((vup (vup V 10 (qw (V 9 2)) x1) 11 (qw ((vup V 10 (qw (V 9 2)) x1) 9 2)) (0)) 9 2) + (1))) J d))) else some (.inl (some (.int (zi (4)))), zm V J d)) else zGo false 13 15 [.ref 9, .int (zi x1)] [] (zm V J d)) := by
  refine (zr_ifeq (off := 5) (a := s0) (t := 17) (by decide +kernel) rfl).trans (zif_ct (fun _ => ?_) (fun _ => ?_))
  · refine (zr_aload_n (n := 0) (x := 9) (by decide +kernel) rfl).trans ?_
    refine (zr_getI (i := 18) (c := 2) (k := 2) (by decide +kernel) (by decide +kernel) rfl (by decide +kernel)).trans ?_
    refine (zr_iconst (n := 3) (by decide +kernel)).trans ?_
    refine (zr_clt (off := 5) (a := (V 9 2)) (b := (3)) (t := 27) (by decide +kernel) rfl).trans (zif_ct (fun _ => ?_) (fun _ => ?_))
    · refine (zr_aload_n (n := 0) (x := 9) (by decide +kernel) rfl).trans ?_
      refine (zr_getR (i := 11) (c := 2) (k := 0) (r := 10) (by decide +kernel) (by decide +kernel) rfl (by decide +kernel) (zR0_f (o := 9) (c := 2) (n := 0) (k := 0) (j := 1) rfl (by decide) rfl)).trans ?_
      refine (zr_aload_n (n := 0) (x := 9) (by decide +kernel) rfl).trans ?_
      refine (zr_getI (i := 18) (c := 2) (k := 2) (by decide +kernel) (by decide +kernel) rfl (by decide +kernel)).trans ?_
      refine (zr_iload_n (n := 1) (x := zi x1) (by decide +kernel) rfl).trans ?_
      refine (zr_iast (n := 3) (e := (V 9 2)) (x := x1) (by decide +kernel) rfl).trans (zck_ct fun _ => ?_)
      refine (zr_aload_n (n := 0) (x := 9) (by decide +kernel) rfl).trans ?_
      refine (zr_getR (i := 15) (c := 2) (k := 1) (r := 11) (by decide +kernel) (by decide +kernel) rfl (by decide +kernel) (zR0_f (o := 9) (c := 2) (n := 0) (k := 1) (j := 2) rfl (by decide) rfl)).trans ?_
      refine (zr_aload_n (n := 0) (x := 9) (by decide +kernel) rfl).trans ?_
      refine (zr_getI (i := 18) (c := 2) (k := 2) (by decide +kernel) (by decide +kernel) rfl (by decide +kernel)).trans ?_
      refine (zr_iconst (n := 0) (by decide +kernel)).trans ?_
      refine (zr_iast (n := 3) (e := ((vup V 10 (qw (V 9 2)) x1) 9 2)) (x := (0)) (by decide +kernel) rfl).trans (zck_ct fun _ => ?_)
      refine (zr_aload_n (n := 0) (x := 9) (by decide +kernel) rfl).trans ?_
      refine (zr_dup (by decide +kernel) rfl).trans ?_
      refine (zr_getI (i := 18) (c := 2) (k := 2) (by decide +kernel) (by decide +kernel) rfl (by decide +kernel)).trans ?_
      refine (zr_iconst (n := 1) (by decide +kernel)).trans ?_
      refine (zr_iadd (a := ((vup (vup V 10 (qw (V 9 2)) x1) 11 (qw ((vup V 10 (qw (V 9 2)) x1) 9 2)) (0)) 9 2)) (b := (1)) (by decide +kernel)).trans ?_
      refine (zr_putI (i := 18) (c := 2) (k := 2) (x := (((vup (vup V 10 (qw (V 9 2)) x1) 11 (qw ((vup V 10 (qw (V 9 2)) x1) 9 2)) (0)) 9 2) + (1))) (by decide +kernel) (by decide +kernel) rfl (by decide +kernel)).trans ?_
      refine (zr_iconst (n := 0) (by decide +kernel)).trans ?_
      exact zr_iret (a := (0)) (by decide +kernel) rfl
    · refine (zr_iconst (n := 4) (by decide +kernel)).trans ?_
      exact zr_iret (a := (4)) (by decide +kernel) rfl
  · rfl
theorem ze_13_15 {V : zVt} {J : zJt} {d : Nat → Nat → UInt64} (x1 : Int) : zGo false 13 15 [.ref 9, .int (zi x1)] [] (zm V J d) =
    some (.inl (some (.int (zi (3)))), zm V J d) := by
  refine (zr_iconst (n := 3) (by decide +kernel)).trans ?_
  exact zr_iret (a := (3)) (by decide +kernel) rfl
/-! PartSongDesk$Grammar isBehindEnding ()Z -/
theorem ze_14_0 {V : zVt} {J : zJt} {d : Nat → Nat → UInt64} : zGo false 14 0 [.ref 9] [] (zm V J d) =
    (if qw (V 9 2) ≤ 0 then zGo false 14 33 [.ref 9] [] (zm V J d) else (if qw (V 9 3) ≠ qw (-1) then zGo false 14 33 [.ref 9] [] (zm V J d) else zck (0 ≤ qw ((V 9 2) - (1)) ∧ qw ((V 9 2) - (1)) < (3 : Nat)) ((if qw (V 11 (qw ((V 9 2) - (1)))) ≤ 0 then zGo false 14 33 [.ref 9] [] (zm V J d) else zGo false 14 34 [.ref 9] [.int (zi (1))] (zm V J d))))) := by
  refine (zr_aload_n (n := 0) (x := 9) (by decide +kernel) rfl).trans ?_
  refine (zr_getI (i := 18) (c := 2) (k := 2) (by decide +kernel) (by decide +kernel) rfl (by decide +kernel)).trans ?_
  refine (zr_ifle (off := 29) (a := (V 9 2)) (t := 33) (by decide +kernel) rfl).trans (zif_ct (fun _ => ?_) (fun _ => ?_))
  · rfl
  · refine (zr_aload_n (n := 0) (x := 9) (by decide +kernel) rfl).trans ?_
    refine (zr_getI (i := 22) (c := 2) (k := 3) (by decide +kernel) (by decide +kernel) rfl (by decide +kernel)).trans ?_
    refine (zr_iconst (n := -1) (by decide +kernel)).trans ?_
    refine (zr_cne (off := 21) (a := (V 9 3)) (b := (-1)) (t := 33) (by decide +kernel) rfl).trans (zif_ct (fun _ => ?_) (fun _ => ?_))
    · rfl
    · refine (zr_aload_n (n := 0) (x := 9) (by decide +kernel) rfl).trans ?_
      refine (zr_getR (i := 15) (c := 2) (k := 1) (r := 11) (by decide +kernel) (by decide +kernel) rfl (by decide +kernel) (zR0_f (o := 9) (c := 2) (n := 0) (k := 1) (j := 2) rfl (by decide) rfl)).trans ?_
      refine (zr_aload_n (n := 0) (x := 9) (by decide +kernel) rfl).trans ?_
      refine (zr_getI (i := 18) (c := 2) (k := 2) (by decide +kernel) (by decide +kernel) rfl (by decide +kernel)).trans ?_
      refine (zr_iconst (n := 1) (by decide +kernel)).trans ?_
      refine (zr_isub (a := (V 9 2)) (b := (1)) (by decide +kernel)).trans ?_
      refine (zr_iald (n := 3) (e := ((V 9 2) - (1))) (by decide +kernel) rfl).trans (zck_ct fun _ => ?_)
      refine (zr_ifle (off := 7) (a := (V 11 (qw ((V 9 2) - (1))))) (t := 33) (by decide +kernel) rfl).trans (zif_ct (fun _ => ?_) (fun _ => ?_))
      · rfl
      · refine (zr_iconst (n := 1) (by decide +kernel)).trans ?_
        refine (zr_goto (off := 4) (t := 34) (by decide +kernel) rfl).trans ?_
        rfl
theorem ze_14_33 {V : zVt} {J : zJt} {d : Nat → Nat → UInt64} : zGo false 14 33 [.ref 9] [] (zm V J d) =
    zGo false 14 34 [.ref 9] [.int (zi (0))] (zm V J d) := by
  refine (zr_iconst (n := 0) (by decide +kernel)).trans ?_
  rfl
theorem ze_14_34 {V : zVt} {J : zJt} {d : Nat → Nat → UInt64} (s0 : Int) : zGo false 14 34 [.ref 9] [.int (zi s0)] (zm V J d) =
    zck (qw s0 = 0 ∨ qw s0 = 1) (some (.inl (some (.int (zi s0))), zm V J d)) := by
  exact zr_zret (a := s0) (by decide +kernel) rfl
/-! PartSongDesk$Grammar closeRepeat (LPartSongDesk$Tokens;I)I -/
theorem ze_15_0 {V : zVt} {J : zJt} {d : Nat → Nat → UInt64} (x1 : Nat) (x2 : Int) (h1 : zBk 10 x1) : zGo false 15 0 [.ref 9, .ref x1, .int (zi x2)] [] (zm V J d) =
    (if qw (V 9 2) = 0 then zGo false 15 15 [.ref 9, .ref x1, .int (zi x2)] [] (zm V J d) else (if qw (V 9 3) = qw (-1) then zck (0 ≤ qw ((V 9 2) - (1)) ∧ qw ((V 9 2) - (1)) < (3 : Nat)) ((if qw (V 11 (qw ((V 9 2) - (1)))) ≤ 0 then zGo false 15 53 [.ref 9, .ref x1, .int (zi x2)] [] (zm V J d) else zck (0 ≤ qw ((V 9 2) - (1)) ∧ qw ((V 9 2) - (1)) < (3 : Nat)) (zck (0 ≤ qw x2 ∧ qw x2 < (60 : Nat)) ((if qw (V 11 (qw ((V 9 2) - (1)))) = qw (V (x1 + 3) (qw x2)) then zGo false 15 53 [.ref 9, .ref x1, .int (zi x2)] [] (zm V J d) else some (.inl (some (.int (zi (5)))), zm V J d)))))) else zGo false 15 15 [.ref 9, .ref x1, .int (zi x2)] [] (zm V J d))) := by
  refine (zr_aload_n (n := 0) (x := 9) (by decide +kernel) rfl).trans ?_
  refine (zr_getI (i := 18) (c := 2) (k := 2) (by decide +kernel) (by decide +kernel) rfl (by decide +kernel)).trans ?_
  refine (zr_ifeq (off := 11) (a := (V 9 2)) (t := 15) (by decide +kernel) rfl).trans (zif_ct (fun _ => ?_) (fun _ => ?_))
  · rfl
  · refine (zr_aload_n (n := 0) (x := 9) (by decide +kernel) rfl).trans ?_
    refine (zr_getI (i := 22) (c := 2) (k := 3) (by decide +kernel) (by decide +kernel) rfl (by decide +kernel)).trans ?_
    refine (zr_iconst (n := -1) (by decide +kernel)).trans ?_
    refine (zr_ceq (off := 5) (a := (V 9 3)) (b := (-1)) (t := 17) (by decide +kernel) rfl).trans (zif_ct (fun _ => ?_) (fun _ => ?_))
    · refine (zr_aload_n (n := 0) (x := 9) (by decide +kernel) rfl).trans ?_
      refine (zr_getR (i := 15) (c := 2) (k := 1) (r := 11) (by decide +kernel) (by decide +kernel) rfl (by decide +kernel) (zR0_f (o := 9) (c := 2) (n := 0) (k := 1) (j := 2) rfl (by decide) rfl)).trans ?_
      refine (zr_aload_n (n := 0) (x := 9) (by decide +kernel) rfl).trans ?_
      refine (zr_getI (i := 18) (c := 2) (k := 2) (by decide +kernel) (by decide +kernel) rfl (by decide +kernel)).trans ?_
      refine (zr_iconst (n := 1) (by decide +kernel)).trans ?_
      refine (zr_isub (a := (V 9 2)) (b := (1)) (by decide +kernel)).trans ?_
      refine (zr_iald (n := 3) (e := ((V 9 2) - (1))) (by decide +kernel) rfl).trans (zck_ct fun _ => ?_)
      refine (zr_ifle (off := 25) (a := (V 11 (qw ((V 9 2) - (1))))) (t := 53) (by decide +kernel) rfl).trans (zif_ct (fun _ => ?_) (fun _ => ?_))
      · rfl
      · refine (zr_aload_n (n := 0) (x := 9) (by decide +kernel) rfl).trans ?_
        refine (zr_getR (i := 15) (c := 2) (k := 1) (r := 11) (by decide +kernel) (by decide +kernel) rfl (by decide +kernel) (zR0_f (o := 9) (c := 2) (n := 0) (k := 1) (j := 2) rfl (by decide) rfl)).trans ?_
        refine (zr_aload_n (n := 0) (x := 9) (by decide +kernel) rfl).trans ?_
        refine (zr_getI (i := 18) (c := 2) (k := 2) (by decide +kernel) (by decide +kernel) rfl (by decide +kernel)).trans ?_
        refine (zr_iconst (n := 1) (by decide +kernel)).trans ?_
        refine (zr_isub (a := (V 9 2)) (b := (1)) (by decide +kernel)).trans ?_
        refine (zr_iald (n := 3) (e := ((V 9 2) - (1))) (by decide +kernel) rfl).trans (zck_ct fun _ => ?_)
        refine (zr_aload_n (n := 1) (x := x1) (by decide +kernel) rfl).trans ?_
        refine (zr_getR (i := 67) (c := 10) (k := 6) (r := (x1 + 3)) (by decide +kernel) (by decide +kernel) (zb10_0 h1) (by decide +kernel) (zR0_f (o := x1) (c := 10) (n := 0) (k := 6) (j := 3) (zb10_0 h1) (by decide) rfl)).trans ?_
        refine (zr_iload_n (n := 2) (x := zi x2) (by decide +kernel) rfl).trans ?_
        refine (zr_iald (n := 60) (e := x2) (by decide +kernel) (zb10_3 h1)).trans (zck_ct fun _ => ?_)
        refine (zr_ceq (off := 5) (a := (V 11 (qw ((V 9 2) - (1))))) (b := (V (x1 + 3) (qw x2))) (t := 53) (by decide +kernel) rfl).trans (zif_ct (fun _ => ?_) (fun _ => ?_))
        · rfl
        · refine (zr_iconst (n := 5) (by decide +kernel)).trans ?_
          exact zr_iret (a := (5)) (by decide +kernel) rfl
    · rfl
theorem ze_15_15 {V : zVt} {J : zJt} {d : Nat → Nat → UInt64} (x1 : Nat) (x2 : Int) (h1 : zBk 10 x1) : zGo false 15 15 [.ref 9, .ref x1, .int (zi x2)] [] (zm V J d) =
    some (.inl (some (.int (zi (3)))), zm V J d) := by
  refine (zr_iconst (n := 3) (by decide +kernel)).trans ?_
  exact zr_iret (a := (3)) (by decide +kernel) rfl
theorem ze_15_53 {V : zVt} {J : zJt} {d : Nat → Nat → UInt64} (x1 : Nat) (x2 : Int) (h1 : zBk 10 x1) : zGo false 15 53 [.ref 9, .ref x1, .int (zi x2)] [] (zm V J d) =
    zck (0 ≤ qw ((vup V 9 2 ((V 9 2) - (1))) 9 2) ∧ qw ((vup V 9 2 ((V 9 2) - (1))) 9 2) < (3 : Nat)) (zck (0 ≤ qw x2 ∧ qw x2 < (60 : Nat)) (some (.inl (some (.int (zi (0)))), zm (vup (vup V 9 2 ((V 9 2) - (1))) (x1 + 8) (qw x2) ((vup V 9 2 ((V 9 2) - (1))) 10 (qw ((vup V 9 2 ((V 9 2) - (1))) 9 2)))) J d))) := by
  refine (zr_aload_n (n := 0) (x := 9) (by decide +kernel) rfl).trans ?_
  refine (zr_dup (by decide +kernel) rfl).trans ?_
  refine (zr_getI (i := 18) (c := 2) (k := 2) (by decide +kernel) (by decide +kernel) rfl (by decide +kernel)).trans ?_
  refine (zr_iconst (n := 1) (by decide +kernel)).trans ?_
  refine (zr_isub (a := (V 9 2)) (b := (1)) (by decide +kernel)).trans ?_
  refine (zr_putI (i := 18) (c := 2) (k := 2) (x := ((V 9 2) - (1))) (by decide +kernel) (by decide +kernel) rfl (by decide +kernel)).trans ?_
  refine (zr_aload_n (n := 1) (x := x1) (by decide +kernel) rfl).trans ?_
  refine (zr_getR (i := 70) (c := 10) (k := 11) (r := (x1 + 8)) (by decide +kernel) (by decide +kernel) (zb10_0 h1) (by decide +kernel) (zR0_f (o := x1) (c := 10) (n := 0) (k := 11) (j := 8) (zb10_0 h1) (by decide) rfl)).trans ?_
  refine (zr_iload_n (n := 2) (x := zi x2) (by decide +kernel) rfl).trans ?_
  refine (zr_aload_n (n := 0) (x := 9) (by decide +kernel) rfl).trans ?_
  refine (zr_getR (i := 11) (c := 2) (k := 0) (r := 10) (by decide +kernel) (by decide +kernel) rfl (by decide +kernel) (zR0_f (o := 9) (c := 2) (n := 0) (k := 0) (j := 1) rfl (by decide) rfl)).trans ?_
  refine (zr_aload_n (n := 0) (x := 9) (by decide +kernel) rfl).trans ?_
  refine (zr_getI (i := 18) (c := 2) (k := 2) (by decide +kernel) (by decide +kernel) rfl (by decide +kernel)).trans ?_
  refine (zr_iald (n := 3) (e := ((vup V 9 2 ((V 9 2) - (1))) 9 2)) (by decide +kernel) rfl).trans (zck_ct fun _ => ?_)
  refine (zr_iast (n := 60) (e := x2) (x := ((vup V 9 2 ((V 9 2) - (1))) 10 (qw ((vup V 9 2 ((V 9 2) - (1))) 9 2)))) (by decide +kernel) (zb10_8 h1)).trans (zck_ct fun _ => ?_)
  refine (zr_iconst (n := 0) (by decide +kernel)).trans ?_
  exact zr_iret (a := (0)) (by decide +kernel) rfl
/-! PartSongDesk$Grammar openEnding (LPartSongDesk$Tokens;I)I -/
theorem ze_16_0 {V : zVt} {J : zJt} {d : Nat → Nat → UInt64} (x1 : Nat) (x2 : Int) (h1 : zBk 10 x1) : zGo false 16 0 [.ref 9, .ref x1, .int (zi x2)] [] (zm V J d) =
    (if qw (V 9 2) = 0 then zGo false 16 15 [.ref 9, .ref x1, .int (zi x2)] [] (zm V J d) else (if qw (V 9 3) = qw (-1) then zck (0 ≤ qw x2 ∧ qw x2 < (60 : Nat)) (zck (0 ≤ qw ((V 9 2) - (1)) ∧ qw ((V 9 2) - (1)) < (3 : Nat)) ((if qw (V (x1 + 3) (qw x2)) = qw ((V 11 (qw ((V 9 2) - (1)))) + (1)) then zck (0 ≤ qw ((V 9 2) - (1)) ∧ qw ((V 9 2) - (1)) < (3 : Nat)) (zck (0 ≤ qw ((V 9 2) - (1)) ∧ qw ((V 9 2) - (1)) < (3 : Nat)) (some (.inl (some (.int (zi (0)))), zm (vup (vup V 11 (qw ((V 9 2) - (1))) ((V 11 (qw ((V 9 2) - (1)))) + (1))) 9 3 x2) J d))) else some (.inl (some (.int (zi (5)))), zm V J d)))) else zGo false 16 15 [.ref 9, .ref x1, .int (zi x2)] [] (zm V J d))) := by
  refine (zr_aload_n (n := 0) (x := 9) (by decide +kernel) rfl).trans ?_
  refine (zr_getI (i := 18) (c := 2) (k := 2) (by decide +kernel) (by decide +kernel) rfl (by decide +kernel)).trans ?_
  refine (zr_ifeq (off := 11) (a := (V 9 2)) (t := 15) (by decide +kernel) rfl).trans (zif_ct (fun _ => ?_) (fun _ => ?_))
  · rfl
  · refine (zr_aload_n (n := 0) (x := 9) (by decide +kernel) rfl).trans ?_
    refine (zr_getI (i := 22) (c := 2) (k := 3) (by decide +kernel) (by decide +kernel) rfl (by decide +kernel)).trans ?_
    refine (zr_iconst (n := -1) (by decide +kernel)).trans ?_
    refine (zr_ceq (off := 5) (a := (V 9 3)) (b := (-1)) (t := 17) (by decide +kernel) rfl).trans (zif_ct (fun _ => ?_) (fun _ => ?_))
    · refine (zr_aload_n (n := 1) (x := x1) (by decide +kernel) rfl).trans ?_
      refine (zr_getR (i := 67) (c := 10) (k := 6) (r := (x1 + 3)) (by decide +kernel) (by decide +kernel) (zb10_0 h1) (by decide +kernel) (zR0_f (o := x1) (c := 10) (n := 0) (k := 6) (j := 3) (zb10_0 h1) (by decide) rfl)).trans ?_
      refine (zr_iload_n (n := 2) (x := zi x2) (by decide +kernel) rfl).trans ?_
      refine (zr_iald (n := 60) (e := x2) (by decide +kernel) (zb10_3 h1)).trans (zck_ct fun _ => ?_)
      refine (zr_aload_n (n := 0) (x := 9) (by decide +kernel) rfl).trans ?_
      refine (zr_getR (i := 15) (c := 2) (k := 1) (r := 11) (by decide +kernel) (by decide +kernel) rfl (by decide +kernel) (zR0_f (o := 9) (c := 2) (n := 0) (k := 1) (j := 2) rfl (by decide) rfl)).trans ?_
      refine (zr_aload_n (n := 0) (x := 9) (by decide +kernel) rfl).trans ?_
      refine (zr_getI (i := 18) (c := 2) (k := 2) (by decide +kernel) (by decide +kernel) rfl (by decide +kernel)).trans ?_
      refine (zr_iconst (n := 1) (by decide +kernel)).trans ?_
      refine (zr_isub (a := (V 9 2)) (b := (1)) (by decide +kernel)).trans ?_
      refine (zr_iald (n := 3) (e := ((V 9 2) - (1))) (by decide +kernel) rfl).trans (zck_ct fun _ => ?_)
      refine (zr_iconst (n := 1) (by decide +kernel)).trans ?_
      refine (zr_iadd (a := (V 11 (qw ((V 9 2) - (1))))) (b := (1)) (by decide +kernel)).trans ?_
      refine (zr_ceq (off := 5) (a := (V (x1 + 3) (qw x2))) (b := ((V 11 (qw ((V 9 2) - (1)))) + (1))) (t := 41) (by decide +kernel) rfl).trans (zif_ct (fun _ => ?_) (fun _ => ?_))
      · refine (zr_aload_n (n := 0) (x := 9) (by decide +kernel) rfl).trans ?_
        refine (zr_getR (i := 15) (c := 2) (k := 1) (r := 11) (by decide +kernel) (by decide +kernel) rfl (by decide +kernel) (zR0_f (o := 9) (c := 2) (n := 0) (k := 1) (j := 2) rfl (by decide) rfl)).trans ?_
        refine (zr_aload_n (n := 0) (x := 9) (by decide +kernel) rfl).trans ?_
        refine (zr_getI (i := 18) (c := 2) (k := 2) (by decide +kernel) (by decide +kernel) rfl (by decide +kernel)).trans ?_
        refine (zr_iconst (n := 1) (by decide +kernel)).trans ?_
        refine (zr_isub (a := (V 9 2)) (b := (1)) (by decide +kernel)).trans ?_
        refine (zr_dup2 (by decide +kernel) rfl rfl).trans ?_
        refine (zr_iald (n := 3) (e := ((V 9 2) - (1))) (by decide +kernel) rfl).trans (zck_ct fun _ => ?_)
        refine (zr_iconst (n := 1) (by decide +kernel)).trans ?_
        refine (zr_iadd (a := (V 11 (qw ((V 9 2) - (1))))) (b := (1)) (by decide +kernel)).trans ?_
        refine (zr_iast (n := 3) (e := ((V 9 2) - (1))) (x := ((V 11 (qw ((V 9 2) - (1)))) + (1))) (by decide +kernel) rfl).trans (zck_ct fun _ => ?_)
        refine (zr_aload_n (n := 0) (x := 9) (by decide +kernel) rfl).trans ?_
        refine (zr_iload_n (n := 2) (x := zi x2) (by decide +kernel) rfl).trans ?_
        refine (zr_putI (i := 22) (c := 2) (k := 3) (x := x2) (by decide +kernel) (by decide +kernel) rfl (by decide +kernel)).trans ?_
        refine (zr_iconst (n := 0) (by decide +kernel)).trans ?_
        exact zr_iret (a := (0)) (by decide +kernel) rfl
      · refine (zr_iconst (n := 5) (by decide +kernel)).trans ?_
        exact zr_iret (a := (5)) (by decide +kernel) rfl
    · rfl
theorem ze_16_15 {V : zVt} {J : zJt} {d : Nat → Nat → UInt64} (x1 : Nat) (x2 : Int) (h1 : zBk 10 x1) : zGo false 16 15 [.ref 9, .ref x1, .int (zi x2)] [] (zm V J d) =
    some (.inl (some (.int (zi (3)))), zm V J d) := by
  refine (zr_iconst (n := 3) (by decide +kernel)).trans ?_
  exact zr_iret (a := (3)) (by decide +kernel) rfl
/-! PartSongDesk$Grammar closeEnding (LPartSongDesk$Tokens;I)I -/
theorem ze_17_0 {V : zVt} {J : zJt} {d : Nat → Nat → UInt64} (x1 : Nat) (x2 : Int) (h1 : zBk 10 x1) : zGo false 17 0 [.ref 9, .ref x1, .int (zi x2)] [] (zm V J d) =
    (zGo false 86 0 [.ref x1, .int (zi (V 9 3))] [] (zm V J d)).bind (zGor false 17 8 [.ref 9, .ref x1, .int (zi x2)] []) := by
  refine (zr_aload_n (n := 1) (x := x1) (by decide +kernel) rfl).trans ?_
  refine (zr_aload_n (n := 0) (x := 9) (by decide +kernel) rfl).trans ?_
  refine (zr_getI (i := 22) (c := 2) (k := 3) (by decide +kernel) (by decide +kernel) rfl (by decide +kernel)).trans ?_
  exact zr_cV (i := 73) (z := 86) (w := 0) (o := x1) (t := [.int (zi (V 9 3))]) (rest := []) (L := [.ref x1, .int (zi (V 9 3))]) (pc1 := 8) (by decide +kernel) (by decide +kernel) (zb10_0 h1) (n := 1) (r := 0) rfl rfl rfl (by decide +kernel) rfl rfl
theorem ze_17_8 {V : zVt} {J : zJt} {d : Nat → Nat → UInt64} (x1 : Nat) (x2 : Int) (s0 : Int) (h1 : zBk 10 x1) : zGo false 17 8 [.ref 9, .ref x1, .int (zi x2)] [.int (zi s0)] (zm V J d) =
    (if qw s0 ≠ 0 then zck (0 ≤ qw (V 9 3) ∧ qw (V 9 3) < (60 : Nat)) (some (.inl (some (.int (zi (0)))), zm (vup (vup V (x1 + 8) (qw (V 9 3)) x2) 9 3 (-1)) J d)) else some (.inl (some (.int (zi (3)))), zm V J d)) := by
  refine (zr_ifne (off := 5) (a := s0) (t := 13) (by decide +kernel) rfl).trans (zif_ct (fun _ => ?_) (fun _ => ?_))
  · refine (zr_aload_n (n := 1) (x := x1) (by decide +kernel) rfl).trans ?_
    refine (zr_getR (i := 70) (c := 10) (k := 11) (r := (x1 + 8)) (by decide +kernel) (by decide +kernel) (zb10_0 h1) (by decide +kernel) (zR0_f (o := x1) (c := 10) (n := 0) (k := 11) (j := 8) (zb10_0 h1) (by decide) rfl)).trans ?_
    refine (zr_aload_n (n := 0) (x := 9) (by decide +kernel) rfl).trans ?_
    refine (zr_getI (i := 22) (c := 2) (k := 3) (by decide +kernel) (by decide +kernel) rfl (by decide +kernel)).trans ?_
    refine (zr_iload_n (n := 2) (x := zi x2) (by decide +kernel) rfl).trans ?_
    refine (zr_iast (n := 60) (e := (V 9 3)) (x := x2) (by decide +kernel) (zb10_8 h1)).trans (zck_ct fun _ => ?_)
    refine (zr_aload_n (n := 0) (x := 9) (by decide +kernel) rfl).trans ?_
    refine (zr_iconst (n := -1) (by decide +kernel)).trans ?_
    refine (zr_putI (i := 22) (c := 2) (k := 3) (x := (-1)) (by decide +kernel) (by decide +kernel) rfl (by decide +kernel)).trans ?_
    refine (zr_iconst (n := 0) (by decide +kernel)).trans ?_
    exact zr_iret (a := (0)) (by decide +kernel) rfl
  · refine (zr_iconst (n := 3) (by decide +kernel)).trans ?_
    exact zr_iret (a := (3)) (by decide +kernel) rfl
/-! PartSongDesk$Learning learn (IILPartSongDesk$Music;I)V -/
theorem ze_19_0 {V : zVt} {J : zJt} {d : Nat → Nat → UInt64} (x1 : Int) (x2 : Int) (x3 : Nat) (x4 : Int) (h3 : zBk 5 x3) : zGo false 19 0 [.ref 46, .int (zi x1), .int (zi x2), .ref x3, .int (zi x4), .null] [] (zm V J d) =
    (zGo false 20 0 [.ref 46, .int (zi x1), .int (zi x2), .int (zi x4)] [] (zm V J d)).bind (zGor false 19 8 [.ref 46, .int (zi x1), .int (zi x2), .ref x3, .int (zi x4), .null] []) := by
  refine (zr_aload_n (n := 0) (x := 46) (by decide +kernel) rfl).trans ?_
  refine (zr_iload_n (n := 1) (x := zi x1) (by decide +kernel) rfl).trans ?_
  refine (zr_iload_n (n := 2) (x := zi x2) (by decide +kernel) rfl).trans ?_
  refine (zr_iload (n := 4) (x := zi x4) (by decide +kernel) rfl).trans ?_
  exact zr_cV (i := 22) (z := 20) (w := 0) (o := 46) (t := [.int (zi x4), .int (zi x2), .int (zi x1)]) (rest := []) (L := [.ref 46, .int (zi x1), .int (zi x2), .int (zi x4)]) (pc1 := 8) (by decide +kernel) (by decide +kernel) rfl (n := 3) (r := 0) rfl rfl rfl (by decide +kernel) rfl rfl
theorem ze_19_8 {V : zVt} {J : zJt} {d : Nat → Nat → UInt64} (x1 : Int) (x2 : Int) (x3 : Nat) (x4 : Int) (s0 : Int) (h3 : zBk 5 x3) : zGo false 19 8 [.ref 46, .int (zi x1), .int (zi x2), .ref x3, .int (zi x4), .null] [.int (zi s0)] (zm V J d) =
    (zGo false 21 0 [.ref 46, .int (zi x1), .int (zi x2), .ref x3, .int (zi x4), .null] [] (zm V J d)).bind (zGor false 19 25 [.ref 46, .int (zi x1), .int (zi x2), .ref x3, .int (zi x4), .int (zi s0)] [.int (zi s0), .ref 47]) := by
  refine (zr_istore (n := 5) (l1 := [.ref 46, .int (zi x1), .int (zi x2), .ref x3, .int (zi x4), .int (zi s0)]) (by decide +kernel) rfl).trans ?_
  refine (zr_aload_n (n := 0) (x := 46) (by decide +kernel) rfl).trans ?_
  refine (zr_getR (i := 9) (c := 3) (k := 0) (r := 47) (by decide +kernel) (by decide +kernel) rfl (by decide +kernel) (zR0_f (o := 46) (c := 3) (n := 0) (k := 0) (j := 1) rfl (by decide) rfl)).trans ?_
  refine (zr_iload (n := 5) (x := zi s0) (by decide +kernel) rfl).trans ?_
  refine (zr_aload_n (n := 0) (x := 46) (by decide +kernel) rfl).trans ?_
  refine (zr_iload_n (n := 1) (x := zi x1) (by decide +kernel) rfl).trans ?_
  refine (zr_iload_n (n := 2) (x := zi x2) (by decide +kernel) rfl).trans ?_
  refine (zr_aload_n (n := 3) (x := x3) (by decide +kernel) rfl).trans ?_
  refine (zr_iload (n := 4) (x := zi x4) (by decide +kernel) rfl).trans ?_
  exact zr_cV (i := 26) (z := 21) (w := 0) (o := 46) (t := [.int (zi x4), .ref x3, .int (zi x2), .int (zi x1)]) (rest := [.int (zi s0), .ref 47]) (L := [.ref 46, .int (zi x1), .int (zi x2), .ref x3, .int (zi x4), .null]) (pc1 := 25) (by decide +kernel) (by decide +kernel) rfl (n := 4) (r := 2) rfl rfl rfl (by decide +kernel) rfl rfl
theorem ze_19_25 {V : zVt} {J : zJt} {d : Nat → Nat → UInt64} (x1 : Int) (x2 : Int) (x3 : Nat) (x4 : Int) (x5 : Int) (s1 : Int) (s2 : Int) (h3 : zBk 5 x3) : zGo false 19 25 [.ref 46, .int (zi x1), .int (zi x2), .ref x3, .int (zi x4), .int (zi x5)] [.int (zi s2), .int (zi s1), .ref 47] (zm V J d) =
    (if qw s2 = 0 then zGo false 19 41 [.ref 46, .int (zi x1), .int (zi x2), .ref x3, .int (zi x4), .int (zi x5)] [.int (zi (1)), .int (zi s1), .ref 47] (zm V J d) else zck (0 ≤ qw x5 ∧ qw x5 < (5760 : Nat)) (zGo false 19 41 [.ref 46, .int (zi x1), .int (zi x2), .ref x3, .int (zi x4), .int (zi x5)] [.int (zi ((V 47 (qw x5)) + (1))), .int (zi s1), .ref 47] (zm V J d))) := by
  refine (zr_ifeq (off := 15) (a := s2) (t := 40) (by decide +kernel) rfl).trans (zif_ct (fun _ => ?_) (fun _ => ?_))
  · refine (zr_iconst (n := 1) (by decide +kernel)).trans ?_
    rfl
  · refine (zr_aload_n (n := 0) (x := 46) (by decide +kernel) rfl).trans ?_
    refine (zr_getR (i := 9) (c := 3) (k := 0) (r := 47) (by decide +kernel) (by decide +kernel) rfl (by decide +kernel) (zR0_f (o := 46) (c := 3) (n := 0) (k := 0) (j := 1) rfl (by decide) rfl)).trans ?_
    refine (zr_iload (n := 5) (x := zi x5) (by decide +kernel) rfl).trans ?_
    refine (zr_iald (n := 5760) (e := x5) (by decide +kernel) rfl).trans (zck_ct fun _ => ?_)
    refine (zr_iconst (n := 1) (by decide +kernel)).trans ?_
    refine (zr_iadd (a := (V 47 (qw x5))) (b := (1)) (by decide +kernel)).trans ?_
    refine (zr_goto (off := 4) (t := 41) (by decide +kernel) rfl).trans ?_
    rfl
theorem ze_19_41 {V : zVt} {J : zJt} {d : Nat → Nat → UInt64} (x1 : Int) (x2 : Int) (x3 : Nat) (x4 : Int) (x5 : Int) (s1 : Int) (s2 : Int) (h3 : zBk 5 x3) : zGo false 19 41 [.ref 46, .int (zi x1), .int (zi x2), .ref x3, .int (zi x4), .int (zi x5)] [.int (zi s2), .int (zi s1), .ref 47] (zm V J d) =
    zck (0 ≤ qw s1 ∧ qw s1 < (5760 : Nat)) ((zGo false 31 0 [.ref x3, .int (zi x4)] [] (zm (vup V 47 (qw s1) s2) J d)).bind (zGor false 19 54 [.ref 46, .int (zi x1), .int (zi x2), .ref x3, .int (zi x4), .int (zi x5)] [.int (zi x5), .ref 48])) := by
  refine (zr_iast (n := 5760) (e := s1) (x := s2) (by decide +kernel) rfl).trans (zck_ct fun _ => ?_)
  refine (zr_aload_n (n := 0) (x := 46) (by decide +kernel) rfl).trans ?_
  refine (zr_getR (i := 15) (c := 3) (k := 1) (r := 48) (by decide +kernel) (by decide +kernel) rfl (by decide +kernel) (zR0_f (o := 46) (c := 3) (n := 0) (k := 1) (j := 2) rfl (by decide) rfl)).trans ?_
  refine (zr_iload (n := 5) (x := zi x5) (by decide +kernel) rfl).trans ?_
  refine (zr_aload_n (n := 3) (x := x3) (by decide +kernel) rfl).trans ?_
  refine (zr_iload (n := 4) (x := zi x4) (by decide +kernel) rfl).trans ?_
  exact zr_cV (i := 30) (z := 31) (w := 0) (o := x3) (t := [.int (zi x4)]) (rest := [.int (zi x5), .ref 48]) (L := [.ref x3, .int (zi x4)]) (pc1 := 54) (by decide +kernel) (by decide +kernel) (zb5_0 h3) (n := 1) (r := 2) rfl rfl rfl (by decide +kernel) rfl rfl
theorem ze_19_54 {V : zVt} {J : zJt} {d : Nat → Nat → UInt64} (x1 : Int) (x2 : Int) (x3 : Nat) (x4 : Int) (x5 : Int) (s1 : Int) (s2 : Int64) (h3 : zBk 5 x3) : zGo false 19 54 [.ref 46, .int (zi x1), .int (zi x2), .ref x3, .int (zi x4), .int (zi x5)] [.long s2, .int (zi s1), .ref 48] (zm V J d) =
    zck (0 ≤ qw s1 ∧ qw s1 < (5760 : Nat)) ((zGo false 32 0 [.ref x3, .int (zi x4)] [] (zm V (jup J 48 (qw s1) s2) d)).bind (zGor false 19 67 [.ref 46, .int (zi x1), .int (zi x2), .ref x3, .int (zi x4), .int (zi x5)] [.int (zi x5), .ref 49])) := by
  refine (zr_last (n := 5760) (e := s1) (by decide +kernel) rfl).trans (zck_ct fun _ => ?_)
  refine (zr_aload_n (n := 0) (x := 46) (by decide +kernel) rfl).trans ?_
  refine (zr_getR (i := 19) (c := 3) (k := 2) (r := 49) (by decide +kernel) (by decide +kernel) rfl (by decide +kernel) (zR0_f (o := 46) (c := 3) (n := 0) (k := 2) (j := 3) rfl (by decide) rfl)).trans ?_
  refine (zr_iload (n := 5) (x := zi x5) (by decide +kernel) rfl).trans ?_
  refine (zr_aload_n (n := 3) (x := x3) (by decide +kernel) rfl).trans ?_
  refine (zr_iload (n := 4) (x := zi x4) (by decide +kernel) rfl).trans ?_
  exact zr_cV (i := 36) (z := 32) (w := 0) (o := x3) (t := [.int (zi x4)]) (rest := [.int (zi x5), .ref 49]) (L := [.ref x3, .int (zi x4)]) (pc1 := 67) (by decide +kernel) (by decide +kernel) (zb5_0 h3) (n := 1) (r := 2) rfl rfl rfl (by decide +kernel) rfl rfl
theorem ze_19_67 {V : zVt} {J : zJt} {d : Nat → Nat → UInt64} (x1 : Int) (x2 : Int) (x3 : Nat) (x4 : Int) (x5 : Int) (s1 : Int) (s2 : Int64) (h3 : zBk 5 x3) : zGo false 19 67 [.ref 46, .int (zi x1), .int (zi x2), .ref x3, .int (zi x4), .int (zi x5)] [.long s2, .int (zi s1), .ref 49] (zm V J d) =
    zck (0 ≤ qw s1 ∧ qw s1 < (5760 : Nat)) (some (.inl none, zm V (jup J 49 (qw s1) s2) d)) := by
  refine (zr_last (n := 5760) (e := s1) (by decide +kernel) rfl).trans (zck_ct fun _ => ?_)
  exact zr_vret (by decide +kernel) rfl
/-! PartSongDesk$Learning indexOf (III)I -/
theorem ze_20_0 {V : zVt} {J : zJt} {d : Nat → Nat → UInt64} (x1 : Int) (x2 : Int) (x3 : Int) : zGo false 20 0 [.ref 46, .int (zi x1), .int (zi x2), .int (zi x3)] [] (zm V J d) =
    some (.inl (some (.int (zi ((((x1 * (12)) + x2) * (40)) + x3)))), zm V J d) := by
  refine (zr_iload_n (n := 1) (x := zi x1) (by decide +kernel) rfl).trans ?_
  refine (zr_bipush (n := 12) (by decide +kernel) rfl).trans ?_
  refine (zr_imul (a := x1) (b := (12)) (by decide +kernel)).trans ?_
  refine (zr_iload_n (n := 2) (x := zi x2) (by decide +kernel) rfl).trans ?_
  refine (zr_iadd (a := (x1 * (12))) (b := x2) (by decide +kernel)).trans ?_
  refine (zr_bipush (n := 40) (by decide +kernel) rfl).trans ?_
  refine (zr_imul (a := ((x1 * (12)) + x2)) (b := (40)) (by decide +kernel)).trans ?_
  refine (zr_iload_n (n := 3) (x := zi x3) (by decide +kernel) rfl).trans ?_
  refine (zr_iadd (a := (((x1 * (12)) + x2) * (40))) (b := x3) (by decide +kernel)).trans ?_
  exact zr_iret (a := ((((x1 * (12)) + x2) * (40)) + x3)) (by decide +kernel) rfl
/-! PartSongDesk$Learning knows (IILPartSongDesk$Music;I)Z -/
theorem ze_21_0 {V : zVt} {J : zJt} {d : Nat → Nat → UInt64} (x1 : Int) (x2 : Int) (x3 : Nat) (x4 : Int) (h3 : zBk 5 x3) : zGo false 21 0 [.ref 46, .int (zi x1), .int (zi x2), .ref x3, .int (zi x4), .null] [] (zm V J d) =
    (zGo false 20 0 [.ref 46, .int (zi x1), .int (zi x2), .int (zi x4)] [] (zm V J d)).bind (zGor false 21 8 [.ref 46, .int (zi x1), .int (zi x2), .ref x3, .int (zi x4), .null] []) := by
  refine (zr_aload_n (n := 0) (x := 46) (by decide +kernel) rfl).trans ?_
  refine (zr_iload_n (n := 1) (x := zi x1) (by decide +kernel) rfl).trans ?_
  refine (zr_iload_n (n := 2) (x := zi x2) (by decide +kernel) rfl).trans ?_
  refine (zr_iload (n := 4) (x := zi x4) (by decide +kernel) rfl).trans ?_
  exact zr_cV (i := 22) (z := 20) (w := 0) (o := 46) (t := [.int (zi x4), .int (zi x2), .int (zi x1)]) (rest := []) (L := [.ref 46, .int (zi x1), .int (zi x2), .int (zi x4)]) (pc1 := 8) (by decide +kernel) (by decide +kernel) rfl (n := 3) (r := 0) rfl rfl rfl (by decide +kernel) rfl rfl
theorem ze_21_8 {V : zVt} {J : zJt} {d : Nat → Nat → UInt64} (x1 : Int) (x2 : Int) (x3 : Nat) (x4 : Int) (s0 : Int) (h3 : zBk 5 x3) : zGo false 21 8 [.ref 46, .int (zi x1), .int (zi x2), .ref x3, .int (zi x4), .null] [.int (zi s0)] (zm V J d) =
    zck (0 ≤ qw s0 ∧ qw s0 < (5760 : Nat)) ((if qw (V 47 (qw s0)) ≤ 0 then zGo false 21 67 [.ref 46, .int (zi x1), .int (zi x2), .ref x3, .int (zi x4), .int (zi s0)] [] (zm V J d) else (zGo false 30 0 [.ref x3, .int (zi x4)] [] (zm V J d)).bind (zGor false 21 26 [.ref 46, .int (zi x1), .int (zi x2), .ref x3, .int (zi x4), .int (zi s0)] []))) := by
  refine (zr_istore (n := 5) (l1 := [.ref 46, .int (zi x1), .int (zi x2), .ref x3, .int (zi x4), .int (zi s0)]) (by decide +kernel) rfl).trans ?_
  refine (zr_aload_n (n := 0) (x := 46) (by decide +kernel) rfl).trans ?_
  refine (zr_getR (i := 9) (c := 3) (k := 0) (r := 47) (by decide +kernel) (by decide +kernel) rfl (by decide +kernel) (zR0_f (o := 46) (c := 3) (n := 0) (k := 0) (j := 1) rfl (by decide) rfl)).trans ?_
  refine (zr_iload (n := 5) (x := zi s0) (by decide +kernel) rfl).trans ?_
  refine (zr_iald (n := 5760) (e := s0) (by decide +kernel) rfl).trans (zck_ct fun _ => ?_)
  refine (zr_ifle (off := 50) (a := (V 47 (qw s0))) (t := 67) (by decide +kernel) rfl).trans (zif_ct (fun _ => ?_) (fun _ => ?_))
  · rfl
  · refine (zr_aload_n (n := 3) (x := x3) (by decide +kernel) rfl).trans ?_
    refine (zr_iload (n := 4) (x := zi x4) (by decide +kernel) rfl).trans ?_
    exact zr_cV (i := 39) (z := 30) (w := 0) (o := x3) (t := [.int (zi x4)]) (rest := []) (L := [.ref x3, .int (zi x4)]) (pc1 := 26) (by decide +kernel) (by decide +kernel) (zb5_0 h3) (n := 1) (r := 0) rfl rfl rfl (by decide +kernel) rfl rfl
theorem ze_21_26 {V : zVt} {J : zJt} {d : Nat → Nat → UInt64} (x1 : Int) (x2 : Int) (x3 : Nat) (x4 : Int) (x5 : Int) (s0 : Int) (h3 : zBk 5 x3) : zGo false 21 26 [.ref 46, .int (zi x1), .int (zi x2), .ref x3, .int (zi x4), .int (zi x5)] [.int (zi s0)] (zm V J d) =
    (if qw s0 = 0 then zGo false 21 67 [.ref 46, .int (zi x1), .int (zi x2), .ref x3, .int (zi x4), .int (zi x5)] [] (zm V J d) else zck (0 ≤ qw x5 ∧ qw x5 < (5760 : Nat)) ((zGo false 31 0 [.ref x3, .int (zi x4)] [] (zm V J d)).bind (zGor false 21 42 [.ref 46, .int (zi x1), .int (zi x2), .ref x3, .int (zi x4), .int (zi x5)] [.long (J 48 (qw x5))]))) := by
  refine (zr_ifeq (off := 41) (a := s0) (t := 67) (by decide +kernel) rfl).trans (zif_ct (fun _ => ?_) (fun _ => ?_))
  · rfl
  · refine (zr_aload_n (n := 0) (x := 46) (by decide +kernel) rfl).trans ?_
    refine (zr_getR (i := 15) (c := 3) (k := 1) (r := 48) (by decide +kernel) (by decide +kernel) rfl (by decide +kernel) (zR0_f (o := 46) (c := 3) (n := 0) (k := 1) (j := 2) rfl (by decide) rfl)).trans ?_
    refine (zr_iload (n := 5) (x := zi x5) (by decide +kernel) rfl).trans ?_
    refine (zr_lald (n := 5760) (e := x5) (by decide +kernel) rfl).trans (zck_ct fun _ => ?_)
    refine (zr_aload_n (n := 3) (x := x3) (by decide +kernel) rfl).trans ?_
    refine (zr_iload (n := 4) (x := zi x4) (by decide +kernel) rfl).trans ?_
    exact zr_cV (i := 30) (z := 31) (w := 0) (o := x3) (t := [.int (zi x4)]) (rest := [.long (J 48 (qw x5))]) (L := [.ref x3, .int (zi x4)]) (pc1 := 42) (by decide +kernel) (by decide +kernel) (zb5_0 h3) (n := 1) (r := 2) rfl rfl rfl (by decide +kernel) rfl rfl
theorem ze_21_42 {V : zVt} {J : zJt} {d : Nat → Nat → UInt64} (x1 : Int) (x2 : Int) (x3 : Nat) (x4 : Int) (x5 : Int) (s0 : Int64) (s1 : Int64) (h3 : zBk 5 x3) : zGo false 21 42 [.ref 46, .int (zi x1), .int (zi x2), .ref x3, .int (zi x4), .int (zi x5)] [.long s1, .long s0] (zm V J d) =
    (if qw (lg_cmp s0 s1).toInt ≠ 0 then zGo false 21 67 [.ref 46, .int (zi x1), .int (zi x2), .ref x3, .int (zi x4), .int (zi x5)] [] (zm V J d) else zck (0 ≤ qw x5 ∧ qw x5 < (5760 : Nat)) ((zGo false 32 0 [.ref x3, .int (zi x4)] [] (zm V J d)).bind (zGor false 21 59 [.ref 46, .int (zi x1), .int (zi x2), .ref x3, .int (zi x4), .int (zi x5)] [.long (J 49 (qw x5))]))) := by
  refine (zr_lcmp (by decide +kernel)).trans ?_
  refine (zr_ifne (off := 24) (a := (lg_cmp s0 s1).toInt) (t := 67) (by decide +kernel) rfl).trans (zif_ct (fun _ => ?_) (fun _ => ?_))
  · rfl
  · refine (zr_aload_n (n := 0) (x := 46) (by decide +kernel) rfl).trans ?_
    refine (zr_getR (i := 19) (c := 3) (k := 2) (r := 49) (by decide +kernel) (by decide +kernel) rfl (by decide +kernel) (zR0_f (o := 46) (c := 3) (n := 0) (k := 2) (j := 3) rfl (by decide) rfl)).trans ?_
    refine (zr_iload (n := 5) (x := zi x5) (by decide +kernel) rfl).trans ?_
    refine (zr_lald (n := 5760) (e := x5) (by decide +kernel) rfl).trans (zck_ct fun _ => ?_)
    refine (zr_aload_n (n := 3) (x := x3) (by decide +kernel) rfl).trans ?_
    refine (zr_iload (n := 4) (x := zi x4) (by decide +kernel) rfl).trans ?_
    exact zr_cV (i := 36) (z := 32) (w := 0) (o := x3) (t := [.int (zi x4)]) (rest := [.long (J 49 (qw x5))]) (L := [.ref x3, .int (zi x4)]) (pc1 := 59) (by decide +kernel) (by decide +kernel) (zb5_0 h3) (n := 1) (r := 2) rfl rfl rfl (by decide +kernel) rfl rfl
theorem ze_21_59 {V : zVt} {J : zJt} {d : Nat → Nat → UInt64} (x1 : Int) (x2 : Int) (x3 : Nat) (x4 : Int) (x5 : Int) (s0 : Int64) (s1 : Int64) (h3 : zBk 5 x3) : zGo false 21 59 [.ref 46, .int (zi x1), .int (zi x2), .ref x3, .int (zi x4), .int (zi x5)] [.long s1, .long s0] (zm V J d) =
    (if qw (lg_cmp s0 s1).toInt ≠ 0 then zGo false 21 67 [.ref 46, .int (zi x1), .int (zi x2), .ref x3, .int (zi x4), .int (zi x5)] [] (zm V J d) else zGo false 21 68 [.ref 46, .int (zi x1), .int (zi x2), .ref x3, .int (zi x4), .int (zi x5)] [.int (zi (1))] (zm V J d)) := by
  refine (zr_lcmp (by decide +kernel)).trans ?_
  refine (zr_ifne (off := 7) (a := (lg_cmp s0 s1).toInt) (t := 67) (by decide +kernel) rfl).trans (zif_ct (fun _ => ?_) (fun _ => ?_))
  · rfl
  · refine (zr_iconst (n := 1) (by decide +kernel)).trans ?_
    refine (zr_goto (off := 4) (t := 68) (by decide +kernel) rfl).trans ?_
    rfl
theorem ze_21_67 {V : zVt} {J : zJt} {d : Nat → Nat → UInt64} (x1 : Int) (x2 : Int) (x3 : Nat) (x4 : Int) (x5 : Int) (h3 : zBk 5 x3) : zGo false 21 67 [.ref 46, .int (zi x1), .int (zi x2), .ref x3, .int (zi x4), .int (zi x5)] [] (zm V J d) =
    zGo false 21 68 [.ref 46, .int (zi x1), .int (zi x2), .ref x3, .int (zi x4), .int (zi x5)] [.int (zi (0))] (zm V J d) := by
  refine (zr_iconst (n := 0) (by decide +kernel)).trans ?_
  rfl
theorem ze_21_68 {V : zVt} {J : zJt} {d : Nat → Nat → UInt64} (x1 : Int) (x2 : Int) (x3 : Nat) (x4 : Int) (x5 : Int) (s0 : Int) (h3 : zBk 5 x3) : zGo false 21 68 [.ref 46, .int (zi x1), .int (zi x2), .ref x3, .int (zi x4), .int (zi x5)] [.int (zi s0)] (zm V J d) =
    zck (qw s0 = 0 ∨ qw s0 = 1) (some (.inl (some (.int (zi s0))), zm V J d)) := by
  exact zr_zret (a := s0) (by decide +kernel) rfl
/-! PartSongDesk$Learning timesOf (III)I -/
theorem ze_22_0 {V : zVt} {J : zJt} {d : Nat → Nat → UInt64} (x1 : Int) (x2 : Int) (x3 : Int) : zGo false 22 0 [.ref 46, .int (zi x1), .int (zi x2), .int (zi x3)] [] (zm V J d) =
    (zGo false 20 0 [.ref 46, .int (zi x1), .int (zi x2), .int (zi x3)] [] (zm V J d)).bind (zGor false 22 11 [.ref 46, .int (zi x1), .int (zi x2), .int (zi x3)] [.ref 47]) := by
  refine (zr_aload_n (n := 0) (x := 46) (by decide +kernel) rfl).trans ?_
  refine (zr_getR (i := 9) (c := 3) (k := 0) (r := 47) (by decide +kernel) (by decide +kernel) rfl (by decide +kernel) (zR0_f (o := 46) (c := 3) (n := 0) (k := 0) (j := 1) rfl (by decide) rfl)).trans ?_
  refine (zr_aload_n (n := 0) (x := 46) (by decide +kernel) rfl).trans ?_
  refine (zr_iload_n (n := 1) (x := zi x1) (by decide +kernel) rfl).trans ?_
  refine (zr_iload_n (n := 2) (x := zi x2) (by decide +kernel) rfl).trans ?_
  refine (zr_iload_n (n := 3) (x := zi x3) (by decide +kernel) rfl).trans ?_
  exact zr_cV (i := 22) (z := 20) (w := 0) (o := 46) (t := [.int (zi x3), .int (zi x2), .int (zi x1)]) (rest := [.ref 47]) (L := [.ref 46, .int (zi x1), .int (zi x2), .int (zi x3)]) (pc1 := 11) (by decide +kernel) (by decide +kernel) rfl (n := 3) (r := 1) rfl rfl rfl (by decide +kernel) rfl rfl
theorem ze_22_11 {V : zVt} {J : zJt} {d : Nat → Nat → UInt64} (x1 : Int) (x2 : Int) (x3 : Int) (s1 : Int) : zGo false 22 11 [.ref 46, .int (zi x1), .int (zi x2), .int (zi x3)] [.int (zi s1), .ref 47] (zm V J d) =
    zck (0 ≤ qw s1 ∧ qw s1 < (5760 : Nat)) (some (.inl (some (.int (zi (V 47 (qw s1))))), zm V J d)) := by
  refine (zr_iald (n := 5760) (e := s1) (by decide +kernel) rfl).trans (zck_ct fun _ => ?_)
  exact zr_iret (a := (V 47 (qw s1))) (by decide +kernel) rfl
/-! PartSongDesk$Learning learnedOtherwise (IILPartSongDesk$Music;)I -/
theorem ze_23_0 {V : zVt} {J : zJt} {d : Nat → Nat → UInt64} (x1 : Int) (x2 : Int) (x3 : Nat) (h3 : zBk 5 x3) : zGo false 23 0 [.ref 46, .int (zi x1), .int (zi x2), .ref x3, .null, .null] [] (zm V J d) =
    zGo false 23 6 [.ref 46, .int (zi x1), .int (zi x2), .ref x3, .int (zi (0)), .int (zi (0))] [] (zm V J d) := by
  refine (zr_iconst (n := 0) (by decide +kernel)).trans ?_
  refine (zr_istore (n := 4) (l1 := [.ref 46, .int (zi x1), .int (zi x2), .ref x3, .int (zi (0)), .null]) (by decide +kernel) rfl).trans ?_
  refine (zr_iconst (n := 0) (by decide +kernel)).trans ?_
  refine (zr_istore (n := 5) (l1 := [.ref 46, .int (zi x1), .int (zi x2), .ref x3, .int (zi (0)), .int (zi (0))]) (by decide +kernel) rfl).trans ?_
  rfl
theorem ze_23_6 {V : zVt} {J : zJt} {d : Nat → Nat → UInt64} (x1 : Int) (x2 : Int) (x3 : Nat) (x4 : Int) (x5 : Int) (h3 : zBk 5 x3) : zGo false 23 6 [.ref 46, .int (zi x1), .int (zi x2), .ref x3, .int (zi x4), .int (zi x5)] [] (zm V J d) =
    (if qw (40) ≤ qw x5 then some (.inl (some (.int (zi x4))), zm V J d) else (zGo false 22 0 [.ref 46, .int (zi x1), .int (zi x2), .int (zi x5)] [] (zm V J d)).bind (zGor false 23 21 [.ref 46, .int (zi x1), .int (zi x2), .ref x3, .int (zi x4), .int (zi x5)] [])) := by
  refine (zr_iload (n := 5) (x := zi x5) (by decide +kernel) rfl).trans ?_
  refine (zr_bipush (n := 40) (by decide +kernel) rfl).trans ?_
  refine (zr_cge (off := 35) (a := x5) (b := (40)) (t := 45) (by decide +kernel) rfl).trans (zif_ct (fun _ => ?_) (fun _ => ?_))
  · refine (zr_iload (n := 4) (x := zi x4) (by decide +kernel) rfl).trans ?_
    exact zr_iret (a := x4) (by decide +kernel) rfl
  · refine (zr_aload_n (n := 0) (x := 46) (by decide +kernel) rfl).trans ?_
    refine (zr_iload_n (n := 1) (x := zi x1) (by decide +kernel) rfl).trans ?_
    refine (zr_iload_n (n := 2) (x := zi x2) (by decide +kernel) rfl).trans ?_
    refine (zr_iload (n := 5) (x := zi x5) (by decide +kernel) rfl).trans ?_
    exact zr_cV (i := 47) (z := 22) (w := 0) (o := 46) (t := [.int (zi x5), .int (zi x2), .int (zi x1)]) (rest := []) (L := [.ref 46, .int (zi x1), .int (zi x2), .int (zi x5)]) (pc1 := 21) (by decide +kernel) (by decide +kernel) rfl (n := 3) (r := 0) rfl rfl rfl (by decide +kernel) rfl rfl
theorem ze_23_21 {V : zVt} {J : zJt} {d : Nat → Nat → UInt64} (x1 : Int) (x2 : Int) (x3 : Nat) (x4 : Int) (x5 : Int) (s0 : Int) (h3 : zBk 5 x3) : zGo false 23 21 [.ref 46, .int (zi x1), .int (zi x2), .ref x3, .int (zi x4), .int (zi x5)] [.int (zi s0)] (zm V J d) =
    (if qw s0 ≤ 0 then zGo false 23 39 [.ref 46, .int (zi x1), .int (zi x2), .ref x3, .int (zi x4), .int (zi x5)] [] (zm V J d) else (zGo false 21 0 [.ref 46, .int (zi x1), .int (zi x2), .ref x3, .int (zi x5), .null] [] (zm V J d)).bind (zGor false 23 33 [.ref 46, .int (zi x1), .int (zi x2), .ref x3, .int (zi x4), .int (zi x5)] [])) := by
  refine (zr_ifle (off := 18) (a := s0) (t := 39) (by decide +kernel) rfl).trans (zif_ct (fun _ => ?_) (fun _ => ?_))
  · rfl
  · refine (zr_aload_n (n := 0) (x := 46) (by decide +kernel) rfl).trans ?_
    refine (zr_iload_n (n := 1) (x := zi x1) (by decide +kernel) rfl).trans ?_
    refine (zr_iload_n (n := 2) (x := zi x2) (by decide +kernel) rfl).trans ?_
    refine (zr_aload_n (n := 3) (x := x3) (by decide +kernel) rfl).trans ?_
    refine (zr_iload (n := 5) (x := zi x5) (by decide +kernel) rfl).trans ?_
    exact zr_cV (i := 26) (z := 21) (w := 0) (o := 46) (t := [.int (zi x5), .ref x3, .int (zi x2), .int (zi x1)]) (rest := []) (L := [.ref 46, .int (zi x1), .int (zi x2), .ref x3, .int (zi x5), .null]) (pc1 := 33) (by decide +kernel) (by decide +kernel) rfl (n := 4) (r := 0) rfl rfl rfl (by decide +kernel) rfl rfl
theorem ze_23_33 {V : zVt} {J : zJt} {d : Nat → Nat → UInt64} (x1 : Int) (x2 : Int) (x3 : Nat) (x4 : Int) (x5 : Int) (s0 : Int) (h3 : zBk 5 x3) : zGo false 23 33 [.ref 46, .int (zi x1), .int (zi x2), .ref x3, .int (zi x4), .int (zi x5)] [.int (zi s0)] (zm V J d) =
    (if qw s0 ≠ 0 then zGo false 23 39 [.ref 46, .int (zi x1), .int (zi x2), .ref x3, .int (zi x4), .int (zi x5)] [] (zm V J d) else zGo false 23 39 [.ref 46, .int (zi x1), .int (zi x2), .ref x3, .int (zi (x4 + 1)), .int (zi x5)] [] (zm V J d)) := by
  refine (zr_ifne (off := 6) (a := s0) (t := 39) (by decide +kernel) rfl).trans (zif_ct (fun _ => ?_) (fun _ => ?_))
  · rfl
  · refine (zr_iinc (n := 4) (k := 1) (x := x4) (l1 := [.ref 46, .int (zi x1), .int (zi x2), .ref x3, .int (zi (x4 + 1)), .int (zi x5)]) (by decide +kernel) rfl rfl).trans ?_
    rfl
theorem ze_23_39 {V : zVt} {J : zJt} {d : Nat → Nat → UInt64} (x1 : Int) (x2 : Int) (x3 : Nat) (x4 : Int) (x5 : Int) (h3 : zBk 5 x3) : zGo false 23 39 [.ref 46, .int (zi x1), .int (zi x2), .ref x3, .int (zi x4), .int (zi x5)] [] (zm V J d) =
    zGo false 23 6 [.ref 46, .int (zi x1), .int (zi x2), .ref x3, .int (zi x4), .int (zi (x5 + 1))] [] (zm V J d) := by
  refine (zr_iinc (n := 5) (k := 1) (x := x5) (l1 := [.ref 46, .int (zi x1), .int (zi x2), .ref x3, .int (zi x4), .int (zi (x5 + 1))]) (by decide +kernel) rfl rfl).trans ?_
  refine (zr_goto (off := -36) (t := 6) (by decide +kernel) rfl).trans ?_
  rfl
/-! PartSongDesk$Learning knowsAll (IILPartSongDesk$Music;)Z -/
theorem ze_24_0 {V : zVt} {J : zJt} {d : Nat → Nat → UInt64} (x1 : Int) (x2 : Int) (x3 : Nat) (h3 : zBk 5 x3) : zGo false 24 0 [.ref 46, .int (zi x1), .int (zi x2), .ref x3, .null] [] (zm V J d) =
    zGo false 24 3 [.ref 46, .int (zi x1), .int (zi x2), .ref x3, .int (zi (0))] [] (zm V J d) := by
  refine (zr_iconst (n := 0) (by decide +kernel)).trans ?_
  refine (zr_istore (n := 4) (l1 := [.ref 46, .int (zi x1), .int (zi x2), .ref x3, .int (zi (0))]) (by decide +kernel) rfl).trans ?_
  rfl
theorem ze_24_3 {V : zVt} {J : zJt} {d : Nat → Nat → UInt64} (x1 : Int) (x2 : Int) (x3 : Nat) (x4 : Int) (h3 : zBk 5 x3) : zGo false 24 3 [.ref 46, .int (zi x1), .int (zi x2), .ref x3, .int (zi x4)] [] (zm V J d) =
    (if qw (V x3 2) ≤ qw x4 then zck (qw (1) = 0 ∨ qw (1) = 1) (some (.inl (some (.int (zi (1)))), zm V J d)) else (zGo false 21 0 [.ref 46, .int (zi x1), .int (zi x2), .ref x3, .int (zi x4), .null] [] (zm V J d)).bind (zGor false 24 21 [.ref 46, .int (zi x1), .int (zi x2), .ref x3, .int (zi x4)] [])) := by
  refine (zr_iload (n := 4) (x := zi x4) (by decide +kernel) rfl).trans ?_
  refine (zr_aload_n (n := 3) (x := x3) (by decide +kernel) rfl).trans ?_
  refine (zr_getI (i := 43) (c := 5) (k := 2) (by decide +kernel) (by decide +kernel) (zb5_0 h3) (by decide +kernel)).trans ?_
  refine (zr_cge (off := 23) (a := x4) (b := (V x3 2)) (t := 32) (by decide +kernel) rfl).trans (zif_ct (fun _ => ?_) (fun _ => ?_))
  · refine (zr_iconst (n := 1) (by decide +kernel)).trans ?_
    exact zr_zret (a := (1)) (by decide +kernel) rfl
  · refine (zr_aload_n (n := 0) (x := 46) (by decide +kernel) rfl).trans ?_
    refine (zr_iload_n (n := 1) (x := zi x1) (by decide +kernel) rfl).trans ?_
    refine (zr_iload_n (n := 2) (x := zi x2) (by decide +kernel) rfl).trans ?_
    refine (zr_aload_n (n := 3) (x := x3) (by decide +kernel) rfl).trans ?_
    refine (zr_iload (n := 4) (x := zi x4) (by decide +kernel) rfl).trans ?_
    exact zr_cV (i := 26) (z := 21) (w := 0) (o := 46) (t := [.int (zi x4), .ref x3, .int (zi x2), .int (zi x1)]) (rest := []) (L := [.ref 46, .int (zi x1), .int (zi x2), .ref x3, .int (zi x4), .null]) (pc1 := 21) (by decide +kernel) (by decide +kernel) rfl (n := 4) (r := 0) rfl rfl rfl (by decide +kernel) rfl rfl
theorem ze_24_21 {V : zVt} {J : zJt} {d : Nat → Nat → UInt64} (x1 : Int) (x2 : Int) (x3 : Nat) (x4 : Int) (s0 : Int) (h3 : zBk 5 x3) : zGo false 24 21 [.ref 46, .int (zi x1), .int (zi x2), .ref x3, .int (zi x4)] [.int (zi s0)] (zm V J d) =
    (if qw s0 ≠ 0 then zGo false 24 3 [.ref 46, .int (zi x1), .int (zi x2), .ref x3, .int (zi (x4 + 1))] [] (zm V J d) else zck (qw (0) = 0 ∨ qw (0) = 1) (some (.inl (some (.int (zi (0)))), zm V J d))) := by
  refine (zr_ifne (off := 5) (a := s0) (t := 26) (by decide +kernel) rfl).trans (zif_ct (fun _ => ?_) (fun _ => ?_))
  · refine (zr_iinc (n := 4) (k := 1) (x := x4) (l1 := [.ref 46, .int (zi x1), .int (zi x2), .ref x3, .int (zi (x4 + 1))]) (by decide +kernel) rfl rfl).trans ?_
    refine (zr_goto (off := -26) (t := 3) (by decide +kernel) rfl).trans ?_
    rfl
  · refine (zr_iconst (n := 0) (by decide +kernel)).trans ?_
    exact zr_zret (a := (0)) (by decide +kernel) rfl
/-! PartSongDesk$Marks become (LPartSongDesk$Marks;)V -/
theorem ze_26_0 {V : zVt} {J : zJt} {d : Nat → Nat → UInt64} (x0 : Nat) (x1 : Nat) (h0 : zBk 4 x0) (h1 : zBk 4 x1) : zGo false 26 0 [.ref x0, .ref x1, .null] [] (zm V J d) =
    zGo false 26 2 [.ref x0, .ref x1, .int (zi (0))] [] (zm V J d) := by
  refine (zr_iconst (n := 0) (by decide +kernel)).trans ?_
  refine (zr_istore_n (n := 2) (l1 := [.ref x0, .ref x1, .int (zi (0))]) (by decide +kernel) rfl).trans ?_
  rfl
theorem ze_26_2 {V : zVt} {J : zJt} {d : Nat → Nat → UInt64} (x0 : Nat) (x1 : Nat) (x2 : Int) (h0 : zBk 4 x0) (h1 : zBk 4 x1) : zGo false 26 2 [.ref x0, .ref x1, .int (zi x2)] [] (zm V J d) =
    (if qw (200) ≤ qw x2 then some (.inl none, zm (vup V x0 1 (V x1 1)) J d) else zck (0 ≤ qw x2 ∧ qw x2 < (200 : Nat)) (zck ((0 ≤ qw x2 ∧ qw x2 < (200 : Nat)) ∧ (qw (V (x1 + 1) (qw x2)) = 0 ∨ qw (V (x1 + 1) (qw x2)) = 1)) (zGo false 26 2 [.ref x0, .ref x1, .int (zi (x2 + 1))] [] (zm (vup V (x0 + 1) (qw x2) (V (x1 + 1) (qw x2))) J d)))) := by
  refine (zr_iload_n (n := 2) (x := zi x2) (by decide +kernel) rfl).trans ?_
  refine (zr_sipush (n := 200) (by decide +kernel) rfl).trans ?_
  refine (zr_cge (off := 21) (a := x2) (b := (200)) (t := 27) (by decide +kernel) rfl).trans (zif_ct (fun _ => ?_) (fun _ => ?_))
  · refine (zr_aload_n (n := 0) (x := x0) (by decide +kernel) rfl).trans ?_
    refine (zr_aload_n (n := 1) (x := x1) (by decide +kernel) rfl).trans ?_
    refine (zr_getI (i := 15) (c := 4) (k := 1) (by decide +kernel) (by decide +kernel) (zb4_0 h1) (by decide +kernel)).trans ?_
    refine (zr_putI (i := 15) (c := 4) (k := 1) (x := (V x1 1)) (by decide +kernel) (by decide +kernel) (zb4_0 h0) (by decide +kernel)).trans ?_
    exact zr_vret (by decide +kernel) rfl
  · refine (zr_aload_n (n := 0) (x := x0) (by decide +kernel) rfl).trans ?_
    refine (zr_getR (i := 9) (c := 4) (k := 0) (r := (x0 + 1)) (by decide +kernel) (by decide +kernel) (zb4_0 h0) (by decide +kernel) (zR0_f (o := x0) (c := 4) (n := 0) (k := 0) (j := 1) (zb4_0 h0) (by decide) rfl)).trans ?_
    refine (zr_iload_n (n := 2) (x := zi x2) (by decide +kernel) rfl).trans ?_
    refine (zr_aload_n (n := 1) (x := x1) (by decide +kernel) rfl).trans ?_
    refine (zr_getR (i := 9) (c := 4) (k := 0) (r := (x1 + 1)) (by decide +kernel) (by decide +kernel) (zb4_0 h1) (by decide +kernel) (zR0_f (o := x1) (c := 4) (n := 0) (k := 0) (j := 1) (zb4_0 h1) (by decide) rfl)).trans ?_
    refine (zr_iload_n (n := 2) (x := zi x2) (by decide +kernel) rfl).trans ?_
    refine (zr_zald (n := 200) (e := x2) (by decide +kernel) (zb4_1 h1)).trans (zck_ct fun _ => ?_)
    refine (zr_zast (n := 200) (e := x2) (x := (V (x1 + 1) (qw x2))) (by decide +kernel) (zb4_1 h0)).trans (zck_ct fun _ => ?_)
    refine (zr_iinc (n := 2) (k := 1) (x := x2) (l1 := [.ref x0, .ref x1, .int (zi (x2 + 1))]) (by decide +kernel) rfl rfl).trans ?_
    refine (zr_goto (off := -22) (t := 2) (by decide +kernel) rfl).trans ?_
    rfl
/-! PartSongDesk$Marks takeIn (LPartSongDesk$Marks;)I -/
theorem ze_27_0 {V : zVt} {J : zJt} {d : Nat → Nat → UInt64} (x0 : Nat) (x1 : Nat) (h0 : zBk 4 x0) (h1 : zBk 4 x1) : zGo false 27 0 [.ref x0, .ref x1, .null, .null] [] (zm V J d) =
    zGo false 27 7 [.ref x0, .ref x1, .int (zi (V x0 1)), .int (zi (0))] [] (zm V J d) := by
  refine (zr_aload_n (n := 0) (x := x0) (by decide +kernel) rfl).trans ?_
  refine (zr_getI (i := 15) (c := 4) (k := 1) (by decide +kernel) (by decide +kernel) (zb4_0 h0) (by decide +kernel)).trans ?_
  refine (zr_istore_n (n := 2) (l1 := [.ref x0, .ref x1, .int (zi (V x0 1)), .null]) (by decide +kernel) rfl).trans ?_
  refine (zr_iconst (n := 0) (by decide +kernel)).trans ?_
  refine (zr_istore_n (n := 3) (l1 := [.ref x0, .ref x1, .int (zi (V x0 1)), .int (zi (0))]) (by decide +kernel) rfl).trans ?_
  rfl
theorem ze_27_7 {V : zVt} {J : zJt} {d : Nat → Nat → UInt64} (x0 : Nat) (x1 : Nat) (x2 : Int) (x3 : Int) (h0 : zBk 4 x0) (h1 : zBk 4 x1) : zGo false 27 7 [.ref x0, .ref x1, .int (zi x2), .int (zi x3)] [] (zm V J d) =
    (if qw (200) ≤ qw x3 then some (.inl (some (.int (zi ((V x0 1) - x2)))), zm V J d) else zck (0 ≤ qw x3 ∧ qw x3 < (200 : Nat)) ((if qw (V (x1 + 1) (qw x3)) = 0 then zGo false 27 28 [.ref x0, .ref x1, .int (zi x2), .int (zi x3)] [] (zm V J d) else (zGo false 28 0 [.ref x0, .int (zi x3)] [] (zm V J d)).bind (zGor false 27 28 [.ref x0, .ref x1, .int (zi x2), .int (zi x3)] [])))) := by
  refine (zr_iload_n (n := 3) (x := zi x3) (by decide +kernel) rfl).trans ?_
  refine (zr_sipush (n := 200) (by decide +kernel) rfl).trans ?_
  refine (zr_cge (off := 23) (a := x3) (b := (200)) (t := 34) (by decide +kernel) rfl).trans (zif_ct (fun _ => ?_) (fun _ => ?_))
  · refine (zr_aload_n (n := 0) (x := x0) (by decide +kernel) rfl).trans ?_
    refine (zr_getI (i := 15) (c := 4) (k := 1) (by decide +kernel) (by decide +kernel) (zb4_0 h0) (by decide +kernel)).trans ?_
    refine (zr_iload_n (n := 2) (x := zi x2) (by decide +kernel) rfl).trans ?_
    refine (zr_isub (a := (V x0 1)) (b := x2) (by decide +kernel)).trans ?_
    exact zr_iret (a := ((V x0 1) - x2)) (by decide +kernel) rfl
  · refine (zr_aload_n (n := 1) (x := x1) (by decide +kernel) rfl).trans ?_
    refine (zr_getR (i := 9) (c := 4) (k := 0) (r := (x1 + 1)) (by decide +kernel) (by decide +kernel) (zb4_0 h1) (by decide +kernel) (zR0_f (o := x1) (c := 4) (n := 0) (k := 0) (j := 1) (zb4_0 h1) (by decide) rfl)).trans ?_
    refine (zr_iload_n (n := 3) (x := zi x3) (by decide +kernel) rfl).trans ?_
    refine (zr_zald (n := 200) (e := x3) (by decide +kernel) (zb4_1 h1)).trans (zck_ct fun _ => ?_)
    refine (zr_ifeq (off := 8) (a := (V (x1 + 1) (qw x3))) (t := 28) (by decide +kernel) rfl).trans (zif_ct (fun _ => ?_) (fun _ => ?_))
    · rfl
    · refine (zr_aload_n (n := 0) (x := x0) (by decide +kernel) rfl).trans ?_
      refine (zr_iload_n (n := 3) (x := zi x3) (by decide +kernel) rfl).trans ?_
      exact zr_cV (i := 19) (z := 28) (w := 0) (o := x0) (t := [.int (zi x3)]) (rest := []) (L := [.ref x0, .int (zi x3)]) (pc1 := 28) (by decide +kernel) (by decide +kernel) (zb4_0 h0) (n := 1) (r := 0) rfl rfl rfl (by decide +kernel) rfl rfl
theorem ze_27_28 {V : zVt} {J : zJt} {d : Nat → Nat → UInt64} (x0 : Nat) (x1 : Nat) (x2 : Int) (x3 : Int) (h0 : zBk 4 x0) (h1 : zBk 4 x1) : zGo false 27 28 [.ref x0, .ref x1, .int (zi x2), .int (zi x3)] [] (zm V J d) =
    zGo false 27 7 [.ref x0, .ref x1, .int (zi x2), .int (zi (x3 + 1))] [] (zm V J d) := by
  refine (zr_iinc (n := 3) (k := 1) (x := x3) (l1 := [.ref x0, .ref x1, .int (zi x2), .int (zi (x3 + 1))]) (by decide +kernel) rfl rfl).trans ?_
  refine (zr_goto (off := -24) (t := 7) (by decide +kernel) rfl).trans ?_
  rfl
/-! PartSongDesk$Marks add (I)V -/
theorem ze_28_0 {V : zVt} {J : zJt} {d : Nat → Nat → UInt64} (x0 : Nat) (x1 : Int) (h0 : zBk 4 x0) : zGo false 28 0 [.ref x0, .int (zi x1)] [] (zm V J d) =
    (if qw x1 < 0 then zGo false 28 37 [.ref x0, .int (zi x1)] [] (zm V J d) else (if qw (200) ≤ qw x1 then zGo false 28 37 [.ref x0, .int (zi x1)] [] (zm V J d) else zck (0 ≤ qw x1 ∧ qw x1 < (200 : Nat)) ((if qw (V (x0 + 1) (qw x1)) ≠ 0 then zGo false 28 37 [.ref x0, .int (zi x1)] [] (zm V J d) else zck ((0 ≤ qw x1 ∧ qw x1 < (200 : Nat)) ∧ (qw (1) = 0 ∨ qw (1) = 1)) (zGo false 28 37 [.ref x0, .int (zi x1)] [] (zm (vup (vup V (x0 + 1) (qw x1) (1)) x0 1 (((vup V (x0 + 1) (qw x1) (1)) x0 1) + (1))) J d)))))) := by
  refine (zr_iload_n (n := 1) (x := zi x1) (by decide +kernel) rfl).trans ?_
  refine (zr_iflt (off := 36) (a := x1) (t := 37) (by decide +kernel) rfl).trans (zif_ct (fun _ => ?_) (fun _ => ?_))
  · rfl
  · refine (zr_iload_n (n := 1) (x := zi x1) (by decide +kernel) rfl).trans ?_
    refine (zr_sipush (n := 200) (by decide +kernel) rfl).trans ?_
    refine (zr_cge (off := 29) (a := x1) (b := (200)) (t := 37) (by decide +kernel) rfl).trans (zif_ct (fun _ => ?_) (fun _ => ?_))
    · rfl
    · refine (zr_aload_n (n := 0) (x := x0) (by decide +kernel) rfl).trans ?_
      refine (zr_getR (i := 9) (c := 4) (k := 0) (r := (x0 + 1)) (by decide +kernel) (by decide +kernel) (zb4_0 h0) (by decide +kernel) (zR0_f (o := x0) (c := 4) (n := 0) (k := 0) (j := 1) (zb4_0 h0) (by decide) rfl)).trans ?_
      refine (zr_iload_n (n := 1) (x := zi x1) (by decide +kernel) rfl).trans ?_
      refine (zr_zald (n := 200) (e := x1) (by decide +kernel) (zb4_1 h0)).trans (zck_ct fun _ => ?_)
      refine (zr_ifne (off := 20) (a := (V (x0 + 1) (qw x1))) (t := 37) (by decide +kernel) rfl).trans (zif_ct (fun _ => ?_) (fun _ => ?_))
      · rfl
      · refine (zr_aload_n (n := 0) (x := x0) (by decide +kernel) rfl).trans ?_
        refine (zr_getR (i := 9) (c := 4) (k := 0) (r := (x0 + 1)) (by decide +kernel) (by decide +kernel) (zb4_0 h0) (by decide +kernel) (zR0_f (o := x0) (c := 4) (n := 0) (k := 0) (j := 1) (zb4_0 h0) (by decide) rfl)).trans ?_
        refine (zr_iload_n (n := 1) (x := zi x1) (by decide +kernel) rfl).trans ?_
        refine (zr_iconst (n := 1) (by decide +kernel)).trans ?_
        refine (zr_zast (n := 200) (e := x1) (x := (1)) (by decide +kernel) (zb4_1 h0)).trans (zck_ct fun _ => ?_)
        refine (zr_aload_n (n := 0) (x := x0) (by decide +kernel) rfl).trans ?_
        refine (zr_dup (by decide +kernel) rfl).trans ?_
        refine (zr_getI (i := 15) (c := 4) (k := 1) (by decide +kernel) (by decide +kernel) (zb4_0 h0) (by decide +kernel)).trans ?_
        refine (zr_iconst (n := 1) (by decide +kernel)).trans ?_
        refine (zr_iadd (a := ((vup V (x0 + 1) (qw x1) (1)) x0 1)) (b := (1)) (by decide +kernel)).trans ?_
        refine (zr_putI (i := 15) (c := 4) (k := 1) (x := (((vup V (x0 + 1) (qw x1) (1)) x0 1) + (1))) (by decide +kernel) (by decide +kernel) (zb4_0 h0) (by decide +kernel)).trans ?_
        rfl
theorem ze_28_37 {V : zVt} {J : zJt} {d : Nat → Nat → UInt64} (x0 : Nat) (x1 : Int) (h0 : zBk 4 x0) : zGo false 28 37 [.ref x0, .int (zi x1)] [] (zm V J d) =
    some (.inl none, zm V J d) := by
  exact zr_vret (by decide +kernel) rfl
/-! PartSongDesk$Music has (I)Z -/
theorem ze_30_0 {V : zVt} {J : zJt} {d : Nat → Nat → UInt64} (x0 : Nat) (x1 : Int) (h0 : zBk 5 x0) : zGo false 30 0 [.ref x0, .int (zi x1)] [] (zm V J d) =
    (if qw x1 < 0 then zGo false 30 16 [.ref x0, .int (zi x1)] [] (zm V J d) else (if qw (V x0 2) ≤ qw x1 then zGo false 30 16 [.ref x0, .int (zi x1)] [] (zm V J d) else zGo false 30 17 [.ref x0, .int (zi x1)] [.int (zi (1))] (zm V J d))) := by
  refine (zr_iload_n (n := 1) (x := zi x1) (by decide +kernel) rfl).trans ?_
  refine (zr_iflt (off := 15) (a := x1) (t := 16) (by decide +kernel) rfl).trans (zif_ct (fun _ => ?_) (fun _ => ?_))
  · rfl
  · refine (zr_iload_n (n := 1) (x := zi x1) (by decide +kernel) rfl).trans ?_
    refine (zr_aload_n (n := 0) (x := x0) (by decide +kernel) rfl).trans ?_
    refine (zr_getI (i := 22) (c := 5) (k := 2) (by decide +kernel) (by decide +kernel) (zb5_0 h0) (by decide +kernel)).trans ?_
    refine (zr_cge (off := 7) (a := x1) (b := (V x0 2)) (t := 16) (by decide +kernel) rfl).trans (zif_ct (fun _ => ?_) (fun _ => ?_))
    · rfl
    · refine (zr_iconst (n := 1) (by decide +kernel)).trans ?_
      refine (zr_goto (off := 4) (t := 17) (by decide +kernel) rfl).trans ?_
      rfl
theorem ze_30_16 {V : zVt} {J : zJt} {d : Nat → Nat → UInt64} (x0 : Nat) (x1 : Int) (h0 : zBk 5 x0) : zGo false 30 16 [.ref x0, .int (zi x1)] [] (zm V J d) =
    zGo false 30 17 [.ref x0, .int (zi x1)] [.int (zi (0))] (zm V J d) := by
  refine (zr_iconst (n := 0) (by decide +kernel)).trans ?_
  rfl
theorem ze_30_17 {V : zVt} {J : zJt} {d : Nat → Nat → UInt64} (x0 : Nat) (x1 : Int) (s0 : Int) (h0 : zBk 5 x0) : zGo false 30 17 [.ref x0, .int (zi x1)] [.int (zi s0)] (zm V J d) =
    zck (qw s0 = 0 ∨ qw s0 = 1) (some (.inl (some (.int (zi s0))), zm V J d)) := by
  exact zr_zret (a := s0) (by decide +kernel) rfl
/-! PartSongDesk$Music earlyTicks (I)J -/
theorem ze_31_0 {V : zVt} {J : zJt} {d : Nat → Nat → UInt64} (x0 : Nat) (x1 : Int) (h0 : zBk 5 x0) : zGo false 31 0 [.ref x0, .int (zi x1)] [] (zm V J d) =
    (zGo false 30 0 [.ref x0, .int (zi x1)] [] (zm V J d)).bind (zGor false 31 5 [.ref x0, .int (zi x1)] []) := by
  refine (zr_aload_n (n := 0) (x := x0) (by decide +kernel) rfl).trans ?_
  refine (zr_iload_n (n := 1) (x := zi x1) (by decide +kernel) rfl).trans ?_
  exact zr_cV (i := 28) (z := 30) (w := 0) (o := x0) (t := [.int (zi x1)]) (rest := []) (L := [.ref x0, .int (zi x1)]) (pc1 := 5) (by decide +kernel) (by decide +kernel) (zb5_0 h0) (n := 1) (r := 0) rfl rfl rfl (by decide +kernel) rfl rfl
theorem ze_31_5 {V : zVt} {J : zJt} {d : Nat → Nat → UInt64} (x0 : Nat) (x1 : Int) (s0 : Int) (h0 : zBk 5 x0) : zGo false 31 5 [.ref x0, .int (zi x1)] [.int (zi s0)] (zm V J d) =
    (if qw s0 = 0 then zGo false 31 20 [.ref x0, .int (zi x1)] [.long (Int64.ofNat 0)] (zm V J d) else zck (0 ≤ qw ((2) * x1) ∧ qw ((2) * x1) < (80 : Nat)) (zGo false 31 20 [.ref x0, .int (zi x1)] [.long (J (x0 + 1) (qw ((2) * x1)))] (zm V J d))) := by
  refine (zr_ifeq (off := 14) (a := s0) (t := 19) (by decide +kernel) rfl).trans (zif_ct (fun _ => ?_) (fun _ => ?_))
  · refine (zr_lconst (n := 0) (by decide +kernel)).trans ?_
    rfl
  · refine (zr_aload_n (n := 0) (x := x0) (by decide +kernel) rfl).trans ?_
    refine (zr_getR (i := 9) (c := 5) (k := 4) (r := (x0 + 1)) (by decide +kernel) (by decide +kernel) (zb5_0 h0) (by decide +kernel) (zR0_f (o := x0) (c := 5) (n := 0) (k := 4) (j := 1) (zb5_0 h0) (by decide) rfl)).trans ?_
    refine (zr_iconst (n := 2) (by decide +kernel)).trans ?_
    refine (zr_iload_n (n := 1) (x := zi x1) (by decide +kernel) rfl).trans ?_
    refine (zr_imul (a := (2)) (b := x1) (by decide +kernel)).trans ?_
    refine (zr_lald (n := 80) (e := ((2) * x1)) (by decide +kernel) (zb5_1 h0)).trans (zck_ct fun _ => ?_)
    refine (zr_goto (off := 4) (t := 20) (by decide +kernel) rfl).trans ?_
    rfl
theorem ze_31_20 {V : zVt} {J : zJt} {d : Nat → Nat → UInt64} (x0 : Nat) (x1 : Int) (s0 : Int64) (h0 : zBk 5 x0) : zGo false 31 20 [.ref x0, .int (zi x1)] [.long s0] (zm V J d) =
    some (.inl (some (.long s0)), zm V J d) := by
  exact zr_lret (by decide +kernel) rfl
/-! PartSongDesk$Music lateTicks (I)J -/
theorem ze_32_0 {V : zVt} {J : zJt} {d : Nat → Nat → UInt64} (x0 : Nat) (x1 : Int) (h0 : zBk 5 x0) : zGo false 32 0 [.ref x0, .int (zi x1)] [] (zm V J d) =
    (zGo false 30 0 [.ref x0, .int (zi x1)] [] (zm V J d)).bind (zGor false 32 5 [.ref x0, .int (zi x1)] []) := by
  refine (zr_aload_n (n := 0) (x := x0) (by decide +kernel) rfl).trans ?_
  refine (zr_iload_n (n := 1) (x := zi x1) (by decide +kernel) rfl).trans ?_
  exact zr_cV (i := 28) (z := 30) (w := 0) (o := x0) (t := [.int (zi x1)]) (rest := []) (L := [.ref x0, .int (zi x1)]) (pc1 := 5) (by decide +kernel) (by decide +kernel) (zb5_0 h0) (n := 1) (r := 0) rfl rfl rfl (by decide +kernel) rfl rfl
theorem ze_32_5 {V : zVt} {J : zJt} {d : Nat → Nat → UInt64} (x0 : Nat) (x1 : Int) (s0 : Int) (h0 : zBk 5 x0) : zGo false 32 5 [.ref x0, .int (zi x1)] [.int (zi s0)] (zm V J d) =
    (if qw s0 = 0 then zGo false 32 22 [.ref x0, .int (zi x1)] [.long (Int64.ofNat 0)] (zm V J d) else zck (0 ≤ qw (((2) * x1) + (1)) ∧ qw (((2) * x1) + (1)) < (80 : Nat)) (zGo false 32 22 [.ref x0, .int (zi x1)] [.long (J (x0 + 1) (qw (((2) * x1) + (1))))] (zm V J d))) := by
  refine (zr_ifeq (off := 16) (a := s0) (t := 21) (by decide +kernel) rfl).trans (zif_ct (fun _ => ?_) (fun _ => ?_))
  · refine (zr_lconst (n := 0) (by decide +kernel)).trans ?_
    rfl
  · refine (zr_aload_n (n := 0) (x := x0) (by decide +kernel) rfl).trans ?_
    refine (zr_getR (i := 9) (c := 5) (k := 4) (r := (x0 + 1)) (by decide +kernel) (by decide +kernel) (zb5_0 h0) (by decide +kernel) (zR0_f (o := x0) (c := 5) (n := 0) (k := 4) (j := 1) (zb5_0 h0) (by decide) rfl)).trans ?_
    refine (zr_iconst (n := 2) (by decide +kernel)).trans ?_
    refine (zr_iload_n (n := 1) (x := zi x1) (by decide +kernel) rfl).trans ?_
    refine (zr_imul (a := (2)) (b := x1) (by decide +kernel)).trans ?_
    refine (zr_iconst (n := 1) (by decide +kernel)).trans ?_
    refine (zr_iadd (a := ((2) * x1)) (b := (1)) (by decide +kernel)).trans ?_
    refine (zr_lald (n := 80) (e := (((2) * x1) + (1))) (by decide +kernel) (zb5_1 h0)).trans (zck_ct fun _ => ?_)
    refine (zr_goto (off := 4) (t := 22) (by decide +kernel) rfl).trans ?_
    rfl
theorem ze_32_22 {V : zVt} {J : zJt} {d : Nat → Nat → UInt64} (x0 : Nat) (x1 : Int) (s0 : Int64) (h0 : zBk 5 x0) : zGo false 32 22 [.ref x0, .int (zi x1)] [.long s0] (zm V J d) =
    some (.inl (some (.long s0)), zm V J d) := by
  exact zr_lret (by decide +kernel) rfl
/-! PartSongDesk$Music clear (I)V -/
theorem ze_33_0 {V : zVt} {J : zJt} {d : Nat → Nat → UInt64} (x0 : Nat) (x1 : Int) (h0 : zBk 5 x0) : zGo false 33 0 [.ref x0, .int (zi x1)] [] (zm V J d) =
    some (.inl none, zm (vup (vup (vup (vup V x0 0 (0)) x0 1 (-1)) x0 2 (0)) x0 3 x1) J d) := by
  refine (zr_aload_n (n := 0) (x := x0) (by decide +kernel) rfl).trans ?_
  refine (zr_iconst (n := 0) (by decide +kernel)).trans ?_
  refine (zr_putI (i := 15) (c := 5) (k := 0) (x := (0)) (by decide +kernel) (by decide +kernel) (zb5_0 h0) (by decide +kernel)).trans ?_
  refine (zr_aload_n (n := 0) (x := x0) (by decide +kernel) rfl).trans ?_
  refine (zr_iconst (n := -1) (by decide +kernel)).trans ?_
  refine (zr_putI (i := 19) (c := 5) (k := 1) (x := (-1)) (by decide +kernel) (by decide +kernel) (zb5_0 h0) (by decide +kernel)).trans ?_
  refine (zr_aload_n (n := 0) (x := x0) (by decide +kernel) rfl).trans ?_
  refine (zr_iconst (n := 0) (by decide +kernel)).trans ?_
  refine (zr_putI (i := 22) (c := 5) (k := 2) (x := (0)) (by decide +kernel) (by decide +kernel) (zb5_0 h0) (by decide +kernel)).trans ?_
  refine (zr_aload_n (n := 0) (x := x0) (by decide +kernel) rfl).trans ?_
  refine (zr_iload_n (n := 1) (x := zi x1) (by decide +kernel) rfl).trans ?_
  refine (zr_putI (i := 25) (c := 5) (k := 3) (x := x1) (by decide +kernel) (by decide +kernel) (zb5_0 h0) (by decide +kernel)).trans ?_
  exact zr_vret (by decide +kernel) rfl
/-! PartSongDesk$Music fail (II)V -/
theorem ze_34_0 {V : zVt} {J : zJt} {d : Nat → Nat → UInt64} (x0 : Nat) (x1 : Int) (x2 : Int) (h0 : zBk 5 x0) : zGo false 34 0 [.ref x0, .int (zi x1), .int (zi x2)] [] (zm V J d) =
    some (.inl none, zm (vup (vup (vup V x0 0 x1) x0 1 x2) x0 2 (0)) J d) := by
  refine (zr_aload_n (n := 0) (x := x0) (by decide +kernel) rfl).trans ?_
  refine (zr_iload_n (n := 1) (x := zi x1) (by decide +kernel) rfl).trans ?_
  refine (zr_putI (i := 15) (c := 5) (k := 0) (x := x1) (by decide +kernel) (by decide +kernel) (zb5_0 h0) (by decide +kernel)).trans ?_
  refine (zr_aload_n (n := 0) (x := x0) (by decide +kernel) rfl).trans ?_
  refine (zr_iload_n (n := 2) (x := zi x2) (by decide +kernel) rfl).trans ?_
  refine (zr_putI (i := 19) (c := 5) (k := 1) (x := x2) (by decide +kernel) (by decide +kernel) (zb5_0 h0) (by decide +kernel)).trans ?_
  refine (zr_aload_n (n := 0) (x := x0) (by decide +kernel) rfl).trans ?_
  refine (zr_iconst (n := 0) (by decide +kernel)).trans ?_
  refine (zr_putI (i := 22) (c := 5) (k := 2) (x := (0)) (by decide +kernel) (by decide +kernel) (zb5_0 h0) (by decide +kernel)).trans ?_
  exact zr_vret (by decide +kernel) rfl
/-! PartSongDesk$Music add ([II)V -/
theorem ze_35_0 {V : zVt} {J : zJt} {d : Nat → Nat → UInt64} (x0 : Nat) (x2 : Int) (h0 : zBk 5 x0) : zGo false 35 0 [.ref x0, .ref 24, .int (zi x2), .null, .null] [] (zm V J d) =
    (if qw (40) ≤ qw (V x0 2) then zGo false 35 23 [.ref x0, .ref 24, .int (zi x2), .null, .null] [] (zm V J d) else (if qw (16 : Nat) < qw x2 then zGo false 35 23 [.ref x0, .ref 24, .int (zi x2), .null, .null] [] (zm V J d) else (if qw x2 ≤ qw (V x0 3) then zck (0 ≤ qw ((2) * (V x0 2)) ∧ qw ((2) * (V x0 2)) < (80 : Nat)) (zck (0 ≤ qw (((2) * (V x0 2)) + (1)) ∧ qw (((2) * (V x0 2)) + (1)) < (80 : Nat)) (zGo false 35 52 [.ref x0, .ref 24, .int (zi x2), .int (zi (0)), .null] [] (zm V (jup (jup J (x0 + 1) (qw ((2) * (V x0 2))) (Int64.ofNat 0)) (x0 + 1) (qw (((2) * (V x0 2)) + (1))) (Int64.ofNat 0)) d))) else zGo false 35 23 [.ref x0, .ref 24, .int (zi x2), .null, .null] [] (zm V J d)))) := by
  refine (zr_aload_n (n := 0) (x := x0) (by decide +kernel) rfl).trans ?_
  refine (zr_getI (i := 22) (c := 5) (k := 2) (by decide +kernel) (by decide +kernel) (zb5_0 h0) (by decide +kernel)).trans ?_
  refine (zr_bipush (n := 40) (by decide +kernel) rfl).trans ?_
  refine (zr_cge (off := 17) (a := (V x0 2)) (b := (40)) (t := 23) (by decide +kernel) rfl).trans (zif_ct (fun _ => ?_) (fun _ => ?_))
  · rfl
  · refine (zr_iload_n (n := 2) (x := zi x2) (by decide +kernel) rfl).trans ?_
    refine (zr_aload_n (n := 1) (x := 24) (by decide +kernel) rfl).trans ?_
    refine (zr_alen (by decide +kernel) rfl (by decide)).trans ?_
    refine (zr_cgt (off := 11) (a := x2) (b := (16 : Nat)) (t := 23) (by decide +kernel) rfl).trans (zif_ct (fun _ => ?_) (fun _ => ?_))
    · rfl
    · refine (zr_iload_n (n := 2) (x := zi x2) (by decide +kernel) rfl).trans ?_
      refine (zr_aload_n (n := 0) (x := x0) (by decide +kernel) rfl).trans ?_
      refine (zr_getI (i := 25) (c := 5) (k := 3) (by decide +kernel) (by decide +kernel) (zb5_0 h0) (by decide +kernel)).trans ?_
      refine (zr_cle (off := 4) (a := x2) (b := (V x0 3)) (t := 24) (by decide +kernel) rfl).trans (zif_ct (fun _ => ?_) (fun _ => ?_))
      · refine (zr_aload_n (n := 0) (x := x0) (by decide +kernel) rfl).trans ?_
        refine (zr_getR (i := 9) (c := 5) (k := 4) (r := (x0 + 1)) (by decide +kernel) (by decide +kernel) (zb5_0 h0) (by decide +kernel) (zR0_f (o := x0) (c := 5) (n := 0) (k := 4) (j := 1) (zb5_0 h0) (by decide) rfl)).trans ?_
        refine (zr_iconst (n := 2) (by decide +kernel)).trans ?_
        refine (zr_aload_n (n := 0) (x := x0) (by decide +kernel) rfl).trans ?_
        refine (zr_getI (i := 22) (c := 5) (k := 2) (by decide +kernel) (by decide +kernel) (zb5_0 h0) (by decide +kernel)).trans ?_
        refine (zr_imul (a := (2)) (b := (V x0 2)) (by decide +kernel)).trans ?_
        refine (zr_lconst (n := 0) (by decide +kernel)).trans ?_
        refine (zr_last (n := 80) (e := ((2) * (V x0 2))) (by decide +kernel) (zb5_1 h0)).trans (zck_ct fun _ => ?_)
        refine (zr_aload_n (n := 0) (x := x0) (by decide +kernel) rfl).trans ?_
        refine (zr_getR (i := 9) (c := 5) (k := 4) (r := (x0 + 1)) (by decide +kernel) (by decide +kernel) (zb5_0 h0) (by decide +kernel) (zR0_f (o := x0) (c := 5) (n := 0) (k := 4) (j := 1) (zb5_0 h0) (by decide) rfl)).trans ?_
        refine (zr_iconst (n := 2) (by decide +kernel)).trans ?_
        refine (zr_aload_n (n := 0) (x := x0) (by decide +kernel) rfl).trans ?_
        refine (zr_getI (i := 22) (c := 5) (k := 2) (by decide +kernel) (by decide +kernel) (zb5_0 h0) (by decide +kernel)).trans ?_
        refine (zr_imul (a := (2)) (b := (V x0 2)) (by decide +kernel)).trans ?_
        refine (zr_iconst (n := 1) (by decide +kernel)).trans ?_
        refine (zr_iadd (a := ((2) * (V x0 2))) (b := (1)) (by decide +kernel)).trans ?_
        refine (zr_lconst (n := 0) (by decide +kernel)).trans ?_
        refine (zr_last (n := 80) (e := (((2) * (V x0 2)) + (1))) (by decide +kernel) (zb5_1 h0)).trans (zck_ct fun _ => ?_)
        refine (zr_iconst (n := 0) (by decide +kernel)).trans ?_
        refine (zr_istore_n (n := 3) (l1 := [.ref x0, .ref 24, .int (zi x2), .int (zi (0)), .null]) (by decide +kernel) rfl).trans ?_
        rfl
      · rfl
theorem ze_35_23 {V : zVt} {J : zJt} {d : Nat → Nat → UInt64} (x0 : Nat) (x2 : Int) (h0 : zBk 5 x0) : zGo false 35 23 [.ref x0, .ref 24, .int (zi x2), .null, .null] [] (zm V J d) =
    some (.inl none, zm V J d) := by
  exact zr_vret (by decide +kernel) rfl
theorem ze_35_52 {V : zVt} {J : zJt} {d : Nat → Nat → UInt64} (x0 : Nat) (x2 : Int) (x3 : Int) (x4 : Value) (h0 : zBk 5 x0) : zGo false 35 52 [.ref x0, .ref 24, .int (zi x2), .int (zi x3), x4] [] (zm V J d) =
    (if qw x2 ≤ qw x3 then some (.inl none, zm (vup V x0 2 ((V x0 2) + (1))) J d) else (if qw (8) ≤ qw (((V x0 3) - x2) + x3) then zGo false 35 89 [.ref x0, .ref 24, .int (zi x2), .int (zi x3), .int (zi (((V x0 3) - x2) + x3))] [.int (zi (1)), .int (zi ((2) * (V x0 2))), .ref (x0 + 1)] (zm V J d) else zGo false 35 89 [.ref x0, .ref 24, .int (zi x2), .int (zi x3), .int (zi (((V x0 3) - x2) + x3))] [.int (zi (0)), .int (zi ((2) * (V x0 2))), .ref (x0 + 1)] (zm V J d))) := by
  refine (zr_iload_n (n := 3) (x := zi x3) (by decide +kernel) rfl).trans ?_
  refine (zr_iload_n (n := 2) (x := zi x2) (by decide +kernel) rfl).trans ?_
  refine (zr_cge (off := 59) (a := x3) (b := x2) (t := 113) (by decide +kernel) rfl).trans (zif_ct (fun _ => ?_) (fun _ => ?_))
  · refine (zr_aload_n (n := 0) (x := x0) (by decide +kernel) rfl).trans ?_
    refine (zr_dup (by decide +kernel) rfl).trans ?_
    refine (zr_getI (i := 22) (c := 5) (k := 2) (by decide +kernel) (by decide +kernel) (zb5_0 h0) (by decide +kernel)).trans ?_
    refine (zr_iconst (n := 1) (by decide +kernel)).trans ?_
    refine (zr_iadd (a := (V x0 2)) (b := (1)) (by decide +kernel)).trans ?_
    refine (zr_putI (i := 22) (c := 5) (k := 2) (x := ((V x0 2) + (1))) (by decide +kernel) (by decide +kernel) (zb5_0 h0) (by decide +kernel)).trans ?_
    exact zr_vret (by decide +kernel) rfl
  · refine (zr_aload_n (n := 0) (x := x0) (by decide +kernel) rfl).trans ?_
    refine (zr_getI (i := 25) (c := 5) (k := 3) (by decide +kernel) (by decide +kernel) (zb5_0 h0) (by decide +kernel)).trans ?_
    refine (zr_iload_n (n := 2) (x := zi x2) (by decide +kernel) rfl).trans ?_
    refine (zr_isub (a := (V x0 3)) (b := x2) (by decide +kernel)).trans ?_
    refine (zr_iload_n (n := 3) (x := zi x3) (by decide +kernel) rfl).trans ?_
    refine (zr_iadd (a := ((V x0 3) - x2)) (b := x3) (by decide +kernel)).trans ?_
    refine (zr_istore (n := 4) (l1 := [.ref x0, .ref 24, .int (zi x2), .int (zi x3), .int (zi (((V x0 3) - x2) + x3))]) (by decide +kernel) rfl).trans ?_
    refine (zr_aload_n (n := 0) (x := x0) (by decide +kernel) rfl).trans ?_
    refine (zr_getR (i := 9) (c := 5) (k := 4) (r := (x0 + 1)) (by decide +kernel) (by decide +kernel) (zb5_0 h0) (by decide +kernel) (zR0_f (o := x0) (c := 5) (n := 0) (k := 4) (j := 1) (zb5_0 h0) (by decide) rfl)).trans ?_
    refine (zr_iconst (n := 2) (by decide +kernel)).trans ?_
    refine (zr_aload_n (n := 0) (x := x0) (by decide +kernel) rfl).trans ?_
    refine (zr_getI (i := 22) (c := 5) (k := 2) (by decide +kernel) (by decide +kernel) (zb5_0 h0) (by decide +kernel)).trans ?_
    refine (zr_imul (a := (2)) (b := (V x0 2)) (by decide +kernel)).trans ?_
    refine (zr_iload (n := 4) (x := zi (((V x0 3) - x2) + x3)) (by decide +kernel) rfl).trans ?_
    refine (zr_bipush (n := 8) (by decide +kernel) rfl).trans ?_
    refine (zr_cge (off := 7) (a := (((V x0 3) - x2) + x3)) (b := (8)) (t := 88) (by decide +kernel) rfl).trans (zif_ct (fun _ => ?_) (fun _ => ?_))
    · refine (zr_iconst (n := 1) (by decide +kernel)).trans ?_
      rfl
    · refine (zr_iconst (n := 0) (by decide +kernel)).trans ?_
      refine (zr_goto (off := 4) (t := 89) (by decide +kernel) rfl).trans ?_
      rfl
theorem ze_35_89 {V : zVt} {J : zJt} {d : Nat → Nat → UInt64} (x0 : Nat) (x2 : Int) (x3 : Int) (x4 : Int) (s0 : Nat) (s1 : Int) (s2 : Int) (h0 : zBk 5 x0) (g0 : zS0 s0 = (16, 80)) : zGo false 35 89 [.ref x0, .ref 24, .int (zi x2), .int (zi x3), .int (zi x4)] [.int (zi s2), .int (zi s1), .ref s0] (zm V J d) =
    zck (0 ≤ qw (s1 + s2) ∧ qw (s1 + s2) < (80 : Nat)) (zck (0 ≤ qw x3 ∧ qw x3 < (16 : Nat)) (zck (0 ≤ qw (s1 + s2) ∧ qw (s1 + s2) < (80 : Nat)) (zGo false 35 52 [.ref x0, .ref 24, .int (zi x2), .int (zi (x3 + 1)), .int (zi x4)] [] (zm V (jup J s0 (qw (s1 + s2)) ((J s0 (qw (s1 + s2))) ||| ((zi (V 24 (qw x3))).toInt64 <<< ((zi ((8) * (qand x4 (7)))).toInt64 &&& 63)))) d)))) := by
  refine (zr_iadd (a := s1) (b := s2) (by decide +kernel)).trans ?_
  refine (zr_dup2 (by decide +kernel) rfl rfl).trans ?_
  refine (zr_lald (n := 80) (e := (s1 + s2)) (by decide +kernel) g0).trans (zck_ct fun _ => ?_)
  refine (zr_aload_n (n := 1) (x := 24) (by decide +kernel) rfl).trans ?_
  refine (zr_iload_n (n := 3) (x := zi x3) (by decide +kernel) rfl).trans ?_
  refine (zr_iald (n := 16) (e := x3) (by decide +kernel) rfl).trans (zck_ct fun _ => ?_)
  refine (zr_i2l (a := (V 24 (qw x3))) (by decide +kernel)).trans ?_
  refine (zr_bipush (n := 8) (by decide +kernel) rfl).trans ?_
  refine (zr_iload (n := 4) (x := zi x4) (by decide +kernel) rfl).trans ?_
  refine (zr_bipush (n := 7) (by decide +kernel) rfl).trans ?_
  refine (zr_iand (a := x4) (b := (7)) (by decide +kernel)).trans ?_
  refine (zr_imul (a := (8)) (b := (qand x4 (7))) (by decide +kernel)).trans ?_
  refine (zr_lshl (b := ((8) * (qand x4 (7)))) (by decide +kernel)).trans ?_
  refine (zr_lor (by decide +kernel)).trans ?_
  refine (zr_last (n := 80) (e := (s1 + s2)) (by decide +kernel) g0).trans (zck_ct fun _ => ?_)
  refine (zr_iinc (n := 3) (k := 1) (x := x3) (l1 := [.ref x0, .ref 24, .int (zi x2), .int (zi (x3 + 1)), .int (zi x4)]) (by decide +kernel) rfl rfl).trans ?_
  refine (zr_goto (off := -58) (t := 52) (by decide +kernel) rfl).trans ?_
  rfl
/-! PartSongDesk$Music pitchAt (II)I -/
theorem ze_36_0 {V : zVt} {J : zJt} {d : Nat → Nat → UInt64} (x0 : Nat) (x1 : Int) (x2 : Int) (h0 : zBk 5 x0) : zGo false 36 0 [.ref x0, .int (zi x1), .int (zi x2), .null] [] (zm V J d) =
    (zGo false 37 0 [.ref x0, .int (zi x1), .int (zi x2), .null, .null] [] (zm V J d)).bind (zGor false 36 6 [.ref x0, .int (zi x1), .int (zi x2), .null] []) := by
  refine (zr_aload_n (n := 0) (x := x0) (by decide +kernel) rfl).trans ?_
  refine (zr_iload_n (n := 1) (x := zi x1) (by decide +kernel) rfl).trans ?_
  refine (zr_iload_n (n := 2) (x := zi x2) (by decide +kernel) rfl).trans ?_
  exact zr_cV (i := 39) (z := 37) (w := 0) (o := x0) (t := [.int (zi x2), .int (zi x1)]) (rest := []) (L := [.ref x0, .int (zi x1), .int (zi x2), .null, .null]) (pc1 := 6) (by decide +kernel) (by decide +kernel) (zb5_0 h0) (n := 2) (r := 0) rfl rfl rfl (by decide +kernel) rfl rfl
theorem ze_36_6 {V : zVt} {J : zJt} {d : Nat → Nat → UInt64} (x0 : Nat) (x1 : Int) (x2 : Int) (s0 : Int) (h0 : zBk 5 x0) : zGo false 36 6 [.ref x0, .int (zi x1), .int (zi x2), .null] [.int (zi s0)] (zm V J d) =
    (if qw s0 ≠ 0 then zGo false 36 20 [.ref x0, .int (zi x1), .int (zi x2), .int (zi s0)] [.int (zi (qand s0 (127)))] (zm V J d) else zGo false 36 20 [.ref x0, .int (zi x1), .int (zi x2), .int (zi s0)] [.int (zi (-2))] (zm V J d)) := by
  refine (zr_istore_n (n := 3) (l1 := [.ref x0, .int (zi x1), .int (zi x2), .int (zi s0)]) (by decide +kernel) rfl).trans ?_
  refine (zr_iload_n (n := 3) (x := zi s0) (by decide +kernel) rfl).trans ?_
  refine (zr_ifne (off := 8) (a := s0) (t := 16) (by decide +kernel) rfl).trans (zif_ct (fun _ => ?_) (fun _ => ?_))
  · refine (zr_iload_n (n := 3) (x := zi s0) (by decide +kernel) rfl).trans ?_
    refine (zr_bipush (n := 127) (by decide +kernel) rfl).trans ?_
    refine (zr_iand (a := s0) (b := (127)) (by decide +kernel)).trans ?_
    rfl
  · refine (zr_bipush (n := -2) (by decide +kernel) rfl).trans ?_
    refine (zr_goto (off := 7) (t := 20) (by decide +kernel) rfl).trans ?_
    rfl
theorem ze_36_20 {V : zVt} {J : zJt} {d : Nat → Nat → UInt64} (x0 : Nat) (x1 : Int) (x2 : Int) (x3 : Int) (s0 : Int) (h0 : zBk 5 x0) : zGo false 36 20 [.ref x0, .int (zi x1), .int (zi x2), .int (zi x3)] [.int (zi s0)] (zm V J d) =
    some (.inl (some (.int (zi s0))), zm V J d) := by
  exact zr_iret (a := s0) (by decide +kernel) rfl
/-! PartSongDesk$Music soundAt (II)I -/
theorem ze_37_0 {V : zVt} {J : zJt} {d : Nat → Nat → UInt64} (x0 : Nat) (x1 : Int) (x2 : Int) (h0 : zBk 5 x0) : zGo false 37 0 [.ref x0, .int (zi x1), .int (zi x2), .null, .null] [] (zm V J d) =
    (if qw (8) ≤ qw x2 then (zGo false 32 0 [.ref x0, .int (zi x1)] [] (zm V J d)).bind (zGor false 37 19 [.ref x0, .int (zi x1), .int (zi x2), .null, .null] []) else (zGo false 31 0 [.ref x0, .int (zi x1)] [] (zm V J d)).bind (zGor false 37 11 [.ref x0, .int (zi x1), .int (zi x2), .null, .null] [])) := by
  refine (zr_iload_n (n := 2) (x := zi x2) (by decide +kernel) rfl).trans ?_
  refine (zr_bipush (n := 8) (by decide +kernel) rfl).trans ?_
  refine (zr_cge (off := 11) (a := x2) (b := (8)) (t := 14) (by decide +kernel) rfl).trans (zif_ct (fun _ => ?_) (fun _ => ?_))
  · refine (zr_aload_n (n := 0) (x := x0) (by decide +kernel) rfl).trans ?_
    refine (zr_iload_n (n := 1) (x := zi x1) (by decide +kernel) rfl).trans ?_
    exact zr_cV (i := 36) (z := 32) (w := 0) (o := x0) (t := [.int (zi x1)]) (rest := []) (L := [.ref x0, .int (zi x1)]) (pc1 := 19) (by decide +kernel) (by decide +kernel) (zb5_0 h0) (n := 1) (r := 0) rfl rfl rfl (by decide +kernel) rfl rfl
  · refine (zr_aload_n (n := 0) (x := x0) (by decide +kernel) rfl).trans ?_
    refine (zr_iload_n (n := 1) (x := zi x1) (by decide +kernel) rfl).trans ?_
    exact zr_cV (i := 32) (z := 31) (w := 0) (o := x0) (t := [.int (zi x1)]) (rest := []) (L := [.ref x0, .int (zi x1)]) (pc1 := 11) (by decide +kernel) (by decide +kernel) (zb5_0 h0) (n := 1) (r := 0) rfl rfl rfl (by decide +kernel) rfl rfl
theorem ze_37_11 {V : zVt} {J : zJt} {d : Nat → Nat → UInt64} (x0 : Nat) (x1 : Int) (x2 : Int) (s0 : Int64) (h0 : zBk 5 x0) : zGo false 37 11 [.ref x0, .int (zi x1), .int (zi x2), .null, .null] [.long s0] (zm V J d) =
    zGo false 37 19 [.ref x0, .int (zi x1), .int (zi x2), .null, .null] [.long s0] (zm V J d) := by
  refine (zr_goto (off := 8) (t := 19) (by decide +kernel) rfl).trans ?_
  rfl
theorem ze_37_19 {V : zVt} {J : zJt} {d : Nat → Nat → UInt64} (x0 : Nat) (x1 : Int) (x2 : Int) (s0 : Int64) (h0 : zBk 5 x0) : zGo false 37 19 [.ref x0, .int (zi x1), .int (zi x2), .null, .null] [.long s0] (zm V J d) =
    some (.inl (some (.int (zi (qand (((s0).toUInt64 >>> ((zi ((8) * (qand x2 (7)))).toInt64.toUInt64 &&& Int64.toUInt64 63)).toInt64).toInt32.toInt (255))))), zm V J d) := by
  refine (zr_lstore_n (n := 3) (l1 := [.ref x0, .int (zi x1), .int (zi x2), .long s0, .null]) (by decide +kernel) rfl).trans ?_
  refine (zr_lload_n (n := 3) (x := s0) (by decide +kernel) rfl).trans ?_
  refine (zr_bipush (n := 8) (by decide +kernel) rfl).trans ?_
  refine (zr_iload_n (n := 2) (x := zi x2) (by decide +kernel) rfl).trans ?_
  refine (zr_bipush (n := 7) (by decide +kernel) rfl).trans ?_
  refine (zr_iand (a := x2) (b := (7)) (by decide +kernel)).trans ?_
  refine (zr_imul (a := (8)) (b := (qand x2 (7))) (by decide +kernel)).trans ?_
  refine (zr_lushr (b := ((8) * (qand x2 (7)))) (by decide +kernel)).trans ?_
  refine (zr_l2i (by decide +kernel)).trans ?_
  refine (zr_sipush (n := 255) (by decide +kernel) rfl).trans ?_
  refine (zr_iand (a := (((s0).toUInt64 >>> ((zi ((8) * (qand x2 (7)))).toInt64.toUInt64 &&& Int64.toUInt64 63)).toInt64).toInt32.toInt) (b := (255)) (by decide +kernel)).trans ?_
  exact zr_iret (a := (qand (((s0).toUInt64 >>> ((zi ((8) * (qand x2 (7)))).toInt64.toUInt64 &&& Int64.toUInt64 63)).toInt64).toInt32.toInt (255))) (by decide +kernel) rfl
/-! PartSongDesk$Music noteBeginsAt (II)Z -/
theorem ze_38_0 {V : zVt} {J : zJt} {d : Nat → Nat → UInt64} (x0 : Nat) (x1 : Int) (x2 : Int) (h0 : zBk 5 x0) : zGo false 38 0 [.ref x0, .int (zi x1), .int (zi x2)] [] (zm V J d) =
    (zGo false 37 0 [.ref x0, .int (zi x1), .int (zi x2), .null, .null] [] (zm V J d)).bind (zGor false 38 6 [.ref x0, .int (zi x1), .int (zi x2)] []) := by
  refine (zr_aload_n (n := 0) (x := x0) (by decide +kernel) rfl).trans ?_
  refine (zr_iload_n (n := 1) (x := zi x1) (by decide +kernel) rfl).trans ?_
  refine (zr_iload_n (n := 2) (x := zi x2) (by decide +kernel) rfl).trans ?_
  exact zr_cV (i := 39) (z := 37) (w := 0) (o := x0) (t := [.int (zi x2), .int (zi x1)]) (rest := []) (L := [.ref x0, .int (zi x1), .int (zi x2), .null, .null]) (pc1 := 6) (by decide +kernel) (by decide +kernel) (zb5_0 h0) (n := 2) (r := 0) rfl rfl rfl (by decide +kernel) rfl rfl
theorem ze_38_6 {V : zVt} {J : zJt} {d : Nat → Nat → UInt64} (x0 : Nat) (x1 : Int) (x2 : Int) (s0 : Int) (h0 : zBk 5 x0) : zGo false 38 6 [.ref x0, .int (zi x1), .int (zi x2)] [.int (zi s0)] (zm V J d) =
    (if qw (qand s0 (128)) = 0 then zGo false 38 18 [.ref x0, .int (zi x1), .int (zi x2)] [.int (zi (0))] (zm V J d) else zGo false 38 18 [.ref x0, .int (zi x1), .int (zi x2)] [.int (zi (1))] (zm V J d)) := by
  refine (zr_sipush (n := 128) (by decide +kernel) rfl).trans ?_
  refine (zr_iand (a := s0) (b := (128)) (by decide +kernel)).trans ?_
  refine (zr_ifeq (off := 7) (a := (qand s0 (128))) (t := 17) (by decide +kernel) rfl).trans (zif_ct (fun _ => ?_) (fun _ => ?_))
  · refine (zr_iconst (n := 0) (by decide +kernel)).trans ?_
    rfl
  · refine (zr_iconst (n := 1) (by decide +kernel)).trans ?_
    refine (zr_goto (off := 4) (t := 18) (by decide +kernel) rfl).trans ?_
    rfl
theorem ze_38_18 {V : zVt} {J : zJt} {d : Nat → Nat → UInt64} (x0 : Nat) (x1 : Int) (x2 : Int) (s0 : Int) (h0 : zBk 5 x0) : zGo false 38 18 [.ref x0, .int (zi x1), .int (zi x2)] [.int (zi s0)] (zm V J d) =
    zck (qw s0 = 0 ∨ qw s0 = 1) (some (.inl (some (.int (zi s0))), zm V J d)) := by
  exact zr_zret (a := s0) (by decide +kernel) rfl
/-! PartSongDesk$Music barsUnlike (LPartSongDesk$Music;)I -/
theorem ze_39_0 {V : zVt} {J : zJt} {d : Nat → Nat → UInt64} (x0 : Nat) (x1 : Nat) (h0 : zBk 5 x0) (h1 : zBk 5 x1) : zGo false 39 0 [.ref x0, .ref x1, .null, .null] [] (zm V J d) =
    zGo false 39 4 [.ref x0, .ref x1, .int (zi (0)), .int (zi (0))] [] (zm V J d) := by
  refine (zr_iconst (n := 0) (by decide +kernel)).trans ?_
  refine (zr_istore_n (n := 2) (l1 := [.ref x0, .ref x1, .int (zi (0)), .null]) (by decide +kernel) rfl).trans ?_
  refine (zr_iconst (n := 0) (by decide +kernel)).trans ?_
  refine (zr_istore_n (n := 3) (l1 := [.ref x0, .ref x1, .int (zi (0)), .int (zi (0))]) (by decide +kernel) rfl).trans ?_
  rfl
theorem ze_39_4 {V : zVt} {J : zJt} {d : Nat → Nat → UInt64} (x0 : Nat) (x1 : Nat) (x2 : Int) (x3 : Int) (h0 : zBk 5 x0) (h1 : zBk 5 x1) : zGo false 39 4 [.ref x0, .ref x1, .int (zi x2), .int (zi x3)] [] (zm V J d) =
    (if qw x3 < qw (V x0 2) then zGo false 39 20 [.ref x0, .ref x1, .int (zi x2), .int (zi x3)] [] (zm V J d) else (if qw (V x1 2) ≤ qw x3 then some (.inl (some (.int (zi x2))), zm V J d) else zGo false 39 20 [.ref x0, .ref x1, .int (zi x2), .int (zi x3)] [] (zm V J d))) := by
  refine (zr_iload_n (n := 3) (x := zi x3) (by decide +kernel) rfl).trans ?_
  refine (zr_aload_n (n := 0) (x := x0) (by decide +kernel) rfl).trans ?_
  refine (zr_getI (i := 22) (c := 5) (k := 2) (by decide +kernel) (by decide +kernel) (zb5_0 h0) (by decide +kernel)).trans ?_
  refine (zr_clt (off := 11) (a := x3) (b := (V x0 2)) (t := 20) (by decide +kernel) rfl).trans (zif_ct (fun _ => ?_) (fun _ => ?_))
  · rfl
  · refine (zr_iload_n (n := 3) (x := zi x3) (by decide +kernel) rfl).trans ?_
    refine (zr_aload_n (n := 1) (x := x1) (by decide +kernel) rfl).trans ?_
    refine (zr_getI (i := 22) (c := 5) (k := 2) (by decide +kernel) (by decide +kernel) (zb5_0 h1) (by decide +kernel)).trans ?_
    refine (zr_cge (off := 56) (a := x3) (b := (V x1 2)) (t := 73) (by decide +kernel) rfl).trans (zif_ct (fun _ => ?_) (fun _ => ?_))
    · refine (zr_iload_n (n := 2) (x := zi x2) (by decide +kernel) rfl).trans ?_
      exact zr_iret (a := x2) (by decide +kernel) rfl
    · rfl
theorem ze_39_20 {V : zVt} {J : zJt} {d : Nat → Nat → UInt64} (x0 : Nat) (x1 : Nat) (x2 : Int) (x3 : Int) (h0 : zBk 5 x0) (h1 : zBk 5 x1) : zGo false 39 20 [.ref x0, .ref x1, .int (zi x2), .int (zi x3)] [] (zm V J d) =
    (zGo false 30 0 [.ref x0, .int (zi x3)] [] (zm V J d)).bind (zGor false 39 25 [.ref x0, .ref x1, .int (zi x2), .int (zi x3)] []) := by
  refine (zr_aload_n (n := 0) (x := x0) (by decide +kernel) rfl).trans ?_
  refine (zr_iload_n (n := 3) (x := zi x3) (by decide +kernel) rfl).trans ?_
  exact zr_cV (i := 28) (z := 30) (w := 0) (o := x0) (t := [.int (zi x3)]) (rest := []) (L := [.ref x0, .int (zi x3)]) (pc1 := 25) (by decide +kernel) (by decide +kernel) (zb5_0 h0) (n := 1) (r := 0) rfl rfl rfl (by decide +kernel) rfl rfl
theorem ze_39_25 {V : zVt} {J : zJt} {d : Nat → Nat → UInt64} (x0 : Nat) (x1 : Nat) (x2 : Int) (x3 : Int) (s0 : Int) (h0 : zBk 5 x0) (h1 : zBk 5 x1) : zGo false 39 25 [.ref x0, .ref x1, .int (zi x2), .int (zi x3)] [.int (zi s0)] (zm V J d) =
    (if qw s0 = 0 then zGo false 39 64 [.ref x0, .ref x1, .int (zi x2), .int (zi x3)] [] (zm V J d) else (zGo false 30 0 [.ref x1, .int (zi x3)] [] (zm V J d)).bind (zGor false 39 33 [.ref x0, .ref x1, .int (zi x2), .int (zi x3)] [])) := by
  refine (zr_ifeq (off := 39) (a := s0) (t := 64) (by decide +kernel) rfl).trans (zif_ct (fun _ => ?_) (fun _ => ?_))
  · rfl
  · refine (zr_aload_n (n := 1) (x := x1) (by decide +kernel) rfl).trans ?_
    refine (zr_iload_n (n := 3) (x := zi x3) (by decide +kernel) rfl).trans ?_
    exact zr_cV (i := 28) (z := 30) (w := 0) (o := x1) (t := [.int (zi x3)]) (rest := []) (L := [.ref x1, .int (zi x3)]) (pc1 := 33) (by decide +kernel) (by decide +kernel) (zb5_0 h1) (n := 1) (r := 0) rfl rfl rfl (by decide +kernel) rfl rfl
theorem ze_39_33 {V : zVt} {J : zJt} {d : Nat → Nat → UInt64} (x0 : Nat) (x1 : Nat) (x2 : Int) (x3 : Int) (s0 : Int) (h0 : zBk 5 x0) (h1 : zBk 5 x1) : zGo false 39 33 [.ref x0, .ref x1, .int (zi x2), .int (zi x3)] [.int (zi s0)] (zm V J d) =
    (if qw s0 = 0 then zGo false 39 64 [.ref x0, .ref x1, .int (zi x2), .int (zi x3)] [] (zm V J d) else (zGo false 31 0 [.ref x0, .int (zi x3)] [] (zm V J d)).bind (zGor false 39 41 [.ref x0, .ref x1, .int (zi x2), .int (zi x3)] [])) := by
  refine (zr_ifeq (off := 31) (a := s0) (t := 64) (by decide +kernel) rfl).trans (zif_ct (fun _ => ?_) (fun _ => ?_))
  · rfl
  · refine (zr_aload_n (n := 0) (x := x0) (by decide +kernel) rfl).trans ?_
    refine (zr_iload_n (n := 3) (x := zi x3) (by decide +kernel) rfl).trans ?_
    exact zr_cV (i := 32) (z := 31) (w := 0) (o := x0) (t := [.int (zi x3)]) (rest := []) (L := [.ref x0, .int (zi x3)]) (pc1 := 41) (by decide +kernel) (by decide +kernel) (zb5_0 h0) (n := 1) (r := 0) rfl rfl rfl (by decide +kernel) rfl rfl
theorem ze_39_41 {V : zVt} {J : zJt} {d : Nat → Nat → UInt64} (x0 : Nat) (x1 : Nat) (x2 : Int) (x3 : Int) (s0 : Int64) (h0 : zBk 5 x0) (h1 : zBk 5 x1) : zGo false 39 41 [.ref x0, .ref x1, .int (zi x2), .int (zi x3)] [.long s0] (zm V J d) =
    (zGo false 31 0 [.ref x1, .int (zi x3)] [] (zm V J d)).bind (zGor false 39 46 [.ref x0, .ref x1, .int (zi x2), .int (zi x3)] [.long s0]) := by
  refine (zr_aload_n (n := 1) (x := x1) (by decide +kernel) rfl).trans ?_
  refine (zr_iload_n (n := 3) (x := zi x3) (by decide +kernel) rfl).trans ?_
  exact zr_cV (i := 32) (z := 31) (w := 0) (o := x1) (t := [.int (zi x3)]) (rest := [.long s0]) (L := [.ref x1, .int (zi x3)]) (pc1 := 46) (by decide +kernel) (by decide +kernel) (zb5_0 h1) (n := 1) (r := 2) rfl rfl rfl (by decide +kernel) rfl rfl
theorem ze_39_46 {V : zVt} {J : zJt} {d : Nat → Nat → UInt64} (x0 : Nat) (x1 : Nat) (x2 : Int) (x3 : Int) (s0 : Int64) (s1 : Int64) (h0 : zBk 5 x0) (h1 : zBk 5 x1) : zGo false 39 46 [.ref x0, .ref x1, .int (zi x2), .int (zi x3)] [.long s1, .long s0] (zm V J d) =
    (if qw (lg_cmp s0 s1).toInt ≠ 0 then zGo false 39 64 [.ref x0, .ref x1, .int (zi x2), .int (zi x3)] [] (zm V J d) else (zGo false 32 0 [.ref x0, .int (zi x3)] [] (zm V J d)).bind (zGor false 39 55 [.ref x0, .ref x1, .int (zi x2), .int (zi x3)] [])) := by
  refine (zr_lcmp (by decide +kernel)).trans ?_
  refine (zr_ifne (off := 17) (a := (lg_cmp s0 s1).toInt) (t := 64) (by decide +kernel) rfl).trans (zif_ct (fun _ => ?_) (fun _ => ?_))
  · rfl
  · refine (zr_aload_n (n := 0) (x := x0) (by decide +kernel) rfl).trans ?_
    refine (zr_iload_n (n := 3) (x := zi x3) (by decide +kernel) rfl).trans ?_
    exact zr_cV (i := 36) (z := 32) (w := 0) (o := x0) (t := [.int (zi x3)]) (rest := []) (L := [.ref x0, .int (zi x3)]) (pc1 := 55) (by decide +kernel) (by decide +kernel) (zb5_0 h0) (n := 1) (r := 0) rfl rfl rfl (by decide +kernel) rfl rfl
theorem ze_39_55 {V : zVt} {J : zJt} {d : Nat → Nat → UInt64} (x0 : Nat) (x1 : Nat) (x2 : Int) (x3 : Int) (s0 : Int64) (h0 : zBk 5 x0) (h1 : zBk 5 x1) : zGo false 39 55 [.ref x0, .ref x1, .int (zi x2), .int (zi x3)] [.long s0] (zm V J d) =
    (zGo false 32 0 [.ref x1, .int (zi x3)] [] (zm V J d)).bind (zGor false 39 60 [.ref x0, .ref x1, .int (zi x2), .int (zi x3)] [.long s0]) := by
  refine (zr_aload_n (n := 1) (x := x1) (by decide +kernel) rfl).trans ?_
  refine (zr_iload_n (n := 3) (x := zi x3) (by decide +kernel) rfl).trans ?_
  exact zr_cV (i := 36) (z := 32) (w := 0) (o := x1) (t := [.int (zi x3)]) (rest := [.long s0]) (L := [.ref x1, .int (zi x3)]) (pc1 := 60) (by decide +kernel) (by decide +kernel) (zb5_0 h1) (n := 1) (r := 2) rfl rfl rfl (by decide +kernel) rfl rfl
theorem ze_39_60 {V : zVt} {J : zJt} {d : Nat → Nat → UInt64} (x0 : Nat) (x1 : Nat) (x2 : Int) (x3 : Int) (s0 : Int64) (s1 : Int64) (h0 : zBk 5 x0) (h1 : zBk 5 x1) : zGo false 39 60 [.ref x0, .ref x1, .int (zi x2), .int (zi x3)] [.long s1, .long s0] (zm V J d) =
    (if qw (lg_cmp s0 s1).toInt = 0 then zGo false 39 67 [.ref x0, .ref x1, .int (zi x2), .int (zi x3)] [] (zm V J d) else zGo false 39 64 [.ref x0, .ref x1, .int (zi x2), .int (zi x3)] [] (zm V J d)) := by
  refine (zr_lcmp (by decide +kernel)).trans ?_
  refine (zr_ifeq (off := 6) (a := (lg_cmp s0 s1).toInt) (t := 67) (by decide +kernel) rfl).trans (zif_ct (fun _ => ?_) (fun _ => ?_))
  · rfl
  · rfl
theorem ze_39_64 {V : zVt} {J : zJt} {d : Nat → Nat → UInt64} (x0 : Nat) (x1 : Nat) (x2 : Int) (x3 : Int) (h0 : zBk 5 x0) (h1 : zBk 5 x1) : zGo false 39 64 [.ref x0, .ref x1, .int (zi x2), .int (zi x3)] [] (zm V J d) =
    zGo false 39 67 [.ref x0, .ref x1, .int (zi (x2 + 1)), .int (zi x3)] [] (zm V J d) := by
  refine (zr_iinc (n := 2) (k := 1) (x := x2) (l1 := [.ref x0, .ref x1, .int (zi (x2 + 1)), .int (zi x3)]) (by decide +kernel) rfl rfl).trans ?_
  rfl
theorem ze_39_67 {V : zVt} {J : zJt} {d : Nat → Nat → UInt64} (x0 : Nat) (x1 : Nat) (x2 : Int) (x3 : Int) (h0 : zBk 5 x0) (h1 : zBk 5 x1) : zGo false 39 67 [.ref x0, .ref x1, .int (zi x2), .int (zi x3)] [] (zm V J d) =
    zGo false 39 4 [.ref x0, .ref x1, .int (zi x2), .int (zi (x3 + 1))] [] (zm V J d) := by
  refine (zr_iinc (n := 3) (k := 1) (x := x3) (l1 := [.ref x0, .ref x1, .int (zi x2), .int (zi (x3 + 1))]) (by decide +kernel) rfl rfl).trans ?_
  refine (zr_goto (off := -66) (t := 4) (by decide +kernel) rfl).trans ?_
  rfl
/-! PartSongDesk$Music clashesWith (LPartSongDesk$Music;II)I -/
theorem ze_40_0 {V : zVt} {J : zJt} {d : Nat → Nat → UInt64} (x0 : Nat) (x1 : Nat) (x2 : Int) (x3 : Int) (h0 : zBk 5 x0) (h1 : zBk 5 x1) : zGo false 40 0 [.ref x0, .ref x1, .int (zi x2), .int (zi x3), .null, .null, .null, .null] [] (zm V J d) =
    (zGo false 30 0 [.ref x0, .int (zi x2)] [] (zm V J d)).bind (zGor false 40 5 [.ref x0, .ref x1, .int (zi x2), .int (zi x3), .null, .null, .null, .null] []) := by
  refine (zr_aload_n (n := 0) (x := x0) (by decide +kernel) rfl).trans ?_
  refine (zr_iload_n (n := 2) (x := zi x2) (by decide +kernel) rfl).trans ?_
  exact zr_cV (i := 28) (z := 30) (w := 0) (o := x0) (t := [.int (zi x2)]) (rest := []) (L := [.ref x0, .int (zi x2)]) (pc1 := 5) (by decide +kernel) (by decide +kernel) (zb5_0 h0) (n := 1) (r := 0) rfl rfl rfl (by decide +kernel) rfl rfl
theorem ze_40_5 {V : zVt} {J : zJt} {d : Nat → Nat → UInt64} (x0 : Nat) (x1 : Nat) (x2 : Int) (x3 : Int) (s0 : Int) (h0 : zBk 5 x0) (h1 : zBk 5 x1) : zGo false 40 5 [.ref x0, .ref x1, .int (zi x2), .int (zi x3), .null, .null, .null, .null] [.int (zi s0)] (zm V J d) =
    (if qw s0 = 0 then zGo false 40 16 [.ref x0, .ref x1, .int (zi x2), .int (zi x3), .null, .null, .null, .null] [] (zm V J d) else (zGo false 30 0 [.ref x1, .int (zi x2)] [] (zm V J d)).bind (zGor false 40 13 [.ref x0, .ref x1, .int (zi x2), .int (zi x3), .null, .null, .null, .null] [])) := by
  refine (zr_ifeq (off := 11) (a := s0) (t := 16) (by decide +kernel) rfl).trans (zif_ct (fun _ => ?_) (fun _ => ?_))
  · rfl
  · refine (zr_aload_n (n := 1) (x := x1) (by decide +kernel) rfl).trans ?_
    refine (zr_iload_n (n := 2) (x := zi x2) (by decide +kernel) rfl).trans ?_
    exact zr_cV (i := 28) (z := 30) (w := 0) (o := x1) (t := [.int (zi x2)]) (rest := []) (L := [.ref x1, .int (zi x2)]) (pc1 := 13) (by decide +kernel) (by decide +kernel) (zb5_0 h1) (n := 1) (r := 0) rfl rfl rfl (by decide +kernel) rfl rfl
theorem ze_40_13 {V : zVt} {J : zJt} {d : Nat → Nat → UInt64} (x0 : Nat) (x1 : Nat) (x2 : Int) (x3 : Int) (s0 : Int) (h0 : zBk 5 x0) (h1 : zBk 5 x1) : zGo false 40 13 [.ref x0, .ref x1, .int (zi x2), .int (zi x3), .null, .null, .null, .null] [.int (zi s0)] (zm V J d) =
    (if qw s0 ≠ 0 then zGo false 40 24 [.ref x0, .ref x1, .int (zi x2), .int (zi x3), .int (zi (0)), .int (zi (0)), .null, .null] [] (zm V J d) else zGo false 40 16 [.ref x0, .ref x1, .int (zi x2), .int (zi x3), .null, .null, .null, .null] [] (zm V J d)) := by
  refine (zr_ifne (off := 5) (a := s0) (t := 18) (by decide +kernel) rfl).trans (zif_ct (fun _ => ?_) (fun _ => ?_))
  · refine (zr_iconst (n := 0) (by decide +kernel)).trans ?_
    refine (zr_istore (n := 4) (l1 := [.ref x0, .ref x1, .int (zi x2), .int (zi x3), .int (zi (0)), .null, .null, .null]) (by decide +kernel) rfl).trans ?_
    refine (zr_iconst (n := 0) (by decide +kernel)).trans ?_
    refine (zr_istore (n := 5) (l1 := [.ref x0, .ref x1, .int (zi x2), .int (zi x3), .int (zi (0)), .int (zi (0)), .null, .null]) (by decide +kernel) rfl).trans ?_
    rfl
  · rfl
theorem ze_40_16 {V : zVt} {J : zJt} {d : Nat → Nat → UInt64} (x0 : Nat) (x1 : Nat) (x2 : Int) (x3 : Int) (h0 : zBk 5 x0) (h1 : zBk 5 x1) : zGo false 40 16 [.ref x0, .ref x1, .int (zi x2), .int (zi x3), .null, .null, .null, .null] [] (zm V J d) =
    some (.inl (some (.int (zi (0)))), zm V J d) := by
  refine (zr_iconst (n := 0) (by decide +kernel)).trans ?_
  exact zr_iret (a := (0)) (by decide +kernel) rfl
theorem ze_40_24 {V : zVt} {J : zJt} {d : Nat → Nat → UInt64} (x0 : Nat) (x1 : Nat) (x2 : Int) (x3 : Int) (x4 : Int) (x5 : Int) (x6 : Value) (x7 : Value) (h0 : zBk 5 x0) (h1 : zBk 5 x1) : zGo false 40 24 [.ref x0, .ref x1, .int (zi x2), .int (zi x3), .int (zi x4), .int (zi x5), x6, x7] [] (zm V J d) =
    (if qw (V x0 3) ≤ qw x5 then some (.inl (some (.int (zi x4))), zm V J d) else (zGo false 36 0 [.ref x0, .int (zi x2), .int (zi x5), .null] [] (zm V J d)).bind (zGor false 40 40 [.ref x0, .ref x1, .int (zi x2), .int (zi x3), .int (zi x4), .int (zi x5), x6, x7] [])) := by
  refine (zr_iload (n := 5) (x := zi x5) (by decide +kernel) rfl).trans ?_
  refine (zr_aload_n (n := 0) (x := x0) (by decide +kernel) rfl).trans ?_
  refine (zr_getI (i := 25) (c := 5) (k := 3) (by decide +kernel) (by decide +kernel) (zb5_0 h0) (by decide +kernel)).trans ?_
  refine (zr_cge (off := 91) (a := x5) (b := (V x0 3)) (t := 121) (by decide +kernel) rfl).trans (zif_ct (fun _ => ?_) (fun _ => ?_))
  · refine (zr_iload (n := 4) (x := zi x4) (by decide +kernel) rfl).trans ?_
    exact zr_iret (a := x4) (by decide +kernel) rfl
  · refine (zr_aload_n (n := 0) (x := x0) (by decide +kernel) rfl).trans ?_
    refine (zr_iload_n (n := 2) (x := zi x2) (by decide +kernel) rfl).trans ?_
    refine (zr_iload (n := 5) (x := zi x5) (by decide +kernel) rfl).trans ?_
    exact zr_cV (i := 43) (z := 36) (w := 0) (o := x0) (t := [.int (zi x5), .int (zi x2)]) (rest := []) (L := [.ref x0, .int (zi x2), .int (zi x5), .null]) (pc1 := 40) (by decide +kernel) (by decide +kernel) (zb5_0 h0) (n := 2) (r := 0) rfl rfl rfl (by decide +kernel) rfl rfl
theorem ze_40_40 {V : zVt} {J : zJt} {d : Nat → Nat → UInt64} (x0 : Nat) (x1 : Nat) (x2 : Int) (x3 : Int) (x4 : Int) (x5 : Int) (x6 : Value) (x7 : Value) (s0 : Int) (h0 : zBk 5 x0) (h1 : zBk 5 x1) : zGo false 40 40 [.ref x0, .ref x1, .int (zi x2), .int (zi x3), .int (zi x4), .int (zi x5), x6, x7] [.int (zi s0)] (zm V J d) =
    (zGo false 36 0 [.ref x1, .int (zi x2), .int (zi x5), .null] [] (zm V J d)).bind (zGor false 40 49 [.ref x0, .ref x1, .int (zi x2), .int (zi x3), .int (zi x4), .int (zi x5), .int (zi s0), x7] []) := by
  refine (zr_istore (n := 6) (l1 := [.ref x0, .ref x1, .int (zi x2), .int (zi x3), .int (zi x4), .int (zi x5), .int (zi s0), x7]) (by decide +kernel) rfl).trans ?_
  refine (zr_aload_n (n := 1) (x := x1) (by decide +kernel) rfl).trans ?_
  refine (zr_iload_n (n := 2) (x := zi x2) (by decide +kernel) rfl).trans ?_
  refine (zr_iload (n := 5) (x := zi x5) (by decide +kernel) rfl).trans ?_
  exact zr_cV (i := 43) (z := 36) (w := 0) (o := x1) (t := [.int (zi x5), .int (zi x2)]) (rest := []) (L := [.ref x1, .int (zi x2), .int (zi x5), .null]) (pc1 := 49) (by decide +kernel) (by decide +kernel) (zb5_0 h1) (n := 2) (r := 0) rfl rfl rfl (by decide +kernel) rfl rfl
theorem ze_40_49 {V : zVt} {J : zJt} {d : Nat → Nat → UInt64} (x0 : Nat) (x1 : Nat) (x2 : Int) (x3 : Int) (x4 : Int) (x5 : Int) (x6 : Int) (x7 : Value) (s0 : Int) (h0 : zBk 5 x0) (h1 : zBk 5 x1) : zGo false 40 49 [.ref x0, .ref x1, .int (zi x2), .int (zi x3), .int (zi x4), .int (zi x5), .int (zi x6), x7] [.int (zi s0)] (zm V J d) =
    (if qw x6 = qw (-2) then zGo false 40 115 [.ref x0, .ref x1, .int (zi x2), .int (zi x3), .int (zi x4), .int (zi x5), .int (zi x6), .int (zi s0)] [] (zm V J d) else (if qw s0 = qw (-2) then zGo false 40 115 [.ref x0, .ref x1, .int (zi x2), .int (zi x3), .int (zi x4), .int (zi x5), .int (zi x6), .int (zi s0)] [] (zm V J d) else (zGo false 38 0 [.ref x0, .int (zi x2), .int (zi x5)] [] (zm V J d)).bind (zGor false 40 72 [.ref x0, .ref x1, .int (zi x2), .int (zi x3), .int (zi x4), .int (zi x5), .int (zi x6), .int (zi s0)] []))) := by
  refine (zr_istore (n := 7) (l1 := [.ref x0, .ref x1, .int (zi x2), .int (zi x3), .int (zi x4), .int (zi x5), .int (zi x6), .int (zi s0)]) (by decide +kernel) rfl).trans ?_
  refine (zr_iload (n := 6) (x := zi x6) (by decide +kernel) rfl).trans ?_
  refine (zr_bipush (n := -2) (by decide +kernel) rfl).trans ?_
  refine (zr_ceq (off := 60) (a := x6) (b := (-2)) (t := 115) (by decide +kernel) rfl).trans (zif_ct (fun _ => ?_) (fun _ => ?_))
  · rfl
  · refine (zr_iload (n := 7) (x := zi s0) (by decide +kernel) rfl).trans ?_
    refine (zr_bipush (n := -2) (by decide +kernel) rfl).trans ?_
    refine (zr_ceq (off := 53) (a := s0) (b := (-2)) (t := 115) (by decide +kernel) rfl).trans (zif_ct (fun _ => ?_) (fun _ => ?_))
    · rfl
    · refine (zr_aload_n (n := 0) (x := x0) (by decide +kernel) rfl).trans ?_
      refine (zr_iload_n (n := 2) (x := zi x2) (by decide +kernel) rfl).trans ?_
      refine (zr_iload (n := 5) (x := zi x5) (by decide +kernel) rfl).trans ?_
      exact zr_cV (i := 46) (z := 38) (w := 0) (o := x0) (t := [.int (zi x5), .int (zi x2)]) (rest := []) (L := [.ref x0, .int (zi x2), .int (zi x5)]) (pc1 := 72) (by decide +kernel) (by decide +kernel) (zb5_0 h0) (n := 2) (r := 0) rfl rfl rfl (by decide +kernel) rfl rfl
theorem ze_40_72 {V : zVt} {J : zJt} {d : Nat → Nat → UInt64} (x0 : Nat) (x1 : Nat) (x2 : Int) (x3 : Int) (x4 : Int) (x5 : Int) (x6 : Int) (x7 : Int) (s0 : Int) (h0 : zBk 5 x0) (h1 : zBk 5 x1) : zGo false 40 72 [.ref x0, .ref x1, .int (zi x2), .int (zi x3), .int (zi x4), .int (zi x5), .int (zi x6), .int (zi x7)] [.int (zi s0)] (zm V J d) =
    (if qw s0 ≠ 0 then zGo false 40 85 [.ref x0, .ref x1, .int (zi x2), .int (zi x3), .int (zi x4), .int (zi x5), .int (zi x6), .int (zi x7)] [] (zm V J d) else (zGo false 38 0 [.ref x1, .int (zi x2), .int (zi x5)] [] (zm V J d)).bind (zGor false 40 82 [.ref x0, .ref x1, .int (zi x2), .int (zi x3), .int (zi x4), .int (zi x5), .int (zi x6), .int (zi x7)] [])) := by
  refine (zr_ifne (off := 13) (a := s0) (t := 85) (by decide +kernel) rfl).trans (zif_ct (fun _ => ?_) (fun _ => ?_))
  · rfl
  · refine (zr_aload_n (n := 1) (x := x1) (by decide +kernel) rfl).trans ?_
    refine (zr_iload_n (n := 2) (x := zi x2) (by decide +kernel) rfl).trans ?_
    refine (zr_iload (n := 5) (x := zi x5) (by decide +kernel) rfl).trans ?_
    exact zr_cV (i := 46) (z := 38) (w := 0) (o := x1) (t := [.int (zi x5), .int (zi x2)]) (rest := []) (L := [.ref x1, .int (zi x2), .int (zi x5)]) (pc1 := 82) (by decide +kernel) (by decide +kernel) (zb5_0 h1) (n := 2) (r := 0) rfl rfl rfl (by decide +kernel) rfl rfl
theorem ze_40_82 {V : zVt} {J : zJt} {d : Nat → Nat → UInt64} (x0 : Nat) (x1 : Nat) (x2 : Int) (x3 : Int) (x4 : Int) (x5 : Int) (x6 : Int) (x7 : Int) (s0 : Int) (h0 : zBk 5 x0) (h1 : zBk 5 x1) : zGo false 40 82 [.ref x0, .ref x1, .int (zi x2), .int (zi x3), .int (zi x4), .int (zi x5), .int (zi x6), .int (zi x7)] [.int (zi s0)] (zm V J d) =
    (if qw s0 = 0 then zGo false 40 115 [.ref x0, .ref x1, .int (zi x2), .int (zi x3), .int (zi x4), .int (zi x5), .int (zi x6), .int (zi x7)] [] (zm V J d) else zGo false 40 85 [.ref x0, .ref x1, .int (zi x2), .int (zi x3), .int (zi x4), .int (zi x5), .int (zi x6), .int (zi x7)] [] (zm V J d)) := by
  refine (zr_ifeq (off := 33) (a := s0) (t := 115) (by decide +kernel) rfl).trans (zif_ct (fun _ => ?_) (fun _ => ?_))
  · rfl
  · rfl
theorem ze_40_85 {V : zVt} {J : zJt} {d : Nat → Nat → UInt64} (x0 : Nat) (x1 : Nat) (x2 : Int) (x3 : Int) (x4 : Int) (x5 : Int) (x6 : Int) (x7 : Int) (h0 : zBk 5 x0) (h1 : zBk 5 x1) : zGo false 40 85 [.ref x0, .ref x1, .int (zi x2), .int (zi x3), .int (zi x4), .int (zi x5), .int (zi x6), .int (zi x7)] [] (zm V J d) =
    (if qw x3 ≠ qw (2) then (if qw x7 ≤ qw x6 then zGo false 40 115 [.ref x0, .ref x1, .int (zi x2), .int (zi x3), .int (zi x4), .int (zi x5), .int (zi x6), .int (zi x7)] [] (zm V J d) else zGo false 40 112 [.ref x0, .ref x1, .int (zi x2), .int (zi x3), .int (zi x4), .int (zi x5), .int (zi x6), .int (zi x7)] [] (zm V J d)) else (zGo false 41 0 [.ref x0, .int (zi (x6 - x7)), .null] [] (zm V J d)).bind (zGor false 40 99 [.ref x0, .ref x1, .int (zi x2), .int (zi x3), .int (zi x4), .int (zi x5), .int (zi x6), .int (zi x7)] [])) := by
  refine (zr_iload_n (n := 3) (x := zi x3) (by decide +kernel) rfl).trans ?_
  refine (zr_iconst (n := 2) (by decide +kernel)).trans ?_
  refine (zr_cne (off := 18) (a := x3) (b := (2)) (t := 105) (by decide +kernel) rfl).trans (zif_ct (fun _ => ?_) (fun _ => ?_))
  · refine (zr_iload (n := 7) (x := zi x7) (by decide +kernel) rfl).trans ?_
    refine (zr_iload (n := 6) (x := zi x6) (by decide +kernel) rfl).trans ?_
    refine (zr_cle (off := 6) (a := x7) (b := x6) (t := 115) (by decide +kernel) rfl).trans (zif_ct (fun _ => ?_) (fun _ => ?_))
    · rfl
    · rfl
  · refine (zr_aload_n (n := 0) (x := x0) (by decide +kernel) rfl).trans ?_
    refine (zr_iload (n := 6) (x := zi x6) (by decide +kernel) rfl).trans ?_
    refine (zr_iload (n := 7) (x := zi x7) (by decide +kernel) rfl).trans ?_
    refine (zr_isub (a := x6) (b := x7) (by decide +kernel)).trans ?_
    exact zr_cV (i := 50) (z := 41) (w := 0) (o := x0) (t := [.int (zi (x6 - x7))]) (rest := []) (L := [.ref x0, .int (zi (x6 - x7)), .null]) (pc1 := 99) (by decide +kernel) (by decide +kernel) (zb5_0 h0) (n := 1) (r := 0) rfl rfl rfl (by decide +kernel) rfl rfl
theorem ze_40_99 {V : zVt} {J : zJt} {d : Nat → Nat → UInt64} (x0 : Nat) (x1 : Nat) (x2 : Int) (x3 : Int) (x4 : Int) (x5 : Int) (x6 : Int) (x7 : Int) (s0 : Int) (h0 : zBk 5 x0) (h1 : zBk 5 x1) : zGo false 40 99 [.ref x0, .ref x1, .int (zi x2), .int (zi x3), .int (zi x4), .int (zi x5), .int (zi x6), .int (zi x7)] [.int (zi s0)] (zm V J d) =
    (if qw s0 = 0 then zGo false 40 115 [.ref x0, .ref x1, .int (zi x2), .int (zi x3), .int (zi x4), .int (zi x5), .int (zi x6), .int (zi x7)] [] (zm V J d) else zGo false 40 112 [.ref x0, .ref x1, .int (zi x2), .int (zi x3), .int (zi x4), .int (zi x5), .int (zi x6), .int (zi x7)] [] (zm V J d)) := by
  refine (zr_ifeq (off := 16) (a := s0) (t := 115) (by decide +kernel) rfl).trans (zif_ct (fun _ => ?_) (fun _ => ?_))
  · rfl
  · refine (zr_goto (off := 10) (t := 112) (by decide +kernel) rfl).trans ?_
    rfl
theorem ze_40_112 {V : zVt} {J : zJt} {d : Nat → Nat → UInt64} (x0 : Nat) (x1 : Nat) (x2 : Int) (x3 : Int) (x4 : Int) (x5 : Int) (x6 : Int) (x7 : Int) (h0 : zBk 5 x0) (h1 : zBk 5 x1) : zGo false 40 112 [.ref x0, .ref x1, .int (zi x2), .int (zi x3), .int (zi x4), .int (zi x5), .int (zi x6), .int (zi x7)] [] (zm V J d) =
    zGo false 40 115 [.ref x0, .ref x1, .int (zi x2), .int (zi x3), .int (zi (x4 + 1)), .int (zi x5), .int (zi x6), .int (zi x7)] [] (zm V J d) := by
  refine (zr_iinc (n := 4) (k := 1) (x := x4) (l1 := [.ref x0, .ref x1, .int (zi x2), .int (zi x3), .int (zi (x4 + 1)), .int (zi x5), .int (zi x6), .int (zi x7)]) (by decide +kernel) rfl rfl).trans ?_
  rfl
theorem ze_40_115 {V : zVt} {J : zJt} {d : Nat → Nat → UInt64} (x0 : Nat) (x1 : Nat) (x2 : Int) (x3 : Int) (x4 : Int) (x5 : Int) (x6 : Int) (x7 : Int) (h0 : zBk 5 x0) (h1 : zBk 5 x1) : zGo false 40 115 [.ref x0, .ref x1, .int (zi x2), .int (zi x3), .int (zi x4), .int (zi x5), .int (zi x6), .int (zi x7)] [] (zm V J d) =
    zGo false 40 24 [.ref x0, .ref x1, .int (zi x2), .int (zi x3), .int (zi x4), .int (zi (x5 + 1)), .int (zi x6), .int (zi x7)] [] (zm V J d) := by
  refine (zr_iinc (n := 5) (k := 1) (x := x5) (l1 := [.ref x0, .ref x1, .int (zi x2), .int (zi x3), .int (zi x4), .int (zi (x5 + 1)), .int (zi x6), .int (zi x7)]) (by decide +kernel) rfl rfl).trans ?_
  refine (zr_goto (off := -94) (t := 24) (by decide +kernel) rfl).trans ?_
  rfl
/-! PartSongDesk$Music isHarsh (I)Z -/
theorem ze_41_0 {V : zVt} {J : zJt} {d : Nat → Nat → UInt64} (x0 : Nat) (x1 : Int) (h0 : zBk 5 x0) : zGo false 41 0 [.ref x0, .int (zi x1), .null] [] (zm V J d) =
    (zGo false 234 0 [.int (zi x1)] [] (zm V J d)).bind (zGor false 41 4 [.ref x0, .int (zi x1), .null] []) := by
  refine (zr_iload_n (n := 1) (x := zi x1) (by decide +kernel) rfl).trans ?_
  exact zr_cS (i := 53) (z := 234) (w := 0) (t := [.int (zi x1)]) (rest := []) (L := [.int (zi x1)]) (pc1 := 4) (by decide +kernel) (by decide +kernel) (n := 1) (r := 0) rfl rfl rfl (by decide +kernel) rfl rfl
theorem ze_41_4 {V : zVt} {J : zJt} {d : Nat → Nat → UInt64} (x0 : Nat) (x1 : Int) (s0 : Int) (h0 : zBk 5 x0) : zGo false 41 4 [.ref x0, .int (zi x1), .null] [.int (zi s0)] (zm V J d) =
    zck (qw (12) ≠ 0) ((if qw (qrem s0 (12)) = qw (1) then zGo false 41 19 [.ref x0, .int (zi x1), .int (zi (qrem s0 (12)))] [] (zm V J d) else (if qw (qrem s0 (12)) ≠ qw (11) then zGo false 41 24 [.ref x0, .int (zi x1), .int (zi (qrem s0 (12)))] [.int (zi (0))] (zm V J d) else zGo false 41 19 [.ref x0, .int (zi x1), .int (zi (qrem s0 (12)))] [] (zm V J d)))) := by
  refine (zr_bipush (n := 12) (by decide +kernel) rfl).trans ?_
  refine (zr_irem (a := s0) (b := (12)) (by decide +kernel)).trans (zck_ct fun _ => ?_)
  refine (zr_istore_n (n := 2) (l1 := [.ref x0, .int (zi x1), .int (zi (qrem s0 (12)))]) (by decide +kernel) rfl).trans ?_
  refine (zr_iload_n (n := 2) (x := zi (qrem s0 (12))) (by decide +kernel) rfl).trans ?_
  refine (zr_iconst (n := 1) (by decide +kernel)).trans ?_
  refine (zr_ceq (off := 9) (a := (qrem s0 (12))) (b := (1)) (t := 19) (by decide +kernel) rfl).trans (zif_ct (fun _ => ?_) (fun _ => ?_))
  · rfl
  · refine (zr_iload_n (n := 2) (x := zi (qrem s0 (12))) (by decide +kernel) rfl).trans ?_
    refine (zr_bipush (n := 11) (by decide +kernel) rfl).trans ?_
    refine (zr_cne (off := 7) (a := (qrem s0 (12))) (b := (11)) (t := 23) (by decide +kernel) rfl).trans (zif_ct (fun _ => ?_) (fun _ => ?_))
    · refine (zr_iconst (n := 0) (by decide +kernel)).trans ?_
      rfl
    · rfl
theorem ze_41_19 {V : zVt} {J : zJt} {d : Nat → Nat → UInt64} (x0 : Nat) (x1 : Int) (x2 : Int) (h0 : zBk 5 x0) : zGo false 41 19 [.ref x0, .int (zi x1), .int (zi x2)] [] (zm V J d) =
    zGo false 41 24 [.ref x0, .int (zi x1), .int (zi x2)] [.int (zi (1))] (zm V J d) := by
  refine (zr_iconst (n := 1) (by decide +kernel)).trans ?_
  refine (zr_goto (off := 4) (t := 24) (by decide +kernel) rfl).trans ?_
  rfl
theorem ze_41_24 {V : zVt} {J : zJt} {d : Nat → Nat → UInt64} (x0 : Nat) (x1 : Int) (x2 : Int) (s0 : Int) (h0 : zBk 5 x0) : zGo false 41 24 [.ref x0, .int (zi x1), .int (zi x2)] [.int (zi s0)] (zm V J d) =
    zck (qw s0 = 0 ∨ qw s0 = 1) (some (.inl (some (.int (zi s0))), zm V J d)) := by
  exact zr_zret (a := s0) (by decide +kernel) rfl
/-! PartSongDesk$Music isEvenWith (LPartSongDesk$Music;)Z -/
theorem ze_42_0 {V : zVt} {J : zJt} {d : Nat → Nat → UInt64} (x0 : Nat) (x1 : Nat) (h0 : zBk 5 x0) (h1 : zBk 5 x1) : zGo false 42 0 [.ref x0, .ref x1] [] (zm V J d) =
    (if qw (V x0 2) ≠ qw (V x1 2) then zGo false 42 33 [.ref x0, .ref x1] [] (zm V J d) else (if qw (V x0 2) = 0 then zGo false 42 29 [.ref x0, .ref x1] [] (zm V J d) else (if qw (V x0 3) ≠ qw (V x1 3) then zGo false 42 33 [.ref x0, .ref x1] [] (zm V J d) else zGo false 42 29 [.ref x0, .ref x1] [] (zm V J d)))) := by
  refine (zr_aload_n (n := 0) (x := x0) (by decide +kernel) rfl).trans ?_
  refine (zr_getI (i := 22) (c := 5) (k := 2) (by decide +kernel) (by decide +kernel) (zb5_0 h0) (by decide +kernel)).trans ?_
  refine (zr_aload_n (n := 1) (x := x1) (by decide +kernel) rfl).trans ?_
  refine (zr_getI (i := 22) (c := 5) (k := 2) (by decide +kernel) (by decide +kernel) (zb5_0 h1) (by decide +kernel)).trans ?_
  refine (zr_cne (off := 25) (a := (V x0 2)) (b := (V x1 2)) (t := 33) (by decide +kernel) rfl).trans (zif_ct (fun _ => ?_) (fun _ => ?_))
  · rfl
  · refine (zr_aload_n (n := 0) (x := x0) (by decide +kernel) rfl).trans ?_
    refine (zr_getI (i := 22) (c := 5) (k := 2) (by decide +kernel) (by decide +kernel) (zb5_0 h0) (by decide +kernel)).trans ?_
    refine (zr_ifeq (off := 14) (a := (V x0 2)) (t := 29) (by decide +kernel) rfl).trans (zif_ct (fun _ => ?_) (fun _ => ?_))
    · rfl
    · refine (zr_aload_n (n := 0) (x := x0) (by decide +kernel) rfl).trans ?_
      refine (zr_getI (i := 25) (c := 5) (k := 3) (by decide +kernel) (by decide +kernel) (zb5_0 h0) (by decide +kernel)).trans ?_
      refine (zr_aload_n (n := 1) (x := x1) (by decide +kernel) rfl).trans ?_
      refine (zr_getI (i := 25) (c := 5) (k := 3) (by decide +kernel) (by decide +kernel) (zb5_0 h1) (by decide +kernel)).trans ?_
      refine (zr_cne (off := 7) (a := (V x0 3)) (b := (V x1 3)) (t := 33) (by decide +kernel) rfl).trans (zif_ct (fun _ => ?_) (fun _ => ?_))
      · rfl
      · rfl
theorem ze_42_29 {V : zVt} {J : zJt} {d : Nat → Nat → UInt64} (x0 : Nat) (x1 : Nat) (h0 : zBk 5 x0) (h1 : zBk 5 x1) : zGo false 42 29 [.ref x0, .ref x1] [] (zm V J d) =
    zGo false 42 34 [.ref x0, .ref x1] [.int (zi (1))] (zm V J d) := by
  refine (zr_iconst (n := 1) (by decide +kernel)).trans ?_
  refine (zr_goto (off := 4) (t := 34) (by decide +kernel) rfl).trans ?_
  rfl
theorem ze_42_33 {V : zVt} {J : zJt} {d : Nat → Nat → UInt64} (x0 : Nat) (x1 : Nat) (h0 : zBk 5 x0) (h1 : zBk 5 x1) : zGo false 42 33 [.ref x0, .ref x1] [] (zm V J d) =
    zGo false 42 34 [.ref x0, .ref x1] [.int (zi (0))] (zm V J d) := by
  refine (zr_iconst (n := 0) (by decide +kernel)).trans ?_
  rfl
theorem ze_42_34 {V : zVt} {J : zJt} {d : Nat → Nat → UInt64} (x0 : Nat) (x1 : Nat) (s0 : Int) (h0 : zBk 5 x0) (h1 : zBk 5 x1) : zGo false 42 34 [.ref x0, .ref x1] [.int (zi s0)] (zm V J d) =
    zck (qw s0 = 0 ∨ qw s0 = 1) (some (.inl (some (.int (zi s0))), zm V J d)) := by
  exact zr_zret (a := s0) (by decide +kernel) rfl
/-! PartSongDesk$Part isHeld ()Z -/
theorem ze_44_0 {V : zVt} {J : zJt} {d : Nat → Nat → UInt64} (x0 : Nat) (h0 : zBk 6 x0) : zGo false 44 0 [.ref x0] [] (zm V J d) =
    (if qw (V x0 3) = 0 then zGo false 44 21 [.ref x0] [] (zm V J d) else (if qw (V (x0 + 13) 0) ≠ 0 then zGo false 44 21 [.ref x0] [] (zm V J d) else zGo false 44 22 [.ref x0] [.int (zi (1))] (zm V J d))) := by
  refine (zr_aload_n (n := 0) (x := x0) (by decide +kernel) rfl).trans ?_
  refine (zr_getI (i := 36) (c := 6) (k := 3) (by decide +kernel) (by decide +kernel) (zb6_0 h0) (by decide +kernel)).trans ?_
  refine (zr_ifeq (off := 17) (a := (V x0 3)) (t := 21) (by decide +kernel) rfl).trans (zif_ct (fun _ => ?_) (fun _ => ?_))
  · rfl
  · refine (zr_aload_n (n := 0) (x := x0) (by decide +kernel) rfl).trans ?_
    refine (zr_getR (i := 32) (c := 6) (k := 8) (r := (x0 + 13)) (by decide +kernel) (by decide +kernel) (zb6_0 h0) (by decide +kernel) (zR0_f (o := x0) (c := 6) (n := 0) (k := 8) (j := 13) (zb6_0 h0) (by decide) rfl)).trans ?_
    refine (zr_getI (i := 40) (c := 5) (k := 0) (by decide +kernel) (by decide +kernel) (zb5_0 (zBk_6music h0)) (by decide +kernel)).trans ?_
    refine (zr_ifne (off := 7) (a := (V (x0 + 13) 0)) (t := 21) (by decide +kernel) rfl).trans (zif_ct (fun _ => ?_) (fun _ => ?_))
    · rfl
    · refine (zr_iconst (n := 1) (by decide +kernel)).trans ?_
      refine (zr_goto (off := 4) (t := 22) (by decide +kernel) rfl).trans ?_
      rfl
theorem ze_44_21 {V : zVt} {J : zJt} {d : Nat → Nat → UInt64} (x0 : Nat) (h0 : zBk 6 x0) : zGo false 44 21 [.ref x0] [] (zm V J d) =
    zGo false 44 22 [.ref x0] [.int (zi (0))] (zm V J d) := by
  refine (zr_iconst (n := 0) (by decide +kernel)).trans ?_
  rfl
theorem ze_44_22 {V : zVt} {J : zJt} {d : Nat → Nat → UInt64} (x0 : Nat) (s0 : Int) (h0 : zBk 6 x0) : zGo false 44 22 [.ref x0] [.int (zi s0)] (zm V J d) =
    zck (qw s0 = 0 ∨ qw s0 = 1) (some (.inl (some (.int (zi s0))), zm V J d)) := by
  exact zr_zret (a := s0) (by decide +kernel) rfl
