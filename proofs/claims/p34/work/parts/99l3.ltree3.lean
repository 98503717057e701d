/-! part 99l3.ltree3: the law's method law as equations; printed by program (wip/p34/gen/gen_ltree.py) -/
theorem lw_237_18 {cf : Int32 → Int32} {V : zVt} {J : zJt} {d : Nat → Nat → UInt64} {kk : Nat} : wGo cf 237 18 [.ref 1048578, .ref 0, .ref 430, .ref 431, .null, .null, .null, .null, .null, .null, .null, .null, .null, .null, .null, .null, .null, .null, .null, .null, .null, .null, .null, .null] [] (zm V J d) kk =
    wGo cf 237 24 [.ref 1048578, .ref 0, .ref 430, .ref 431, .int (zi (1)), .int (zi (0)), .null, .null, .null, .null, .null, .null, .null, .null, .null, .null, .null, .null, .null, .null, .null, .null, .null, .null] [] (zm V J d) kk := by
  refine (wr_iconst (n := 1) (by decide +kernel)).trans ?_
  refine (wr_istore (n := 4) (l1 := [.ref 1048578, .ref 0, .ref 430, .ref 431, .int (zi (1)), .null, .null, .null, .null, .null, .null, .null, .null, .null, .null, .null, .null, .null, .null, .null, .null, .null, .null, .null]) (by decide +kernel) rfl).trans ?_
  refine (wr_iconst (n := 0) (by decide +kernel)).trans ?_
  refine (wr_istore (n := 5) (l1 := [.ref 1048578, .ref 0, .ref 430, .ref 431, .int (zi (1)), .int (zi (0)), .null, .null, .null, .null, .null, .null, .null, .null, .null, .null, .null, .null, .null, .null, .null, .null, .null, .null]) (by decide +kernel) rfl).trans ?_
  rfl
theorem lw_237_24 {cf : Int32 → Int32} {V : zVt} {J : zJt} {d : Nat → Nat → UInt64} {kk : Nat} {x4 : Int} {x5 : Int} : wGo cf 237 24 [.ref 1048578, .ref 0, .ref 430, .ref 431, .int (zi x4), .int (zi x5), .null, .null, .null, .null, .null, .null, .null, .null, .null, .null, .null, .null, .null, .null, .null, .null, .null, .null] [] (zm V J d) kk =
    (if qw (8) ≤ qw x5 then wGo cf 237 151 [.ref 1048578, .ref 0, .ref 430, .ref 431, .int (zi x4), .int (zi x5), .null, .null, .null, .null, .null, .null, .null, .null, .null, .null, .null, .null, .null, .null, .null, .null, .null, .null] [] (zm V J d) kk else (if qw x4 = 0 then wGo cf 237 151 [.ref 1048578, .ref 0, .ref 430, .ref 431, .int (zi x4), .int (zi x5), .null, .null, .null, .null, .null, .null, .null, .null, .null, .null, .null, .null, .null, .null, .null, .null, .null, .null] [] (zm V J d) kk else wck (qw (4) ≠ 0) (wck (qw (4) ≠ 0) (wck (qw (3) ≠ 0) ((if qw (qrem x5 (3)) ≠ qw (2) then wGo cf 237 60 [.ref 1048578, .ref 0, .ref 430, .ref 431, .int (zi x4), .int (zi x5), .null, .null, .null, .null, .null, .null, .null, .null, .null, .null, .null, .null, .null, .null, .null, .null, .null, .null] [.int (zi x5), .ref 1048578, .int (zi (qrem x5 (4))), .int (zi (qdiv x5 (4))), .ref 0] (zm V J d) kk else wGo cf 237 60 [.ref 1048578, .ref 0, .ref 430, .ref 431, .int (zi x4), .int (zi x5), .null, .null, .null, .null, .null, .null, .null, .null, .null, .null, .null, .null, .null, .null, .null, .null, .null, .null] [.int (zi (0)), .ref 1048578, .int (zi (qrem x5 (4))), .int (zi (qdiv x5 (4))), .ref 0] (zm V J d) kk)))))) := by
  refine (wr_iload (n := 5) (x := zi x5) (by decide +kernel) rfl).trans ?_
  refine (wr_bipush (n := 8) (by decide +kernel) rfl).trans ?_
  refine (wr_cge (off := 123) (a := x5) (b := (8)) (t := 151) (by decide +kernel) rfl).trans (wif_ct (fun _ => ?_) (fun _ => ?_))
  · rfl
  · refine (wr_iload (n := 4) (x := zi x4) (by decide +kernel) rfl).trans ?_
    refine (wr_ifeq (off := 118) (a := x4) (t := 151) (by decide +kernel) rfl).trans (wif_ct (fun _ => ?_) (fun _ => ?_))
    · rfl
    · refine (wr_aload_n (n := 1) (x := 0) (by decide +kernel) rfl).trans ?_
      refine (wr_iload (n := 5) (x := zi x5) (by decide +kernel) rfl).trans ?_
      refine (wr_iconst (n := 4) (by decide +kernel)).trans ?_
      refine (wr_idiv (a := x5) (b := (4)) (by decide +kernel)).trans (wck_ct fun _ => ?_)
      refine (wr_iload (n := 5) (x := zi x5) (by decide +kernel) rfl).trans ?_
      refine (wr_iconst (n := 4) (by decide +kernel)).trans ?_
      refine (wr_irem (a := x5) (b := (4)) (by decide +kernel)).trans (wck_ct fun _ => ?_)
      refine (wr_aload_n (n := 0) (x := 1048578) (by decide +kernel) rfl).trans ?_
      refine (wr_iload (n := 5) (x := zi x5) (by decide +kernel) rfl).trans ?_
      refine (wr_iconst (n := 3) (by decide +kernel)).trans ?_
      refine (wr_irem (a := x5) (b := (3)) (by decide +kernel)).trans (wck_ct fun _ => ?_)
      refine (wr_iconst (n := 2) (by decide +kernel)).trans ?_
      refine (wr_cne (off := 7) (a := (qrem x5 (3))) (b := (2)) (t := 58) (by decide +kernel) rfl).trans (wif_ct (fun _ => ?_) (fun _ => ?_))
      · refine (wr_iload (n := 5) (x := zi x5) (by decide +kernel) rfl).trans ?_
        rfl
      · refine (wr_iconst (n := 0) (by decide +kernel)).trans ?_
        refine (wr_goto (off := 5) (t := 60) (by decide +kernel) rfl).trans ?_
        rfl
theorem lw_237_60 {cf : Int32 → Int32} {V : zVt} {J : zJt} {d : Nat → Nat → UInt64} {kk : Nat} {x4 : Int} {x5 : Int} {s1 : Int} {s2 : Int} {s4 : Int} : wGo cf 237 60 [.ref 1048578, .ref 0, .ref 430, .ref 431, .int (zi x4), .int (zi x5), .null, .null, .null, .null, .null, .null, .null, .null, .null, .null, .null, .null, .null, .null, .null, .null, .null, .null] [.int (zi s4), .ref 1048578, .int (zi s2), .int (zi s1), .ref 0] (zm V J d) kk =
    wck (0 ≤ qw s4) (wGo cf 237 63 [.ref 1048578, .ref 0, .ref 430, .ref 431, .int (zi x4), .int (zi x5), .null, .null, .null, .null, .null, .null, .null, .null, .null, .null, .null, .null, .null, .null, .null, .null, .null, .null] [.int (zi (cf (zi s4)).toInt), .int (zi s2), .int (zi s1), .ref 0] (zm V J d) kk) := by
  refine (wr_cell (i := 127) (w := 0) (a := s4) (rest := [.int (zi s2), .int (zi s1), .ref 0]) (by decide +kernel) (by decide +kernel) (Nat.le_of_ble_eq_true rfl)).trans (wck_ct fun _ => ?_)
  rfl
theorem lw_237_63 {cf : Int32 → Int32} {V : zVt} {J : zJt} {d : Nat → Nat → UInt64} {kk : Nat} {x4 : Int} {x5 : Int} {s1 : Int} {s2 : Int} {s3 : Int} : wGo cf 237 63 [.ref 1048578, .ref 0, .ref 430, .ref 431, .int (zi x4), .int (zi x5), .null, .null, .null, .null, .null, .null, .null, .null, .null, .null, .null, .null, .null, .null, .null, .null, .null, .null] [.int (zi s3), .int (zi s2), .int (zi s1), .ref 0] (zm V J d) kk =
    (wGo cf 143 0 [.ref 0, .int (zi s1), .int (zi s2), .int (zi s3), .null, .null, .null, .null, .null, .null, .null] [] (zm V J d) kk).bind (wGor cf 237 66 [.ref 1048578, .ref 0, .ref 430, .ref 431, .int (zi x4), .int (zi x5), .null, .null, .null, .null, .null, .null, .null, .null, .null, .null, .null, .null, .null, .null, .null, .null, .null, .null] []) := by
  exact wr_call (i := 131) (z := 143) (w := 0) (t := [.int (zi s3), .int (zi s2), .int (zi s1), .ref 0]) (L := [.ref 0, .int (zi s1), .int (zi s2), .int (zi s3), .null, .null, .null, .null, .null, .null, .null]) (rest := []) (by decide +kernel) (by decide +kernel) (by decide) rfl rfl (Nat.le_of_ble_eq_true rfl) rfl
theorem lw_237_66 {cf : Int32 → Int32} {V : zVt} {J : zJt} {d : Nat → Nat → UInt64} {kk : Nat} {x4 : Int} {x5 : Int} {s0 : Int} : wGo cf 237 66 [.ref 1048578, .ref 0, .ref 430, .ref 431, .int (zi x4), .int (zi x5), .null, .null, .null, .null, .null, .null, .null, .null, .null, .null, .null, .null, .null, .null, .null, .null, .null, .null] [.int (zi s0)] (zm V J d) kk =
    (if qw s0 = 0 then wGo cf 237 137 [.ref 1048578, .ref 0, .ref 430, .ref 431, .int (zi x4), .int (zi x5), .null, .null, .null, .null, .null, .null, .null, .null, .null, .null, .null, .null, .null, .null, .null, .null, .null, .null] [] (zm V J d) kk else wck (qw (4) ≠ 0) (wck (qw (4) ≠ 0) ((wstub 1 [zi (qdiv x5 (4)), zi (qrem x5 (4))] (zm V J d)).bind (wGos cf 237 81 [.ref 1048578, .ref 0, .ref 430, .ref 431, .int (zi x4), .int (zi x5), .null, .null, .null, .null, .null, .null, .null, .null, .null, .null, .null, .null, .null, .null, .null, .null, .null, .null] [] kk)))) := by
  refine (wr_ifeq (off := 71) (a := s0) (t := 137) (by decide +kernel) rfl).trans (wif_ct (fun _ => ?_) (fun _ => ?_))
  · rfl
  · refine (wr_aload_n (n := 1) (x := 0) (by decide +kernel) rfl).trans ?_
    refine (wr_iload (n := 5) (x := zi x5) (by decide +kernel) rfl).trans ?_
    refine (wr_iconst (n := 4) (by decide +kernel)).trans ?_
    refine (wr_idiv (a := x5) (b := (4)) (by decide +kernel)).trans (wck_ct fun _ => ?_)
    refine (wr_iload (n := 5) (x := zi x5) (by decide +kernel) rfl).trans ?_
    refine (wr_iconst (n := 4) (by decide +kernel)).trans ?_
    refine (wr_irem (a := x5) (b := (4)) (by decide +kernel)).trans (wck_ct fun _ => ?_)
    exact wr_stub (i := 135) (s := 1) (w := 0) (xs := [zi (qdiv x5 (4)), zi (qrem x5 (4))]) (t := [.int (zi (qrem x5 (4))), .int (zi (qdiv x5 (4)))]) (rest := []) (by decide +kernel) (by decide +kernel) (by decide) rfl rfl rfl (Nat.le_of_ble_eq_true rfl)
theorem lw_237_81 {cf : Int32 → Int32} {V : zVt} {J : zJt} {d : Nat → Nat → UInt64} {kk : Nat} {x4 : Int} {x5 : Int} {s0 : Int} : wGo cf 237 81 [.ref 1048578, .ref 0, .ref 430, .ref 431, .int (zi x4), .int (zi x5), .null, .null, .null, .null, .null, .null, .null, .null, .null, .null, .null, .null, .null, .null, .null, .null, .null, .null] [.int (zi s0)] (zm V J d) kk =
    (if qw s0 ≠ 0 then wGo cf 237 137 [.ref 1048578, .ref 0, .ref 430, .ref 431, .int (zi x4), .int (zi x5), .null, .null, .null, .null, .null, .null, .null, .null, .null, .null, .null, .null, .null, .null, .null, .null, .null, .null] [] (zm V J d) kk else wck (qw (4) ≠ 0) (wck (qw (4) ≠ 0) ((wstub 2 [zi (qdiv x5 (4)), zi (qrem x5 (4))] (zm V J d)).bind (wGos cf 237 96 [.ref 1048578, .ref 0, .ref 430, .ref 431, .int (zi x4), .int (zi x5), .null, .null, .null, .null, .null, .null, .null, .null, .null, .null, .null, .null, .null, .null, .null, .null, .null, .null] [] kk)))) := by
  refine (wr_ifne (off := 56) (a := s0) (t := 137) (by decide +kernel) rfl).trans (wif_ct (fun _ => ?_) (fun _ => ?_))
  · rfl
  · refine (wr_aload_n (n := 1) (x := 0) (by decide +kernel) rfl).trans ?_
    refine (wr_iload (n := 5) (x := zi x5) (by decide +kernel) rfl).trans ?_
    refine (wr_iconst (n := 4) (by decide +kernel)).trans ?_
    refine (wr_idiv (a := x5) (b := (4)) (by decide +kernel)).trans (wck_ct fun _ => ?_)
    refine (wr_iload (n := 5) (x := zi x5) (by decide +kernel) rfl).trans ?_
    refine (wr_iconst (n := 4) (by decide +kernel)).trans ?_
    refine (wr_irem (a := x5) (b := (4)) (by decide +kernel)).trans (wck_ct fun _ => ?_)
    exact wr_stub (i := 137) (s := 2) (w := 0) (xs := [zi (qdiv x5 (4)), zi (qrem x5 (4))]) (t := [.int (zi (qrem x5 (4))), .int (zi (qdiv x5 (4)))]) (rest := []) (by decide +kernel) (by decide +kernel) (by decide) rfl rfl rfl (Nat.le_of_ble_eq_true rfl)
theorem lw_237_96 {cf : Int32 → Int32} {V : zVt} {J : zJt} {d : Nat → Nat → UInt64} {kk : Nat} {x4 : Int} {x5 : Int} {s0 : Int} : wGo cf 237 96 [.ref 1048578, .ref 0, .ref 430, .ref 431, .int (zi x4), .int (zi x5), .null, .null, .null, .null, .null, .null, .null, .null, .null, .null, .null, .null, .null, .null, .null, .null, .null, .null] [.int (zi s0)] (zm V J d) kk =
    (if qw s0 ≠ qw (-1) then wGo cf 237 137 [.ref 1048578, .ref 0, .ref 430, .ref 431, .int (zi x4), .int (zi x5), .null, .null, .null, .null, .null, .null, .null, .null, .null, .null, .null, .null, .null, .null, .null, .null, .null, .null] [] (zm V J d) kk else wck (qw (4) ≠ 0) (wck (qw (4) ≠ 0) ((wstub 5 [zi (qdiv x5 (4)), zi (qrem x5 (4))] (zm V J d)).bind (wGos cf 237 112 [.ref 1048578, .ref 0, .ref 430, .ref 431, .int (zi x4), .int (zi x5), .null, .null, .null, .null, .null, .null, .null, .null, .null, .null, .null, .null, .null, .null, .null, .null, .null, .null] [] kk)))) := by
  refine (wr_iconst (n := -1) (by decide +kernel)).trans ?_
  refine (wr_cne (off := 40) (a := s0) (b := (-1)) (t := 137) (by decide +kernel) rfl).trans (wif_ct (fun _ => ?_) (fun _ => ?_))
  · rfl
  · refine (wr_aload_n (n := 1) (x := 0) (by decide +kernel) rfl).trans ?_
    refine (wr_iload (n := 5) (x := zi x5) (by decide +kernel) rfl).trans ?_
    refine (wr_iconst (n := 4) (by decide +kernel)).trans ?_
    refine (wr_idiv (a := x5) (b := (4)) (by decide +kernel)).trans (wck_ct fun _ => ?_)
    refine (wr_iload (n := 5) (x := zi x5) (by decide +kernel) rfl).trans ?_
    refine (wr_iconst (n := 4) (by decide +kernel)).trans ?_
    refine (wr_irem (a := x5) (b := (4)) (by decide +kernel)).trans (wck_ct fun _ => ?_)
    exact wr_stub (i := 139) (s := 5) (w := 0) (xs := [zi (qdiv x5 (4)), zi (qrem x5 (4))]) (t := [.int (zi (qrem x5 (4))), .int (zi (qdiv x5 (4)))]) (rest := []) (by decide +kernel) (by decide +kernel) (by decide) rfl rfl rfl (Nat.le_of_ble_eq_true rfl)
theorem lw_237_112 {cf : Int32 → Int32} {V : zVt} {J : zJt} {d : Nat → Nat → UInt64} {kk : Nat} {x4 : Int} {x5 : Int} {s0 : Int} : wGo cf 237 112 [.ref 1048578, .ref 0, .ref 430, .ref 431, .int (zi x4), .int (zi x5), .null, .null, .null, .null, .null, .null, .null, .null, .null, .null, .null, .null, .null, .null, .null, .null, .null, .null] [.int (zi s0)] (zm V J d) kk =
    (if qw s0 < qw (5) then wGo cf 237 137 [.ref 1048578, .ref 0, .ref 430, .ref 431, .int (zi x4), .int (zi x5), .null, .null, .null, .null, .null, .null, .null, .null, .null, .null, .null, .null, .null, .null, .null, .null, .null, .null] [] (zm V J d) kk else wck (qw (4) ≠ 0) (wck (qw (4) ≠ 0) ((wstub 8 [zi (qdiv x5 (4)), zi (qrem x5 (4))] (zm V J d)).bind (wGos cf 237 128 [.ref 1048578, .ref 0, .ref 430, .ref 431, .int (zi x4), .int (zi x5), .null, .null, .null, .null, .null, .null, .null, .null, .null, .null, .null, .null, .null, .null, .null, .null, .null, .null] [] kk)))) := by
  refine (wr_iconst (n := 5) (by decide +kernel)).trans ?_
  refine (wr_clt (off := 24) (a := s0) (b := (5)) (t := 137) (by decide +kernel) rfl).trans (wif_ct (fun _ => ?_) (fun _ => ?_))
  · rfl
  · refine (wr_aload_n (n := 1) (x := 0) (by decide +kernel) rfl).trans ?_
    refine (wr_iload (n := 5) (x := zi x5) (by decide +kernel) rfl).trans ?_
    refine (wr_iconst (n := 4) (by decide +kernel)).trans ?_
    refine (wr_idiv (a := x5) (b := (4)) (by decide +kernel)).trans (wck_ct fun _ => ?_)
    refine (wr_iload (n := 5) (x := zi x5) (by decide +kernel) rfl).trans ?_
    refine (wr_iconst (n := 4) (by decide +kernel)).trans ?_
    refine (wr_irem (a := x5) (b := (4)) (by decide +kernel)).trans (wck_ct fun _ => ?_)
    exact wr_stub (i := 141) (s := 8) (w := 0) (xs := [zi (qdiv x5 (4)), zi (qrem x5 (4))]) (t := [.int (zi (qrem x5 (4))), .int (zi (qdiv x5 (4)))]) (rest := []) (by decide +kernel) (by decide +kernel) (by decide) rfl rfl rfl (Nat.le_of_ble_eq_true rfl)
theorem lw_237_128 {cf : Int32 → Int32} {V : zVt} {J : zJt} {d : Nat → Nat → UInt64} {kk : Nat} {x4 : Int} {x5 : Int} {s0 : Int} : wGo cf 237 128 [.ref 1048578, .ref 0, .ref 430, .ref 431, .int (zi x4), .int (zi x5), .null, .null, .null, .null, .null, .null, .null, .null, .null, .null, .null, .null, .null, .null, .null, .null, .null, .null] [.int (zi s0)] (zm V J d) kk =
    (if qw s0 ≠ qw x5 then wGo cf 237 137 [.ref 1048578, .ref 0, .ref 430, .ref 431, .int (zi x4), .int (zi x5), .null, .null, .null, .null, .null, .null, .null, .null, .null, .null, .null, .null, .null, .null, .null, .null, .null, .null] [] (zm V J d) kk else wGo cf 237 138 [.ref 1048578, .ref 0, .ref 430, .ref 431, .int (zi x4), .int (zi x5), .null, .null, .null, .null, .null, .null, .null, .null, .null, .null, .null, .null, .null, .null, .null, .null, .null, .null] [.int (zi (1))] (zm V J d) kk) := by
  refine (wr_iload (n := 5) (x := zi x5) (by decide +kernel) rfl).trans ?_
  refine (wr_cne (off := 7) (a := s0) (b := x5) (t := 137) (by decide +kernel) rfl).trans (wif_ct (fun _ => ?_) (fun _ => ?_))
  · rfl
  · refine (wr_iconst (n := 1) (by decide +kernel)).trans ?_
    refine (wr_goto (off := 4) (t := 138) (by decide +kernel) rfl).trans ?_
    rfl
theorem lw_237_137 {cf : Int32 → Int32} {V : zVt} {J : zJt} {d : Nat → Nat → UInt64} {kk : Nat} {x4 : Int} {x5 : Int} : wGo cf 237 137 [.ref 1048578, .ref 0, .ref 430, .ref 431, .int (zi x4), .int (zi x5), .null, .null, .null, .null, .null, .null, .null, .null, .null, .null, .null, .null, .null, .null, .null, .null, .null, .null] [] (zm V J d) kk =
    wGo cf 237 138 [.ref 1048578, .ref 0, .ref 430, .ref 431, .int (zi x4), .int (zi x5), .null, .null, .null, .null, .null, .null, .null, .null, .null, .null, .null, .null, .null, .null, .null, .null, .null, .null] [.int (zi (0))] (zm V J d) kk := by
  refine (wr_iconst (n := 0) (by decide +kernel)).trans ?_
  rfl
theorem lw_237_138 {cf : Int32 → Int32} {V : zVt} {J : zJt} {d : Nat → Nat → UInt64} {kk : Nat} {x4 : Int} {x5 : Int} {s0 : Int} : wGo cf 237 138 [.ref 1048578, .ref 0, .ref 430, .ref 431, .int (zi x4), .int (zi x5), .null, .null, .null, .null, .null, .null, .null, .null, .null, .null, .null, .null, .null, .null, .null, .null, .null, .null] [.int (zi s0)] (zm V J d) kk =
    wck (0 ≤ qw x5 ∧ qw x5 < (40 : Nat)) (wGo cf 237 24 [.ref 1048578, .ref 0, .ref 430, .ref 431, .int (zi s0), .int (zi (x5 + 1)), .null, .null, .null, .null, .null, .null, .null, .null, .null, .null, .null, .null, .null, .null, .null, .null, .null, .null] [] (zm (vup V 430 (qw x5) (-1)) J d) kk) := by
  refine (wr_istore (n := 4) (l1 := [.ref 1048578, .ref 0, .ref 430, .ref 431, .int (zi s0), .int (zi x5), .null, .null, .null, .null, .null, .null, .null, .null, .null, .null, .null, .null, .null, .null, .null, .null, .null, .null]) (by decide +kernel) rfl).trans ?_
  refine (wr_aload_n (n := 2) (x := 430) (by decide +kernel) rfl).trans ?_
  refine (wr_iload (n := 5) (x := zi x5) (by decide +kernel) rfl).trans ?_
  refine (wr_iconst (n := -1) (by decide +kernel)).trans ?_
  refine (wr_iast (n := 40) (e := x5) (x := (-1)) (by decide +kernel) rfl).trans (wck_ct fun _ => ?_)
  refine (wr_iinc (n := 5) (j := 1) (x := x5) (l1 := [.ref 1048578, .ref 0, .ref 430, .ref 431, .int (zi s0), .int (zi (x5 + 1)), .null, .null, .null, .null, .null, .null, .null, .null, .null, .null, .null, .null, .null, .null, .null, .null, .null, .null]) (by decide +kernel) rfl rfl).trans ?_
  refine (wr_goto (off := -124) (t := 24) (by decide +kernel) rfl).trans ?_
  rfl
theorem lw_237_151 {cf : Int32 → Int32} {V : zVt} {J : zJt} {d : Nat → Nat → UInt64} {kk : Nat} {x4 : Int} {x5 : Int} : wGo cf 237 151 [.ref 1048578, .ref 0, .ref 430, .ref 431, .int (zi x4), .int (zi x5), .null, .null, .null, .null, .null, .null, .null, .null, .null, .null, .null, .null, .null, .null, .null, .null, .null, .null] [] (zm V J d) kk =
    wGo cf 237 170 [.ref 1048578, .ref 0, .ref 430, .ref 431, .int (zi x4), .int (zi (8)), .int (zi (0)), .int (zi (0)), .int (zi (0)), .int (zi (0)), .int (zi (0)), .null, .null, .null, .null, .null, .null, .null, .null, .null, .null, .null, .null, .null] [] (zm V J d) kk := by
  refine (wr_bipush (n := 8) (by decide +kernel) rfl).trans ?_
  refine (wr_istore (n := 5) (l1 := [.ref 1048578, .ref 0, .ref 430, .ref 431, .int (zi x4), .int (zi (8)), .null, .null, .null, .null, .null, .null, .null, .null, .null, .null, .null, .null, .null, .null, .null, .null, .null, .null]) (by decide +kernel) rfl).trans ?_
  refine (wr_iconst (n := 0) (by decide +kernel)).trans ?_
  refine (wr_istore (n := 6) (l1 := [.ref 1048578, .ref 0, .ref 430, .ref 431, .int (zi x4), .int (zi (8)), .int (zi (0)), .null, .null, .null, .null, .null, .null, .null, .null, .null, .null, .null, .null, .null, .null, .null, .null, .null]) (by decide +kernel) rfl).trans ?_
  refine (wr_iconst (n := 0) (by decide +kernel)).trans ?_
  refine (wr_istore (n := 7) (l1 := [.ref 1048578, .ref 0, .ref 430, .ref 431, .int (zi x4), .int (zi (8)), .int (zi (0)), .int (zi (0)), .null, .null, .null, .null, .null, .null, .null, .null, .null, .null, .null, .null, .null, .null, .null, .null]) (by decide +kernel) rfl).trans ?_
  refine (wr_iconst (n := 0) (by decide +kernel)).trans ?_
  refine (wr_istore (n := 8) (l1 := [.ref 1048578, .ref 0, .ref 430, .ref 431, .int (zi x4), .int (zi (8)), .int (zi (0)), .int (zi (0)), .int (zi (0)), .null, .null, .null, .null, .null, .null, .null, .null, .null, .null, .null, .null, .null, .null, .null]) (by decide +kernel) rfl).trans ?_
  refine (wr_iconst (n := 0) (by decide +kernel)).trans ?_
  refine (wr_istore (n := 9) (l1 := [.ref 1048578, .ref 0, .ref 430, .ref 431, .int (zi x4), .int (zi (8)), .int (zi (0)), .int (zi (0)), .int (zi (0)), .int (zi (0)), .null, .null, .null, .null, .null, .null, .null, .null, .null, .null, .null, .null, .null, .null]) (by decide +kernel) rfl).trans ?_
  refine (wr_iconst (n := 0) (by decide +kernel)).trans ?_
  refine (wr_istore (n := 10) (l1 := [.ref 1048578, .ref 0, .ref 430, .ref 431, .int (zi x4), .int (zi (8)), .int (zi (0)), .int (zi (0)), .int (zi (0)), .int (zi (0)), .int (zi (0)), .null, .null, .null, .null, .null, .null, .null, .null, .null, .null, .null, .null, .null]) (by decide +kernel) rfl).trans ?_
  rfl
theorem lw_237_170 {cf : Int32 → Int32} {V : zVt} {J : zJt} {d : Nat → Nat → UInt64} {kk : Nat} {x4 : Int} {x5 : Int} {x6 : Int} {x7 : Int} {x8 : Int} {x9 : Int} {x10 : Int} {x11 : Value} {x12 : Value} {x13 : Value} {x14 : Value} {x15 : Value} {x16 : Value} {x17 : Value} {x18 : Value} {x19 : Value} {x20 : Value} {x21 : Value} {x22 : Value} {x23 : Value} : wGo cf 237 170 [.ref 1048578, .ref 0, .ref 430, .ref 431, .int (zi x4), .int (zi x5), .int (zi x6), .int (zi x7), .int (zi x8), .int (zi x9), .int (zi x10), x11, x12, x13, x14, x15, x16, x17, x18, x19, x20, x21, x22, x23] [] (zm V J d) kk =
    (if qw (48) ≤ qw x10 then wGo cf 237 1648 [.ref 1048578, .ref 0, .ref 430, .ref 431, .int (zi x4), .int (zi x5), .int (zi x6), .int (zi x7), .int (zi x8), .int (zi x9), .int (zi x10), x11, x12, x13, x14, x15, x16, x17, x18, x19, x20, x21, x22, x23] [] (zm V J d) kk else (if qw x4 = 0 then wGo cf 237 1648 [.ref 1048578, .ref 0, .ref 430, .ref 431, .int (zi x4), .int (zi x5), .int (zi x6), .int (zi x7), .int (zi x8), .int (zi x9), .int (zi x10), x11, x12, x13, x14, x15, x16, x17, x18, x19, x20, x21, x22, x23] [] (zm V J d) kk else wck (0 ≤ qw ((8) + x10)) (wGo cf 237 191 [.ref 1048578, .ref 0, .ref 430, .ref 431, .int (zi x4), .int (zi x5), .int (zi x6), .int (zi x7), .int (zi x8), .int (zi x9), .int (zi x10), x11, x12, x13, x14, x15, x16, x17, x18, x19, x20, x21, x22, x23] [.int (zi (cf (zi ((8) + x10))).toInt)] (zm V J d) kk))) := by
  refine (wr_iload (n := 10) (x := zi x10) (by decide +kernel) rfl).trans ?_
  refine (wr_bipush (n := 48) (by decide +kernel) rfl).trans ?_
  refine (wr_cge (off := 1474) (a := x10) (b := (48)) (t := 1648) (by decide +kernel) rfl).trans (wif_ct (fun _ => ?_) (fun _ => ?_))
  · rfl
  · refine (wr_iload (n := 4) (x := zi x4) (by decide +kernel) rfl).trans ?_
    refine (wr_ifeq (off := 1469) (a := x4) (t := 1648) (by decide +kernel) rfl).trans (wif_ct (fun _ => ?_) (fun _ => ?_))
    · rfl
    · refine (wr_aload_n (n := 0) (x := 1048578) (by decide +kernel) rfl).trans ?_
      refine (wr_bipush (n := 8) (by decide +kernel) rfl).trans ?_
      refine (wr_iload (n := 10) (x := zi x10) (by decide +kernel) rfl).trans ?_
      refine (wr_iadd (a := (8)) (b := x10) (by decide +kernel)).trans ?_
      refine (wr_cell (i := 127) (w := 0) (a := ((8) + x10)) (rest := []) (by decide +kernel) (by decide +kernel) (Nat.le_of_ble_eq_true rfl)).trans (wck_ct fun _ => ?_)
      rfl
theorem lw_237_191 {cf : Int32 → Int32} {V : zVt} {J : zJt} {d : Nat → Nat → UInt64} {kk : Nat} {x4 : Int} {x5 : Int} {x6 : Int} {x7 : Int} {x8 : Int} {x9 : Int} {x10 : Int} {x11 : Value} {x12 : Value} {x13 : Value} {x14 : Value} {x15 : Value} {x16 : Value} {x17 : Value} {x18 : Value} {x19 : Value} {x20 : Value} {x21 : Value} {x22 : Value} {x23 : Value} {s0 : Int} : wGo cf 237 191 [.ref 1048578, .ref 0, .ref 430, .ref 431, .int (zi x4), .int (zi x5), .int (zi x6), .int (zi x7), .int (zi x8), .int (zi x9), .int (zi x10), x11, x12, x13, x14, x15, x16, x17, x18, x19, x20, x21, x22, x23] [.int (zi s0)] (zm V J d) kk =
    wck (qw (20) ≠ 0) (wck (qw (20) ≠ 0) (wck (qw x5 ≠ 0) (wck (qw (7) ≠ 0) (wck (qw (6) ≠ 0) (wck (qw (2) ≠ 0) ((if qw (5) ≤ qw (qrem s0 (20)) then (if qw (7) ≤ qw (qrem s0 (20)) then (if qw (11) ≤ qw (qrem s0 (20)) then (if qw (qrem s0 (20)) ≠ qw (11) then wGo cf 237 754 [.ref 1048578, .ref 0, .ref 430, .ref 431, .int (zi x4), .int (zi x5), .int (zi x6), .int (zi x7), .int (zi x8), .int (zi x9), .int (zi x10), .int (zi s0), .int (zi (qdiv s0 (20))), .int (zi (qrem s0 (20))), .int (zi (qrem (qdiv s0 (20)) x5)), .int (zi (qrem (qdiv (qdiv s0 (20)) (7)) (6))), .int (zi (qrem (qdiv s0 (20)) (2))), x17, x18, x19, x20, x21, x22, x23] [] (zm V J d) kk else (if qw (16) ≤ qw x5 then wGo cf 237 754 [.ref 1048578, .ref 0, .ref 430, .ref 431, .int (zi x4), .int (zi x5), .int (zi x6), .int (zi x7), .int (zi x8), .int (zi x9), .int (zi x10), .int (zi s0), .int (zi (qdiv s0 (20))), .int (zi (qrem s0 (20))), .int (zi (qrem (qdiv s0 (20)) x5)), .int (zi (qrem (qdiv (qdiv s0 (20)) (7)) (6))), .int (zi (qrem (qdiv s0 (20)) (2))), x17, x18, x19, x20, x21, x22, x23] [] (zm V J d) kk else wck (qw (4) ≠ 0) (wck (qw (2) ≠ 0) (wck (qw (4) ≠ 0) ((wstub 8 [zi (qrem (qdiv x5 (4)) (2)), zi (qrem x5 (4))] (zm V J d)).bind (wGos cf 237 721 [.ref 1048578, .ref 0, .ref 430, .ref 431, .int (zi x4), .int (zi x5), .int (zi x6), .int (zi x7), .int (zi x8), .int (zi x9), .int (zi x10), .int (zi s0), .int (zi (qdiv s0 (20))), .int (zi (qrem s0 (20))), .int (zi (qrem (qdiv s0 (20)) x5)), .int (zi (qrem (qdiv (qdiv s0 (20)) (7)) (6))), .int (zi (qrem (qdiv s0 (20)) (2))), x17, x18, x19, x20, x21, x22, x23] [] kk)))))) else wck (qw (8) ≠ 0) (wck (qw (4) ≠ 0) (wck (qw (4) ≠ 0) ((wstub 3 [zi (qdiv (qrem (qrem (qdiv s0 (20)) x5) (8)) (4)), zi (qrem (qrem (qdiv s0 (20)) x5) (4))] (zm V J d)).bind (wGos cf 237 475 [.ref 1048578, .ref 0, .ref 430, .ref 431, .int (zi x4), .int (zi x5), .int (zi x6), .int (zi x7), .int (zi x8), .int (zi x9), .int (zi x10), .int (zi s0), .int (zi (qdiv s0 (20))), .int (zi (qrem s0 (20))), .int (zi (qrem (qdiv s0 (20)) x5)), .int (zi (qrem (qdiv (qdiv s0 (20)) (7)) (6))), .int (zi (qrem (qdiv s0 (20)) (2))), x17, x18, x19, x20, x21, x22, x23] [] kk))))) else (wstub 10 [zi (qrem (qdiv s0 (20)) x5)] (zm V J d)).bind (wGos cf 237 395 [.ref 1048578, .ref 0, .ref 430, .ref 431, .int (zi x4), .int (zi x5), .int (zi x6), .int (zi x7), .int (zi x8), .int (zi x9), .int (zi x10), .int (zi s0), .int (zi (qdiv s0 (20))), .int (zi (qrem s0 (20))), .int (zi (qrem (qdiv s0 (20)) x5)), .int (zi (qrem (qdiv (qdiv s0 (20)) (7)) (6))), .int (zi (qrem (qdiv s0 (20)) (2))), x17, x18, x19, x20, x21, x22, x23] [] kk)) else (wstub 9 [zi (qrem (qdiv s0 (20)) x5), zi (qrem (qdiv (qdiv s0 (20)) (7)) (6))] (zm V J d)).bind (wGos cf 237 244 [.ref 1048578, .ref 0, .ref 430, .ref 431, .int (zi x4), .int (zi x5), .int (zi x6), .int (zi x7), .int (zi x8), .int (zi x9), .int (zi x10), .int (zi s0), .int (zi (qdiv s0 (20))), .int (zi (qrem s0 (20))), .int (zi (qrem (qdiv s0 (20)) x5)), .int (zi (qrem (qdiv (qdiv s0 (20)) (7)) (6))), .int (zi (qrem (qdiv s0 (20)) (2))), x17, x18, x19, x20, x21, x22, x23] [] kk)))))))) := by
  refine (wr_istore (n := 11) (l1 := [.ref 1048578, .ref 0, .ref 430, .ref 431, .int (zi x4), .int (zi x5), .int (zi x6), .int (zi x7), .int (zi x8), .int (zi x9), .int (zi x10), .int (zi s0), x12, x13, x14, x15, x16, x17, x18, x19, x20, x21, x22, x23]) (by decide +kernel) rfl).trans ?_
  refine (wr_iload (n := 11) (x := zi s0) (by decide +kernel) rfl).trans ?_
  refine (wr_bipush (n := 20) (by decide +kernel) rfl).trans ?_
  refine (wr_idiv (a := s0) (b := (20)) (by decide +kernel)).trans (wck_ct fun _ => ?_)
  refine (wr_istore (n := 12) (l1 := [.ref 1048578, .ref 0, .ref 430, .ref 431, .int (zi x4), .int (zi x5), .int (zi x6), .int (zi x7), .int (zi x8), .int (zi x9), .int (zi x10), .int (zi s0), .int (zi (qdiv s0 (20))), x13, x14, x15, x16, x17, x18, x19, x20, x21, x22, x23]) (by decide +kernel) rfl).trans ?_
  refine (wr_iload (n := 11) (x := zi s0) (by decide +kernel) rfl).trans ?_
  refine (wr_bipush (n := 20) (by decide +kernel) rfl).trans ?_
  refine (wr_irem (a := s0) (b := (20)) (by decide +kernel)).trans (wck_ct fun _ => ?_)
  refine (wr_istore (n := 13) (l1 := [.ref 1048578, .ref 0, .ref 430, .ref 431, .int (zi x4), .int (zi x5), .int (zi x6), .int (zi x7), .int (zi x8), .int (zi x9), .int (zi x10), .int (zi s0), .int (zi (qdiv s0 (20))), .int (zi (qrem s0 (20))), x14, x15, x16, x17, x18, x19, x20, x21, x22, x23]) (by decide +kernel) rfl).trans ?_
  refine (wr_iload (n := 12) (x := zi (qdiv s0 (20))) (by decide +kernel) rfl).trans ?_
  refine (wr_iload (n := 5) (x := zi x5) (by decide +kernel) rfl).trans ?_
  refine (wr_irem (a := (qdiv s0 (20))) (b := x5) (by decide +kernel)).trans (wck_ct fun _ => ?_)
  refine (wr_istore (n := 14) (l1 := [.ref 1048578, .ref 0, .ref 430, .ref 431, .int (zi x4), .int (zi x5), .int (zi x6), .int (zi x7), .int (zi x8), .int (zi x9), .int (zi x10), .int (zi s0), .int (zi (qdiv s0 (20))), .int (zi (qrem s0 (20))), .int (zi (qrem (qdiv s0 (20)) x5)), x15, x16, x17, x18, x19, x20, x21, x22, x23]) (by decide +kernel) rfl).trans ?_
  refine (wr_iload (n := 12) (x := zi (qdiv s0 (20))) (by decide +kernel) rfl).trans ?_
  refine (wr_bipush (n := 7) (by decide +kernel) rfl).trans ?_
  refine (wr_idiv (a := (qdiv s0 (20))) (b := (7)) (by decide +kernel)).trans (wck_ct fun _ => ?_)
  refine (wr_bipush (n := 6) (by decide +kernel) rfl).trans ?_
  refine (wr_irem (a := (qdiv (qdiv s0 (20)) (7))) (b := (6)) (by decide +kernel)).trans (wck_ct fun _ => ?_)
  refine (wr_istore (n := 15) (l1 := [.ref 1048578, .ref 0, .ref 430, .ref 431, .int (zi x4), .int (zi x5), .int (zi x6), .int (zi x7), .int (zi x8), .int (zi x9), .int (zi x10), .int (zi s0), .int (zi (qdiv s0 (20))), .int (zi (qrem s0 (20))), .int (zi (qrem (qdiv s0 (20)) x5)), .int (zi (qrem (qdiv (qdiv s0 (20)) (7)) (6))), x16, x17, x18, x19, x20, x21, x22, x23]) (by decide +kernel) rfl).trans ?_
  refine (wr_iload (n := 12) (x := zi (qdiv s0 (20))) (by decide +kernel) rfl).trans ?_
  refine (wr_iconst (n := 2) (by decide +kernel)).trans ?_
  refine (wr_irem (a := (qdiv s0 (20))) (b := (2)) (by decide +kernel)).trans (wck_ct fun _ => ?_)
  refine (wr_istore (n := 16) (l1 := [.ref 1048578, .ref 0, .ref 430, .ref 431, .int (zi x4), .int (zi x5), .int (zi x6), .int (zi x7), .int (zi x8), .int (zi x9), .int (zi x10), .int (zi s0), .int (zi (qdiv s0 (20))), .int (zi (qrem s0 (20))), .int (zi (qrem (qdiv s0 (20)) x5)), .int (zi (qrem (qdiv (qdiv s0 (20)) (7)) (6))), .int (zi (qrem (qdiv s0 (20)) (2))), x17, x18, x19, x20, x21, x22, x23]) (by decide +kernel) rfl).trans ?_
  refine (wr_iload (n := 13) (x := zi (qrem s0 (20))) (by decide +kernel) rfl).trans ?_
  refine (wr_iconst (n := 5) (by decide +kernel)).trans ?_
  refine (wr_cge (off := 149) (a := (qrem s0 (20))) (b := (5)) (t := 382) (by decide +kernel) rfl).trans (wif_ct (fun _ => ?_) (fun _ => ?_))
  · refine (wr_iload (n := 13) (x := zi (qrem s0 (20))) (by decide +kernel) rfl).trans ?_
    refine (wr_bipush (n := 7) (by decide +kernel) rfl).trans ?_
    refine (wr_cge (off := 67) (a := (qrem s0 (20))) (b := (7)) (t := 453) (by decide +kernel) rfl).trans (wif_ct (fun _ => ?_) (fun _ => ?_))
    · refine (wr_iload (n := 13) (x := zi (qrem s0 (20))) (by decide +kernel) rfl).trans ?_
      refine (wr_bipush (n := 11) (by decide +kernel) rfl).trans ?_
      refine (wr_cge (off := 236) (a := (qrem s0 (20))) (b := (11)) (t := 693) (by decide +kernel) rfl).trans (wif_ct (fun _ => ?_) (fun _ => ?_))
      · refine (wr_iload (n := 13) (x := zi (qrem s0 (20))) (by decide +kernel) rfl).trans ?_
        refine (wr_bipush (n := 11) (by decide +kernel) rfl).trans ?_
        refine (wr_cne (off := 57) (a := (qrem s0 (20))) (b := (11)) (t := 754) (by decide +kernel) rfl).trans (wif_ct (fun _ => ?_) (fun _ => ?_))
        · rfl
        · refine (wr_iload (n := 5) (x := zi x5) (by decide +kernel) rfl).trans ?_
          refine (wr_bipush (n := 16) (by decide +kernel) rfl).trans ?_
          refine (wr_cge (off := 50) (a := x5) (b := (16)) (t := 754) (by decide +kernel) rfl).trans (wif_ct (fun _ => ?_) (fun _ => ?_))
          · rfl
          · refine (wr_aload_n (n := 1) (x := 0) (by decide +kernel) rfl).trans ?_
            refine (wr_iload (n := 5) (x := zi x5) (by decide +kernel) rfl).trans ?_
            refine (wr_iconst (n := 4) (by decide +kernel)).trans ?_
            refine (wr_idiv (a := x5) (b := (4)) (by decide +kernel)).trans (wck_ct fun _ => ?_)
            refine (wr_iconst (n := 2) (by decide +kernel)).trans ?_
            refine (wr_irem (a := (qdiv x5 (4))) (b := (2)) (by decide +kernel)).trans (wck_ct fun _ => ?_)
            refine (wr_iload (n := 5) (x := zi x5) (by decide +kernel) rfl).trans ?_
            refine (wr_iconst (n := 4) (by decide +kernel)).trans ?_
            refine (wr_irem (a := x5) (b := (4)) (by decide +kernel)).trans (wck_ct fun _ => ?_)
            exact wr_stub (i := 141) (s := 8) (w := 0) (xs := [zi (qrem (qdiv x5 (4)) (2)), zi (qrem x5 (4))]) (t := [.int (zi (qrem x5 (4))), .int (zi (qrem (qdiv x5 (4)) (2)))]) (rest := []) (by decide +kernel) (by decide +kernel) (by decide) rfl rfl rfl (Nat.le_of_ble_eq_true rfl)
      · refine (wr_aload_n (n := 1) (x := 0) (by decide +kernel) rfl).trans ?_
        refine (wr_iload (n := 14) (x := zi (qrem (qdiv s0 (20)) x5)) (by decide +kernel) rfl).trans ?_
        refine (wr_bipush (n := 8) (by decide +kernel) rfl).trans ?_
        refine (wr_irem (a := (qrem (qdiv s0 (20)) x5)) (b := (8)) (by decide +kernel)).trans (wck_ct fun _ => ?_)
        refine (wr_iconst (n := 4) (by decide +kernel)).trans ?_
        refine (wr_idiv (a := (qrem (qrem (qdiv s0 (20)) x5) (8))) (b := (4)) (by decide +kernel)).trans (wck_ct fun _ => ?_)
        refine (wr_iload (n := 14) (x := zi (qrem (qdiv s0 (20)) x5)) (by decide +kernel) rfl).trans ?_
        refine (wr_iconst (n := 4) (by decide +kernel)).trans ?_
        refine (wr_irem (a := (qrem (qdiv s0 (20)) x5)) (b := (4)) (by decide +kernel)).trans (wck_ct fun _ => ?_)
        exact wr_stub (i := 147) (s := 3) (w := 0) (xs := [zi (qdiv (qrem (qrem (qdiv s0 (20)) x5) (8)) (4)), zi (qrem (qrem (qdiv s0 (20)) x5) (4))]) (t := [.int (zi (qrem (qrem (qdiv s0 (20)) x5) (4))), .int (zi (qdiv (qrem (qrem (qdiv s0 (20)) x5) (8)) (4)))]) (rest := []) (by decide +kernel) (by decide +kernel) (by decide) rfl rfl rfl (Nat.le_of_ble_eq_true rfl)
    · refine (wr_aload_n (n := 1) (x := 0) (by decide +kernel) rfl).trans ?_
      refine (wr_iload (n := 14) (x := zi (qrem (qdiv s0 (20)) x5)) (by decide +kernel) rfl).trans ?_
      exact wr_stub (i := 145) (s := 10) (w := 0) (xs := [zi (qrem (qdiv s0 (20)) x5)]) (t := [.int (zi (qrem (qdiv s0 (20)) x5))]) (rest := []) (by decide +kernel) (by decide +kernel) (by decide) rfl rfl rfl (Nat.le_of_ble_eq_true rfl)
  · refine (wr_aload_n (n := 1) (x := 0) (by decide +kernel) rfl).trans ?_
    refine (wr_iload (n := 14) (x := zi (qrem (qdiv s0 (20)) x5)) (by decide +kernel) rfl).trans ?_
    refine (wr_iload (n := 15) (x := zi (qrem (qdiv (qdiv s0 (20)) (7)) (6))) (by decide +kernel) rfl).trans ?_
    exact wr_stub (i := 143) (s := 9) (w := 0) (xs := [zi (qrem (qdiv s0 (20)) x5), zi (qrem (qdiv (qdiv s0 (20)) (7)) (6))]) (t := [.int (zi (qrem (qdiv (qdiv s0 (20)) (7)) (6))), .int (zi (qrem (qdiv s0 (20)) x5))]) (rest := []) (by decide +kernel) (by decide +kernel) (by decide) rfl rfl rfl (Nat.le_of_ble_eq_true rfl)
theorem lw_237_244 {cf : Int32 → Int32} {V : zVt} {J : zJt} {d : Nat → Nat → UInt64} {kk : Nat} {x4 : Int} {x5 : Int} {x6 : Int} {x7 : Int} {x8 : Int} {x9 : Int} {x10 : Int} {x11 : Int} {x12 : Int} {x13 : Int} {x14 : Int} {x15 : Int} {x16 : Int} {x17 : Value} {x18 : Value} {x19 : Value} {x20 : Value} {x21 : Value} {x22 : Value} {x23 : Value} {s0 : Int} : wGo cf 237 244 [.ref 1048578, .ref 0, .ref 430, .ref 431, .int (zi x4), .int (zi x5), .int (zi x6), .int (zi x7), .int (zi x8), .int (zi x9), .int (zi x10), .int (zi x11), .int (zi x12), .int (zi x13), .int (zi x14), .int (zi x15), .int (zi x16), x17, x18, x19, x20, x21, x22, x23] [.int (zi s0)] (zm V J d) kk =
    wGo cf 237 252 [.ref 1048578, .ref 0, .ref 430, .ref 431, .int (zi x4), .int (zi x5), .int (zi x6), .int (zi x7), .int (zi x8), .int (zi x9), .int (zi x10), .int (zi x11), .int (zi x12), .int (zi x13), .int (zi x14), .int (zi x15), .int (zi x16), .int (zi s0), .int (zi (0)), .int (zi (0)), x20, x21, x22, x23] [] (zm V J d) kk := by
  refine (wr_istore (n := 17) (l1 := [.ref 1048578, .ref 0, .ref 430, .ref 431, .int (zi x4), .int (zi x5), .int (zi x6), .int (zi x7), .int (zi x8), .int (zi x9), .int (zi x10), .int (zi x11), .int (zi x12), .int (zi x13), .int (zi x14), .int (zi x15), .int (zi x16), .int (zi s0), x18, x19, x20, x21, x22, x23]) (by decide +kernel) rfl).trans ?_
  refine (wr_iconst (n := 0) (by decide +kernel)).trans ?_
  refine (wr_istore (n := 18) (l1 := [.ref 1048578, .ref 0, .ref 430, .ref 431, .int (zi x4), .int (zi x5), .int (zi x6), .int (zi x7), .int (zi x8), .int (zi x9), .int (zi x10), .int (zi x11), .int (zi x12), .int (zi x13), .int (zi x14), .int (zi x15), .int (zi x16), .int (zi s0), .int (zi (0)), x19, x20, x21, x22, x23]) (by decide +kernel) rfl).trans ?_
  refine (wr_iconst (n := 0) (by decide +kernel)).trans ?_
  refine (wr_istore (n := 19) (l1 := [.ref 1048578, .ref 0, .ref 430, .ref 431, .int (zi x4), .int (zi x5), .int (zi x6), .int (zi x7), .int (zi x8), .int (zi x9), .int (zi x10), .int (zi x11), .int (zi x12), .int (zi x13), .int (zi x14), .int (zi x15), .int (zi x16), .int (zi s0), .int (zi (0)), .int (zi (0)), x20, x21, x22, x23]) (by decide +kernel) rfl).trans ?_
  rfl
theorem lw_237_252 {cf : Int32 → Int32} {V : zVt} {J : zJt} {d : Nat → Nat → UInt64} {kk : Nat} {x4 : Int} {x5 : Int} {x6 : Int} {x7 : Int} {x8 : Int} {x9 : Int} {x10 : Int} {x11 : Int} {x12 : Int} {x13 : Int} {x14 : Int} {x15 : Int} {x16 : Int} {x17 : Int} {x18 : Int} {x19 : Int} {x20 : Value} {x21 : Value} {x22 : Value} {x23 : Value} : wGo cf 237 252 [.ref 1048578, .ref 0, .ref 430, .ref 431, .int (zi x4), .int (zi x5), .int (zi x6), .int (zi x7), .int (zi x8), .int (zi x9), .int (zi x10), .int (zi x11), .int (zi x12), .int (zi x13), .int (zi x14), .int (zi x15), .int (zi x16), .int (zi x17), .int (zi x18), .int (zi x19), x20, x21, x22, x23] [] (zm V J d) kk =
    (if qw x5 ≤ qw x19 then (if qw x17 ≠ qw (-103) then wck (0 ≤ qw x14 ∧ qw x14 < (40 : Nat)) ((if 0 ≤ qw (V 430 (qw x14)) then wGo cf 237 358 [.ref 1048578, .ref 0, .ref 430, .ref 431, .int (zi x4), .int (zi x5), .int (zi x6), .int (zi x7), .int (zi x8), .int (zi x9), .int (zi x10), .int (zi x11), .int (zi x12), .int (zi x13), .int (zi x14), .int (zi x15), .int (zi x16), .int (zi x17), .int (zi x18), .int (zi x19), x20, x21, x22, x23] [] (zm V J d) kk else (if qw x18 ≠ 0 then wGo cf 237 358 [.ref 1048578, .ref 0, .ref 430, .ref 431, .int (zi x4), .int (zi x5), .int (zi x6), .int (zi x7), .int (zi x8), .int (zi x9), .int (zi x10), .int (zi x11), .int (zi x12), .int (zi x13), .int (zi x14), .int (zi x15), .int (zi x16), .int (zi x17), .int (zi x18), .int (zi x19), x20, x21, x22, x23] [] (zm V J d) kk else (if qw x17 < 0 then wGo cf 237 358 [.ref 1048578, .ref 0, .ref 430, .ref 431, .int (zi x4), .int (zi x5), .int (zi x6), .int (zi x7), .int (zi x8), .int (zi x9), .int (zi x10), .int (zi x11), .int (zi x12), .int (zi x13), .int (zi x14), .int (zi x15), .int (zi x16), .int (zi x17), .int (zi x18), .int (zi x19), x20, x21, x22, x23] [] (zm V J d) kk else (if qw x6 < qw x17 then wGo cf 237 358 [.ref 1048578, .ref 0, .ref 430, .ref 431, .int (zi x4), .int (zi x5), .int (zi x6), .int (zi x7), .int (zi x8), .int (zi x9), .int (zi x10), .int (zi x11), .int (zi x12), .int (zi x13), .int (zi x14), .int (zi x15), .int (zi x16), .int (zi x17), .int (zi x18), .int (zi x19), x20, x21, x22, x23] [] (zm V J d) kk else wGo cf 237 359 [.ref 1048578, .ref 0, .ref 430, .ref 431, .int (zi x4), .int (zi x5), .int (zi x6), .int (zi x7), .int (zi x8), .int (zi x9), .int (zi x10), .int (zi x11), .int (zi x12), .int (zi x13), .int (zi x14), .int (zi x15), .int (zi x16), .int (zi x17), .int (zi x18), .int (zi x19), x20, x21, x22, x23] [.int (zi (1))] (zm V J d) kk))))) else wck (0 ≤ qw x14 ∧ qw x14 < (40 : Nat)) ((if 0 ≤ qw (V 430 (qw x14)) then wGo cf 237 322 [.ref 1048578, .ref 0, .ref 430, .ref 431, .int (zi x4), .int (zi x5), .int (zi x6), .int (zi x7), .int (zi x8), .int (zi x9), .int (zi x10), .int (zi x11), .int (zi x12), .int (zi x13), .int (zi x14), .int (zi x15), .int (zi x16), .int (zi x17), .int (zi x18), .int (zi x19), x20, x21, x22, x23] [] (zm V J d) kk else (if qw x18 = 0 then wGo cf 237 359 [.ref 1048578, .ref 0, .ref 430, .ref 431, .int (zi x4), .int (zi x5), .int (zi x6), .int (zi x7), .int (zi x8), .int (zi x9), .int (zi x10), .int (zi x11), .int (zi x12), .int (zi x13), .int (zi x14), .int (zi x15), .int (zi x16), .int (zi x17), .int (zi x18), .int (zi x19), x20, x21, x22, x23] [.int (zi (0))] (zm V J d) kk else wGo cf 237 322 [.ref 1048578, .ref 0, .ref 430, .ref 431, .int (zi x4), .int (zi x5), .int (zi x6), .int (zi x7), .int (zi x8), .int (zi x9), .int (zi x10), .int (zi x11), .int (zi x12), .int (zi x13), .int (zi x14), .int (zi x15), .int (zi x16), .int (zi x17), .int (zi x18), .int (zi x19), x20, x21, x22, x23] [] (zm V J d) kk)))) else (if qw x18 ≠ 0 then wGo cf 237 290 [.ref 1048578, .ref 0, .ref 430, .ref 431, .int (zi x4), .int (zi x5), .int (zi x6), .int (zi x7), .int (zi x8), .int (zi x9), .int (zi x10), .int (zi x11), .int (zi x12), .int (zi x13), .int (zi x14), .int (zi x15), .int (zi x16), .int (zi x17), .int (zi x18), .int (zi x19), x20, x21, x22, x23] [] (zm V J d) kk else wck (0 ≤ qw x19 ∧ qw x19 < (40 : Nat)) ((if qw (V 430 (qw x19)) ≠ qw x15 then wGo cf 237 294 [.ref 1048578, .ref 0, .ref 430, .ref 431, .int (zi x4), .int (zi x5), .int (zi x6), .int (zi x7), .int (zi x8), .int (zi x9), .int (zi x10), .int (zi x11), .int (zi x12), .int (zi x13), .int (zi x14), .int (zi x15), .int (zi x16), .int (zi x17), .int (zi x18), .int (zi x19), x20, x21, x22, x23] [] (zm V J d) kk else wck (qw (8) ≠ 0) (wck (qw (4) ≠ 0) (wck (qw (8) ≠ 0) (wck (qw (4) ≠ 0) ((if qw (qdiv (qrem x19 (8)) (4)) ≠ qw (qdiv (qrem x14 (8)) (4)) then wGo cf 237 294 [.ref 1048578, .ref 0, .ref 430, .ref 431, .int (zi x4), .int (zi x5), .int (zi x6), .int (zi x7), .int (zi x8), .int (zi x9), .int (zi x10), .int (zi x11), .int (zi x12), .int (zi x13), .int (zi x14), .int (zi x15), .int (zi x16), .int (zi x17), .int (zi x18), .int (zi x19), x20, x21, x22, x23] [] (zm V J d) kk else wGo cf 237 290 [.ref 1048578, .ref 0, .ref 430, .ref 431, .int (zi x4), .int (zi x5), .int (zi x6), .int (zi x7), .int (zi x8), .int (zi x9), .int (zi x10), .int (zi x11), .int (zi x12), .int (zi x13), .int (zi x14), .int (zi x15), .int (zi x16), .int (zi x17), .int (zi x18), .int (zi x19), x20, x21, x22, x23] [] (zm V J d) kk))))))))) := by
  refine (wr_iload (n := 19) (x := zi x19) (by decide +kernel) rfl).trans ?_
  refine (wr_iload (n := 5) (x := zi x5) (by decide +kernel) rfl).trans ?_
  refine (wr_cge (off := 47) (a := x19) (b := x5) (t := 303) (by decide +kernel) rfl).trans (wif_ct (fun _ => ?_) (fun _ => ?_))
  · refine (wr_iload (n := 17) (x := zi x17) (by decide +kernel) rfl).trans ?_
    refine (wr_bipush (n := -103) (by decide +kernel) rfl).trans ?_
    refine (wr_cne (off := 23) (a := x17) (b := (-103)) (t := 330) (by decide +kernel) rfl).trans (wif_ct (fun _ => ?_) (fun _ => ?_))
    · refine (wr_aload_n (n := 2) (x := 430) (by decide +kernel) rfl).trans ?_
      refine (wr_iload (n := 14) (x := zi x14) (by decide +kernel) rfl).trans ?_
      refine (wr_iald (n := 40) (e := x14) (by decide +kernel) rfl).trans (wck_ct fun _ => ?_)
      refine (wr_ifge (off := 24) (a := (V 430 (qw x14))) (t := 358) (by decide +kernel) rfl).trans (wif_ct (fun _ => ?_) (fun _ => ?_))
      · rfl
      · refine (wr_iload (n := 18) (x := zi x18) (by decide +kernel) rfl).trans ?_
        refine (wr_ifne (off := 19) (a := x18) (t := 358) (by decide +kernel) rfl).trans (wif_ct (fun _ => ?_) (fun _ => ?_))
        · rfl
        · refine (wr_iload (n := 17) (x := zi x17) (by decide +kernel) rfl).trans ?_
          refine (wr_iflt (off := 14) (a := x17) (t := 358) (by decide +kernel) rfl).trans (wif_ct (fun _ => ?_) (fun _ => ?_))
          · rfl
          · refine (wr_iload (n := 17) (x := zi x17) (by decide +kernel) rfl).trans ?_
            refine (wr_iload (n := 6) (x := zi x6) (by decide +kernel) rfl).trans ?_
            refine (wr_cgt (off := 7) (a := x17) (b := x6) (t := 358) (by decide +kernel) rfl).trans (wif_ct (fun _ => ?_) (fun _ => ?_))
            · rfl
            · refine (wr_iconst (n := 1) (by decide +kernel)).trans ?_
              refine (wr_goto (off := 4) (t := 359) (by decide +kernel) rfl).trans ?_
              rfl
    · refine (wr_aload_n (n := 2) (x := 430) (by decide +kernel) rfl).trans ?_
      refine (wr_iload (n := 14) (x := zi x14) (by decide +kernel) rfl).trans ?_
      refine (wr_iald (n := 40) (e := x14) (by decide +kernel) rfl).trans (wck_ct fun _ => ?_)
      refine (wr_ifge (off := 8) (a := (V 430 (qw x14))) (t := 322) (by decide +kernel) rfl).trans (wif_ct (fun _ => ?_) (fun _ => ?_))
      · rfl
      · refine (wr_iload (n := 18) (x := zi x18) (by decide +kernel) rfl).trans ?_
        refine (wr_ifeq (off := 7) (a := x18) (t := 326) (by decide +kernel) rfl).trans (wif_ct (fun _ => ?_) (fun _ => ?_))
        · refine (wr_iconst (n := 0) (by decide +kernel)).trans ?_
          refine (wr_goto (off := 32) (t := 359) (by decide +kernel) rfl).trans ?_
          rfl
        · rfl
  · refine (wr_iload (n := 18) (x := zi x18) (by decide +kernel) rfl).trans ?_
    refine (wr_ifne (off := 29) (a := x18) (t := 290) (by decide +kernel) rfl).trans (wif_ct (fun _ => ?_) (fun _ => ?_))
    · rfl
    · refine (wr_aload_n (n := 2) (x := 430) (by decide +kernel) rfl).trans ?_
      refine (wr_iload (n := 19) (x := zi x19) (by decide +kernel) rfl).trans ?_
      refine (wr_iald (n := 40) (e := x19) (by decide +kernel) rfl).trans (wck_ct fun _ => ?_)
      refine (wr_iload (n := 15) (x := zi x15) (by decide +kernel) rfl).trans ?_
      refine (wr_cne (off := 24) (a := (V 430 (qw x19))) (b := x15) (t := 294) (by decide +kernel) rfl).trans (wif_ct (fun _ => ?_) (fun _ => ?_))
      · rfl
      · refine (wr_iload (n := 19) (x := zi x19) (by decide +kernel) rfl).trans ?_
        refine (wr_bipush (n := 8) (by decide +kernel) rfl).trans ?_
        refine (wr_irem (a := x19) (b := (8)) (by decide +kernel)).trans (wck_ct fun _ => ?_)
        refine (wr_iconst (n := 4) (by decide +kernel)).trans ?_
        refine (wr_idiv (a := (qrem x19 (8))) (b := (4)) (by decide +kernel)).trans (wck_ct fun _ => ?_)
        refine (wr_iload (n := 14) (x := zi x14) (by decide +kernel) rfl).trans ?_
        refine (wr_bipush (n := 8) (by decide +kernel) rfl).trans ?_
        refine (wr_irem (a := x14) (b := (8)) (by decide +kernel)).trans (wck_ct fun _ => ?_)
        refine (wr_iconst (n := 4) (by decide +kernel)).trans ?_
        refine (wr_idiv (a := (qrem x14 (8))) (b := (4)) (by decide +kernel)).trans (wck_ct fun _ => ?_)
        refine (wr_cne (off := 7) (a := (qdiv (qrem x19 (8)) (4))) (b := (qdiv (qrem x14 (8)) (4))) (t := 294) (by decide +kernel) rfl).trans (wif_ct (fun _ => ?_) (fun _ => ?_))
        · rfl
        · rfl
theorem lw_237_290 {cf : Int32 → Int32} {V : zVt} {J : zJt} {d : Nat → Nat → UInt64} {kk : Nat} {x4 : Int} {x5 : Int} {x6 : Int} {x7 : Int} {x8 : Int} {x9 : Int} {x10 : Int} {x11 : Int} {x12 : Int} {x13 : Int} {x14 : Int} {x15 : Int} {x16 : Int} {x17 : Int} {x18 : Int} {x19 : Int} {x20 : Value} {x21 : Value} {x22 : Value} {x23 : Value} : wGo cf 237 290 [.ref 1048578, .ref 0, .ref 430, .ref 431, .int (zi x4), .int (zi x5), .int (zi x6), .int (zi x7), .int (zi x8), .int (zi x9), .int (zi x10), .int (zi x11), .int (zi x12), .int (zi x13), .int (zi x14), .int (zi x15), .int (zi x16), .int (zi x17), .int (zi x18), .int (zi x19), x20, x21, x22, x23] [] (zm V J d) kk =
    wGo cf 237 295 [.ref 1048578, .ref 0, .ref 430, .ref 431, .int (zi x4), .int (zi x5), .int (zi x6), .int (zi x7), .int (zi x8), .int (zi x9), .int (zi x10), .int (zi x11), .int (zi x12), .int (zi x13), .int (zi x14), .int (zi x15), .int (zi x16), .int (zi x17), .int (zi x18), .int (zi x19), x20, x21, x22, x23] [.int (zi (1))] (zm V J d) kk := by
  refine (wr_iconst (n := 1) (by decide +kernel)).trans ?_
  refine (wr_goto (off := 4) (t := 295) (by decide +kernel) rfl).trans ?_
  rfl
theorem lw_237_294 {cf : Int32 → Int32} {V : zVt} {J : zJt} {d : Nat → Nat → UInt64} {kk : Nat} {x4 : Int} {x5 : Int} {x6 : Int} {x7 : Int} {x8 : Int} {x9 : Int} {x10 : Int} {x11 : Int} {x12 : Int} {x13 : Int} {x14 : Int} {x15 : Int} {x16 : Int} {x17 : Int} {x18 : Int} {x19 : Int} {x20 : Value} {x21 : Value} {x22 : Value} {x23 : Value} : wGo cf 237 294 [.ref 1048578, .ref 0, .ref 430, .ref 431, .int (zi x4), .int (zi x5), .int (zi x6), .int (zi x7), .int (zi x8), .int (zi x9), .int (zi x10), .int (zi x11), .int (zi x12), .int (zi x13), .int (zi x14), .int (zi x15), .int (zi x16), .int (zi x17), .int (zi x18), .int (zi x19), x20, x21, x22, x23] [] (zm V J d) kk =
    wGo cf 237 295 [.ref 1048578, .ref 0, .ref 430, .ref 431, .int (zi x4), .int (zi x5), .int (zi x6), .int (zi x7), .int (zi x8), .int (zi x9), .int (zi x10), .int (zi x11), .int (zi x12), .int (zi x13), .int (zi x14), .int (zi x15), .int (zi x16), .int (zi x17), .int (zi x18), .int (zi x19), x20, x21, x22, x23] [.int (zi (0))] (zm V J d) kk := by
  refine (wr_iconst (n := 0) (by decide +kernel)).trans ?_
  rfl
theorem lw_237_295 {cf : Int32 → Int32} {V : zVt} {J : zJt} {d : Nat → Nat → UInt64} {kk : Nat} {x4 : Int} {x5 : Int} {x6 : Int} {x7 : Int} {x8 : Int} {x9 : Int} {x10 : Int} {x11 : Int} {x12 : Int} {x13 : Int} {x14 : Int} {x15 : Int} {x16 : Int} {x17 : Int} {x18 : Int} {x19 : Int} {x20 : Value} {x21 : Value} {x22 : Value} {x23 : Value} {s0 : Int} : wGo cf 237 295 [.ref 1048578, .ref 0, .ref 430, .ref 431, .int (zi x4), .int (zi x5), .int (zi x6), .int (zi x7), .int (zi x8), .int (zi x9), .int (zi x10), .int (zi x11), .int (zi x12), .int (zi x13), .int (zi x14), .int (zi x15), .int (zi x16), .int (zi x17), .int (zi x18), .int (zi x19), x20, x21, x22, x23] [.int (zi s0)] (zm V J d) kk =
    wGo cf 237 252 [.ref 1048578, .ref 0, .ref 430, .ref 431, .int (zi x4), .int (zi x5), .int (zi x6), .int (zi x7), .int (zi x8), .int (zi x9), .int (zi x10), .int (zi x11), .int (zi x12), .int (zi x13), .int (zi x14), .int (zi x15), .int (zi x16), .int (zi x17), .int (zi s0), .int (zi (x19 + 1)), x20, x21, x22, x23] [] (zm V J d) kk := by
  refine (wr_istore (n := 18) (l1 := [.ref 1048578, .ref 0, .ref 430, .ref 431, .int (zi x4), .int (zi x5), .int (zi x6), .int (zi x7), .int (zi x8), .int (zi x9), .int (zi x10), .int (zi x11), .int (zi x12), .int (zi x13), .int (zi x14), .int (zi x15), .int (zi x16), .int (zi x17), .int (zi s0), .int (zi x19), x20, x21, x22, x23]) (by decide +kernel) rfl).trans ?_
  refine (wr_iinc (n := 19) (j := 1) (x := x19) (l1 := [.ref 1048578, .ref 0, .ref 430, .ref 431, .int (zi x4), .int (zi x5), .int (zi x6), .int (zi x7), .int (zi x8), .int (zi x9), .int (zi x10), .int (zi x11), .int (zi x12), .int (zi x13), .int (zi x14), .int (zi x15), .int (zi x16), .int (zi x17), .int (zi s0), .int (zi (x19 + 1)), x20, x21, x22, x23]) (by decide +kernel) rfl rfl).trans ?_
  refine (wr_goto (off := -48) (t := 252) (by decide +kernel) rfl).trans ?_
  rfl
theorem lw_237_322 {cf : Int32 → Int32} {V : zVt} {J : zJt} {d : Nat → Nat → UInt64} {kk : Nat} {x4 : Int} {x5 : Int} {x6 : Int} {x7 : Int} {x8 : Int} {x9 : Int} {x10 : Int} {x11 : Int} {x12 : Int} {x13 : Int} {x14 : Int} {x15 : Int} {x16 : Int} {x17 : Int} {x18 : Int} {x19 : Int} {x20 : Value} {x21 : Value} {x22 : Value} {x23 : Value} : wGo cf 237 322 [.ref 1048578, .ref 0, .ref 430, .ref 431, .int (zi x4), .int (zi x5), .int (zi x6), .int (zi x7), .int (zi x8), .int (zi x9), .int (zi x10), .int (zi x11), .int (zi x12), .int (zi x13), .int (zi x14), .int (zi x15), .int (zi x16), .int (zi x17), .int (zi x18), .int (zi x19), x20, x21, x22, x23] [] (zm V J d) kk =
    wGo cf 237 359 [.ref 1048578, .ref 0, .ref 430, .ref 431, .int (zi x4), .int (zi x5), .int (zi x6), .int (zi x7), .int (zi x8), .int (zi x9), .int (zi x10), .int (zi x11), .int (zi x12), .int (zi x13), .int (zi x14), .int (zi x15), .int (zi x16), .int (zi x17), .int (zi x18), .int (zi x19), x20, x21, x22, x23] [.int (zi (1))] (zm V J d) kk := by
  refine (wr_iconst (n := 1) (by decide +kernel)).trans ?_
  refine (wr_goto (off := 36) (t := 359) (by decide +kernel) rfl).trans ?_
  rfl
theorem lw_237_358 {cf : Int32 → Int32} {V : zVt} {J : zJt} {d : Nat → Nat → UInt64} {kk : Nat} {x4 : Int} {x5 : Int} {x6 : Int} {x7 : Int} {x8 : Int} {x9 : Int} {x10 : Int} {x11 : Int} {x12 : Int} {x13 : Int} {x14 : Int} {x15 : Int} {x16 : Int} {x17 : Int} {x18 : Int} {x19 : Int} {x20 : Value} {x21 : Value} {x22 : Value} {x23 : Value} : wGo cf 237 358 [.ref 1048578, .ref 0, .ref 430, .ref 431, .int (zi x4), .int (zi x5), .int (zi x6), .int (zi x7), .int (zi x8), .int (zi x9), .int (zi x10), .int (zi x11), .int (zi x12), .int (zi x13), .int (zi x14), .int (zi x15), .int (zi x16), .int (zi x17), .int (zi x18), .int (zi x19), x20, x21, x22, x23] [] (zm V J d) kk =
    wGo cf 237 359 [.ref 1048578, .ref 0, .ref 430, .ref 431, .int (zi x4), .int (zi x5), .int (zi x6), .int (zi x7), .int (zi x8), .int (zi x9), .int (zi x10), .int (zi x11), .int (zi x12), .int (zi x13), .int (zi x14), .int (zi x15), .int (zi x16), .int (zi x17), .int (zi x18), .int (zi x19), x20, x21, x22, x23] [.int (zi (0))] (zm V J d) kk := by
  refine (wr_iconst (n := 0) (by decide +kernel)).trans ?_
  rfl
theorem lw_237_359 {cf : Int32 → Int32} {V : zVt} {J : zJt} {d : Nat → Nat → UInt64} {kk : Nat} {x4 : Int} {x5 : Int} {x6 : Int} {x7 : Int} {x8 : Int} {x9 : Int} {x10 : Int} {x11 : Int} {x12 : Int} {x13 : Int} {x14 : Int} {x15 : Int} {x16 : Int} {x17 : Int} {x18 : Int} {x19 : Int} {x20 : Value} {x21 : Value} {x22 : Value} {x23 : Value} {s0 : Int} : wGo cf 237 359 [.ref 1048578, .ref 0, .ref 430, .ref 431, .int (zi x4), .int (zi x5), .int (zi x6), .int (zi x7), .int (zi x8), .int (zi x9), .int (zi x10), .int (zi x11), .int (zi x12), .int (zi x13), .int (zi x14), .int (zi x15), .int (zi x16), .int (zi x17), .int (zi x18), .int (zi x19), x20, x21, x22, x23] [.int (zi s0)] (zm V J d) kk =
    (if 0 ≤ qw x17 then wGo cf 237 378 [.ref 1048578, .ref 0, .ref 430, .ref 431, .int (zi s0), .int (zi x5), .int (zi x6), .int (zi x7), .int (zi x8), .int (zi x9), .int (zi x10), .int (zi x11), .int (zi x12), .int (zi x13), .int (zi x14), .int (zi x15), .int (zi x16), .int (zi x17), .int (zi x18), .int (zi x19), x20, x21, x22, x23] [.int (zi x15), .int (zi x14), .ref 430] (zm V J d) kk else wck (0 ≤ qw x14 ∧ qw x14 < (40 : Nat)) (wGo cf 237 378 [.ref 1048578, .ref 0, .ref 430, .ref 431, .int (zi s0), .int (zi x5), .int (zi x6), .int (zi x7), .int (zi x8), .int (zi x9), .int (zi x10), .int (zi x11), .int (zi x12), .int (zi x13), .int (zi x14), .int (zi x15), .int (zi x16), .int (zi x17), .int (zi x18), .int (zi x19), x20, x21, x22, x23] [.int (zi (V 430 (qw x14))), .int (zi x14), .ref 430] (zm V J d) kk)) := by
  refine (wr_istore (n := 4) (l1 := [.ref 1048578, .ref 0, .ref 430, .ref 431, .int (zi s0), .int (zi x5), .int (zi x6), .int (zi x7), .int (zi x8), .int (zi x9), .int (zi x10), .int (zi x11), .int (zi x12), .int (zi x13), .int (zi x14), .int (zi x15), .int (zi x16), .int (zi x17), .int (zi x18), .int (zi x19), x20, x21, x22, x23]) (by decide +kernel) rfl).trans ?_
  refine (wr_aload_n (n := 2) (x := 430) (by decide +kernel) rfl).trans ?_
  refine (wr_iload (n := 14) (x := zi x14) (by decide +kernel) rfl).trans ?_
  refine (wr_iload (n := 17) (x := zi x17) (by decide +kernel) rfl).trans ?_
  refine (wr_ifge (off := 10) (a := x17) (t := 376) (by decide +kernel) rfl).trans (wif_ct (fun _ => ?_) (fun _ => ?_))
  · refine (wr_iload (n := 15) (x := zi x15) (by decide +kernel) rfl).trans ?_
    rfl
  · refine (wr_aload_n (n := 2) (x := 430) (by decide +kernel) rfl).trans ?_
    refine (wr_iload (n := 14) (x := zi x14) (by decide +kernel) rfl).trans ?_
    refine (wr_iald (n := 40) (e := x14) (by decide +kernel) rfl).trans (wck_ct fun _ => ?_)
    refine (wr_goto (off := 5) (t := 378) (by decide +kernel) rfl).trans ?_
    rfl
theorem lw_237_378 {cf : Int32 → Int32} {V : zVt} {J : zJt} {d : Nat → Nat → UInt64} {kk : Nat} {x4 : Int} {x5 : Int} {x6 : Int} {x7 : Int} {x8 : Int} {x9 : Int} {x10 : Int} {x11 : Int} {x12 : Int} {x13 : Int} {x14 : Int} {x15 : Int} {x16 : Int} {x17 : Int} {x18 : Int} {x19 : Int} {x20 : Value} {x21 : Value} {x22 : Value} {x23 : Value} {s1 : Int} {s2 : Int} : wGo cf 237 378 [.ref 1048578, .ref 0, .ref 430, .ref 431, .int (zi x4), .int (zi x5), .int (zi x6), .int (zi x7), .int (zi x8), .int (zi x9), .int (zi x10), .int (zi x11), .int (zi x12), .int (zi x13), .int (zi x14), .int (zi x15), .int (zi x16), .int (zi x17), .int (zi x18), .int (zi x19), x20, x21, x22, x23] [.int (zi s2), .int (zi s1), .ref 430] (zm V J d) kk =
    wck (0 ≤ qw s1 ∧ qw s1 < (40 : Nat)) (wGo cf 237 1366 [.ref 1048578, .ref 0, .ref 430, .ref 431, .int (zi x4), .int (zi x5), .int (zi x6), .int (zi x7), .int (zi x8), .int (zi x9), .int (zi x10), .int (zi x11), .int (zi x12), .int (zi x13), .int (zi x14), .int (zi x15), .int (zi x16), .int (zi x17), .int (zi x18), .int (zi x19), x20, x21, x22, x23] [] (zm (vup V 430 (qw s1) s2) J d) kk) := by
  refine (wr_iast (n := 40) (e := s1) (x := s2) (by decide +kernel) rfl).trans (wck_ct fun _ => ?_)
  refine (wr_goto (off := 987) (t := 1366) (by decide +kernel) rfl).trans ?_
  rfl
theorem lw_237_395 {cf : Int32 → Int32} {V : zVt} {J : zJt} {d : Nat → Nat → UInt64} {kk : Nat} {x4 : Int} {x5 : Int} {x6 : Int} {x7 : Int} {x8 : Int} {x9 : Int} {x10 : Int} {x11 : Int} {x12 : Int} {x13 : Int} {x14 : Int} {x15 : Int} {x16 : Int} {x17 : Value} {x18 : Value} {x19 : Value} {x20 : Value} {x21 : Value} {x22 : Value} {x23 : Value} {s0 : Int} : wGo cf 237 395 [.ref 1048578, .ref 0, .ref 430, .ref 431, .int (zi x4), .int (zi x5), .int (zi x6), .int (zi x7), .int (zi x8), .int (zi x9), .int (zi x10), .int (zi x11), .int (zi x12), .int (zi x13), .int (zi x14), .int (zi x15), .int (zi x16), x17, x18, x19, x20, x21, x22, x23] [.int (zi s0)] (zm V J d) kk =
    (if qw s0 ≠ qw (-103) then wck (0 ≤ qw x14 ∧ qw x14 < (40 : Nat)) ((if qw (V 430 (qw x14)) < 0 then wGo cf 237 442 [.ref 1048578, .ref 0, .ref 430, .ref 431, .int (zi x4), .int (zi x5), .int (zi x6), .int (zi x7), .int (zi x8), .int (zi x9), .int (zi x10), .int (zi x11), .int (zi x12), .int (zi x13), .int (zi x14), .int (zi x15), .int (zi x16), .int (zi s0), x18, x19, x20, x21, x22, x23] [] (zm V J d) kk else (if qw s0 < 0 then wGo cf 237 442 [.ref 1048578, .ref 0, .ref 430, .ref 431, .int (zi x4), .int (zi x5), .int (zi x6), .int (zi x7), .int (zi x8), .int (zi x9), .int (zi x10), .int (zi x11), .int (zi x12), .int (zi x13), .int (zi x14), .int (zi x15), .int (zi x16), .int (zi s0), x18, x19, x20, x21, x22, x23] [] (zm V J d) kk else (if qw x6 < qw s0 then wGo cf 237 442 [.ref 1048578, .ref 0, .ref 430, .ref 431, .int (zi x4), .int (zi x5), .int (zi x6), .int (zi x7), .int (zi x8), .int (zi x9), .int (zi x10), .int (zi x11), .int (zi x12), .int (zi x13), .int (zi x14), .int (zi x15), .int (zi x16), .int (zi s0), x18, x19, x20, x21, x22, x23] [] (zm V J d) kk else wGo cf 237 443 [.ref 1048578, .ref 0, .ref 430, .ref 431, .int (zi x4), .int (zi x5), .int (zi x6), .int (zi x7), .int (zi x8), .int (zi x9), .int (zi x10), .int (zi x11), .int (zi x12), .int (zi x13), .int (zi x14), .int (zi x15), .int (zi x16), .int (zi s0), x18, x19, x20, x21, x22, x23] [.int (zi (1))] (zm V J d) kk)))) else wck (0 ≤ qw x14 ∧ qw x14 < (40 : Nat)) ((if 0 ≤ qw (V 430 (qw x14)) then wGo cf 237 443 [.ref 1048578, .ref 0, .ref 430, .ref 431, .int (zi x4), .int (zi x5), .int (zi x6), .int (zi x7), .int (zi x8), .int (zi x9), .int (zi x10), .int (zi x11), .int (zi x12), .int (zi x13), .int (zi x14), .int (zi x15), .int (zi x16), .int (zi s0), x18, x19, x20, x21, x22, x23] [.int (zi (0))] (zm V J d) kk else wGo cf 237 443 [.ref 1048578, .ref 0, .ref 430, .ref 431, .int (zi x4), .int (zi x5), .int (zi x6), .int (zi x7), .int (zi x8), .int (zi x9), .int (zi x10), .int (zi x11), .int (zi x12), .int (zi x13), .int (zi x14), .int (zi x15), .int (zi x16), .int (zi s0), x18, x19, x20, x21, x22, x23] [.int (zi (1))] (zm V J d) kk))) := by
  refine (wr_istore (n := 17) (l1 := [.ref 1048578, .ref 0, .ref 430, .ref 431, .int (zi x4), .int (zi x5), .int (zi x6), .int (zi x7), .int (zi x8), .int (zi x9), .int (zi x10), .int (zi x11), .int (zi x12), .int (zi x13), .int (zi x14), .int (zi x15), .int (zi x16), .int (zi s0), x18, x19, x20, x21, x22, x23]) (by decide +kernel) rfl).trans ?_
  refine (wr_iload (n := 17) (x := zi s0) (by decide +kernel) rfl).trans ?_
  refine (wr_bipush (n := -103) (by decide +kernel) rfl).trans ?_
  refine (wr_cne (off := 18) (a := s0) (b := (-103)) (t := 419) (by decide +kernel) rfl).trans (wif_ct (fun _ => ?_) (fun _ => ?_))
  · refine (wr_aload_n (n := 2) (x := 430) (by decide +kernel) rfl).trans ?_
    refine (wr_iload (n := 14) (x := zi x14) (by decide +kernel) rfl).trans ?_
    refine (wr_iald (n := 40) (e := x14) (by decide +kernel) rfl).trans (wck_ct fun _ => ?_)
    refine (wr_iflt (off := 19) (a := (V 430 (qw x14))) (t := 442) (by decide +kernel) rfl).trans (wif_ct (fun _ => ?_) (fun _ => ?_))
    · rfl
    · refine (wr_iload (n := 17) (x := zi s0) (by decide +kernel) rfl).trans ?_
      refine (wr_iflt (off := 14) (a := s0) (t := 442) (by decide +kernel) rfl).trans (wif_ct (fun _ => ?_) (fun _ => ?_))
      · rfl
      · refine (wr_iload (n := 17) (x := zi s0) (by decide +kernel) rfl).trans ?_
        refine (wr_iload (n := 6) (x := zi x6) (by decide +kernel) rfl).trans ?_
        refine (wr_cgt (off := 7) (a := s0) (b := x6) (t := 442) (by decide +kernel) rfl).trans (wif_ct (fun _ => ?_) (fun _ => ?_))
        · rfl
        · refine (wr_iconst (n := 1) (by decide +kernel)).trans ?_
          refine (wr_goto (off := 4) (t := 443) (by decide +kernel) rfl).trans ?_
          rfl
  · refine (wr_aload_n (n := 2) (x := 430) (by decide +kernel) rfl).trans ?_
    refine (wr_iload (n := 14) (x := zi x14) (by decide +kernel) rfl).trans ?_
    refine (wr_iald (n := 40) (e := x14) (by decide +kernel) rfl).trans (wck_ct fun _ => ?_)
    refine (wr_ifge (off := 7) (a := (V 430 (qw x14))) (t := 415) (by decide +kernel) rfl).trans (wif_ct (fun _ => ?_) (fun _ => ?_))
    · refine (wr_iconst (n := 0) (by decide +kernel)).trans ?_
      refine (wr_goto (off := 27) (t := 443) (by decide +kernel) rfl).trans ?_
      rfl
    · refine (wr_iconst (n := 1) (by decide +kernel)).trans ?_
      refine (wr_goto (off := 31) (t := 443) (by decide +kernel) rfl).trans ?_
      rfl
theorem lw_237_442 {cf : Int32 → Int32} {V : zVt} {J : zJt} {d : Nat → Nat → UInt64} {kk : Nat} {x4 : Int} {x5 : Int} {x6 : Int} {x7 : Int} {x8 : Int} {x9 : Int} {x10 : Int} {x11 : Int} {x12 : Int} {x13 : Int} {x14 : Int} {x15 : Int} {x16 : Int} {x17 : Int} {x18 : Value} {x19 : Value} {x20 : Value} {x21 : Value} {x22 : Value} {x23 : Value} : wGo cf 237 442 [.ref 1048578, .ref 0, .ref 430, .ref 431, .int (zi x4), .int (zi x5), .int (zi x6), .int (zi x7), .int (zi x8), .int (zi x9), .int (zi x10), .int (zi x11), .int (zi x12), .int (zi x13), .int (zi x14), .int (zi x15), .int (zi x16), .int (zi x17), x18, x19, x20, x21, x22, x23] [] (zm V J d) kk =
    wGo cf 237 443 [.ref 1048578, .ref 0, .ref 430, .ref 431, .int (zi x4), .int (zi x5), .int (zi x6), .int (zi x7), .int (zi x8), .int (zi x9), .int (zi x10), .int (zi x11), .int (zi x12), .int (zi x13), .int (zi x14), .int (zi x15), .int (zi x16), .int (zi x17), x18, x19, x20, x21, x22, x23] [.int (zi (0))] (zm V J d) kk := by
  refine (wr_iconst (n := 0) (by decide +kernel)).trans ?_
  rfl
theorem lw_237_443 {cf : Int32 → Int32} {V : zVt} {J : zJt} {d : Nat → Nat → UInt64} {kk : Nat} {x4 : Int} {x5 : Int} {x6 : Int} {x7 : Int} {x8 : Int} {x9 : Int} {x10 : Int} {x11 : Int} {x12 : Int} {x13 : Int} {x14 : Int} {x15 : Int} {x16 : Int} {x17 : Int} {x18 : Value} {x19 : Value} {x20 : Value} {x21 : Value} {x22 : Value} {x23 : Value} {s0 : Int} : wGo cf 237 443 [.ref 1048578, .ref 0, .ref 430, .ref 431, .int (zi x4), .int (zi x5), .int (zi x6), .int (zi x7), .int (zi x8), .int (zi x9), .int (zi x10), .int (zi x11), .int (zi x12), .int (zi x13), .int (zi x14), .int (zi x15), .int (zi x16), .int (zi x17), x18, x19, x20, x21, x22, x23] [.int (zi s0)] (zm V J d) kk =
    wck (0 ≤ qw x14 ∧ qw x14 < (40 : Nat)) (wGo cf 237 1366 [.ref 1048578, .ref 0, .ref 430, .ref 431, .int (zi s0), .int (zi x5), .int (zi x6), .int (zi x7), .int (zi x8), .int (zi x9), .int (zi x10), .int (zi x11), .int (zi x12), .int (zi x13), .int (zi x14), .int (zi x15), .int (zi x16), .int (zi x17), x18, x19, x20, x21, x22, x23] [] (zm (vup V 430 (qw x14) (-1)) J d) kk) := by
  refine (wr_istore (n := 4) (l1 := [.ref 1048578, .ref 0, .ref 430, .ref 431, .int (zi s0), .int (zi x5), .int (zi x6), .int (zi x7), .int (zi x8), .int (zi x9), .int (zi x10), .int (zi x11), .int (zi x12), .int (zi x13), .int (zi x14), .int (zi x15), .int (zi x16), .int (zi x17), x18, x19, x20, x21, x22, x23]) (by decide +kernel) rfl).trans ?_
  refine (wr_aload_n (n := 2) (x := 430) (by decide +kernel) rfl).trans ?_
  refine (wr_iload (n := 14) (x := zi x14) (by decide +kernel) rfl).trans ?_
  refine (wr_iconst (n := -1) (by decide +kernel)).trans ?_
  refine (wr_iast (n := 40) (e := x14) (x := (-1)) (by decide +kernel) rfl).trans (wck_ct fun _ => ?_)
  refine (wr_goto (off := 916) (t := 1366) (by decide +kernel) rfl).trans ?_
  rfl
theorem lw_237_475 {cf : Int32 → Int32} {V : zVt} {J : zJt} {d : Nat → Nat → UInt64} {kk : Nat} {x4 : Int} {x5 : Int} {x6 : Int} {x7 : Int} {x8 : Int} {x9 : Int} {x10 : Int} {x11 : Int} {x12 : Int} {x13 : Int} {x14 : Int} {x15 : Int} {x16 : Int} {x17 : Value} {x18 : Value} {x19 : Value} {x20 : Value} {x21 : Value} {x22 : Value} {x23 : Value} {s0 : Int} : wGo cf 237 475 [.ref 1048578, .ref 0, .ref 430, .ref 431, .int (zi x4), .int (zi x5), .int (zi x6), .int (zi x7), .int (zi x8), .int (zi x9), .int (zi x10), .int (zi x11), .int (zi x12), .int (zi x13), .int (zi x14), .int (zi x15), .int (zi x16), x17, x18, x19, x20, x21, x22, x23] [.int (zi s0)] (zm V J d) kk =
    wck (qw (11) ≠ 0) (wck (qw s0 ≠ 0) (wck (qw (8) ≠ 0) (wck (qw (4) ≠ 0) (wck (qw (4) ≠ 0) ((wstub 4 [zi (qdiv (qrem x14 (8)) (4)), zi (qrem x14 (4)), zi (qrem (qdiv x12 (11)) s0)] (zm V J d)).bind (wGos cf 237 504 [.ref 1048578, .ref 0, .ref 430, .ref 431, .int (zi x4), .int (zi x5), .int (zi x6), .int (zi x7), .int (zi x8), .int (zi x9), .int (zi x10), .int (zi x11), .int (zi x12), .int (zi x13), .int (zi x14), .int (zi x15), .int (zi x16), .int (zi s0), .int (zi (qrem (qdiv x12 (11)) s0)), x19, x20, x21, x22, x23] [] kk)))))) := by
  refine (wr_istore (n := 17) (l1 := [.ref 1048578, .ref 0, .ref 430, .ref 431, .int (zi x4), .int (zi x5), .int (zi x6), .int (zi x7), .int (zi x8), .int (zi x9), .int (zi x10), .int (zi x11), .int (zi x12), .int (zi x13), .int (zi x14), .int (zi x15), .int (zi x16), .int (zi s0), x18, x19, x20, x21, x22, x23]) (by decide +kernel) rfl).trans ?_
  refine (wr_iload (n := 12) (x := zi x12) (by decide +kernel) rfl).trans ?_
  refine (wr_bipush (n := 11) (by decide +kernel) rfl).trans ?_
  refine (wr_idiv (a := x12) (b := (11)) (by decide +kernel)).trans (wck_ct fun _ => ?_)
  refine (wr_iload (n := 17) (x := zi s0) (by decide +kernel) rfl).trans ?_
  refine (wr_irem (a := (qdiv x12 (11))) (b := s0) (by decide +kernel)).trans (wck_ct fun _ => ?_)
  refine (wr_istore (n := 18) (l1 := [.ref 1048578, .ref 0, .ref 430, .ref 431, .int (zi x4), .int (zi x5), .int (zi x6), .int (zi x7), .int (zi x8), .int (zi x9), .int (zi x10), .int (zi x11), .int (zi x12), .int (zi x13), .int (zi x14), .int (zi x15), .int (zi x16), .int (zi s0), .int (zi (qrem (qdiv x12 (11)) s0)), x19, x20, x21, x22, x23]) (by decide +kernel) rfl).trans ?_
  refine (wr_aload_n (n := 1) (x := 0) (by decide +kernel) rfl).trans ?_
  refine (wr_iload (n := 14) (x := zi x14) (by decide +kernel) rfl).trans ?_
  refine (wr_bipush (n := 8) (by decide +kernel) rfl).trans ?_
  refine (wr_irem (a := x14) (b := (8)) (by decide +kernel)).trans (wck_ct fun _ => ?_)
  refine (wr_iconst (n := 4) (by decide +kernel)).trans ?_
  refine (wr_idiv (a := (qrem x14 (8))) (b := (4)) (by decide +kernel)).trans (wck_ct fun _ => ?_)
  refine (wr_iload (n := 14) (x := zi x14) (by decide +kernel) rfl).trans ?_
  refine (wr_iconst (n := 4) (by decide +kernel)).trans ?_
  refine (wr_irem (a := x14) (b := (4)) (by decide +kernel)).trans (wck_ct fun _ => ?_)
  refine (wr_iload (n := 18) (x := zi (qrem (qdiv x12 (11)) s0)) (by decide +kernel) rfl).trans ?_
  exact wr_stub (i := 149) (s := 4) (w := 0) (xs := [zi (qdiv (qrem x14 (8)) (4)), zi (qrem x14 (4)), zi (qrem (qdiv x12 (11)) s0)]) (t := [.int (zi (qrem (qdiv x12 (11)) s0)), .int (zi (qrem x14 (4))), .int (zi (qdiv (qrem x14 (8)) (4)))]) (rest := []) (by decide +kernel) (by decide +kernel) (by decide) rfl rfl rfl (Nat.le_of_ble_eq_true rfl)
theorem lw_237_504 {cf : Int32 → Int32} {V : zVt} {J : zJt} {d : Nat → Nat → UInt64} {kk : Nat} {x4 : Int} {x5 : Int} {x6 : Int} {x7 : Int} {x8 : Int} {x9 : Int} {x10 : Int} {x11 : Int} {x12 : Int} {x13 : Int} {x14 : Int} {x15 : Int} {x16 : Int} {x17 : Int} {x18 : Int} {x19 : Value} {x20 : Value} {x21 : Value} {x22 : Value} {x23 : Value} {s0 : Int} : wGo cf 237 504 [.ref 1048578, .ref 0, .ref 430, .ref 431, .int (zi x4), .int (zi x5), .int (zi x6), .int (zi x7), .int (zi x8), .int (zi x9), .int (zi x10), .int (zi x11), .int (zi x12), .int (zi x13), .int (zi x14), .int (zi x15), .int (zi x16), .int (zi x17), .int (zi x18), x19, x20, x21, x22, x23] [.int (zi s0)] (zm V J d) kk =
    wck (qw (13) ≠ 0) (wck (qw (5) ≠ 0) (wck (qw (3) ≠ 0) (wck (qw (5) ≠ 0) ((if qw (qrem (qdiv x12 (3)) (5)) ≠ 0 then (if qw (qrem (qdiv x12 (13)) (5)) ≠ 0 then (if qw (qrem (qdiv x12 (13)) (5)) ≠ qw (1) then (if qw (qrem (qdiv x12 (13)) (5)) ≠ qw (2) then (if qw (qrem (qdiv x12 (13)) (5)) ≠ qw (3) then wck (qw (2) ≠ 0) (wGo cf 237 590 [.ref 1048578, .ref 0, .ref 430, .ref 431, .int (zi x4), .int (zi x5), .int (zi x6), .int (zi x7), .int (zi x8), .int (zi x9), .int (zi x10), .int (zi x11), .int (zi x12), .int (zi x13), .int (zi x14), .int (zi x15), .int (zi x16), .int (zi x17), .int (zi x18), .int (zi s0), .int (zi (qrem (qdiv x12 (13)) (5))), x21, x22, x23] [.int (zi (qrem x12 (2)))] (zm V J d) kk) else wck (qw (4) ≠ 0) (wGo cf 237 590 [.ref 1048578, .ref 0, .ref 430, .ref 431, .int (zi x4), .int (zi x5), .int (zi x6), .int (zi x7), .int (zi x8), .int (zi x9), .int (zi x10), .int (zi x11), .int (zi x12), .int (zi x13), .int (zi x14), .int (zi x15), .int (zi x16), .int (zi x17), .int (zi x18), .int (zi s0), .int (zi (qrem (qdiv x12 (13)) (5))), x21, x22, x23] [.int (zi ((1) + (qrem x12 (4))))] (zm V J d) kk)) else wck (qw (4) ≠ 0) (wGo cf 237 590 [.ref 1048578, .ref 0, .ref 430, .ref 431, .int (zi x4), .int (zi x5), .int (zi x6), .int (zi x7), .int (zi x8), .int (zi x9), .int (zi x10), .int (zi x11), .int (zi x12), .int (zi x13), .int (zi x14), .int (zi x15), .int (zi x16), .int (zi x17), .int (zi x18), .int (zi s0), .int (zi (qrem (qdiv x12 (13)) (5))), x21, x22, x23] [.int (zi (qrem x12 (4)))] (zm V J d) kk)) else wck (qw (29) ≠ 0) (wGo cf 237 590 [.ref 1048578, .ref 0, .ref 430, .ref 431, .int (zi x4), .int (zi x5), .int (zi x6), .int (zi x7), .int (zi x8), .int (zi x9), .int (zi x10), .int (zi x11), .int (zi x12), .int (zi x13), .int (zi x14), .int (zi x15), .int (zi x16), .int (zi x17), .int (zi x18), .int (zi s0), .int (zi (qrem (qdiv x12 (13)) (5))), x21, x22, x23] [.int (zi ((qrem x12 (29)) - (9)))] (zm V J d) kk)) else wck (qw (3) ≠ 0) (wGo cf 237 590 [.ref 1048578, .ref 0, .ref 430, .ref 431, .int (zi x4), .int (zi x5), .int (zi x6), .int (zi x7), .int (zi x8), .int (zi x9), .int (zi x10), .int (zi x11), .int (zi x12), .int (zi x13), .int (zi x14), .int (zi x15), .int (zi x16), .int (zi x17), .int (zi x18), .int (zi s0), .int (zi (qrem (qdiv x12 (13)) (5))), x21, x22, x23] [.int (zi (qrem x12 (3)))] (zm V J d) kk)) else wGo cf 237 590 [.ref 1048578, .ref 0, .ref 430, .ref 431, .int (zi x4), .int (zi x5), .int (zi x6), .int (zi x7), .int (zi x8), .int (zi x9), .int (zi x10), .int (zi x11), .int (zi x12), .int (zi x13), .int (zi x14), .int (zi x15), .int (zi x16), .int (zi x17), .int (zi x18), .int (zi s0), .int (zi (qrem (qdiv x12 (13)) (5))), x21, x22, x23] [.int (zi (100))] (zm V J d) kk))))) := by
  refine (wr_istore (n := 19) (l1 := [.ref 1048578, .ref 0, .ref 430, .ref 431, .int (zi x4), .int (zi x5), .int (zi x6), .int (zi x7), .int (zi x8), .int (zi x9), .int (zi x10), .int (zi x11), .int (zi x12), .int (zi x13), .int (zi x14), .int (zi x15), .int (zi x16), .int (zi x17), .int (zi x18), .int (zi s0), x20, x21, x22, x23]) (by decide +kernel) rfl).trans ?_
  refine (wr_iload (n := 12) (x := zi x12) (by decide +kernel) rfl).trans ?_
  refine (wr_bipush (n := 13) (by decide +kernel) rfl).trans ?_
  refine (wr_idiv (a := x12) (b := (13)) (by decide +kernel)).trans (wck_ct fun _ => ?_)
  refine (wr_iconst (n := 5) (by decide +kernel)).trans ?_
  refine (wr_irem (a := (qdiv x12 (13))) (b := (5)) (by decide +kernel)).trans (wck_ct fun _ => ?_)
  refine (wr_istore (n := 20) (l1 := [.ref 1048578, .ref 0, .ref 430, .ref 431, .int (zi x4), .int (zi x5), .int (zi x6), .int (zi x7), .int (zi x8), .int (zi x9), .int (zi x10), .int (zi x11), .int (zi x12), .int (zi x13), .int (zi x14), .int (zi x15), .int (zi x16), .int (zi x17), .int (zi x18), .int (zi s0), .int (zi (qrem (qdiv x12 (13)) (5))), x21, x22, x23]) (by decide +kernel) rfl).trans ?_
  refine (wr_iload (n := 12) (x := zi x12) (by decide +kernel) rfl).trans ?_
  refine (wr_iconst (n := 3) (by decide +kernel)).trans ?_
  refine (wr_idiv (a := x12) (b := (3)) (by decide +kernel)).trans (wck_ct fun _ => ?_)
  refine (wr_iconst (n := 5) (by decide +kernel)).trans ?_
  refine (wr_irem (a := (qdiv x12 (3))) (b := (5)) (by decide +kernel)).trans (wck_ct fun _ => ?_)
  refine (wr_ifne (off := 8) (a := (qrem (qdiv x12 (3)) (5))) (t := 529) (by decide +kernel) rfl).trans (wif_ct (fun _ => ?_) (fun _ => ?_))
  · refine (wr_iload (n := 20) (x := zi (qrem (qdiv x12 (13)) (5))) (by decide +kernel) rfl).trans ?_
    refine (wr_ifne (off := 10) (a := (qrem (qdiv x12 (13)) (5))) (t := 541) (by decide +kernel) rfl).trans (wif_ct (fun _ => ?_) (fun _ => ?_))
    · refine (wr_iload (n := 20) (x := zi (qrem (qdiv x12 (13)) (5))) (by decide +kernel) rfl).trans ?_
      refine (wr_iconst (n := 1) (by decide +kernel)).trans ?_
      refine (wr_cne (off := 14) (a := (qrem (qdiv x12 (13)) (5))) (b := (1)) (t := 558) (by decide +kernel) rfl).trans (wif_ct (fun _ => ?_) (fun _ => ?_))
      · refine (wr_iload (n := 20) (x := zi (qrem (qdiv x12 (13)) (5))) (by decide +kernel) rfl).trans ?_
        refine (wr_iconst (n := 2) (by decide +kernel)).trans ?_
        refine (wr_cne (off := 10) (a := (qrem (qdiv x12 (13)) (5))) (b := (2)) (t := 571) (by decide +kernel) rfl).trans (wif_ct (fun _ => ?_) (fun _ => ?_))
        · refine (wr_iload (n := 20) (x := zi (qrem (qdiv x12 (13)) (5))) (by decide +kernel) rfl).trans ?_
          refine (wr_iconst (n := 3) (by decide +kernel)).trans ?_
          refine (wr_cne (off := 12) (a := (qrem (qdiv x12 (13)) (5))) (b := (3)) (t := 586) (by decide +kernel) rfl).trans (wif_ct (fun _ => ?_) (fun _ => ?_))
          · refine (wr_iload (n := 12) (x := zi x12) (by decide +kernel) rfl).trans ?_
            refine (wr_iconst (n := 2) (by decide +kernel)).trans ?_
            refine (wr_irem (a := x12) (b := (2)) (by decide +kernel)).trans (wck_ct fun _ => ?_)
            rfl
          · refine (wr_iconst (n := 1) (by decide +kernel)).trans ?_
            refine (wr_iload (n := 12) (x := zi x12) (by decide +kernel) rfl).trans ?_
            refine (wr_iconst (n := 4) (by decide +kernel)).trans ?_
            refine (wr_irem (a := x12) (b := (4)) (by decide +kernel)).trans (wck_ct fun _ => ?_)
            refine (wr_iadd (a := (1)) (b := (qrem x12 (4))) (by decide +kernel)).trans ?_
            refine (wr_goto (off := 7) (t := 590) (by decide +kernel) rfl).trans ?_
            rfl
        · refine (wr_iload (n := 12) (x := zi x12) (by decide +kernel) rfl).trans ?_
          refine (wr_iconst (n := 4) (by decide +kernel)).trans ?_
          refine (wr_irem (a := x12) (b := (4)) (by decide +kernel)).trans (wck_ct fun _ => ?_)
          refine (wr_goto (off := 22) (t := 590) (by decide +kernel) rfl).trans ?_
          rfl
      · refine (wr_iload (n := 12) (x := zi x12) (by decide +kernel) rfl).trans ?_
        refine (wr_bipush (n := 29) (by decide +kernel) rfl).trans ?_
        refine (wr_irem (a := x12) (b := (29)) (by decide +kernel)).trans (wck_ct fun _ => ?_)
        refine (wr_bipush (n := 9) (by decide +kernel) rfl).trans ?_
        refine (wr_isub (a := (qrem x12 (29))) (b := (9)) (by decide +kernel)).trans ?_
        refine (wr_goto (off := 35) (t := 590) (by decide +kernel) rfl).trans ?_
        rfl
    · refine (wr_iload (n := 12) (x := zi x12) (by decide +kernel) rfl).trans ?_
      refine (wr_iconst (n := 3) (by decide +kernel)).trans ?_
      refine (wr_irem (a := x12) (b := (3)) (by decide +kernel)).trans (wck_ct fun _ => ?_)
      refine (wr_goto (off := 52) (t := 590) (by decide +kernel) rfl).trans ?_
      rfl
  · refine (wr_bipush (n := 100) (by decide +kernel) rfl).trans ?_
    refine (wr_goto (off := 64) (t := 590) (by decide +kernel) rfl).trans ?_
    rfl
theorem lw_237_590 {cf : Int32 → Int32} {V : zVt} {J : zJt} {d : Nat → Nat → UInt64} {kk : Nat} {x4 : Int} {x5 : Int} {x6 : Int} {x7 : Int} {x8 : Int} {x9 : Int} {x10 : Int} {x11 : Int} {x12 : Int} {x13 : Int} {x14 : Int} {x15 : Int} {x16 : Int} {x17 : Int} {x18 : Int} {x19 : Int} {x20 : Int} {x21 : Value} {x22 : Value} {x23 : Value} {s0 : Int} : wGo cf 237 590 [.ref 1048578, .ref 0, .ref 430, .ref 431, .int (zi x4), .int (zi x5), .int (zi x6), .int (zi x7), .int (zi x8), .int (zi x9), .int (zi x10), .int (zi x11), .int (zi x12), .int (zi x13), .int (zi x14), .int (zi x15), .int (zi x16), .int (zi x17), .int (zi x18), .int (zi x19), .int (zi x20), x21, x22, x23] [.int (zi s0)] (zm V J d) kk =
    (wstub 11 [zi x14, zi x18, zi x20, zi s0] (zm V J d)).bind (wGos cf 237 604 [.ref 1048578, .ref 0, .ref 430, .ref 431, .int (zi x4), .int (zi x5), .int (zi x6), .int (zi x7), .int (zi x8), .int (zi x9), .int (zi x10), .int (zi x11), .int (zi x12), .int (zi x13), .int (zi x14), .int (zi x15), .int (zi x16), .int (zi x17), .int (zi x18), .int (zi x19), .int (zi x20), .int (zi s0), x22, x23] [] kk) := by
  refine (wr_istore (n := 21) (l1 := [.ref 1048578, .ref 0, .ref 430, .ref 431, .int (zi x4), .int (zi x5), .int (zi x6), .int (zi x7), .int (zi x8), .int (zi x9), .int (zi x10), .int (zi x11), .int (zi x12), .int (zi x13), .int (zi x14), .int (zi x15), .int (zi x16), .int (zi x17), .int (zi x18), .int (zi x19), .int (zi x20), .int (zi s0), x22, x23]) (by decide +kernel) rfl).trans ?_
  refine (wr_aload_n (n := 1) (x := 0) (by decide +kernel) rfl).trans ?_
  refine (wr_iload (n := 14) (x := zi x14) (by decide +kernel) rfl).trans ?_
  refine (wr_iload (n := 18) (x := zi x18) (by decide +kernel) rfl).trans ?_
  refine (wr_iload (n := 20) (x := zi x20) (by decide +kernel) rfl).trans ?_
  refine (wr_iload (n := 21) (x := zi s0) (by decide +kernel) rfl).trans ?_
  exact wr_stub (i := 151) (s := 11) (w := 0) (xs := [zi x14, zi x18, zi x20, zi s0]) (t := [.int (zi s0), .int (zi x20), .int (zi x18), .int (zi x14)]) (rest := []) (by decide +kernel) (by decide +kernel) (by decide) rfl rfl rfl (Nat.le_of_ble_eq_true rfl)
