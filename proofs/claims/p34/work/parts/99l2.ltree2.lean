/-! part 99l2.ltree2: the law's method fits as equations; printed by program (wip/p34/gen/gen_ltree.py) -/
theorem lw_144_0 {cf : Int32 → Int32} {V : zVt} {J : zJt} {d : Nat → Nat → UInt64} {kk : Nat} {x1 : Int} {x2 : Int} : wGo cf 144 0 [.ref 0, .int (zi x1), .int (zi x2), .null, .null, .null, .null, .null, .null] [] (zm V J d) kk =
    (wstub 13 [zi x1] (zm V J d)).bind (wGos cf 144 5 [.ref 0, .int (zi x1), .int (zi x2), .null, .null, .null, .null, .null, .null] [] kk) := by
  refine (wr_aload_n (n := 0) (x := 0) (by decide +kernel) rfl).trans ?_
  refine (wr_iload_n (n := 1) (x := zi x1) (by decide +kernel) rfl).trans ?_
  exact wr_stub (i := 113) (s := 13) (w := 0) (xs := [zi x1]) (t := [.int (zi x1)]) (rest := []) (by decide +kernel) (by decide +kernel) (by decide) rfl rfl rfl (Nat.le_of_ble_eq_true rfl)
theorem lw_144_5 {cf : Int32 → Int32} {V : zVt} {J : zJt} {d : Nat → Nat → UInt64} {kk : Nat} {x1 : Int} {x2 : Int} {s0 : Int} : wGo cf 144 5 [.ref 0, .int (zi x1), .int (zi x2), .null, .null, .null, .null, .null, .null] [.int (zi s0)] (zm V J d) kk =
    (if qw s0 = 0 then wGo cf 144 22 [.ref 0, .int (zi x1), .int (zi x2), .int (zi s0), .null, .null, .null, .null, .null] [] (zm V J d) kk else (if qw s0 ≤ qw (6) then wGo cf 144 26 [.ref 0, .int (zi x1), .int (zi x2), .int (zi s0), .null, .null, .null, .null, .null] [] (zm V J d) kk else (if qw (11) ≤ qw s0 then wGo cf 144 26 [.ref 0, .int (zi x1), .int (zi x2), .int (zi s0), .null, .null, .null, .null, .null] [] (zm V J d) kk else wGo cf 144 22 [.ref 0, .int (zi x1), .int (zi x2), .int (zi s0), .null, .null, .null, .null, .null] [] (zm V J d) kk))) := by
  refine (wr_istore_n (n := 3) (l1 := [.ref 0, .int (zi x1), .int (zi x2), .int (zi s0), .null, .null, .null, .null, .null]) (by decide +kernel) rfl).trans ?_
  refine (wr_iload_n (n := 3) (x := zi s0) (by decide +kernel) rfl).trans ?_
  refine (wr_ifeq (off := 15) (a := s0) (t := 22) (by decide +kernel) rfl).trans (wif_ct (fun _ => ?_) (fun _ => ?_))
  · rfl
  · refine (wr_iload_n (n := 3) (x := zi s0) (by decide +kernel) rfl).trans ?_
    refine (wr_bipush (n := 6) (by decide +kernel) rfl).trans ?_
    refine (wr_cle (off := 13) (a := s0) (b := (6)) (t := 26) (by decide +kernel) rfl).trans (wif_ct (fun _ => ?_) (fun _ => ?_))
    · rfl
    · refine (wr_iload_n (n := 3) (x := zi s0) (by decide +kernel) rfl).trans ?_
      refine (wr_bipush (n := 11) (by decide +kernel) rfl).trans ?_
      refine (wr_cge (off := 7) (a := s0) (b := (11)) (t := 26) (by decide +kernel) rfl).trans (wif_ct (fun _ => ?_) (fun _ => ?_))
      · rfl
      · rfl
theorem lw_144_22 {cf : Int32 → Int32} {V : zVt} {J : zJt} {d : Nat → Nat → UInt64} {kk : Nat} {x1 : Int} {x2 : Int} {x3 : Int} : wGo cf 144 22 [.ref 0, .int (zi x1), .int (zi x2), .int (zi x3), .null, .null, .null, .null, .null] [] (zm V J d) kk =
    wGo cf 144 27 [.ref 0, .int (zi x1), .int (zi x2), .int (zi x3), .null, .null, .null, .null, .null] [.int (zi (1))] (zm V J d) kk := by
  refine (wr_iconst (n := 1) (by decide +kernel)).trans ?_
  refine (wr_goto (off := 4) (t := 27) (by decide +kernel) rfl).trans ?_
  rfl
theorem lw_144_26 {cf : Int32 → Int32} {V : zVt} {J : zJt} {d : Nat → Nat → UInt64} {kk : Nat} {x1 : Int} {x2 : Int} {x3 : Int} : wGo cf 144 26 [.ref 0, .int (zi x1), .int (zi x2), .int (zi x3), .null, .null, .null, .null, .null] [] (zm V J d) kk =
    wGo cf 144 27 [.ref 0, .int (zi x1), .int (zi x2), .int (zi x3), .null, .null, .null, .null, .null] [.int (zi (0))] (zm V J d) kk := by
  refine (wr_iconst (n := 0) (by decide +kernel)).trans ?_
  rfl
theorem lw_144_27 {cf : Int32 → Int32} {V : zVt} {J : zJt} {d : Nat → Nat → UInt64} {kk : Nat} {x1 : Int} {x2 : Int} {x3 : Int} {s0 : Int} : wGo cf 144 27 [.ref 0, .int (zi x1), .int (zi x2), .int (zi x3), .null, .null, .null, .null, .null] [.int (zi s0)] (zm V J d) kk =
    wck (qw (8) ≠ 0) (wck (qw (3) ≠ 0) (wGo cf 144 40 [.ref 0, .int (zi x1), .int (zi x2), .int (zi x3), .int (zi s0), .int (zi (qrem x2 (8))), .int (zi (qrem x2 (3))), .null, .null] [] (zm V J d) kk)) := by
  refine (wr_istore (n := 4) (l1 := [.ref 0, .int (zi x1), .int (zi x2), .int (zi x3), .int (zi s0), .null, .null, .null, .null]) (by decide +kernel) rfl).trans ?_
  refine (wr_iload_n (n := 2) (x := zi x2) (by decide +kernel) rfl).trans ?_
  refine (wr_bipush (n := 8) (by decide +kernel) rfl).trans ?_
  refine (wr_irem (a := x2) (b := (8)) (by decide +kernel)).trans (wck_ct fun _ => ?_)
  refine (wr_istore (n := 5) (l1 := [.ref 0, .int (zi x1), .int (zi x2), .int (zi x3), .int (zi s0), .int (zi (qrem x2 (8))), .null, .null, .null]) (by decide +kernel) rfl).trans ?_
  refine (wr_iload_n (n := 2) (x := zi x2) (by decide +kernel) rfl).trans ?_
  refine (wr_iconst (n := 3) (by decide +kernel)).trans ?_
  refine (wr_irem (a := x2) (b := (3)) (by decide +kernel)).trans (wck_ct fun _ => ?_)
  refine (wr_istore (n := 6) (l1 := [.ref 0, .int (zi x1), .int (zi x2), .int (zi x3), .int (zi s0), .int (zi (qrem x2 (8))), .int (zi (qrem x2 (3))), .null, .null]) (by decide +kernel) rfl).trans ?_
  rfl
theorem lw_144_40 {cf : Int32 → Int32} {V : zVt} {J : zJt} {d : Nat → Nat → UInt64} {kk : Nat} {x1 : Int} {x2 : Int} {x3 : Int} {x4 : Int} {x5 : Int} {x6 : Int} {x7 : Value} {x8 : Value} : wGo cf 144 40 [.ref 0, .int (zi x1), .int (zi x2), .int (zi x3), .int (zi x4), .int (zi x5), .int (zi x6), x7, x8] [] (zm V J d) kk =
    (if qw (9) ≤ qw x6 then wGo cf 144 150 [.ref 0, .int (zi x1), .int (zi x2), .int (zi x3), .int (zi x4), .int (zi x5), .int (zi x6), x7, x8] [] (zm V J d) kk else (if qw x4 = 0 then wGo cf 144 150 [.ref 0, .int (zi x1), .int (zi x2), .int (zi x3), .int (zi x4), .int (zi x5), .int (zi x6), x7, x8] [] (zm V J d) kk else (wstub 14 [zi x1, zi x5, zi x6] (zm V J d)).bind (wGos cf 144 61 [.ref 0, .int (zi x1), .int (zi x2), .int (zi x3), .int (zi x4), .int (zi x5), .int (zi x6), x7, x8] [] kk))) := by
  refine (wr_iload (n := 6) (x := zi x6) (by decide +kernel) rfl).trans ?_
  refine (wr_bipush (n := 9) (by decide +kernel) rfl).trans ?_
  refine (wr_cge (off := 106) (a := x6) (b := (9)) (t := 150) (by decide +kernel) rfl).trans (wif_ct (fun _ => ?_) (fun _ => ?_))
  · rfl
  · refine (wr_iload (n := 4) (x := zi x4) (by decide +kernel) rfl).trans ?_
    refine (wr_ifeq (off := 101) (a := x4) (t := 150) (by decide +kernel) rfl).trans (wif_ct (fun _ => ?_) (fun _ => ?_))
    · rfl
    · refine (wr_aload_n (n := 0) (x := 0) (by decide +kernel) rfl).trans ?_
      refine (wr_iload_n (n := 1) (x := zi x1) (by decide +kernel) rfl).trans ?_
      refine (wr_iload (n := 5) (x := zi x5) (by decide +kernel) rfl).trans ?_
      refine (wr_iload (n := 6) (x := zi x6) (by decide +kernel) rfl).trans ?_
      exact wr_stub (i := 116) (s := 14) (w := 0) (xs := [zi x1, zi x5, zi x6]) (t := [.int (zi x6), .int (zi x5), .int (zi x1)]) (rest := []) (by decide +kernel) (by decide +kernel) (by decide) rfl rfl rfl (Nat.le_of_ble_eq_true rfl)
theorem lw_144_61 {cf : Int32 → Int32} {V : zVt} {J : zJt} {d : Nat → Nat → UInt64} {kk : Nat} {x1 : Int} {x2 : Int} {x3 : Int} {x4 : Int} {x5 : Int} {x6 : Int} {x7 : Value} {x8 : Value} {s0 : Int} : wGo cf 144 61 [.ref 0, .int (zi x1), .int (zi x2), .int (zi x3), .int (zi x4), .int (zi x5), .int (zi x6), x7, x8] [.int (zi s0)] (zm V J d) kk =
    (wstub 16 [zi x1, zi x5, zi x6] (zm V J d)).bind (wGos cf 144 72 [.ref 0, .int (zi x1), .int (zi x2), .int (zi x3), .int (zi x4), .int (zi x5), .int (zi x6), .int (zi s0), x8] [] kk) := by
  refine (wr_istore (n := 7) (l1 := [.ref 0, .int (zi x1), .int (zi x2), .int (zi x3), .int (zi x4), .int (zi x5), .int (zi x6), .int (zi s0), x8]) (by decide +kernel) rfl).trans ?_
  refine (wr_aload_n (n := 0) (x := 0) (by decide +kernel) rfl).trans ?_
  refine (wr_iload_n (n := 1) (x := zi x1) (by decide +kernel) rfl).trans ?_
  refine (wr_iload (n := 5) (x := zi x5) (by decide +kernel) rfl).trans ?_
  refine (wr_iload (n := 6) (x := zi x6) (by decide +kernel) rfl).trans ?_
  exact wr_stub (i := 118) (s := 16) (w := 0) (xs := [zi x1, zi x5, zi x6]) (t := [.int (zi x6), .int (zi x5), .int (zi x1)]) (rest := []) (by decide +kernel) (by decide +kernel) (by decide) rfl rfl rfl (Nat.le_of_ble_eq_true rfl)
theorem lw_144_72 {cf : Int32 → Int32} {V : zVt} {J : zJt} {d : Nat → Nat → UInt64} {kk : Nat} {x1 : Int} {x2 : Int} {x3 : Int} {x4 : Int} {x5 : Int} {x6 : Int} {x7 : Int} {x8 : Value} {s0 : Int} : wGo cf 144 72 [.ref 0, .int (zi x1), .int (zi x2), .int (zi x3), .int (zi x4), .int (zi x5), .int (zi x6), .int (zi x7), x8] [.int (zi s0)] (zm V J d) kk =
    (wstub 15 [zi x1, zi x5, zi x6] (zm V J d)).bind (wGos cf 144 85 [.ref 0, .int (zi x1), .int (zi x2), .int (zi x3), .int (zi x4), .int (zi x5), .int (zi x6), .int (zi x7), .int (zi s0)] [.int (zi x7)] kk) := by
  refine (wr_istore (n := 8) (l1 := [.ref 0, .int (zi x1), .int (zi x2), .int (zi x3), .int (zi x4), .int (zi x5), .int (zi x6), .int (zi x7), .int (zi s0)]) (by decide +kernel) rfl).trans ?_
  refine (wr_iload (n := 7) (x := zi x7) (by decide +kernel) rfl).trans ?_
  refine (wr_aload_n (n := 0) (x := 0) (by decide +kernel) rfl).trans ?_
  refine (wr_iload_n (n := 1) (x := zi x1) (by decide +kernel) rfl).trans ?_
  refine (wr_iload (n := 5) (x := zi x5) (by decide +kernel) rfl).trans ?_
  refine (wr_iload (n := 6) (x := zi x6) (by decide +kernel) rfl).trans ?_
  exact wr_stub (i := 120) (s := 15) (w := 0) (xs := [zi x1, zi x5, zi x6]) (t := [.int (zi x6), .int (zi x5), .int (zi x1)]) (rest := [.int (zi x7)]) (by decide +kernel) (by decide +kernel) (by decide) rfl rfl rfl (Nat.le_of_ble_eq_true rfl)
theorem lw_144_85 {cf : Int32 → Int32} {V : zVt} {J : zJt} {d : Nat → Nat → UInt64} {kk : Nat} {x1 : Int} {x2 : Int} {x3 : Int} {x4 : Int} {x5 : Int} {x6 : Int} {x7 : Int} {x8 : Int} {s0 : Int} {s1 : Int} : wGo cf 144 85 [.ref 0, .int (zi x1), .int (zi x2), .int (zi x3), .int (zi x4), .int (zi x5), .int (zi x6), .int (zi x7), .int (zi x8)] [.int (zi s1), .int (zi s0)] (zm V J d) kk =
    (if qw s0 ≠ qw s1 then wGo cf 144 141 [.ref 0, .int (zi x1), .int (zi x2), .int (zi x3), .int (zi x4), .int (zi x5), .int (zi x6), .int (zi x7), .int (zi x8)] [] (zm V J d) kk else (if qw x7 ≠ qw (-101) then wGo cf 144 100 [.ref 0, .int (zi x1), .int (zi x2), .int (zi x3), .int (zi x4), .int (zi x5), .int (zi x6), .int (zi x7), .int (zi x8)] [.int (zi (0))] (zm V J d) kk else wGo cf 144 100 [.ref 0, .int (zi x1), .int (zi x2), .int (zi x3), .int (zi x4), .int (zi x5), .int (zi x6), .int (zi x7), .int (zi x8)] [.int (zi (1))] (zm V J d) kk)) := by
  refine (wr_cne (off := 56) (a := s0) (b := s1) (t := 141) (by decide +kernel) rfl).trans (wif_ct (fun _ => ?_) (fun _ => ?_))
  · rfl
  · refine (wr_iload (n := 7) (x := zi x7) (by decide +kernel) rfl).trans ?_
    refine (wr_bipush (n := -101) (by decide +kernel) rfl).trans ?_
    refine (wr_cne (off := 7) (a := x7) (b := (-101)) (t := 99) (by decide +kernel) rfl).trans (wif_ct (fun _ => ?_) (fun _ => ?_))
    · refine (wr_iconst (n := 0) (by decide +kernel)).trans ?_
      rfl
    · refine (wr_iconst (n := 1) (by decide +kernel)).trans ?_
      refine (wr_goto (off := 4) (t := 100) (by decide +kernel) rfl).trans ?_
      rfl
theorem lw_144_100 {cf : Int32 → Int32} {V : zVt} {J : zJt} {d : Nat → Nat → UInt64} {kk : Nat} {x1 : Int} {x2 : Int} {x3 : Int} {x4 : Int} {x5 : Int} {x6 : Int} {x7 : Int} {x8 : Int} {s0 : Int} : wGo cf 144 100 [.ref 0, .int (zi x1), .int (zi x2), .int (zi x3), .int (zi x4), .int (zi x5), .int (zi x6), .int (zi x7), .int (zi x8)] [.int (zi s0)] (zm V J d) kk =
    (if qw x8 ≠ qw (-101) then wGo cf 144 112 [.ref 0, .int (zi x1), .int (zi x2), .int (zi x3), .int (zi x4), .int (zi x5), .int (zi x6), .int (zi x7), .int (zi x8)] [.int (zi (0)), .int (zi s0)] (zm V J d) kk else wGo cf 144 112 [.ref 0, .int (zi x1), .int (zi x2), .int (zi x3), .int (zi x4), .int (zi x5), .int (zi x6), .int (zi x7), .int (zi x8)] [.int (zi (1)), .int (zi s0)] (zm V J d) kk) := by
  refine (wr_iload (n := 8) (x := zi x8) (by decide +kernel) rfl).trans ?_
  refine (wr_bipush (n := -101) (by decide +kernel) rfl).trans ?_
  refine (wr_cne (off := 7) (a := x8) (b := (-101)) (t := 111) (by decide +kernel) rfl).trans (wif_ct (fun _ => ?_) (fun _ => ?_))
  · refine (wr_iconst (n := 0) (by decide +kernel)).trans ?_
    rfl
  · refine (wr_iconst (n := 1) (by decide +kernel)).trans ?_
    refine (wr_goto (off := 4) (t := 112) (by decide +kernel) rfl).trans ?_
    rfl
theorem lw_144_112 {cf : Int32 → Int32} {V : zVt} {J : zJt} {d : Nat → Nat → UInt64} {kk : Nat} {x1 : Int} {x2 : Int} {x3 : Int} {x4 : Int} {x5 : Int} {x6 : Int} {x7 : Int} {x8 : Int} {s0 : Int} {s1 : Int} : wGo cf 144 112 [.ref 0, .int (zi x1), .int (zi x2), .int (zi x3), .int (zi x4), .int (zi x5), .int (zi x6), .int (zi x7), .int (zi x8)] [.int (zi s1), .int (zi s0)] (zm V J d) kk =
    (if qw s0 ≠ qw s1 then wGo cf 144 141 [.ref 0, .int (zi x1), .int (zi x2), .int (zi x3), .int (zi x4), .int (zi x5), .int (zi x6), .int (zi x7), .int (zi x8)] [] (zm V J d) kk else (if qw x8 ≠ qw (1) then wGo cf 144 126 [.ref 0, .int (zi x1), .int (zi x2), .int (zi x3), .int (zi x4), .int (zi x5), .int (zi x6), .int (zi x7), .int (zi x8)] [] (zm V J d) kk else (if qw x7 < 0 then wGo cf 144 141 [.ref 0, .int (zi x1), .int (zi x2), .int (zi x3), .int (zi x4), .int (zi x5), .int (zi x6), .int (zi x7), .int (zi x8)] [] (zm V J d) kk else wGo cf 144 126 [.ref 0, .int (zi x1), .int (zi x2), .int (zi x3), .int (zi x4), .int (zi x5), .int (zi x6), .int (zi x7), .int (zi x8)] [] (zm V J d) kk))) := by
  refine (wr_cne (off := 29) (a := s0) (b := s1) (t := 141) (by decide +kernel) rfl).trans (wif_ct (fun _ => ?_) (fun _ => ?_))
  · rfl
  · refine (wr_iload (n := 8) (x := zi x8) (by decide +kernel) rfl).trans ?_
    refine (wr_iconst (n := 1) (by decide +kernel)).trans ?_
    refine (wr_cne (off := 8) (a := x8) (b := (1)) (t := 126) (by decide +kernel) rfl).trans (wif_ct (fun _ => ?_) (fun _ => ?_))
    · rfl
    · refine (wr_iload (n := 7) (x := zi x7) (by decide +kernel) rfl).trans ?_
      refine (wr_iflt (off := 18) (a := x7) (t := 141) (by decide +kernel) rfl).trans (wif_ct (fun _ => ?_) (fun _ => ?_))
      · rfl
      · rfl
theorem lw_144_126 {cf : Int32 → Int32} {V : zVt} {J : zJt} {d : Nat → Nat → UInt64} {kk : Nat} {x1 : Int} {x2 : Int} {x3 : Int} {x4 : Int} {x5 : Int} {x6 : Int} {x7 : Int} {x8 : Int} : wGo cf 144 126 [.ref 0, .int (zi x1), .int (zi x2), .int (zi x3), .int (zi x4), .int (zi x5), .int (zi x6), .int (zi x7), .int (zi x8)] [] (zm V J d) kk =
    (if qw x3 = 0 then wGo cf 144 137 [.ref 0, .int (zi x1), .int (zi x2), .int (zi x3), .int (zi x4), .int (zi x5), .int (zi x6), .int (zi x7), .int (zi x8)] [] (zm V J d) kk else (if qw x7 ≠ qw (-101) then wGo cf 144 141 [.ref 0, .int (zi x1), .int (zi x2), .int (zi x3), .int (zi x4), .int (zi x5), .int (zi x6), .int (zi x7), .int (zi x8)] [] (zm V J d) kk else wGo cf 144 137 [.ref 0, .int (zi x1), .int (zi x2), .int (zi x3), .int (zi x4), .int (zi x5), .int (zi x6), .int (zi x7), .int (zi x8)] [] (zm V J d) kk)) := by
  refine (wr_iload_n (n := 3) (x := zi x3) (by decide +kernel) rfl).trans ?_
  refine (wr_ifeq (off := 10) (a := x3) (t := 137) (by decide +kernel) rfl).trans (wif_ct (fun _ => ?_) (fun _ => ?_))
  · rfl
  · refine (wr_iload (n := 7) (x := zi x7) (by decide +kernel) rfl).trans ?_
    refine (wr_bipush (n := -101) (by decide +kernel) rfl).trans ?_
    refine (wr_cne (off := 7) (a := x7) (b := (-101)) (t := 141) (by decide +kernel) rfl).trans (wif_ct (fun _ => ?_) (fun _ => ?_))
    · rfl
    · rfl
theorem lw_144_137 {cf : Int32 → Int32} {V : zVt} {J : zJt} {d : Nat → Nat → UInt64} {kk : Nat} {x1 : Int} {x2 : Int} {x3 : Int} {x4 : Int} {x5 : Int} {x6 : Int} {x7 : Int} {x8 : Int} : wGo cf 144 137 [.ref 0, .int (zi x1), .int (zi x2), .int (zi x3), .int (zi x4), .int (zi x5), .int (zi x6), .int (zi x7), .int (zi x8)] [] (zm V J d) kk =
    wGo cf 144 142 [.ref 0, .int (zi x1), .int (zi x2), .int (zi x3), .int (zi x4), .int (zi x5), .int (zi x6), .int (zi x7), .int (zi x8)] [.int (zi (1))] (zm V J d) kk := by
  refine (wr_iconst (n := 1) (by decide +kernel)).trans ?_
  refine (wr_goto (off := 4) (t := 142) (by decide +kernel) rfl).trans ?_
  rfl
theorem lw_144_141 {cf : Int32 → Int32} {V : zVt} {J : zJt} {d : Nat → Nat → UInt64} {kk : Nat} {x1 : Int} {x2 : Int} {x3 : Int} {x4 : Int} {x5 : Int} {x6 : Int} {x7 : Int} {x8 : Int} : wGo cf 144 141 [.ref 0, .int (zi x1), .int (zi x2), .int (zi x3), .int (zi x4), .int (zi x5), .int (zi x6), .int (zi x7), .int (zi x8)] [] (zm V J d) kk =
    wGo cf 144 142 [.ref 0, .int (zi x1), .int (zi x2), .int (zi x3), .int (zi x4), .int (zi x5), .int (zi x6), .int (zi x7), .int (zi x8)] [.int (zi (0))] (zm V J d) kk := by
  refine (wr_iconst (n := 0) (by decide +kernel)).trans ?_
  rfl
theorem lw_144_142 {cf : Int32 → Int32} {V : zVt} {J : zJt} {d : Nat → Nat → UInt64} {kk : Nat} {x1 : Int} {x2 : Int} {x3 : Int} {x4 : Int} {x5 : Int} {x6 : Int} {x7 : Int} {x8 : Int} {s0 : Int} : wGo cf 144 142 [.ref 0, .int (zi x1), .int (zi x2), .int (zi x3), .int (zi x4), .int (zi x5), .int (zi x6), .int (zi x7), .int (zi x8)] [.int (zi s0)] (zm V J d) kk =
    wGo cf 144 40 [.ref 0, .int (zi x1), .int (zi x2), .int (zi x3), .int (zi s0), .int (zi x5), .int (zi (x6 + 3)), .int (zi x7), .int (zi x8)] [] (zm V J d) kk := by
  refine (wr_istore (n := 4) (l1 := [.ref 0, .int (zi x1), .int (zi x2), .int (zi x3), .int (zi s0), .int (zi x5), .int (zi x6), .int (zi x7), .int (zi x8)]) (by decide +kernel) rfl).trans ?_
  refine (wr_iinc (n := 6) (j := 3) (x := x6) (l1 := [.ref 0, .int (zi x1), .int (zi x2), .int (zi x3), .int (zi s0), .int (zi x5), .int (zi (x6 + 3)), .int (zi x7), .int (zi x8)]) (by decide +kernel) rfl rfl).trans ?_
  refine (wr_goto (off := -107) (t := 40) (by decide +kernel) rfl).trans ?_
  rfl
theorem lw_144_150 {cf : Int32 → Int32} {V : zVt} {J : zJt} {d : Nat → Nat → UInt64} {kk : Nat} {x1 : Int} {x2 : Int} {x3 : Int} {x4 : Int} {x5 : Int} {x6 : Int} {x7 : Value} {x8 : Value} : wGo cf 144 150 [.ref 0, .int (zi x1), .int (zi x2), .int (zi x3), .int (zi x4), .int (zi x5), .int (zi x6), x7, x8] [] (zm V J d) kk =
    (if qw x4 = 0 then wGo cf 144 178 [.ref 0, .int (zi x1), .int (zi x2), .int (zi x3), .int (zi x4), .int (zi x5), .int (zi x6), x7, x8] [] (zm V J d) kk else (wstub 17 [zi x1, zi x1] (zm V J d)).bind (wGos cf 144 161 [.ref 0, .int (zi x1), .int (zi x2), .int (zi x3), .int (zi x4), .int (zi x5), .int (zi x6), x7, x8] [] kk)) := by
  refine (wr_iload (n := 4) (x := zi x4) (by decide +kernel) rfl).trans ?_
  refine (wr_ifeq (off := 26) (a := x4) (t := 178) (by decide +kernel) rfl).trans (wif_ct (fun _ => ?_) (fun _ => ?_))
  · rfl
  · refine (wr_aload_n (n := 0) (x := 0) (by decide +kernel) rfl).trans ?_
    refine (wr_iload_n (n := 1) (x := zi x1) (by decide +kernel) rfl).trans ?_
    refine (wr_iload_n (n := 1) (x := zi x1) (by decide +kernel) rfl).trans ?_
    exact wr_stub (i := 123) (s := 17) (w := 0) (xs := [zi x1, zi x1]) (t := [.int (zi x1), .int (zi x1)]) (rest := []) (by decide +kernel) (by decide +kernel) (by decide) rfl rfl rfl (Nat.le_of_ble_eq_true rfl)
theorem lw_144_161 {cf : Int32 → Int32} {V : zVt} {J : zJt} {d : Nat → Nat → UInt64} {kk : Nat} {x1 : Int} {x2 : Int} {x3 : Int} {x4 : Int} {x5 : Int} {x6 : Int} {x7 : Value} {x8 : Value} {s0 : Int} : wGo cf 144 161 [.ref 0, .int (zi x1), .int (zi x2), .int (zi x3), .int (zi x4), .int (zi x5), .int (zi x6), x7, x8] [.int (zi s0)] (zm V J d) kk =
    (if qw x3 ≠ 0 then wGo cf 144 171 [.ref 0, .int (zi x1), .int (zi x2), .int (zi x3), .int (zi x4), .int (zi x5), .int (zi x6), x7, x8] [.int (zi (-103)), .int (zi s0)] (zm V J d) kk else wGo cf 144 171 [.ref 0, .int (zi x1), .int (zi x2), .int (zi x3), .int (zi x4), .int (zi x5), .int (zi x6), x7, x8] [.int (zi (0)), .int (zi s0)] (zm V J d) kk) := by
  refine (wr_iload_n (n := 3) (x := zi x3) (by decide +kernel) rfl).trans ?_
  refine (wr_ifne (off := 7) (a := x3) (t := 169) (by decide +kernel) rfl).trans (wif_ct (fun _ => ?_) (fun _ => ?_))
  · refine (wr_bipush (n := -103) (by decide +kernel) rfl).trans ?_
    rfl
  · refine (wr_iconst (n := 0) (by decide +kernel)).trans ?_
    refine (wr_goto (off := 5) (t := 171) (by decide +kernel) rfl).trans ?_
    rfl
theorem lw_144_171 {cf : Int32 → Int32} {V : zVt} {J : zJt} {d : Nat → Nat → UInt64} {kk : Nat} {x1 : Int} {x2 : Int} {x3 : Int} {x4 : Int} {x5 : Int} {x6 : Int} {x7 : Value} {x8 : Value} {s0 : Int} {s1 : Int} : wGo cf 144 171 [.ref 0, .int (zi x1), .int (zi x2), .int (zi x3), .int (zi x4), .int (zi x5), .int (zi x6), x7, x8] [.int (zi s1), .int (zi s0)] (zm V J d) kk =
    (if qw s0 ≠ qw s1 then wGo cf 144 178 [.ref 0, .int (zi x1), .int (zi x2), .int (zi x3), .int (zi x4), .int (zi x5), .int (zi x6), x7, x8] [] (zm V J d) kk else wGo cf 144 179 [.ref 0, .int (zi x1), .int (zi x2), .int (zi x3), .int (zi x4), .int (zi x5), .int (zi x6), x7, x8] [.int (zi (1))] (zm V J d) kk) := by
  refine (wr_cne (off := 7) (a := s0) (b := s1) (t := 178) (by decide +kernel) rfl).trans (wif_ct (fun _ => ?_) (fun _ => ?_))
  · rfl
  · refine (wr_iconst (n := 1) (by decide +kernel)).trans ?_
    refine (wr_goto (off := 4) (t := 179) (by decide +kernel) rfl).trans ?_
    rfl
theorem lw_144_178 {cf : Int32 → Int32} {V : zVt} {J : zJt} {d : Nat → Nat → UInt64} {kk : Nat} {x1 : Int} {x2 : Int} {x3 : Int} {x4 : Int} {x5 : Int} {x6 : Int} {x7 : Value} {x8 : Value} : wGo cf 144 178 [.ref 0, .int (zi x1), .int (zi x2), .int (zi x3), .int (zi x4), .int (zi x5), .int (zi x6), x7, x8] [] (zm V J d) kk =
    wGo cf 144 179 [.ref 0, .int (zi x1), .int (zi x2), .int (zi x3), .int (zi x4), .int (zi x5), .int (zi x6), x7, x8] [.int (zi (0))] (zm V J d) kk := by
  refine (wr_iconst (n := 0) (by decide +kernel)).trans ?_
  rfl
theorem lw_144_179 {cf : Int32 → Int32} {V : zVt} {J : zJt} {d : Nat → Nat → UInt64} {kk : Nat} {x1 : Int} {x2 : Int} {x3 : Int} {x4 : Int} {x5 : Int} {x6 : Int} {x7 : Value} {x8 : Value} {s0 : Int} : wGo cf 144 179 [.ref 0, .int (zi x1), .int (zi x2), .int (zi x3), .int (zi x4), .int (zi x5), .int (zi x6), x7, x8] [.int (zi s0)] (zm V J d) kk =
    wck (qw s0 = 0 ∨ qw s0 = 1) (some (zi s0, zm V J d, kk)) := by
  exact wr_ret (a := s0) (by decide +kernel)
