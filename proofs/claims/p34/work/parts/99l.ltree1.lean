/-! part 99l.ltree1: the law's method sings as equations; printed by program (wip/p34/gen/gen_ltree.py) -/
theorem lw_143_0 {cf : Int32 → Int32} {V : zVt} {J : zJt} {d : Nat → Nat → UInt64} {kk : Nat} {x1 : Int} {x2 : Int} {x3 : Int} : wGo cf 143 0 [.ref 0, .int (zi x1), .int (zi x2), .int (zi x3), .null, .null, .null, .null, .null, .null, .null] [] (zm V J d) kk =
    (wstub 0 [zi x1, zi x2, zi (64)] (zm V J d)).bind (wGos cf 143 8 [.ref 0, .int (zi x1), .int (zi x2), .int (zi x3), .null, .null, .null, .null, .null, .null, .null] [] kk) := by
  refine (wr_aload_n (n := 0) (x := 0) (by decide +kernel) rfl).trans ?_
  refine (wr_iload_n (n := 1) (x := zi x1) (by decide +kernel) rfl).trans ?_
  refine (wr_iload_n (n := 2) (x := zi x2) (by decide +kernel) rfl).trans ?_
  refine (wr_bipush (n := 64) (by decide +kernel) rfl).trans ?_
  exact wr_stub (i := 108) (s := 0) (w := 0) (xs := [zi x1, zi x2, zi (64)]) (t := [.int (zi (64)), .int (zi x2), .int (zi x1)]) (rest := []) (by decide +kernel) (by decide +kernel) (by decide) rfl rfl rfl (Nat.le_of_ble_eq_true rfl)
theorem lw_143_8 {cf : Int32 → Int32} {V : zVt} {J : zJt} {d : Nat → Nat → UInt64} {kk : Nat} {x1 : Int} {x2 : Int} {x3 : Int} {s0 : Int} : wGo cf 143 8 [.ref 0, .int (zi x1), .int (zi x2), .int (zi x3), .null, .null, .null, .null, .null, .null, .null] [.int (zi s0)] (zm V J d) kk =
    (if qw s0 ≤ 0 then wGo cf 143 77 [.ref 0, .int (zi x1), .int (zi x2), .int (zi x3), .null, .null, .null, .null, .null, .null, .null] [] (zm V J d) kk else wck (qw (3) ≠ 0) ((if qw (qrem x3 (3)) ≠ 0 then wGo cf 143 27 [.ref 0, .int (zi x1), .int (zi x2), .int (zi x3), .null, .null, .null, .null, .null, .null, .null] [.int (zi (71)), .int (zi x2), .int (zi x1), .ref 0] (zm V J d) kk else wGo cf 143 27 [.ref 0, .int (zi x1), .int (zi x2), .int (zi x3), .null, .null, .null, .null, .null, .null, .null] [.int (zi (70)), .int (zi x2), .int (zi x1), .ref 0] (zm V J d) kk))) := by
  refine (wr_ifle (off := 69) (a := s0) (t := 77) (by decide +kernel) rfl).trans (wif_ct (fun _ => ?_) (fun _ => ?_))
  · rfl
  · refine (wr_aload_n (n := 0) (x := 0) (by decide +kernel) rfl).trans ?_
    refine (wr_iload_n (n := 1) (x := zi x1) (by decide +kernel) rfl).trans ?_
    refine (wr_iload_n (n := 2) (x := zi x2) (by decide +kernel) rfl).trans ?_
    refine (wr_iload_n (n := 3) (x := zi x3) (by decide +kernel) rfl).trans ?_
    refine (wr_iconst (n := 3) (by decide +kernel)).trans ?_
    refine (wr_irem (a := x3) (b := (3)) (by decide +kernel)).trans (wck_ct fun _ => ?_)
    refine (wr_ifne (off := 8) (a := (qrem x3 (3))) (t := 25) (by decide +kernel) rfl).trans (wif_ct (fun _ => ?_) (fun _ => ?_))
    · refine (wr_bipush (n := 71) (by decide +kernel) rfl).trans ?_
      rfl
    · refine (wr_bipush (n := 70) (by decide +kernel) rfl).trans ?_
      refine (wr_goto (off := 5) (t := 27) (by decide +kernel) rfl).trans ?_
      rfl
theorem lw_143_27 {cf : Int32 → Int32} {V : zVt} {J : zJt} {d : Nat → Nat → UInt64} {kk : Nat} {x1 : Int} {x2 : Int} {x3 : Int} {s1 : Int} {s2 : Int} {s3 : Int} : wGo cf 143 27 [.ref 0, .int (zi x1), .int (zi x2), .int (zi x3), .null, .null, .null, .null, .null, .null, .null] [.int (zi s3), .int (zi s2), .int (zi s1), .ref 0] (zm V J d) kk =
    (wstub 0 [zi s1, zi s2, zi s3] (zm V J d)).bind (wGos cf 143 30 [.ref 0, .int (zi x1), .int (zi x2), .int (zi x3), .null, .null, .null, .null, .null, .null, .null] [] kk) := by
  exact wr_stub (i := 108) (s := 0) (w := 0) (xs := [zi s1, zi s2, zi s3]) (t := [.int (zi s3), .int (zi s2), .int (zi s1)]) (rest := []) (by decide +kernel) (by decide +kernel) (by decide) rfl rfl rfl (Nat.le_of_ble_eq_true rfl)
theorem lw_143_30 {cf : Int32 → Int32} {V : zVt} {J : zJt} {d : Nat → Nat → UInt64} {kk : Nat} {x1 : Int} {x2 : Int} {x3 : Int} {s0 : Int} : wGo cf 143 30 [.ref 0, .int (zi x1), .int (zi x2), .int (zi x3), .null, .null, .null, .null, .null, .null, .null] [.int (zi s0)] (zm V J d) kk =
    (if qw s0 ≤ 0 then wGo cf 143 77 [.ref 0, .int (zi x1), .int (zi x2), .int (zi x3), .null, .null, .null, .null, .null, .null, .null] [] (zm V J d) kk else wck (qw (2) ≠ 0) ((if qw (qrem x3 (2)) ≠ 0 then wGo cf 143 49 [.ref 0, .int (zi x1), .int (zi x2), .int (zi x3), .null, .null, .null, .null, .null, .null, .null] [.int (zi (98)), .int (zi x2), .int (zi x1), .ref 0] (zm V J d) kk else wGo cf 143 49 [.ref 0, .int (zi x1), .int (zi x2), .int (zi x3), .null, .null, .null, .null, .null, .null, .null] [.int (zi (35)), .int (zi x2), .int (zi x1), .ref 0] (zm V J d) kk))) := by
  refine (wr_ifle (off := 47) (a := s0) (t := 77) (by decide +kernel) rfl).trans (wif_ct (fun _ => ?_) (fun _ => ?_))
  · rfl
  · refine (wr_aload_n (n := 0) (x := 0) (by decide +kernel) rfl).trans ?_
    refine (wr_iload_n (n := 1) (x := zi x1) (by decide +kernel) rfl).trans ?_
    refine (wr_iload_n (n := 2) (x := zi x2) (by decide +kernel) rfl).trans ?_
    refine (wr_iload_n (n := 3) (x := zi x3) (by decide +kernel) rfl).trans ?_
    refine (wr_iconst (n := 2) (by decide +kernel)).trans ?_
    refine (wr_irem (a := x3) (b := (2)) (by decide +kernel)).trans (wck_ct fun _ => ?_)
    refine (wr_ifne (off := 8) (a := (qrem x3 (2))) (t := 47) (by decide +kernel) rfl).trans (wif_ct (fun _ => ?_) (fun _ => ?_))
    · refine (wr_bipush (n := 98) (by decide +kernel) rfl).trans ?_
      rfl
    · refine (wr_bipush (n := 35) (by decide +kernel) rfl).trans ?_
      refine (wr_goto (off := 5) (t := 49) (by decide +kernel) rfl).trans ?_
      rfl
theorem lw_143_49 {cf : Int32 → Int32} {V : zVt} {J : zJt} {d : Nat → Nat → UInt64} {kk : Nat} {x1 : Int} {x2 : Int} {x3 : Int} {s1 : Int} {s2 : Int} {s3 : Int} : wGo cf 143 49 [.ref 0, .int (zi x1), .int (zi x2), .int (zi x3), .null, .null, .null, .null, .null, .null, .null] [.int (zi s3), .int (zi s2), .int (zi s1), .ref 0] (zm V J d) kk =
    (wstub 0 [zi s1, zi s2, zi s3] (zm V J d)).bind (wGos cf 143 52 [.ref 0, .int (zi x1), .int (zi x2), .int (zi x3), .null, .null, .null, .null, .null, .null, .null] [] kk) := by
  exact wr_stub (i := 108) (s := 0) (w := 0) (xs := [zi s1, zi s2, zi s3]) (t := [.int (zi s3), .int (zi s2), .int (zi s1)]) (rest := []) (by decide +kernel) (by decide +kernel) (by decide) rfl rfl rfl (Nat.le_of_ble_eq_true rfl)
theorem lw_143_52 {cf : Int32 → Int32} {V : zVt} {J : zJt} {d : Nat → Nat → UInt64} {kk : Nat} {x1 : Int} {x2 : Int} {x3 : Int} {s0 : Int} : wGo cf 143 52 [.ref 0, .int (zi x1), .int (zi x2), .int (zi x3), .null, .null, .null, .null, .null, .null, .null] [.int (zi s0)] (zm V J d) kk =
    (if qw s0 ≤ 0 then wGo cf 143 77 [.ref 0, .int (zi x1), .int (zi x2), .int (zi x3), .null, .null, .null, .null, .null, .null, .null] [] (zm V J d) kk else wck (qw (3) ≠ 0) (wck (qw (8) ≠ 0) ((wstub 0 [zi x1, zi x2, zi ((48) + (qrem (qdiv x3 (3)) (8)))] (zm V J d)).bind (wGos cf 143 70 [.ref 0, .int (zi x1), .int (zi x2), .int (zi x3), .null, .null, .null, .null, .null, .null, .null] [] kk)))) := by
  refine (wr_ifle (off := 25) (a := s0) (t := 77) (by decide +kernel) rfl).trans (wif_ct (fun _ => ?_) (fun _ => ?_))
  · rfl
  · refine (wr_aload_n (n := 0) (x := 0) (by decide +kernel) rfl).trans ?_
    refine (wr_iload_n (n := 1) (x := zi x1) (by decide +kernel) rfl).trans ?_
    refine (wr_iload_n (n := 2) (x := zi x2) (by decide +kernel) rfl).trans ?_
    refine (wr_bipush (n := 48) (by decide +kernel) rfl).trans ?_
    refine (wr_iload_n (n := 3) (x := zi x3) (by decide +kernel) rfl).trans ?_
    refine (wr_iconst (n := 3) (by decide +kernel)).trans ?_
    refine (wr_idiv (a := x3) (b := (3)) (by decide +kernel)).trans (wck_ct fun _ => ?_)
    refine (wr_bipush (n := 8) (by decide +kernel) rfl).trans ?_
    refine (wr_irem (a := (qdiv x3 (3))) (b := (8)) (by decide +kernel)).trans (wck_ct fun _ => ?_)
    refine (wr_iadd (a := (48)) (b := (qrem (qdiv x3 (3)) (8))) (by decide +kernel)).trans ?_
    exact wr_stub (i := 108) (s := 0) (w := 0) (xs := [zi x1, zi x2, zi ((48) + (qrem (qdiv x3 (3)) (8)))]) (t := [.int (zi ((48) + (qrem (qdiv x3 (3)) (8)))), .int (zi x2), .int (zi x1)]) (rest := []) (by decide +kernel) (by decide +kernel) (by decide) rfl rfl rfl (Nat.le_of_ble_eq_true rfl)
theorem lw_143_70 {cf : Int32 → Int32} {V : zVt} {J : zJt} {d : Nat → Nat → UInt64} {kk : Nat} {x1 : Int} {x2 : Int} {x3 : Int} {s0 : Int} : wGo cf 143 70 [.ref 0, .int (zi x1), .int (zi x2), .int (zi x3), .null, .null, .null, .null, .null, .null, .null] [.int (zi s0)] (zm V J d) kk =
    (if qw s0 ≤ 0 then wGo cf 143 77 [.ref 0, .int (zi x1), .int (zi x2), .int (zi x3), .null, .null, .null, .null, .null, .null, .null] [] (zm V J d) kk else wGo cf 143 78 [.ref 0, .int (zi x1), .int (zi x2), .int (zi x3), .null, .null, .null, .null, .null, .null, .null] [.int (zi (1))] (zm V J d) kk) := by
  refine (wr_ifle (off := 7) (a := s0) (t := 77) (by decide +kernel) rfl).trans (wif_ct (fun _ => ?_) (fun _ => ?_))
  · rfl
  · refine (wr_iconst (n := 1) (by decide +kernel)).trans ?_
    refine (wr_goto (off := 4) (t := 78) (by decide +kernel) rfl).trans ?_
    rfl
theorem lw_143_77 {cf : Int32 → Int32} {V : zVt} {J : zJt} {d : Nat → Nat → UInt64} {kk : Nat} {x1 : Int} {x2 : Int} {x3 : Int} : wGo cf 143 77 [.ref 0, .int (zi x1), .int (zi x2), .int (zi x3), .null, .null, .null, .null, .null, .null, .null] [] (zm V J d) kk =
    wGo cf 143 78 [.ref 0, .int (zi x1), .int (zi x2), .int (zi x3), .null, .null, .null, .null, .null, .null, .null] [.int (zi (0))] (zm V J d) kk := by
  refine (wr_iconst (n := 0) (by decide +kernel)).trans ?_
  rfl
theorem lw_143_78 {cf : Int32 → Int32} {V : zVt} {J : zJt} {d : Nat → Nat → UInt64} {kk : Nat} {x1 : Int} {x2 : Int} {x3 : Int} {s0 : Int} : wGo cf 143 78 [.ref 0, .int (zi x1), .int (zi x2), .int (zi x3), .null, .null, .null, .null, .null, .null, .null] [.int (zi s0)] (zm V J d) kk =
    (if qw s0 = 0 then wGo cf 143 142 [.ref 0, .int (zi x1), .int (zi x2), .int (zi x3), .int (zi s0), .null, .null, .null, .null, .null, .null] [] (zm V J d) kk else (wstub 0 [zi x1, zi x2, zi (77)] (zm V J d)).bind (wGos cf 143 93 [.ref 0, .int (zi x1), .int (zi x2), .int (zi x3), .int (zi s0), .null, .null, .null, .null, .null, .null] [] kk)) := by
  refine (wr_istore (n := 4) (l1 := [.ref 0, .int (zi x1), .int (zi x2), .int (zi x3), .int (zi s0), .null, .null, .null, .null, .null, .null]) (by decide +kernel) rfl).trans ?_
  refine (wr_iload (n := 4) (x := zi s0) (by decide +kernel) rfl).trans ?_
  refine (wr_ifeq (off := 60) (a := s0) (t := 142) (by decide +kernel) rfl).trans (wif_ct (fun _ => ?_) (fun _ => ?_))
  · rfl
  · refine (wr_aload_n (n := 0) (x := 0) (by decide +kernel) rfl).trans ?_
    refine (wr_iload_n (n := 1) (x := zi x1) (by decide +kernel) rfl).trans ?_
    refine (wr_iload_n (n := 2) (x := zi x2) (by decide +kernel) rfl).trans ?_
    refine (wr_bipush (n := 77) (by decide +kernel) rfl).trans ?_
    exact wr_stub (i := 108) (s := 0) (w := 0) (xs := [zi x1, zi x2, zi (77)]) (t := [.int (zi (77)), .int (zi x2), .int (zi x1)]) (rest := []) (by decide +kernel) (by decide +kernel) (by decide) rfl rfl rfl (Nat.le_of_ble_eq_true rfl)
theorem lw_143_93 {cf : Int32 → Int32} {V : zVt} {J : zJt} {d : Nat → Nat → UInt64} {kk : Nat} {x1 : Int} {x2 : Int} {x3 : Int} {x4 : Int} {s0 : Int} : wGo cf 143 93 [.ref 0, .int (zi x1), .int (zi x2), .int (zi x3), .int (zi x4), .null, .null, .null, .null, .null, .null] [.int (zi s0)] (zm V J d) kk =
    (if qw s0 ≤ 0 then wGo cf 143 142 [.ref 0, .int (zi x1), .int (zi x2), .int (zi x3), .int (zi x4), .null, .null, .null, .null, .null, .null] [] (zm V J d) kk else wck (qw (24) ≠ 0) (wck (qw (5) ≠ 0) (wck (qw (4) ≠ 0) ((wstub 0 [zi x1, zi x2, zi ((49) + (qdiv (qrem (qdiv x3 (24)) (5)) (4)))] (zm V J d)).bind (wGos cf 143 113 [.ref 0, .int (zi x1), .int (zi x2), .int (zi x3), .int (zi x4), .null, .null, .null, .null, .null, .null] [] kk))))) := by
  refine (wr_ifle (off := 49) (a := s0) (t := 142) (by decide +kernel) rfl).trans (wif_ct (fun _ => ?_) (fun _ => ?_))
  · rfl
  · refine (wr_aload_n (n := 0) (x := 0) (by decide +kernel) rfl).trans ?_
    refine (wr_iload_n (n := 1) (x := zi x1) (by decide +kernel) rfl).trans ?_
    refine (wr_iload_n (n := 2) (x := zi x2) (by decide +kernel) rfl).trans ?_
    refine (wr_bipush (n := 49) (by decide +kernel) rfl).trans ?_
    refine (wr_iload_n (n := 3) (x := zi x3) (by decide +kernel) rfl).trans ?_
    refine (wr_bipush (n := 24) (by decide +kernel) rfl).trans ?_
    refine (wr_idiv (a := x3) (b := (24)) (by decide +kernel)).trans (wck_ct fun _ => ?_)
    refine (wr_iconst (n := 5) (by decide +kernel)).trans ?_
    refine (wr_irem (a := (qdiv x3 (24))) (b := (5)) (by decide +kernel)).trans (wck_ct fun _ => ?_)
    refine (wr_iconst (n := 4) (by decide +kernel)).trans ?_
    refine (wr_idiv (a := (qrem (qdiv x3 (24)) (5))) (b := (4)) (by decide +kernel)).trans (wck_ct fun _ => ?_)
    refine (wr_iadd (a := (49)) (b := (qdiv (qrem (qdiv x3 (24)) (5)) (4))) (by decide +kernel)).trans ?_
    exact wr_stub (i := 108) (s := 0) (w := 0) (xs := [zi x1, zi x2, zi ((49) + (qdiv (qrem (qdiv x3 (24)) (5)) (4)))]) (t := [.int (zi ((49) + (qdiv (qrem (qdiv x3 (24)) (5)) (4)))), .int (zi x2), .int (zi x1)]) (rest := []) (by decide +kernel) (by decide +kernel) (by decide) rfl rfl rfl (Nat.le_of_ble_eq_true rfl)
theorem lw_143_113 {cf : Int32 → Int32} {V : zVt} {J : zJt} {d : Nat → Nat → UInt64} {kk : Nat} {x1 : Int} {x2 : Int} {x3 : Int} {x4 : Int} {s0 : Int} : wGo cf 143 113 [.ref 0, .int (zi x1), .int (zi x2), .int (zi x3), .int (zi x4), .null, .null, .null, .null, .null, .null] [.int (zi s0)] (zm V J d) kk =
    (if qw s0 ≤ 0 then wGo cf 143 142 [.ref 0, .int (zi x1), .int (zi x2), .int (zi x3), .int (zi x4), .null, .null, .null, .null, .null, .null] [] (zm V J d) kk else (wstub 0 [zi x1, zi x2, zi (47)] (zm V J d)).bind (wGos cf 143 124 [.ref 0, .int (zi x1), .int (zi x2), .int (zi x3), .int (zi x4), .null, .null, .null, .null, .null, .null] [] kk)) := by
  refine (wr_ifle (off := 29) (a := s0) (t := 142) (by decide +kernel) rfl).trans (wif_ct (fun _ => ?_) (fun _ => ?_))
  · rfl
  · refine (wr_aload_n (n := 0) (x := 0) (by decide +kernel) rfl).trans ?_
    refine (wr_iload_n (n := 1) (x := zi x1) (by decide +kernel) rfl).trans ?_
    refine (wr_iload_n (n := 2) (x := zi x2) (by decide +kernel) rfl).trans ?_
    refine (wr_bipush (n := 47) (by decide +kernel) rfl).trans ?_
    exact wr_stub (i := 108) (s := 0) (w := 0) (xs := [zi x1, zi x2, zi (47)]) (t := [.int (zi (47)), .int (zi x2), .int (zi x1)]) (rest := []) (by decide +kernel) (by decide +kernel) (by decide) rfl rfl rfl (Nat.le_of_ble_eq_true rfl)
theorem lw_143_124 {cf : Int32 → Int32} {V : zVt} {J : zJt} {d : Nat → Nat → UInt64} {kk : Nat} {x1 : Int} {x2 : Int} {x3 : Int} {x4 : Int} {s0 : Int} : wGo cf 143 124 [.ref 0, .int (zi x1), .int (zi x2), .int (zi x3), .int (zi x4), .null, .null, .null, .null, .null, .null] [.int (zi s0)] (zm V J d) kk =
    (if qw s0 ≤ 0 then wGo cf 143 142 [.ref 0, .int (zi x1), .int (zi x2), .int (zi x3), .int (zi x4), .null, .null, .null, .null, .null, .null] [] (zm V J d) kk else (wstub 0 [zi x1, zi x2, zi (52)] (zm V J d)).bind (wGos cf 143 135 [.ref 0, .int (zi x1), .int (zi x2), .int (zi x3), .int (zi x4), .null, .null, .null, .null, .null, .null] [] kk)) := by
  refine (wr_ifle (off := 18) (a := s0) (t := 142) (by decide +kernel) rfl).trans (wif_ct (fun _ => ?_) (fun _ => ?_))
  · rfl
  · refine (wr_aload_n (n := 0) (x := 0) (by decide +kernel) rfl).trans ?_
    refine (wr_iload_n (n := 1) (x := zi x1) (by decide +kernel) rfl).trans ?_
    refine (wr_iload_n (n := 2) (x := zi x2) (by decide +kernel) rfl).trans ?_
    refine (wr_bipush (n := 52) (by decide +kernel) rfl).trans ?_
    exact wr_stub (i := 108) (s := 0) (w := 0) (xs := [zi x1, zi x2, zi (52)]) (t := [.int (zi (52)), .int (zi x2), .int (zi x1)]) (rest := []) (by decide +kernel) (by decide +kernel) (by decide) rfl rfl rfl (Nat.le_of_ble_eq_true rfl)
theorem lw_143_135 {cf : Int32 → Int32} {V : zVt} {J : zJt} {d : Nat → Nat → UInt64} {kk : Nat} {x1 : Int} {x2 : Int} {x3 : Int} {x4 : Int} {s0 : Int} : wGo cf 143 135 [.ref 0, .int (zi x1), .int (zi x2), .int (zi x3), .int (zi x4), .null, .null, .null, .null, .null, .null] [.int (zi s0)] (zm V J d) kk =
    (if qw s0 ≤ 0 then wGo cf 143 142 [.ref 0, .int (zi x1), .int (zi x2), .int (zi x3), .int (zi x4), .null, .null, .null, .null, .null, .null] [] (zm V J d) kk else wGo cf 143 143 [.ref 0, .int (zi x1), .int (zi x2), .int (zi x3), .int (zi x4), .null, .null, .null, .null, .null, .null] [.int (zi (1))] (zm V J d) kk) := by
  refine (wr_ifle (off := 7) (a := s0) (t := 142) (by decide +kernel) rfl).trans (wif_ct (fun _ => ?_) (fun _ => ?_))
  · rfl
  · refine (wr_iconst (n := 1) (by decide +kernel)).trans ?_
    refine (wr_goto (off := 4) (t := 143) (by decide +kernel) rfl).trans ?_
    rfl
theorem lw_143_142 {cf : Int32 → Int32} {V : zVt} {J : zJt} {d : Nat → Nat → UInt64} {kk : Nat} {x1 : Int} {x2 : Int} {x3 : Int} {x4 : Int} : wGo cf 143 142 [.ref 0, .int (zi x1), .int (zi x2), .int (zi x3), .int (zi x4), .null, .null, .null, .null, .null, .null] [] (zm V J d) kk =
    wGo cf 143 143 [.ref 0, .int (zi x1), .int (zi x2), .int (zi x3), .int (zi x4), .null, .null, .null, .null, .null, .null] [.int (zi (0))] (zm V J d) kk := by
  refine (wr_iconst (n := 0) (by decide +kernel)).trans ?_
  rfl
theorem lw_143_143 {cf : Int32 → Int32} {V : zVt} {J : zJt} {d : Nat → Nat → UInt64} {kk : Nat} {x1 : Int} {x2 : Int} {x3 : Int} {x4 : Int} {s0 : Int} : wGo cf 143 143 [.ref 0, .int (zi x1), .int (zi x2), .int (zi x3), .int (zi x4), .null, .null, .null, .null, .null, .null] [.int (zi s0)] (zm V J d) kk =
    wck (qw (48) ≠ 0) (wGo cf 143 157 [.ref 0, .int (zi x1), .int (zi x2), .int (zi x3), .int (zi s0), .int (zi (qdiv x3 (48))), .int (zi (0)), .int (zi (0)), .null, .null, .null] [] (zm V J d) kk) := by
  refine (wr_istore (n := 4) (l1 := [.ref 0, .int (zi x1), .int (zi x2), .int (zi x3), .int (zi s0), .null, .null, .null, .null, .null, .null]) (by decide +kernel) rfl).trans ?_
  refine (wr_iload_n (n := 3) (x := zi x3) (by decide +kernel) rfl).trans ?_
  refine (wr_bipush (n := 48) (by decide +kernel) rfl).trans ?_
  refine (wr_idiv (a := x3) (b := (48)) (by decide +kernel)).trans (wck_ct fun _ => ?_)
  refine (wr_istore (n := 5) (l1 := [.ref 0, .int (zi x1), .int (zi x2), .int (zi x3), .int (zi s0), .int (zi (qdiv x3 (48))), .null, .null, .null, .null, .null]) (by decide +kernel) rfl).trans ?_
  refine (wr_iconst (n := 0) (by decide +kernel)).trans ?_
  refine (wr_istore (n := 6) (l1 := [.ref 0, .int (zi x1), .int (zi x2), .int (zi x3), .int (zi s0), .int (zi (qdiv x3 (48))), .int (zi (0)), .null, .null, .null, .null]) (by decide +kernel) rfl).trans ?_
  refine (wr_iconst (n := 0) (by decide +kernel)).trans ?_
  refine (wr_istore (n := 7) (l1 := [.ref 0, .int (zi x1), .int (zi x2), .int (zi x3), .int (zi s0), .int (zi (qdiv x3 (48))), .int (zi (0)), .int (zi (0)), .null, .null, .null]) (by decide +kernel) rfl).trans ?_
  rfl
theorem lw_143_157 {cf : Int32 → Int32} {V : zVt} {J : zJt} {d : Nat → Nat → UInt64} {kk : Nat} {x1 : Int} {x2 : Int} {x3 : Int} {x4 : Int} {x5 : Int} {x6 : Int} {x7 : Int} {x8 : Value} {x9 : Value} {x10 : Value} : wGo cf 143 157 [.ref 0, .int (zi x1), .int (zi x2), .int (zi x3), .int (zi x4), .int (zi x5), .int (zi x6), .int (zi x7), x8, x9, x10] [] (zm V J d) kk =
    (if qw (5) ≤ qw x7 then wGo cf 143 558 [.ref 0, .int (zi x1), .int (zi x2), .int (zi x3), .int (zi x4), .int (zi x5), .int (zi x6), .int (zi x7), x8, x9, x10] [] (zm V J d) kk else (if qw x4 = 0 then wGo cf 143 558 [.ref 0, .int (zi x1), .int (zi x2), .int (zi x3), .int (zi x4), .int (zi x5), .int (zi x6), .int (zi x7), x8, x9, x10] [] (zm V J d) kk else wck (qw (7) ≠ 0) ((if qw (qrem x5 (7)) ≠ 0 then wGo cf 143 202 [.ref 0, .int (zi x1), .int (zi x2), .int (zi x3), .int (zi x4), .int (zi x5), .int (zi x6), .int (zi x7), x8, x9, x10] [] (zm V J d) kk else (if qw x6 ≠ 0 then wGo cf 143 202 [.ref 0, .int (zi x1), .int (zi x2), .int (zi x3), .int (zi x4), .int (zi x5), .int (zi x6), .int (zi x7), x8, x9, x10] [] (zm V J d) kk else (wstub 0 [zi x1, zi x2, zi (91)] (zm V J d)).bind (wGos cf 143 189 [.ref 0, .int (zi x1), .int (zi x2), .int (zi x3), .int (zi x4), .int (zi x5), .int (zi x6), .int (zi x7), x8, x9, x10] [] kk)))))) := by
  refine (wr_iload (n := 7) (x := zi x7) (by decide +kernel) rfl).trans ?_
  refine (wr_iconst (n := 5) (by decide +kernel)).trans ?_
  refine (wr_cge (off := 398) (a := x7) (b := (5)) (t := 558) (by decide +kernel) rfl).trans (wif_ct (fun _ => ?_) (fun _ => ?_))
  · rfl
  · refine (wr_iload (n := 4) (x := zi x4) (by decide +kernel) rfl).trans ?_
    refine (wr_ifeq (off := 393) (a := x4) (t := 558) (by decide +kernel) rfl).trans (wif_ct (fun _ => ?_) (fun _ => ?_))
    · rfl
    · refine (wr_iload (n := 5) (x := zi x5) (by decide +kernel) rfl).trans ?_
      refine (wr_bipush (n := 7) (by decide +kernel) rfl).trans ?_
      refine (wr_irem (a := x5) (b := (7)) (by decide +kernel)).trans (wck_ct fun _ => ?_)
      refine (wr_ifne (off := 29) (a := (qrem x5 (7))) (t := 202) (by decide +kernel) rfl).trans (wif_ct (fun _ => ?_) (fun _ => ?_))
      · rfl
      · refine (wr_iload (n := 6) (x := zi x6) (by decide +kernel) rfl).trans ?_
        refine (wr_ifne (off := 24) (a := x6) (t := 202) (by decide +kernel) rfl).trans (wif_ct (fun _ => ?_) (fun _ => ?_))
        · rfl
        · refine (wr_aload_n (n := 0) (x := 0) (by decide +kernel) rfl).trans ?_
          refine (wr_iload_n (n := 1) (x := zi x1) (by decide +kernel) rfl).trans ?_
          refine (wr_iload_n (n := 2) (x := zi x2) (by decide +kernel) rfl).trans ?_
          refine (wr_bipush (n := 91) (by decide +kernel) rfl).trans ?_
          exact wr_stub (i := 108) (s := 0) (w := 0) (xs := [zi x1, zi x2, zi (91)]) (t := [.int (zi (91)), .int (zi x2), .int (zi x1)]) (rest := []) (by decide +kernel) (by decide +kernel) (by decide) rfl rfl rfl (Nat.le_of_ble_eq_true rfl)
theorem lw_143_189 {cf : Int32 → Int32} {V : zVt} {J : zJt} {d : Nat → Nat → UInt64} {kk : Nat} {x1 : Int} {x2 : Int} {x3 : Int} {x4 : Int} {x5 : Int} {x6 : Int} {x7 : Int} {x8 : Value} {x9 : Value} {x10 : Value} {s0 : Int} : wGo cf 143 189 [.ref 0, .int (zi x1), .int (zi x2), .int (zi x3), .int (zi x4), .int (zi x5), .int (zi x6), .int (zi x7), x8, x9, x10] [.int (zi s0)] (zm V J d) kk =
    (if qw s0 ≤ 0 then wGo cf 143 197 [.ref 0, .int (zi x1), .int (zi x2), .int (zi x3), .int (zi x4), .int (zi x5), .int (zi x6), .int (zi x7), x8, x9, x10] [.int (zi (0))] (zm V J d) kk else wGo cf 143 197 [.ref 0, .int (zi x1), .int (zi x2), .int (zi x3), .int (zi x4), .int (zi x5), .int (zi x6), .int (zi x7), x8, x9, x10] [.int (zi (1))] (zm V J d) kk) := by
  refine (wr_ifle (off := 7) (a := s0) (t := 196) (by decide +kernel) rfl).trans (wif_ct (fun _ => ?_) (fun _ => ?_))
  · refine (wr_iconst (n := 0) (by decide +kernel)).trans ?_
    rfl
  · refine (wr_iconst (n := 1) (by decide +kernel)).trans ?_
    refine (wr_goto (off := 4) (t := 197) (by decide +kernel) rfl).trans ?_
    rfl
theorem lw_143_197 {cf : Int32 → Int32} {V : zVt} {J : zJt} {d : Nat → Nat → UInt64} {kk : Nat} {x1 : Int} {x2 : Int} {x3 : Int} {x4 : Int} {x5 : Int} {x6 : Int} {x7 : Int} {x8 : Value} {x9 : Value} {x10 : Value} {s0 : Int} : wGo cf 143 197 [.ref 0, .int (zi x1), .int (zi x2), .int (zi x3), .int (zi x4), .int (zi x5), .int (zi x6), .int (zi x7), x8, x9, x10] [.int (zi s0)] (zm V J d) kk =
    wGo cf 143 202 [.ref 0, .int (zi x1), .int (zi x2), .int (zi x3), .int (zi s0), .int (zi x5), .int (zi (1)), .int (zi x7), x8, x9, x10] [] (zm V J d) kk := by
  refine (wr_istore (n := 4) (l1 := [.ref 0, .int (zi x1), .int (zi x2), .int (zi x3), .int (zi s0), .int (zi x5), .int (zi x6), .int (zi x7), x8, x9, x10]) (by decide +kernel) rfl).trans ?_
  refine (wr_iconst (n := 1) (by decide +kernel)).trans ?_
  refine (wr_istore (n := 6) (l1 := [.ref 0, .int (zi x1), .int (zi x2), .int (zi x3), .int (zi s0), .int (zi x5), .int (zi (1)), .int (zi x7), x8, x9, x10]) (by decide +kernel) rfl).trans ?_
  rfl
theorem lw_143_202 {cf : Int32 → Int32} {V : zVt} {J : zJt} {d : Nat → Nat → UInt64} {kk : Nat} {x1 : Int} {x2 : Int} {x3 : Int} {x4 : Int} {x5 : Int} {x6 : Int} {x7 : Int} {x8 : Value} {x9 : Value} {x10 : Value} : wGo cf 143 202 [.ref 0, .int (zi x1), .int (zi x2), .int (zi x3), .int (zi x4), .int (zi x5), .int (zi x6), .int (zi x7), x8, x9, x10] [] (zm V J d) kk =
    wck (qw (10) ≠ 0) (wck (qw (10) ≠ 0) (wck (qw (4) ≠ 0) (wck (qw (10) ≠ 0) (wck (qw (40) ≠ 0) (wck (qw (6) ≠ 0) (wck (qw (24) ≠ 0) (wck (qw (5) ≠ 0) ((if qw (qrem (qdiv x3 (24)) (5)) ≠ qw (4) then wGo cf 143 281 [.ref 0, .int (zi x1), .int (zi x2), .int (zi x3), .int (zi x4), .int (zi x5), .int (zi x6), .int (zi x7), .int (zi (qrem x5 (10))), .int (zi (qrem ((qrem x5 (10)) + (qrem (qdiv x5 (10)) (4))) (10))), .int (zi (qrem (qdiv x5 (40)) (6)))] [] (zm V J d) kk else (if qw x4 = 0 then wGo cf 143 278 [.ref 0, .int (zi x1), .int (zi x2), .int (zi x3), .int (zi x4), .int (zi x5), .int (zi x6), .int (zi x7), .int (zi (qrem x5 (10))), .int (zi (qrem ((qrem x5 (10)) + (qrem (qdiv x5 (10)) (4))) (10))), .int (zi (qrem (qdiv x5 (40)) (6)))] [] (zm V J d) kk else (wstub 0 [zi x1, zi x2, zi ((48) + (qrem x5 (10)))] (zm V J d)).bind (wGos cf 143 260 [.ref 0, .int (zi x1), .int (zi x2), .int (zi x3), .int (zi x4), .int (zi x5), .int (zi x6), .int (zi x7), .int (zi (qrem x5 (10))), .int (zi (qrem ((qrem x5 (10)) + (qrem (qdiv x5 (10)) (4))) (10))), .int (zi (qrem (qdiv x5 (40)) (6)))] [] kk))))))))))) := by
  refine (wr_iload (n := 5) (x := zi x5) (by decide +kernel) rfl).trans ?_
  refine (wr_bipush (n := 10) (by decide +kernel) rfl).trans ?_
  refine (wr_irem (a := x5) (b := (10)) (by decide +kernel)).trans (wck_ct fun _ => ?_)
  refine (wr_istore (n := 8) (l1 := [.ref 0, .int (zi x1), .int (zi x2), .int (zi x3), .int (zi x4), .int (zi x5), .int (zi x6), .int (zi x7), .int (zi (qrem x5 (10))), x9, x10]) (by decide +kernel) rfl).trans ?_
  refine (wr_iload (n := 8) (x := zi (qrem x5 (10))) (by decide +kernel) rfl).trans ?_
  refine (wr_iload (n := 5) (x := zi x5) (by decide +kernel) rfl).trans ?_
  refine (wr_bipush (n := 10) (by decide +kernel) rfl).trans ?_
  refine (wr_idiv (a := x5) (b := (10)) (by decide +kernel)).trans (wck_ct fun _ => ?_)
  refine (wr_iconst (n := 4) (by decide +kernel)).trans ?_
  refine (wr_irem (a := (qdiv x5 (10))) (b := (4)) (by decide +kernel)).trans (wck_ct fun _ => ?_)
  refine (wr_iadd (a := (qrem x5 (10))) (b := (qrem (qdiv x5 (10)) (4))) (by decide +kernel)).trans ?_
  refine (wr_bipush (n := 10) (by decide +kernel) rfl).trans ?_
  refine (wr_irem (a := ((qrem x5 (10)) + (qrem (qdiv x5 (10)) (4)))) (b := (10)) (by decide +kernel)).trans (wck_ct fun _ => ?_)
  refine (wr_istore (n := 9) (l1 := [.ref 0, .int (zi x1), .int (zi x2), .int (zi x3), .int (zi x4), .int (zi x5), .int (zi x6), .int (zi x7), .int (zi (qrem x5 (10))), .int (zi (qrem ((qrem x5 (10)) + (qrem (qdiv x5 (10)) (4))) (10))), x10]) (by decide +kernel) rfl).trans ?_
  refine (wr_iload (n := 5) (x := zi x5) (by decide +kernel) rfl).trans ?_
  refine (wr_bipush (n := 40) (by decide +kernel) rfl).trans ?_
  refine (wr_idiv (a := x5) (b := (40)) (by decide +kernel)).trans (wck_ct fun _ => ?_)
  refine (wr_bipush (n := 6) (by decide +kernel) rfl).trans ?_
  refine (wr_irem (a := (qdiv x5 (40))) (b := (6)) (by decide +kernel)).trans (wck_ct fun _ => ?_)
  refine (wr_istore (n := 10) (l1 := [.ref 0, .int (zi x1), .int (zi x2), .int (zi x3), .int (zi x4), .int (zi x5), .int (zi x6), .int (zi x7), .int (zi (qrem x5 (10))), .int (zi (qrem ((qrem x5 (10)) + (qrem (qdiv x5 (10)) (4))) (10))), .int (zi (qrem (qdiv x5 (40)) (6)))]) (by decide +kernel) rfl).trans ?_
  refine (wr_iload_n (n := 3) (x := zi x3) (by decide +kernel) rfl).trans ?_
  refine (wr_bipush (n := 24) (by decide +kernel) rfl).trans ?_
  refine (wr_idiv (a := x3) (b := (24)) (by decide +kernel)).trans (wck_ct fun _ => ?_)
  refine (wr_iconst (n := 5) (by decide +kernel)).trans ?_
  refine (wr_irem (a := (qdiv x3 (24))) (b := (5)) (by decide +kernel)).trans (wck_ct fun _ => ?_)
  refine (wr_iconst (n := 4) (by decide +kernel)).trans ?_
  refine (wr_cne (off := 40) (a := (qrem (qdiv x3 (24)) (5))) (b := (4)) (t := 281) (by decide +kernel) rfl).trans (wif_ct (fun _ => ?_) (fun _ => ?_))
  · rfl
  · refine (wr_iload (n := 4) (x := zi x4) (by decide +kernel) rfl).trans ?_
    refine (wr_ifeq (off := 32) (a := x4) (t := 278) (by decide +kernel) rfl).trans (wif_ct (fun _ => ?_) (fun _ => ?_))
    · rfl
    · refine (wr_aload_n (n := 0) (x := 0) (by decide +kernel) rfl).trans ?_
      refine (wr_iload_n (n := 1) (x := zi x1) (by decide +kernel) rfl).trans ?_
      refine (wr_iload_n (n := 2) (x := zi x2) (by decide +kernel) rfl).trans ?_
      refine (wr_bipush (n := 48) (by decide +kernel) rfl).trans ?_
      refine (wr_iload (n := 8) (x := zi (qrem x5 (10))) (by decide +kernel) rfl).trans ?_
      refine (wr_iadd (a := (48)) (b := (qrem x5 (10))) (by decide +kernel)).trans ?_
      exact wr_stub (i := 108) (s := 0) (w := 0) (xs := [zi x1, zi x2, zi ((48) + (qrem x5 (10)))]) (t := [.int (zi ((48) + (qrem x5 (10)))), .int (zi x2), .int (zi x1)]) (rest := []) (by decide +kernel) (by decide +kernel) (by decide) rfl rfl rfl (Nat.le_of_ble_eq_true rfl)
theorem lw_143_260 {cf : Int32 → Int32} {V : zVt} {J : zJt} {d : Nat → Nat → UInt64} {kk : Nat} {x1 : Int} {x2 : Int} {x3 : Int} {x4 : Int} {x5 : Int} {x6 : Int} {x7 : Int} {x8 : Int} {x9 : Int} {x10 : Int} {s0 : Int} : wGo cf 143 260 [.ref 0, .int (zi x1), .int (zi x2), .int (zi x3), .int (zi x4), .int (zi x5), .int (zi x6), .int (zi x7), .int (zi x8), .int (zi x9), .int (zi x10)] [.int (zi s0)] (zm V J d) kk =
    (if qw s0 ≤ 0 then wGo cf 143 278 [.ref 0, .int (zi x1), .int (zi x2), .int (zi x3), .int (zi x4), .int (zi x5), .int (zi x6), .int (zi x7), .int (zi x8), .int (zi x9), .int (zi x10)] [] (zm V J d) kk else (wstub 0 [zi x1, zi x2, zi (113)] (zm V J d)).bind (wGos cf 143 271 [.ref 0, .int (zi x1), .int (zi x2), .int (zi x3), .int (zi x4), .int (zi x5), .int (zi x6), .int (zi x7), .int (zi x8), .int (zi x9), .int (zi x10)] [] kk)) := by
  refine (wr_ifle (off := 18) (a := s0) (t := 278) (by decide +kernel) rfl).trans (wif_ct (fun _ => ?_) (fun _ => ?_))
  · rfl
  · refine (wr_aload_n (n := 0) (x := 0) (by decide +kernel) rfl).trans ?_
    refine (wr_iload_n (n := 1) (x := zi x1) (by decide +kernel) rfl).trans ?_
    refine (wr_iload_n (n := 2) (x := zi x2) (by decide +kernel) rfl).trans ?_
    refine (wr_bipush (n := 113) (by decide +kernel) rfl).trans ?_
    exact wr_stub (i := 108) (s := 0) (w := 0) (xs := [zi x1, zi x2, zi (113)]) (t := [.int (zi (113)), .int (zi x2), .int (zi x1)]) (rest := []) (by decide +kernel) (by decide +kernel) (by decide) rfl rfl rfl (Nat.le_of_ble_eq_true rfl)
theorem lw_143_271 {cf : Int32 → Int32} {V : zVt} {J : zJt} {d : Nat → Nat → UInt64} {kk : Nat} {x1 : Int} {x2 : Int} {x3 : Int} {x4 : Int} {x5 : Int} {x6 : Int} {x7 : Int} {x8 : Int} {x9 : Int} {x10 : Int} {s0 : Int} : wGo cf 143 271 [.ref 0, .int (zi x1), .int (zi x2), .int (zi x3), .int (zi x4), .int (zi x5), .int (zi x6), .int (zi x7), .int (zi x8), .int (zi x9), .int (zi x10)] [.int (zi s0)] (zm V J d) kk =
    (if qw s0 ≤ 0 then wGo cf 143 278 [.ref 0, .int (zi x1), .int (zi x2), .int (zi x3), .int (zi x4), .int (zi x5), .int (zi x6), .int (zi x7), .int (zi x8), .int (zi x9), .int (zi x10)] [] (zm V J d) kk else wGo cf 143 279 [.ref 0, .int (zi x1), .int (zi x2), .int (zi x3), .int (zi x4), .int (zi x5), .int (zi x6), .int (zi x7), .int (zi x8), .int (zi x9), .int (zi x10)] [.int (zi (1))] (zm V J d) kk) := by
  refine (wr_ifle (off := 7) (a := s0) (t := 278) (by decide +kernel) rfl).trans (wif_ct (fun _ => ?_) (fun _ => ?_))
  · rfl
  · refine (wr_iconst (n := 1) (by decide +kernel)).trans ?_
    refine (wr_goto (off := 4) (t := 279) (by decide +kernel) rfl).trans ?_
    rfl
theorem lw_143_278 {cf : Int32 → Int32} {V : zVt} {J : zJt} {d : Nat → Nat → UInt64} {kk : Nat} {x1 : Int} {x2 : Int} {x3 : Int} {x4 : Int} {x5 : Int} {x6 : Int} {x7 : Int} {x8 : Int} {x9 : Int} {x10 : Int} : wGo cf 143 278 [.ref 0, .int (zi x1), .int (zi x2), .int (zi x3), .int (zi x4), .int (zi x5), .int (zi x6), .int (zi x7), .int (zi x8), .int (zi x9), .int (zi x10)] [] (zm V J d) kk =
    wGo cf 143 279 [.ref 0, .int (zi x1), .int (zi x2), .int (zi x3), .int (zi x4), .int (zi x5), .int (zi x6), .int (zi x7), .int (zi x8), .int (zi x9), .int (zi x10)] [.int (zi (0))] (zm V J d) kk := by
  refine (wr_iconst (n := 0) (by decide +kernel)).trans ?_
  rfl
theorem lw_143_279 {cf : Int32 → Int32} {V : zVt} {J : zJt} {d : Nat → Nat → UInt64} {kk : Nat} {x1 : Int} {x2 : Int} {x3 : Int} {x4 : Int} {x5 : Int} {x6 : Int} {x7 : Int} {x8 : Int} {x9 : Int} {x10 : Int} {s0 : Int} : wGo cf 143 279 [.ref 0, .int (zi x1), .int (zi x2), .int (zi x3), .int (zi x4), .int (zi x5), .int (zi x6), .int (zi x7), .int (zi x8), .int (zi x9), .int (zi x10)] [.int (zi s0)] (zm V J d) kk =
    wGo cf 143 281 [.ref 0, .int (zi x1), .int (zi x2), .int (zi x3), .int (zi s0), .int (zi x5), .int (zi x6), .int (zi x7), .int (zi x8), .int (zi x9), .int (zi x10)] [] (zm V J d) kk := by
  refine (wr_istore (n := 4) (l1 := [.ref 0, .int (zi x1), .int (zi x2), .int (zi x3), .int (zi s0), .int (zi x5), .int (zi x6), .int (zi x7), .int (zi x8), .int (zi x9), .int (zi x10)]) (by decide +kernel) rfl).trans ?_
  rfl
theorem lw_143_281 {cf : Int32 → Int32} {V : zVt} {J : zJt} {d : Nat → Nat → UInt64} {kk : Nat} {x1 : Int} {x2 : Int} {x3 : Int} {x4 : Int} {x5 : Int} {x6 : Int} {x7 : Int} {x8 : Int} {x9 : Int} {x10 : Int} : wGo cf 143 281 [.ref 0, .int (zi x1), .int (zi x2), .int (zi x3), .int (zi x4), .int (zi x5), .int (zi x6), .int (zi x7), .int (zi x8), .int (zi x9), .int (zi x10)] [] (zm V J d) kk =
    (if qw (2) ≤ qw x10 then (if qw (4) ≤ qw x10 then (if qw x4 = 0 then wGo cf 143 465 [.ref 0, .int (zi x1), .int (zi x2), .int (zi x3), .int (zi x4), .int (zi x5), .int (zi x6), .int (zi x7), .int (zi x8), .int (zi x9), .int (zi x10)] [] (zm V J d) kk else (if qw x10 ≠ qw (4) then wGo cf 143 430 [.ref 0, .int (zi x1), .int (zi x2), .int (zi x3), .int (zi x4), .int (zi x5), .int (zi x6), .int (zi x7), .int (zi x8), .int (zi x9), .int (zi x10)] [.int (zi (61)), .int (zi x2), .int (zi x1), .ref 0] (zm V J d) kk else wGo cf 143 430 [.ref 0, .int (zi x1), .int (zi x2), .int (zi x3), .int (zi x4), .int (zi x5), .int (zi x6), .int (zi x7), .int (zi x8), .int (zi x9), .int (zi x10)] [.int (zi (94)), .int (zi x2), .int (zi x1), .ref 0] (zm V J d) kk)) else (if qw x4 = 0 then wGo cf 143 403 [.ref 0, .int (zi x1), .int (zi x2), .int (zi x3), .int (zi x4), .int (zi x5), .int (zi x6), .int (zi x7), .int (zi x8), .int (zi x9), .int (zi x10)] [] (zm V J d) kk else (wstub 0 [zi x1, zi x2, zi ((48) + x8)] (zm V J d)).bind (wGos cf 143 349 [.ref 0, .int (zi x1), .int (zi x2), .int (zi x3), .int (zi x4), .int (zi x5), .int (zi x6), .int (zi x7), .int (zi x8), .int (zi x9), .int (zi x10)] [] kk))) else (if qw x4 = 0 then wGo cf 143 321 [.ref 0, .int (zi x1), .int (zi x2), .int (zi x3), .int (zi x4), .int (zi x5), .int (zi x6), .int (zi x7), .int (zi x8), .int (zi x9), .int (zi x10)] [] (zm V J d) kk else (wstub 0 [zi x1, zi x2, zi ((48) + x8)] (zm V J d)).bind (wGos cf 143 303 [.ref 0, .int (zi x1), .int (zi x2), .int (zi x3), .int (zi x4), .int (zi x5), .int (zi x6), .int (zi x7), .int (zi x8), .int (zi x9), .int (zi x10)] [] kk))) := by
  refine (wr_iload (n := 10) (x := zi x10) (by decide +kernel) rfl).trans ?_
  refine (wr_iconst (n := 2) (by decide +kernel)).trans ?_
  refine (wr_cge (off := 43) (a := x10) (b := (2)) (t := 327) (by decide +kernel) rfl).trans (wif_ct (fun _ => ?_) (fun _ => ?_))
  · refine (wr_iload (n := 10) (x := zi x10) (by decide +kernel) rfl).trans ?_
    refine (wr_iconst (n := 4) (by decide +kernel)).trans ?_
    refine (wr_cge (off := 79) (a := x10) (b := (4)) (t := 409) (by decide +kernel) rfl).trans (wif_ct (fun _ => ?_) (fun _ => ?_))
    · refine (wr_iload (n := 4) (x := zi x4) (by decide +kernel) rfl).trans ?_
      refine (wr_ifeq (off := 54) (a := x4) (t := 465) (by decide +kernel) rfl).trans (wif_ct (fun _ => ?_) (fun _ => ?_))
      · rfl
      · refine (wr_aload_n (n := 0) (x := 0) (by decide +kernel) rfl).trans ?_
        refine (wr_iload_n (n := 1) (x := zi x1) (by decide +kernel) rfl).trans ?_
        refine (wr_iload_n (n := 2) (x := zi x2) (by decide +kernel) rfl).trans ?_
        refine (wr_iload (n := 10) (x := zi x10) (by decide +kernel) rfl).trans ?_
        refine (wr_iconst (n := 4) (by decide +kernel)).trans ?_
        refine (wr_cne (off := 8) (a := x10) (b := (4)) (t := 428) (by decide +kernel) rfl).trans (wif_ct (fun _ => ?_) (fun _ => ?_))
        · refine (wr_bipush (n := 61) (by decide +kernel) rfl).trans ?_
          rfl
        · refine (wr_bipush (n := 94) (by decide +kernel) rfl).trans ?_
          refine (wr_goto (off := 5) (t := 430) (by decide +kernel) rfl).trans ?_
          rfl
    · refine (wr_iload (n := 4) (x := zi x4) (by decide +kernel) rfl).trans ?_
      refine (wr_ifeq (off := 68) (a := x4) (t := 403) (by decide +kernel) rfl).trans (wif_ct (fun _ => ?_) (fun _ => ?_))
      · rfl
      · refine (wr_aload_n (n := 0) (x := 0) (by decide +kernel) rfl).trans ?_
        refine (wr_iload_n (n := 1) (x := zi x1) (by decide +kernel) rfl).trans ?_
        refine (wr_iload_n (n := 2) (x := zi x2) (by decide +kernel) rfl).trans ?_
        refine (wr_bipush (n := 48) (by decide +kernel) rfl).trans ?_
        refine (wr_iload (n := 8) (x := zi x8) (by decide +kernel) rfl).trans ?_
        refine (wr_iadd (a := (48)) (b := x8) (by decide +kernel)).trans ?_
        exact wr_stub (i := 108) (s := 0) (w := 0) (xs := [zi x1, zi x2, zi ((48) + x8)]) (t := [.int (zi ((48) + x8)), .int (zi x2), .int (zi x1)]) (rest := []) (by decide +kernel) (by decide +kernel) (by decide) rfl rfl rfl (Nat.le_of_ble_eq_true rfl)
  · refine (wr_iload (n := 4) (x := zi x4) (by decide +kernel) rfl).trans ?_
    refine (wr_ifeq (off := 32) (a := x4) (t := 321) (by decide +kernel) rfl).trans (wif_ct (fun _ => ?_) (fun _ => ?_))
    · rfl
    · refine (wr_aload_n (n := 0) (x := 0) (by decide +kernel) rfl).trans ?_
      refine (wr_iload_n (n := 1) (x := zi x1) (by decide +kernel) rfl).trans ?_
      refine (wr_iload_n (n := 2) (x := zi x2) (by decide +kernel) rfl).trans ?_
      refine (wr_bipush (n := 48) (by decide +kernel) rfl).trans ?_
      refine (wr_iload (n := 8) (x := zi x8) (by decide +kernel) rfl).trans ?_
      refine (wr_iadd (a := (48)) (b := x8) (by decide +kernel)).trans ?_
      exact wr_stub (i := 108) (s := 0) (w := 0) (xs := [zi x1, zi x2, zi ((48) + x8)]) (t := [.int (zi ((48) + x8)), .int (zi x2), .int (zi x1)]) (rest := []) (by decide +kernel) (by decide +kernel) (by decide) rfl rfl rfl (Nat.le_of_ble_eq_true rfl)
theorem lw_143_303 {cf : Int32 → Int32} {V : zVt} {J : zJt} {d : Nat → Nat → UInt64} {kk : Nat} {x1 : Int} {x2 : Int} {x3 : Int} {x4 : Int} {x5 : Int} {x6 : Int} {x7 : Int} {x8 : Int} {x9 : Int} {x10 : Int} {s0 : Int} : wGo cf 143 303 [.ref 0, .int (zi x1), .int (zi x2), .int (zi x3), .int (zi x4), .int (zi x5), .int (zi x6), .int (zi x7), .int (zi x8), .int (zi x9), .int (zi x10)] [.int (zi s0)] (zm V J d) kk =
    (if qw s0 ≤ 0 then wGo cf 143 321 [.ref 0, .int (zi x1), .int (zi x2), .int (zi x3), .int (zi x4), .int (zi x5), .int (zi x6), .int (zi x7), .int (zi x8), .int (zi x9), .int (zi x10)] [] (zm V J d) kk else (wstub 0 [zi x1, zi x2, zi (113)] (zm V J d)).bind (wGos cf 143 314 [.ref 0, .int (zi x1), .int (zi x2), .int (zi x3), .int (zi x4), .int (zi x5), .int (zi x6), .int (zi x7), .int (zi x8), .int (zi x9), .int (zi x10)] [] kk)) := by
  refine (wr_ifle (off := 18) (a := s0) (t := 321) (by decide +kernel) rfl).trans (wif_ct (fun _ => ?_) (fun _ => ?_))
  · rfl
  · refine (wr_aload_n (n := 0) (x := 0) (by decide +kernel) rfl).trans ?_
    refine (wr_iload_n (n := 1) (x := zi x1) (by decide +kernel) rfl).trans ?_
    refine (wr_iload_n (n := 2) (x := zi x2) (by decide +kernel) rfl).trans ?_
    refine (wr_bipush (n := 113) (by decide +kernel) rfl).trans ?_
    exact wr_stub (i := 108) (s := 0) (w := 0) (xs := [zi x1, zi x2, zi (113)]) (t := [.int (zi (113)), .int (zi x2), .int (zi x1)]) (rest := []) (by decide +kernel) (by decide +kernel) (by decide) rfl rfl rfl (Nat.le_of_ble_eq_true rfl)
theorem lw_143_314 {cf : Int32 → Int32} {V : zVt} {J : zJt} {d : Nat → Nat → UInt64} {kk : Nat} {x1 : Int} {x2 : Int} {x3 : Int} {x4 : Int} {x5 : Int} {x6 : Int} {x7 : Int} {x8 : Int} {x9 : Int} {x10 : Int} {s0 : Int} : wGo cf 143 314 [.ref 0, .int (zi x1), .int (zi x2), .int (zi x3), .int (zi x4), .int (zi x5), .int (zi x6), .int (zi x7), .int (zi x8), .int (zi x9), .int (zi x10)] [.int (zi s0)] (zm V J d) kk =
    (if qw s0 ≤ 0 then wGo cf 143 321 [.ref 0, .int (zi x1), .int (zi x2), .int (zi x3), .int (zi x4), .int (zi x5), .int (zi x6), .int (zi x7), .int (zi x8), .int (zi x9), .int (zi x10)] [] (zm V J d) kk else wGo cf 143 322 [.ref 0, .int (zi x1), .int (zi x2), .int (zi x3), .int (zi x4), .int (zi x5), .int (zi x6), .int (zi x7), .int (zi x8), .int (zi x9), .int (zi x10)] [.int (zi (1))] (zm V J d) kk) := by
  refine (wr_ifle (off := 7) (a := s0) (t := 321) (by decide +kernel) rfl).trans (wif_ct (fun _ => ?_) (fun _ => ?_))
  · rfl
  · refine (wr_iconst (n := 1) (by decide +kernel)).trans ?_
    refine (wr_goto (off := 4) (t := 322) (by decide +kernel) rfl).trans ?_
    rfl
theorem lw_143_321 {cf : Int32 → Int32} {V : zVt} {J : zJt} {d : Nat → Nat → UInt64} {kk : Nat} {x1 : Int} {x2 : Int} {x3 : Int} {x4 : Int} {x5 : Int} {x6 : Int} {x7 : Int} {x8 : Int} {x9 : Int} {x10 : Int} : wGo cf 143 321 [.ref 0, .int (zi x1), .int (zi x2), .int (zi x3), .int (zi x4), .int (zi x5), .int (zi x6), .int (zi x7), .int (zi x8), .int (zi x9), .int (zi x10)] [] (zm V J d) kk =
    wGo cf 143 322 [.ref 0, .int (zi x1), .int (zi x2), .int (zi x3), .int (zi x4), .int (zi x5), .int (zi x6), .int (zi x7), .int (zi x8), .int (zi x9), .int (zi x10)] [.int (zi (0))] (zm V J d) kk := by
  refine (wr_iconst (n := 0) (by decide +kernel)).trans ?_
  rfl
theorem lw_143_322 {cf : Int32 → Int32} {V : zVt} {J : zJt} {d : Nat → Nat → UInt64} {kk : Nat} {x1 : Int} {x2 : Int} {x3 : Int} {x4 : Int} {x5 : Int} {x6 : Int} {x7 : Int} {x8 : Int} {x9 : Int} {x10 : Int} {s0 : Int} : wGo cf 143 322 [.ref 0, .int (zi x1), .int (zi x2), .int (zi x3), .int (zi x4), .int (zi x5), .int (zi x6), .int (zi x7), .int (zi x8), .int (zi x9), .int (zi x10)] [.int (zi s0)] (zm V J d) kk =
    wGo cf 143 468 [.ref 0, .int (zi x1), .int (zi x2), .int (zi x3), .int (zi s0), .int (zi x5), .int (zi x6), .int (zi x7), .int (zi x8), .int (zi x9), .int (zi x10)] [] (zm V J d) kk := by
  refine (wr_istore (n := 4) (l1 := [.ref 0, .int (zi x1), .int (zi x2), .int (zi x3), .int (zi s0), .int (zi x5), .int (zi x6), .int (zi x7), .int (zi x8), .int (zi x9), .int (zi x10)]) (by decide +kernel) rfl).trans ?_
  refine (wr_goto (off := 144) (t := 468) (by decide +kernel) rfl).trans ?_
  rfl
theorem lw_143_349 {cf : Int32 → Int32} {V : zVt} {J : zJt} {d : Nat → Nat → UInt64} {kk : Nat} {x1 : Int} {x2 : Int} {x3 : Int} {x4 : Int} {x5 : Int} {x6 : Int} {x7 : Int} {x8 : Int} {x9 : Int} {x10 : Int} {s0 : Int} : wGo cf 143 349 [.ref 0, .int (zi x1), .int (zi x2), .int (zi x3), .int (zi x4), .int (zi x5), .int (zi x6), .int (zi x7), .int (zi x8), .int (zi x9), .int (zi x10)] [.int (zi s0)] (zm V J d) kk =
    (if qw s0 ≤ 0 then wGo cf 143 403 [.ref 0, .int (zi x1), .int (zi x2), .int (zi x3), .int (zi x4), .int (zi x5), .int (zi x6), .int (zi x7), .int (zi x8), .int (zi x9), .int (zi x10)] [] (zm V J d) kk else (wstub 0 [zi x1, zi x2, zi (101)] (zm V J d)).bind (wGos cf 143 360 [.ref 0, .int (zi x1), .int (zi x2), .int (zi x3), .int (zi x4), .int (zi x5), .int (zi x6), .int (zi x7), .int (zi x8), .int (zi x9), .int (zi x10)] [] kk)) := by
  refine (wr_ifle (off := 54) (a := s0) (t := 403) (by decide +kernel) rfl).trans (wif_ct (fun _ => ?_) (fun _ => ?_))
  · rfl
  · refine (wr_aload_n (n := 0) (x := 0) (by decide +kernel) rfl).trans ?_
    refine (wr_iload_n (n := 1) (x := zi x1) (by decide +kernel) rfl).trans ?_
    refine (wr_iload_n (n := 2) (x := zi x2) (by decide +kernel) rfl).trans ?_
    refine (wr_bipush (n := 101) (by decide +kernel) rfl).trans ?_
    exact wr_stub (i := 108) (s := 0) (w := 0) (xs := [zi x1, zi x2, zi (101)]) (t := [.int (zi (101)), .int (zi x2), .int (zi x1)]) (rest := []) (by decide +kernel) (by decide +kernel) (by decide) rfl rfl rfl (Nat.le_of_ble_eq_true rfl)
theorem lw_143_360 {cf : Int32 → Int32} {V : zVt} {J : zJt} {d : Nat → Nat → UInt64} {kk : Nat} {x1 : Int} {x2 : Int} {x3 : Int} {x4 : Int} {x5 : Int} {x6 : Int} {x7 : Int} {x8 : Int} {x9 : Int} {x10 : Int} {s0 : Int} : wGo cf 143 360 [.ref 0, .int (zi x1), .int (zi x2), .int (zi x3), .int (zi x4), .int (zi x5), .int (zi x6), .int (zi x7), .int (zi x8), .int (zi x9), .int (zi x10)] [.int (zi s0)] (zm V J d) kk =
    (if qw s0 ≤ 0 then wGo cf 143 403 [.ref 0, .int (zi x1), .int (zi x2), .int (zi x3), .int (zi x4), .int (zi x5), .int (zi x6), .int (zi x7), .int (zi x8), .int (zi x9), .int (zi x10)] [] (zm V J d) kk else (if qw x10 ≠ qw (2) then wGo cf 143 382 [.ref 0, .int (zi x1), .int (zi x2), .int (zi x3), .int (zi x4), .int (zi x5), .int (zi x6), .int (zi x7), .int (zi x8), .int (zi x9), .int (zi x10)] [.int (zi ((48) + x9)), .int (zi x2), .int (zi x1), .ref 0] (zm V J d) kk else wGo cf 143 382 [.ref 0, .int (zi x1), .int (zi x2), .int (zi x3), .int (zi x4), .int (zi x5), .int (zi x6), .int (zi x7), .int (zi x8), .int (zi x9), .int (zi x10)] [.int (zi (114)), .int (zi x2), .int (zi x1), .ref 0] (zm V J d) kk)) := by
  refine (wr_ifle (off := 43) (a := s0) (t := 403) (by decide +kernel) rfl).trans (wif_ct (fun _ => ?_) (fun _ => ?_))
  · rfl
  · refine (wr_aload_n (n := 0) (x := 0) (by decide +kernel) rfl).trans ?_
    refine (wr_iload_n (n := 1) (x := zi x1) (by decide +kernel) rfl).trans ?_
    refine (wr_iload_n (n := 2) (x := zi x2) (by decide +kernel) rfl).trans ?_
    refine (wr_iload (n := 10) (x := zi x10) (by decide +kernel) rfl).trans ?_
    refine (wr_iconst (n := 2) (by decide +kernel)).trans ?_
    refine (wr_cne (off := 8) (a := x10) (b := (2)) (t := 377) (by decide +kernel) rfl).trans (wif_ct (fun _ => ?_) (fun _ => ?_))
    · refine (wr_bipush (n := 48) (by decide +kernel) rfl).trans ?_
      refine (wr_iload (n := 9) (x := zi x9) (by decide +kernel) rfl).trans ?_
      refine (wr_iadd (a := (48)) (b := x9) (by decide +kernel)).trans ?_
      rfl
    · refine (wr_bipush (n := 114) (by decide +kernel) rfl).trans ?_
      refine (wr_goto (off := 8) (t := 382) (by decide +kernel) rfl).trans ?_
      rfl
theorem lw_143_382 {cf : Int32 → Int32} {V : zVt} {J : zJt} {d : Nat → Nat → UInt64} {kk : Nat} {x1 : Int} {x2 : Int} {x3 : Int} {x4 : Int} {x5 : Int} {x6 : Int} {x7 : Int} {x8 : Int} {x9 : Int} {x10 : Int} {s1 : Int} {s2 : Int} {s3 : Int} : wGo cf 143 382 [.ref 0, .int (zi x1), .int (zi x2), .int (zi x3), .int (zi x4), .int (zi x5), .int (zi x6), .int (zi x7), .int (zi x8), .int (zi x9), .int (zi x10)] [.int (zi s3), .int (zi s2), .int (zi s1), .ref 0] (zm V J d) kk =
    (wstub 0 [zi s1, zi s2, zi s3] (zm V J d)).bind (wGos cf 143 385 [.ref 0, .int (zi x1), .int (zi x2), .int (zi x3), .int (zi x4), .int (zi x5), .int (zi x6), .int (zi x7), .int (zi x8), .int (zi x9), .int (zi x10)] [] kk) := by
  exact wr_stub (i := 108) (s := 0) (w := 0) (xs := [zi s1, zi s2, zi s3]) (t := [.int (zi s3), .int (zi s2), .int (zi s1)]) (rest := []) (by decide +kernel) (by decide +kernel) (by decide) rfl rfl rfl (Nat.le_of_ble_eq_true rfl)
theorem lw_143_385 {cf : Int32 → Int32} {V : zVt} {J : zJt} {d : Nat → Nat → UInt64} {kk : Nat} {x1 : Int} {x2 : Int} {x3 : Int} {x4 : Int} {x5 : Int} {x6 : Int} {x7 : Int} {x8 : Int} {x9 : Int} {x10 : Int} {s0 : Int} : wGo cf 143 385 [.ref 0, .int (zi x1), .int (zi x2), .int (zi x3), .int (zi x4), .int (zi x5), .int (zi x6), .int (zi x7), .int (zi x8), .int (zi x9), .int (zi x10)] [.int (zi s0)] (zm V J d) kk =
    (if qw s0 ≤ 0 then wGo cf 143 403 [.ref 0, .int (zi x1), .int (zi x2), .int (zi x3), .int (zi x4), .int (zi x5), .int (zi x6), .int (zi x7), .int (zi x8), .int (zi x9), .int (zi x10)] [] (zm V J d) kk else (wstub 0 [zi x1, zi x2, zi (101)] (zm V J d)).bind (wGos cf 143 396 [.ref 0, .int (zi x1), .int (zi x2), .int (zi x3), .int (zi x4), .int (zi x5), .int (zi x6), .int (zi x7), .int (zi x8), .int (zi x9), .int (zi x10)] [] kk)) := by
  refine (wr_ifle (off := 18) (a := s0) (t := 403) (by decide +kernel) rfl).trans (wif_ct (fun _ => ?_) (fun _ => ?_))
  · rfl
  · refine (wr_aload_n (n := 0) (x := 0) (by decide +kernel) rfl).trans ?_
    refine (wr_iload_n (n := 1) (x := zi x1) (by decide +kernel) rfl).trans ?_
    refine (wr_iload_n (n := 2) (x := zi x2) (by decide +kernel) rfl).trans ?_
    refine (wr_bipush (n := 101) (by decide +kernel) rfl).trans ?_
    exact wr_stub (i := 108) (s := 0) (w := 0) (xs := [zi x1, zi x2, zi (101)]) (t := [.int (zi (101)), .int (zi x2), .int (zi x1)]) (rest := []) (by decide +kernel) (by decide +kernel) (by decide) rfl rfl rfl (Nat.le_of_ble_eq_true rfl)
theorem lw_143_396 {cf : Int32 → Int32} {V : zVt} {J : zJt} {d : Nat → Nat → UInt64} {kk : Nat} {x1 : Int} {x2 : Int} {x3 : Int} {x4 : Int} {x5 : Int} {x6 : Int} {x7 : Int} {x8 : Int} {x9 : Int} {x10 : Int} {s0 : Int} : wGo cf 143 396 [.ref 0, .int (zi x1), .int (zi x2), .int (zi x3), .int (zi x4), .int (zi x5), .int (zi x6), .int (zi x7), .int (zi x8), .int (zi x9), .int (zi x10)] [.int (zi s0)] (zm V J d) kk =
    (if qw s0 ≤ 0 then wGo cf 143 403 [.ref 0, .int (zi x1), .int (zi x2), .int (zi x3), .int (zi x4), .int (zi x5), .int (zi x6), .int (zi x7), .int (zi x8), .int (zi x9), .int (zi x10)] [] (zm V J d) kk else wGo cf 143 404 [.ref 0, .int (zi x1), .int (zi x2), .int (zi x3), .int (zi x4), .int (zi x5), .int (zi x6), .int (zi x7), .int (zi x8), .int (zi x9), .int (zi x10)] [.int (zi (1))] (zm V J d) kk) := by
  refine (wr_ifle (off := 7) (a := s0) (t := 403) (by decide +kernel) rfl).trans (wif_ct (fun _ => ?_) (fun _ => ?_))
  · rfl
  · refine (wr_iconst (n := 1) (by decide +kernel)).trans ?_
    refine (wr_goto (off := 4) (t := 404) (by decide +kernel) rfl).trans ?_
    rfl
theorem lw_143_403 {cf : Int32 → Int32} {V : zVt} {J : zJt} {d : Nat → Nat → UInt64} {kk : Nat} {x1 : Int} {x2 : Int} {x3 : Int} {x4 : Int} {x5 : Int} {x6 : Int} {x7 : Int} {x8 : Int} {x9 : Int} {x10 : Int} : wGo cf 143 403 [.ref 0, .int (zi x1), .int (zi x2), .int (zi x3), .int (zi x4), .int (zi x5), .int (zi x6), .int (zi x7), .int (zi x8), .int (zi x9), .int (zi x10)] [] (zm V J d) kk =
    wGo cf 143 404 [.ref 0, .int (zi x1), .int (zi x2), .int (zi x3), .int (zi x4), .int (zi x5), .int (zi x6), .int (zi x7), .int (zi x8), .int (zi x9), .int (zi x10)] [.int (zi (0))] (zm V J d) kk := by
  refine (wr_iconst (n := 0) (by decide +kernel)).trans ?_
  rfl
theorem lw_143_404 {cf : Int32 → Int32} {V : zVt} {J : zJt} {d : Nat → Nat → UInt64} {kk : Nat} {x1 : Int} {x2 : Int} {x3 : Int} {x4 : Int} {x5 : Int} {x6 : Int} {x7 : Int} {x8 : Int} {x9 : Int} {x10 : Int} {s0 : Int} : wGo cf 143 404 [.ref 0, .int (zi x1), .int (zi x2), .int (zi x3), .int (zi x4), .int (zi x5), .int (zi x6), .int (zi x7), .int (zi x8), .int (zi x9), .int (zi x10)] [.int (zi s0)] (zm V J d) kk =
    wGo cf 143 468 [.ref 0, .int (zi x1), .int (zi x2), .int (zi x3), .int (zi s0), .int (zi x5), .int (zi x6), .int (zi x7), .int (zi x8), .int (zi x9), .int (zi x10)] [] (zm V J d) kk := by
  refine (wr_istore (n := 4) (l1 := [.ref 0, .int (zi x1), .int (zi x2), .int (zi x3), .int (zi s0), .int (zi x5), .int (zi x6), .int (zi x7), .int (zi x8), .int (zi x9), .int (zi x10)]) (by decide +kernel) rfl).trans ?_
  refine (wr_goto (off := 62) (t := 468) (by decide +kernel) rfl).trans ?_
  rfl
theorem lw_143_430 {cf : Int32 → Int32} {V : zVt} {J : zJt} {d : Nat → Nat → UInt64} {kk : Nat} {x1 : Int} {x2 : Int} {x3 : Int} {x4 : Int} {x5 : Int} {x6 : Int} {x7 : Int} {x8 : Int} {x9 : Int} {x10 : Int} {s1 : Int} {s2 : Int} {s3 : Int} : wGo cf 143 430 [.ref 0, .int (zi x1), .int (zi x2), .int (zi x3), .int (zi x4), .int (zi x5), .int (zi x6), .int (zi x7), .int (zi x8), .int (zi x9), .int (zi x10)] [.int (zi s3), .int (zi s2), .int (zi s1), .ref 0] (zm V J d) kk =
    (wstub 0 [zi s1, zi s2, zi s3] (zm V J d)).bind (wGos cf 143 433 [.ref 0, .int (zi x1), .int (zi x2), .int (zi x3), .int (zi x4), .int (zi x5), .int (zi x6), .int (zi x7), .int (zi x8), .int (zi x9), .int (zi x10)] [] kk) := by
  exact wr_stub (i := 108) (s := 0) (w := 0) (xs := [zi s1, zi s2, zi s3]) (t := [.int (zi s3), .int (zi s2), .int (zi s1)]) (rest := []) (by decide +kernel) (by decide +kernel) (by decide) rfl rfl rfl (Nat.le_of_ble_eq_true rfl)
theorem lw_143_433 {cf : Int32 → Int32} {V : zVt} {J : zJt} {d : Nat → Nat → UInt64} {kk : Nat} {x1 : Int} {x2 : Int} {x3 : Int} {x4 : Int} {x5 : Int} {x6 : Int} {x7 : Int} {x8 : Int} {x9 : Int} {x10 : Int} {s0 : Int} : wGo cf 143 433 [.ref 0, .int (zi x1), .int (zi x2), .int (zi x3), .int (zi x4), .int (zi x5), .int (zi x6), .int (zi x7), .int (zi x8), .int (zi x9), .int (zi x10)] [.int (zi s0)] (zm V J d) kk =
    (if qw s0 ≤ 0 then wGo cf 143 465 [.ref 0, .int (zi x1), .int (zi x2), .int (zi x3), .int (zi x4), .int (zi x5), .int (zi x6), .int (zi x7), .int (zi x8), .int (zi x9), .int (zi x10)] [] (zm V J d) kk else (wstub 0 [zi x1, zi x2, zi ((48) + x9)] (zm V J d)).bind (wGos cf 143 447 [.ref 0, .int (zi x1), .int (zi x2), .int (zi x3), .int (zi x4), .int (zi x5), .int (zi x6), .int (zi x7), .int (zi x8), .int (zi x9), .int (zi x10)] [] kk)) := by
  refine (wr_ifle (off := 32) (a := s0) (t := 465) (by decide +kernel) rfl).trans (wif_ct (fun _ => ?_) (fun _ => ?_))
  · rfl
  · refine (wr_aload_n (n := 0) (x := 0) (by decide +kernel) rfl).trans ?_
    refine (wr_iload_n (n := 1) (x := zi x1) (by decide +kernel) rfl).trans ?_
    refine (wr_iload_n (n := 2) (x := zi x2) (by decide +kernel) rfl).trans ?_
    refine (wr_bipush (n := 48) (by decide +kernel) rfl).trans ?_
    refine (wr_iload (n := 9) (x := zi x9) (by decide +kernel) rfl).trans ?_
    refine (wr_iadd (a := (48)) (b := x9) (by decide +kernel)).trans ?_
    exact wr_stub (i := 108) (s := 0) (w := 0) (xs := [zi x1, zi x2, zi ((48) + x9)]) (t := [.int (zi ((48) + x9)), .int (zi x2), .int (zi x1)]) (rest := []) (by decide +kernel) (by decide +kernel) (by decide) rfl rfl rfl (Nat.le_of_ble_eq_true rfl)
theorem lw_143_447 {cf : Int32 → Int32} {V : zVt} {J : zJt} {d : Nat → Nat → UInt64} {kk : Nat} {x1 : Int} {x2 : Int} {x3 : Int} {x4 : Int} {x5 : Int} {x6 : Int} {x7 : Int} {x8 : Int} {x9 : Int} {x10 : Int} {s0 : Int} : wGo cf 143 447 [.ref 0, .int (zi x1), .int (zi x2), .int (zi x3), .int (zi x4), .int (zi x5), .int (zi x6), .int (zi x7), .int (zi x8), .int (zi x9), .int (zi x10)] [.int (zi s0)] (zm V J d) kk =
    (if qw s0 ≤ 0 then wGo cf 143 465 [.ref 0, .int (zi x1), .int (zi x2), .int (zi x3), .int (zi x4), .int (zi x5), .int (zi x6), .int (zi x7), .int (zi x8), .int (zi x9), .int (zi x10)] [] (zm V J d) kk else (wstub 0 [zi x1, zi x2, zi (113)] (zm V J d)).bind (wGos cf 143 458 [.ref 0, .int (zi x1), .int (zi x2), .int (zi x3), .int (zi x4), .int (zi x5), .int (zi x6), .int (zi x7), .int (zi x8), .int (zi x9), .int (zi x10)] [] kk)) := by
  refine (wr_ifle (off := 18) (a := s0) (t := 465) (by decide +kernel) rfl).trans (wif_ct (fun _ => ?_) (fun _ => ?_))
  · rfl
  · refine (wr_aload_n (n := 0) (x := 0) (by decide +kernel) rfl).trans ?_
    refine (wr_iload_n (n := 1) (x := zi x1) (by decide +kernel) rfl).trans ?_
    refine (wr_iload_n (n := 2) (x := zi x2) (by decide +kernel) rfl).trans ?_
    refine (wr_bipush (n := 113) (by decide +kernel) rfl).trans ?_
    exact wr_stub (i := 108) (s := 0) (w := 0) (xs := [zi x1, zi x2, zi (113)]) (t := [.int (zi (113)), .int (zi x2), .int (zi x1)]) (rest := []) (by decide +kernel) (by decide +kernel) (by decide) rfl rfl rfl (Nat.le_of_ble_eq_true rfl)
theorem lw_143_458 {cf : Int32 → Int32} {V : zVt} {J : zJt} {d : Nat → Nat → UInt64} {kk : Nat} {x1 : Int} {x2 : Int} {x3 : Int} {x4 : Int} {x5 : Int} {x6 : Int} {x7 : Int} {x8 : Int} {x9 : Int} {x10 : Int} {s0 : Int} : wGo cf 143 458 [.ref 0, .int (zi x1), .int (zi x2), .int (zi x3), .int (zi x4), .int (zi x5), .int (zi x6), .int (zi x7), .int (zi x8), .int (zi x9), .int (zi x10)] [.int (zi s0)] (zm V J d) kk =
    (if qw s0 ≤ 0 then wGo cf 143 465 [.ref 0, .int (zi x1), .int (zi x2), .int (zi x3), .int (zi x4), .int (zi x5), .int (zi x6), .int (zi x7), .int (zi x8), .int (zi x9), .int (zi x10)] [] (zm V J d) kk else wGo cf 143 466 [.ref 0, .int (zi x1), .int (zi x2), .int (zi x3), .int (zi x4), .int (zi x5), .int (zi x6), .int (zi x7), .int (zi x8), .int (zi x9), .int (zi x10)] [.int (zi (1))] (zm V J d) kk) := by
  refine (wr_ifle (off := 7) (a := s0) (t := 465) (by decide +kernel) rfl).trans (wif_ct (fun _ => ?_) (fun _ => ?_))
  · rfl
  · refine (wr_iconst (n := 1) (by decide +kernel)).trans ?_
    refine (wr_goto (off := 4) (t := 466) (by decide +kernel) rfl).trans ?_
    rfl
theorem lw_143_465 {cf : Int32 → Int32} {V : zVt} {J : zJt} {d : Nat → Nat → UInt64} {kk : Nat} {x1 : Int} {x2 : Int} {x3 : Int} {x4 : Int} {x5 : Int} {x6 : Int} {x7 : Int} {x8 : Int} {x9 : Int} {x10 : Int} : wGo cf 143 465 [.ref 0, .int (zi x1), .int (zi x2), .int (zi x3), .int (zi x4), .int (zi x5), .int (zi x6), .int (zi x7), .int (zi x8), .int (zi x9), .int (zi x10)] [] (zm V J d) kk =
    wGo cf 143 466 [.ref 0, .int (zi x1), .int (zi x2), .int (zi x3), .int (zi x4), .int (zi x5), .int (zi x6), .int (zi x7), .int (zi x8), .int (zi x9), .int (zi x10)] [.int (zi (0))] (zm V J d) kk := by
  refine (wr_iconst (n := 0) (by decide +kernel)).trans ?_
  rfl
theorem lw_143_466 {cf : Int32 → Int32} {V : zVt} {J : zJt} {d : Nat → Nat → UInt64} {kk : Nat} {x1 : Int} {x2 : Int} {x3 : Int} {x4 : Int} {x5 : Int} {x6 : Int} {x7 : Int} {x8 : Int} {x9 : Int} {x10 : Int} {s0 : Int} : wGo cf 143 466 [.ref 0, .int (zi x1), .int (zi x2), .int (zi x3), .int (zi x4), .int (zi x5), .int (zi x6), .int (zi x7), .int (zi x8), .int (zi x9), .int (zi x10)] [.int (zi s0)] (zm V J d) kk =
    wGo cf 143 468 [.ref 0, .int (zi x1), .int (zi x2), .int (zi x3), .int (zi s0), .int (zi x5), .int (zi x6), .int (zi x7), .int (zi x8), .int (zi x9), .int (zi x10)] [] (zm V J d) kk := by
  refine (wr_istore (n := 4) (l1 := [.ref 0, .int (zi x1), .int (zi x2), .int (zi x3), .int (zi s0), .int (zi x5), .int (zi x6), .int (zi x7), .int (zi x8), .int (zi x9), .int (zi x10)]) (by decide +kernel) rfl).trans ?_
  rfl
theorem lw_143_468 {cf : Int32 → Int32} {V : zVt} {J : zJt} {d : Nat → Nat → UInt64} {kk : Nat} {x1 : Int} {x2 : Int} {x3 : Int} {x4 : Int} {x5 : Int} {x6 : Int} {x7 : Int} {x8 : Int} {x9 : Int} {x10 : Int} : wGo cf 143 468 [.ref 0, .int (zi x1), .int (zi x2), .int (zi x3), .int (zi x4), .int (zi x5), .int (zi x6), .int (zi x7), .int (zi x8), .int (zi x9), .int (zi x10)] [] (zm V J d) kk =
    (if qw x4 = 0 then wGo cf 143 488 [.ref 0, .int (zi x1), .int (zi x2), .int (zi x3), .int (zi x4), .int (zi x5), .int (zi x6), .int (zi x7), .int (zi x8), .int (zi x9), .int (zi x10)] [] (zm V J d) kk else (wstub 0 [zi x1, zi x2, zi (124)] (zm V J d)).bind (wGos cf 143 481 [.ref 0, .int (zi x1), .int (zi x2), .int (zi x3), .int (zi x4), .int (zi x5), .int (zi x6), .int (zi x7), .int (zi x8), .int (zi x9), .int (zi x10)] [] kk)) := by
  refine (wr_iload (n := 4) (x := zi x4) (by decide +kernel) rfl).trans ?_
  refine (wr_ifeq (off := 18) (a := x4) (t := 488) (by decide +kernel) rfl).trans (wif_ct (fun _ => ?_) (fun _ => ?_))
  · rfl
  · refine (wr_aload_n (n := 0) (x := 0) (by decide +kernel) rfl).trans ?_
    refine (wr_iload_n (n := 1) (x := zi x1) (by decide +kernel) rfl).trans ?_
    refine (wr_iload_n (n := 2) (x := zi x2) (by decide +kernel) rfl).trans ?_
    refine (wr_bipush (n := 124) (by decide +kernel) rfl).trans ?_
    exact wr_stub (i := 108) (s := 0) (w := 0) (xs := [zi x1, zi x2, zi (124)]) (t := [.int (zi (124)), .int (zi x2), .int (zi x1)]) (rest := []) (by decide +kernel) (by decide +kernel) (by decide) rfl rfl rfl (Nat.le_of_ble_eq_true rfl)
theorem lw_143_481 {cf : Int32 → Int32} {V : zVt} {J : zJt} {d : Nat → Nat → UInt64} {kk : Nat} {x1 : Int} {x2 : Int} {x3 : Int} {x4 : Int} {x5 : Int} {x6 : Int} {x7 : Int} {x8 : Int} {x9 : Int} {x10 : Int} {s0 : Int} : wGo cf 143 481 [.ref 0, .int (zi x1), .int (zi x2), .int (zi x3), .int (zi x4), .int (zi x5), .int (zi x6), .int (zi x7), .int (zi x8), .int (zi x9), .int (zi x10)] [.int (zi s0)] (zm V J d) kk =
    (if qw s0 ≤ 0 then wGo cf 143 488 [.ref 0, .int (zi x1), .int (zi x2), .int (zi x3), .int (zi x4), .int (zi x5), .int (zi x6), .int (zi x7), .int (zi x8), .int (zi x9), .int (zi x10)] [] (zm V J d) kk else wGo cf 143 489 [.ref 0, .int (zi x1), .int (zi x2), .int (zi x3), .int (zi x4), .int (zi x5), .int (zi x6), .int (zi x7), .int (zi x8), .int (zi x9), .int (zi x10)] [.int (zi (1))] (zm V J d) kk) := by
  refine (wr_ifle (off := 7) (a := s0) (t := 488) (by decide +kernel) rfl).trans (wif_ct (fun _ => ?_) (fun _ => ?_))
  · rfl
  · refine (wr_iconst (n := 1) (by decide +kernel)).trans ?_
    refine (wr_goto (off := 4) (t := 489) (by decide +kernel) rfl).trans ?_
    rfl
theorem lw_143_488 {cf : Int32 → Int32} {V : zVt} {J : zJt} {d : Nat → Nat → UInt64} {kk : Nat} {x1 : Int} {x2 : Int} {x3 : Int} {x4 : Int} {x5 : Int} {x6 : Int} {x7 : Int} {x8 : Int} {x9 : Int} {x10 : Int} : wGo cf 143 488 [.ref 0, .int (zi x1), .int (zi x2), .int (zi x3), .int (zi x4), .int (zi x5), .int (zi x6), .int (zi x7), .int (zi x8), .int (zi x9), .int (zi x10)] [] (zm V J d) kk =
    wGo cf 143 489 [.ref 0, .int (zi x1), .int (zi x2), .int (zi x3), .int (zi x4), .int (zi x5), .int (zi x6), .int (zi x7), .int (zi x8), .int (zi x9), .int (zi x10)] [.int (zi (0))] (zm V J d) kk := by
  refine (wr_iconst (n := 0) (by decide +kernel)).trans ?_
  rfl
theorem lw_143_489 {cf : Int32 → Int32} {V : zVt} {J : zJt} {d : Nat → Nat → UInt64} {kk : Nat} {x1 : Int} {x2 : Int} {x3 : Int} {x4 : Int} {x5 : Int} {x6 : Int} {x7 : Int} {x8 : Int} {x9 : Int} {x10 : Int} {s0 : Int} : wGo cf 143 489 [.ref 0, .int (zi x1), .int (zi x2), .int (zi x3), .int (zi x4), .int (zi x5), .int (zi x6), .int (zi x7), .int (zi x8), .int (zi x9), .int (zi x10)] [.int (zi s0)] (zm V J d) kk =
    (if qw x6 = 0 then wGo cf 143 540 [.ref 0, .int (zi x1), .int (zi x2), .int (zi x3), .int (zi s0), .int (zi x5), .int (zi x6), .int (zi x7), .int (zi x8), .int (zi x9), .int (zi x10)] [] (zm V J d) kk else wck (qw (3) ≠ 0) ((if qw (qrem x5 (3)) ≠ 0 then wGo cf 143 540 [.ref 0, .int (zi x1), .int (zi x2), .int (zi x3), .int (zi s0), .int (zi x5), .int (zi x6), .int (zi x7), .int (zi x8), .int (zi x9), .int (zi x10)] [] (zm V J d) kk else (if qw s0 = 0 then wGo cf 143 534 [.ref 0, .int (zi x1), .int (zi x2), .int (zi x3), .int (zi s0), .int (zi x5), .int (zi x6), .int (zi x7), .int (zi x8), .int (zi x9), .int (zi x10)] [] (zm V J d) kk else (wstub 0 [zi x1, zi x2, zi (93)] (zm V J d)).bind (wGos cf 143 516 [.ref 0, .int (zi x1), .int (zi x2), .int (zi x3), .int (zi s0), .int (zi x5), .int (zi x6), .int (zi x7), .int (zi x8), .int (zi x9), .int (zi x10)] [] kk))))) := by
  refine (wr_istore (n := 4) (l1 := [.ref 0, .int (zi x1), .int (zi x2), .int (zi x3), .int (zi s0), .int (zi x5), .int (zi x6), .int (zi x7), .int (zi x8), .int (zi x9), .int (zi x10)]) (by decide +kernel) rfl).trans ?_
  refine (wr_iload (n := 6) (x := zi x6) (by decide +kernel) rfl).trans ?_
  refine (wr_ifeq (off := 47) (a := x6) (t := 540) (by decide +kernel) rfl).trans (wif_ct (fun _ => ?_) (fun _ => ?_))
  · rfl
  · refine (wr_iload (n := 5) (x := zi x5) (by decide +kernel) rfl).trans ?_
    refine (wr_iconst (n := 3) (by decide +kernel)).trans ?_
    refine (wr_irem (a := x5) (b := (3)) (by decide +kernel)).trans (wck_ct fun _ => ?_)
    refine (wr_ifne (off := 40) (a := (qrem x5 (3))) (t := 540) (by decide +kernel) rfl).trans (wif_ct (fun _ => ?_) (fun _ => ?_))
    · rfl
    · refine (wr_iload (n := 4) (x := zi s0) (by decide +kernel) rfl).trans ?_
      refine (wr_ifeq (off := 29) (a := s0) (t := 534) (by decide +kernel) rfl).trans (wif_ct (fun _ => ?_) (fun _ => ?_))
      · rfl
      · refine (wr_aload_n (n := 0) (x := 0) (by decide +kernel) rfl).trans ?_
        refine (wr_iload_n (n := 1) (x := zi x1) (by decide +kernel) rfl).trans ?_
        refine (wr_iload_n (n := 2) (x := zi x2) (by decide +kernel) rfl).trans ?_
        refine (wr_bipush (n := 93) (by decide +kernel) rfl).trans ?_
        exact wr_stub (i := 108) (s := 0) (w := 0) (xs := [zi x1, zi x2, zi (93)]) (t := [.int (zi (93)), .int (zi x2), .int (zi x1)]) (rest := []) (by decide +kernel) (by decide +kernel) (by decide) rfl rfl rfl (Nat.le_of_ble_eq_true rfl)
theorem lw_143_516 {cf : Int32 → Int32} {V : zVt} {J : zJt} {d : Nat → Nat → UInt64} {kk : Nat} {x1 : Int} {x2 : Int} {x3 : Int} {x4 : Int} {x5 : Int} {x6 : Int} {x7 : Int} {x8 : Int} {x9 : Int} {x10 : Int} {s0 : Int} : wGo cf 143 516 [.ref 0, .int (zi x1), .int (zi x2), .int (zi x3), .int (zi x4), .int (zi x5), .int (zi x6), .int (zi x7), .int (zi x8), .int (zi x9), .int (zi x10)] [.int (zi s0)] (zm V J d) kk =
    (if qw s0 ≤ 0 then wGo cf 143 534 [.ref 0, .int (zi x1), .int (zi x2), .int (zi x3), .int (zi x4), .int (zi x5), .int (zi x6), .int (zi x7), .int (zi x8), .int (zi x9), .int (zi x10)] [] (zm V J d) kk else (wstub 0 [zi x1, zi x2, zi (50)] (zm V J d)).bind (wGos cf 143 527 [.ref 0, .int (zi x1), .int (zi x2), .int (zi x3), .int (zi x4), .int (zi x5), .int (zi x6), .int (zi x7), .int (zi x8), .int (zi x9), .int (zi x10)] [] kk)) := by
  refine (wr_ifle (off := 18) (a := s0) (t := 534) (by decide +kernel) rfl).trans (wif_ct (fun _ => ?_) (fun _ => ?_))
  · rfl
  · refine (wr_aload_n (n := 0) (x := 0) (by decide +kernel) rfl).trans ?_
    refine (wr_iload_n (n := 1) (x := zi x1) (by decide +kernel) rfl).trans ?_
    refine (wr_iload_n (n := 2) (x := zi x2) (by decide +kernel) rfl).trans ?_
    refine (wr_bipush (n := 50) (by decide +kernel) rfl).trans ?_
    exact wr_stub (i := 108) (s := 0) (w := 0) (xs := [zi x1, zi x2, zi (50)]) (t := [.int (zi (50)), .int (zi x2), .int (zi x1)]) (rest := []) (by decide +kernel) (by decide +kernel) (by decide) rfl rfl rfl (Nat.le_of_ble_eq_true rfl)
theorem lw_143_527 {cf : Int32 → Int32} {V : zVt} {J : zJt} {d : Nat → Nat → UInt64} {kk : Nat} {x1 : Int} {x2 : Int} {x3 : Int} {x4 : Int} {x5 : Int} {x6 : Int} {x7 : Int} {x8 : Int} {x9 : Int} {x10 : Int} {s0 : Int} : wGo cf 143 527 [.ref 0, .int (zi x1), .int (zi x2), .int (zi x3), .int (zi x4), .int (zi x5), .int (zi x6), .int (zi x7), .int (zi x8), .int (zi x9), .int (zi x10)] [.int (zi s0)] (zm V J d) kk =
    (if qw s0 ≤ 0 then wGo cf 143 534 [.ref 0, .int (zi x1), .int (zi x2), .int (zi x3), .int (zi x4), .int (zi x5), .int (zi x6), .int (zi x7), .int (zi x8), .int (zi x9), .int (zi x10)] [] (zm V J d) kk else wGo cf 143 535 [.ref 0, .int (zi x1), .int (zi x2), .int (zi x3), .int (zi x4), .int (zi x5), .int (zi x6), .int (zi x7), .int (zi x8), .int (zi x9), .int (zi x10)] [.int (zi (1))] (zm V J d) kk) := by
  refine (wr_ifle (off := 7) (a := s0) (t := 534) (by decide +kernel) rfl).trans (wif_ct (fun _ => ?_) (fun _ => ?_))
  · rfl
  · refine (wr_iconst (n := 1) (by decide +kernel)).trans ?_
    refine (wr_goto (off := 4) (t := 535) (by decide +kernel) rfl).trans ?_
    rfl
theorem lw_143_534 {cf : Int32 → Int32} {V : zVt} {J : zJt} {d : Nat → Nat → UInt64} {kk : Nat} {x1 : Int} {x2 : Int} {x3 : Int} {x4 : Int} {x5 : Int} {x6 : Int} {x7 : Int} {x8 : Int} {x9 : Int} {x10 : Int} : wGo cf 143 534 [.ref 0, .int (zi x1), .int (zi x2), .int (zi x3), .int (zi x4), .int (zi x5), .int (zi x6), .int (zi x7), .int (zi x8), .int (zi x9), .int (zi x10)] [] (zm V J d) kk =
    wGo cf 143 535 [.ref 0, .int (zi x1), .int (zi x2), .int (zi x3), .int (zi x4), .int (zi x5), .int (zi x6), .int (zi x7), .int (zi x8), .int (zi x9), .int (zi x10)] [.int (zi (0))] (zm V J d) kk := by
  refine (wr_iconst (n := 0) (by decide +kernel)).trans ?_
  rfl
theorem lw_143_535 {cf : Int32 → Int32} {V : zVt} {J : zJt} {d : Nat → Nat → UInt64} {kk : Nat} {x1 : Int} {x2 : Int} {x3 : Int} {x4 : Int} {x5 : Int} {x6 : Int} {x7 : Int} {x8 : Int} {x9 : Int} {x10 : Int} {s0 : Int} : wGo cf 143 535 [.ref 0, .int (zi x1), .int (zi x2), .int (zi x3), .int (zi x4), .int (zi x5), .int (zi x6), .int (zi x7), .int (zi x8), .int (zi x9), .int (zi x10)] [.int (zi s0)] (zm V J d) kk =
    wGo cf 143 540 [.ref 0, .int (zi x1), .int (zi x2), .int (zi x3), .int (zi s0), .int (zi x5), .int (zi (0)), .int (zi x7), .int (zi x8), .int (zi x9), .int (zi x10)] [] (zm V J d) kk := by
  refine (wr_istore (n := 4) (l1 := [.ref 0, .int (zi x1), .int (zi x2), .int (zi x3), .int (zi s0), .int (zi x5), .int (zi x6), .int (zi x7), .int (zi x8), .int (zi x9), .int (zi x10)]) (by decide +kernel) rfl).trans ?_
  refine (wr_iconst (n := 0) (by decide +kernel)).trans ?_
  refine (wr_istore (n := 6) (l1 := [.ref 0, .int (zi x1), .int (zi x2), .int (zi x3), .int (zi s0), .int (zi x5), .int (zi (0)), .int (zi x7), .int (zi x8), .int (zi x9), .int (zi x10)]) (by decide +kernel) rfl).trans ?_
  rfl
theorem lw_143_540 {cf : Int32 → Int32} {V : zVt} {J : zJt} {d : Nat → Nat → UInt64} {kk : Nat} {x1 : Int} {x2 : Int} {x3 : Int} {x4 : Int} {x5 : Int} {x6 : Int} {x7 : Int} {x8 : Int} {x9 : Int} {x10 : Int} : wGo cf 143 540 [.ref 0, .int (zi x1), .int (zi x2), .int (zi x3), .int (zi x4), .int (zi x5), .int (zi x6), .int (zi x7), .int (zi x8), .int (zi x9), .int (zi x10)] [] (zm V J d) kk =
    wck (qw (11) ≠ 0) (wGo cf 143 157 [.ref 0, .int (zi x1), .int (zi x2), .int (zi x3), .int (zi x4), .int (zi ((qdiv x5 (11)) + ((3) * x7))), .int (zi x6), .int (zi (x7 + 1)), .int (zi x8), .int (zi x9), .int (zi x10)] [] (zm V J d) kk) := by
  refine (wr_iload (n := 5) (x := zi x5) (by decide +kernel) rfl).trans ?_
  refine (wr_bipush (n := 11) (by decide +kernel) rfl).trans ?_
  refine (wr_idiv (a := x5) (b := (11)) (by decide +kernel)).trans (wck_ct fun _ => ?_)
  refine (wr_iconst (n := 3) (by decide +kernel)).trans ?_
  refine (wr_iload (n := 7) (x := zi x7) (by decide +kernel) rfl).trans ?_
  refine (wr_imul (a := (3)) (b := x7) (by decide +kernel)).trans ?_
  refine (wr_iadd (a := (qdiv x5 (11))) (b := ((3) * x7)) (by decide +kernel)).trans ?_
  refine (wr_istore (n := 5) (l1 := [.ref 0, .int (zi x1), .int (zi x2), .int (zi x3), .int (zi x4), .int (zi ((qdiv x5 (11)) + ((3) * x7))), .int (zi x6), .int (zi x7), .int (zi x8), .int (zi x9), .int (zi x10)]) (by decide +kernel) rfl).trans ?_
  refine (wr_iinc (n := 7) (j := 1) (x := x7) (l1 := [.ref 0, .int (zi x1), .int (zi x2), .int (zi x3), .int (zi x4), .int (zi ((qdiv x5 (11)) + ((3) * x7))), .int (zi x6), .int (zi (x7 + 1)), .int (zi x8), .int (zi x9), .int (zi x10)]) (by decide +kernel) rfl rfl).trans ?_
  refine (wr_goto (off := -398) (t := 157) (by decide +kernel) rfl).trans ?_
  rfl
theorem lw_143_558 {cf : Int32 → Int32} {V : zVt} {J : zJt} {d : Nat → Nat → UInt64} {kk : Nat} {x1 : Int} {x2 : Int} {x3 : Int} {x4 : Int} {x5 : Int} {x6 : Int} {x7 : Int} {x8 : Value} {x9 : Value} {x10 : Value} : wGo cf 143 558 [.ref 0, .int (zi x1), .int (zi x2), .int (zi x3), .int (zi x4), .int (zi x5), .int (zi x6), .int (zi x7), x8, x9, x10] [] (zm V J d) kk =
    (if qw x4 = 0 then wGo cf 143 594 [.ref 0, .int (zi x1), .int (zi x2), .int (zi x3), .int (zi x4), .int (zi x5), .int (zi x6), .int (zi x7), x8, x9, x10] [] (zm V J d) kk else (if qw x6 = 0 then wGo cf 143 590 [.ref 0, .int (zi x1), .int (zi x2), .int (zi x3), .int (zi x4), .int (zi x5), .int (zi x6), .int (zi x7), x8, x9, x10] [] (zm V J d) kk else (wstub 0 [zi x1, zi x2, zi (93)] (zm V J d)).bind (wGos cf 143 576 [.ref 0, .int (zi x1), .int (zi x2), .int (zi x3), .int (zi x4), .int (zi x5), .int (zi x6), .int (zi x7), x8, x9, x10] [] kk))) := by
  refine (wr_iload (n := 4) (x := zi x4) (by decide +kernel) rfl).trans ?_
  refine (wr_ifeq (off := 34) (a := x4) (t := 594) (by decide +kernel) rfl).trans (wif_ct (fun _ => ?_) (fun _ => ?_))
  · rfl
  · refine (wr_iload (n := 6) (x := zi x6) (by decide +kernel) rfl).trans ?_
    refine (wr_ifeq (off := 25) (a := x6) (t := 590) (by decide +kernel) rfl).trans (wif_ct (fun _ => ?_) (fun _ => ?_))
    · rfl
    · refine (wr_aload_n (n := 0) (x := 0) (by decide +kernel) rfl).trans ?_
      refine (wr_iload_n (n := 1) (x := zi x1) (by decide +kernel) rfl).trans ?_
      refine (wr_iload_n (n := 2) (x := zi x2) (by decide +kernel) rfl).trans ?_
      refine (wr_bipush (n := 93) (by decide +kernel) rfl).trans ?_
      exact wr_stub (i := 108) (s := 0) (w := 0) (xs := [zi x1, zi x2, zi (93)]) (t := [.int (zi (93)), .int (zi x2), .int (zi x1)]) (rest := []) (by decide +kernel) (by decide +kernel) (by decide) rfl rfl rfl (Nat.le_of_ble_eq_true rfl)
theorem lw_143_576 {cf : Int32 → Int32} {V : zVt} {J : zJt} {d : Nat → Nat → UInt64} {kk : Nat} {x1 : Int} {x2 : Int} {x3 : Int} {x4 : Int} {x5 : Int} {x6 : Int} {x7 : Int} {x8 : Value} {x9 : Value} {x10 : Value} {s0 : Int} : wGo cf 143 576 [.ref 0, .int (zi x1), .int (zi x2), .int (zi x3), .int (zi x4), .int (zi x5), .int (zi x6), .int (zi x7), x8, x9, x10] [.int (zi s0)] (zm V J d) kk =
    (if qw s0 ≤ 0 then wGo cf 143 594 [.ref 0, .int (zi x1), .int (zi x2), .int (zi x3), .int (zi x4), .int (zi x5), .int (zi x6), .int (zi x7), x8, x9, x10] [] (zm V J d) kk else (wstub 0 [zi x1, zi x2, zi (51)] (zm V J d)).bind (wGos cf 143 587 [.ref 0, .int (zi x1), .int (zi x2), .int (zi x3), .int (zi x4), .int (zi x5), .int (zi x6), .int (zi x7), x8, x9, x10] [] kk)) := by
  refine (wr_ifle (off := 18) (a := s0) (t := 594) (by decide +kernel) rfl).trans (wif_ct (fun _ => ?_) (fun _ => ?_))
  · rfl
  · refine (wr_aload_n (n := 0) (x := 0) (by decide +kernel) rfl).trans ?_
    refine (wr_iload_n (n := 1) (x := zi x1) (by decide +kernel) rfl).trans ?_
    refine (wr_iload_n (n := 2) (x := zi x2) (by decide +kernel) rfl).trans ?_
    refine (wr_bipush (n := 51) (by decide +kernel) rfl).trans ?_
    exact wr_stub (i := 108) (s := 0) (w := 0) (xs := [zi x1, zi x2, zi (51)]) (t := [.int (zi (51)), .int (zi x2), .int (zi x1)]) (rest := []) (by decide +kernel) (by decide +kernel) (by decide) rfl rfl rfl (Nat.le_of_ble_eq_true rfl)
theorem lw_143_587 {cf : Int32 → Int32} {V : zVt} {J : zJt} {d : Nat → Nat → UInt64} {kk : Nat} {x1 : Int} {x2 : Int} {x3 : Int} {x4 : Int} {x5 : Int} {x6 : Int} {x7 : Int} {x8 : Value} {x9 : Value} {x10 : Value} {s0 : Int} : wGo cf 143 587 [.ref 0, .int (zi x1), .int (zi x2), .int (zi x3), .int (zi x4), .int (zi x5), .int (zi x6), .int (zi x7), x8, x9, x10] [.int (zi s0)] (zm V J d) kk =
    (if qw s0 ≤ 0 then wGo cf 143 594 [.ref 0, .int (zi x1), .int (zi x2), .int (zi x3), .int (zi x4), .int (zi x5), .int (zi x6), .int (zi x7), x8, x9, x10] [] (zm V J d) kk else wGo cf 143 590 [.ref 0, .int (zi x1), .int (zi x2), .int (zi x3), .int (zi x4), .int (zi x5), .int (zi x6), .int (zi x7), x8, x9, x10] [] (zm V J d) kk) := by
  refine (wr_ifle (off := 7) (a := s0) (t := 594) (by decide +kernel) rfl).trans (wif_ct (fun _ => ?_) (fun _ => ?_))
  · rfl
  · rfl
theorem lw_143_590 {cf : Int32 → Int32} {V : zVt} {J : zJt} {d : Nat → Nat → UInt64} {kk : Nat} {x1 : Int} {x2 : Int} {x3 : Int} {x4 : Int} {x5 : Int} {x6 : Int} {x7 : Int} {x8 : Value} {x9 : Value} {x10 : Value} : wGo cf 143 590 [.ref 0, .int (zi x1), .int (zi x2), .int (zi x3), .int (zi x4), .int (zi x5), .int (zi x6), .int (zi x7), x8, x9, x10] [] (zm V J d) kk =
    wGo cf 143 595 [.ref 0, .int (zi x1), .int (zi x2), .int (zi x3), .int (zi x4), .int (zi x5), .int (zi x6), .int (zi x7), x8, x9, x10] [.int (zi (1))] (zm V J d) kk := by
  refine (wr_iconst (n := 1) (by decide +kernel)).trans ?_
  refine (wr_goto (off := 4) (t := 595) (by decide +kernel) rfl).trans ?_
  rfl
theorem lw_143_594 {cf : Int32 → Int32} {V : zVt} {J : zJt} {d : Nat → Nat → UInt64} {kk : Nat} {x1 : Int} {x2 : Int} {x3 : Int} {x4 : Int} {x5 : Int} {x6 : Int} {x7 : Int} {x8 : Value} {x9 : Value} {x10 : Value} : wGo cf 143 594 [.ref 0, .int (zi x1), .int (zi x2), .int (zi x3), .int (zi x4), .int (zi x5), .int (zi x6), .int (zi x7), x8, x9, x10] [] (zm V J d) kk =
    wGo cf 143 595 [.ref 0, .int (zi x1), .int (zi x2), .int (zi x3), .int (zi x4), .int (zi x5), .int (zi x6), .int (zi x7), x8, x9, x10] [.int (zi (0))] (zm V J d) kk := by
  refine (wr_iconst (n := 0) (by decide +kernel)).trans ?_
  rfl
theorem lw_143_595 {cf : Int32 → Int32} {V : zVt} {J : zJt} {d : Nat → Nat → UInt64} {kk : Nat} {x1 : Int} {x2 : Int} {x3 : Int} {x4 : Int} {x5 : Int} {x6 : Int} {x7 : Int} {x8 : Value} {x9 : Value} {x10 : Value} {s0 : Int} : wGo cf 143 595 [.ref 0, .int (zi x1), .int (zi x2), .int (zi x3), .int (zi x4), .int (zi x5), .int (zi x6), .int (zi x7), x8, x9, x10] [.int (zi s0)] (zm V J d) kk =
    wck (qw s0 = 0 ∨ qw s0 = 1) (some (zi s0, zm V J d, kk)) := by
  exact wr_ret (a := s0) (by decide +kernel)
