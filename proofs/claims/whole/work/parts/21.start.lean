/-! part 21: the memory when the law has made its objects -/
def zm00 : zM := ((fun o => if o = 1048576 then (21, 7) else if o = 1048577 then (22, 7) else (99, 0)), (fun _ _ => none), (0, 0), (fun _ _ => 0), (fun _ _ => 0), (fun _ _ => 0))
def zmA : zM := zmk zm00 11 0 12
def zmR1 : Option (zRes × zM) := zrun true 20000 89 0 (zent 89 [.ref 0]) [] zmA
def zmB : zM := (zmR1.getD (.inr 0, zm00)).2
theorem zmR1_ok : (match zmR1 with | some (.inl none, m) => Nat.beq m.2.2.1.1 0 | _ => true) = false := by decide +kernel
