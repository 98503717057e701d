/-! part 99k: instructions of the law's methods as equations -/
def wck (c : Prop) [Decidable c] (x : Option (Int32 × zM × Nat)) : Option (Int32 × zM × Nat) := if c then x else none
theorem wck_t {c : Prop} [Decidable c] {x : Option (Int32 × zM × Nat)} (h : c) : wck c x = x := if_pos h
theorem wck_ct {c : Prop} [Decidable c] {x y : Option (Int32 × zM × Nat)} (h : c → x = y) : wck c x = wck c y := by
  unfold wck
  split
  · exact h (by assumption)
  · rfl
theorem wif_ct {c : Prop} [Decidable c] {x y x2 y2 : Option (Int32 × zM × Nat)} (h : c → x = y) (h2 : ¬ c → x2 = y2) : (if c then x else x2) = if c then y else y2 := by
  split
  · exact h (by assumption)
  · exact h2 (by assumption)
/-- behind a stub: its answer on the stack, one stub more -/
noncomputable def wGos (cf : Int32 → Int32) (y pc : Nat) (ls st : List Value) (k : Nat) (q : Int32 × zM) : Option (Int32 × zM × Nat) := wGo cf y pc ls (.int q.1 :: st) q.2 (k + 1)
/-- behind a call of the class itself -/
noncomputable def wGov (cf : Int32 → Int32) (y pc : Nat) (ls st : List Value) (k : Nat) (q : Int32 × zM) : Option (Int32 × zM × Nat) := wGo cf y pc ls (.int q.1 :: st) q.2 k
noncomputable def wvirt (z : Nat) (m : zM) : Option (Int32 × zM) := match zGo false z 0 (zent z [.ref 0]) [] m with
  | some (.inl (some (.int v)), m1) => if m1.2.2.1 = m.2.2.1 then some (v, m1) else none
  | _ => none
section
variable {cf : Int32 → Int32} {y pc k : Nat} {ls st rest : List Value} {m : zM} {V : zVt} {J : zJt} {d : Nat → Nat → UInt64}
theorem wr_go {ins : Instr} {len pc1 : Nat} {ls1 st1 : List Value} {m1 : zM} (h : decode (zb y) pc = .ok (ins, len)) (hl : len = zlen ins len) (hne : wstep cf y ins pc ls st m = wplain y ins pc ls st m) (hs : zstep false y ins pc ls st m = some (.inl (pc1, ls1, st1, m1))) (hc : m1.2.2.1 = m.2.2.1) : wGo cf y pc ls st m k = wGo cf y pc1 ls1 st1 m1 k := by
  rw [wGo_in h hl, hne]
  unfold wplain
  rw [hs]
  show wGoc cf y m k (if m1.2.2.1 = m.2.2.1 then _ else none) = _
  rw [if_pos hc]
  rfl
theorem wr_ck {ins : Instr} {len pc1 : Nat} {ls1 st1 : List Value} {m1 : zM} {c P : Prop} [Decidable c] [Decidable P] (h : decode (zb y) pc = .ok (ins, len)) (hl : len = zlen ins len) (hne : wstep cf y ins pc ls st m = wplain y ins pc ls st m) (hs : zstep false y ins pc ls st m = zok c (some (.inl (pc1, ls1, st1, m1)))) (hc : c ↔ P) (hcn : m1.2.2.1 = m.2.2.1) : wGo cf y pc ls st m k = wck P (wGo cf y pc1 ls1 st1 m1 k) := by
  rw [wGo_in h hl, hne]
  unfold wplain wck
  rw [hs]
  unfold zok
  by_cases q : c
  · rw [if_pos q, if_pos (hc.mp q)]
    show wGoc cf y m k (if m1.2.2.1 = m.2.2.1 then _ else none) = _
    rw [if_pos hcn]
    rfl
  · rw [if_neg q, if_neg (fun p => q (hc.mpr p))]
    rfl
theorem wr_br {ins : Instr} {t : Nat} {off : Int} {c P : Prop} [Decidable c] [Decidable P] (h : decode (zb y) pc = .ok (ins, 3)) (hl : 3 = zlen ins 3) (hne : wstep cf y ins pc ls st m = wplain y ins pc ls st m) (hs : zstep false y ins pc ls st m = zbr c pc off ls rest m) (ht : zj pc off = some t) (hc : c ↔ P) : wGo cf y pc ls st m k = if P then wGo cf y t ls rest m k else wGo cf y (pc + 3) ls rest m k := by
  rw [wGo_in h hl, hne]
  unfold wplain
  rw [hs]
  unfold zbr
  rw [ht]
  show wGoc cf y m k (match (if c then zgo t ls rest m else zgo (pc + 3) ls rest m) with
    | some (.inl q) => if q.2.2.2.2.2.1 = m.2.2.1 then some (.inl (q.1, q.2.1, q.2.2.1, q.2.2.2, 0)) else none
    | _ => none) = _
  by_cases q : c
  · rw [if_pos q, if_pos (hc.mp q)]
    show wGoc cf y m k (if m.2.2.1 = m.2.2.1 then _ else none) = _
    rw [if_pos rfl]
    rfl
  · rw [if_neg q, if_neg (fun p => q (hc.mpr p))]
    show wGoc cf y m k (if m.2.2.1 = m.2.2.1 then _ else none) = _
    rw [if_pos rfl]
    rfl
theorem wr_iload_n {n : Fin 4} {x : Int32} (h : decode (zb y) pc = .ok (.iload_n n, 1)) (hl : zld1 ls n = some x) : wGo cf y pc ls st m k = wGo cf y (pc + 1) ls (.int x :: st) m k := wr_go h rfl rfl (by simp only [zstep, hl]; rfl) rfl
theorem wr_iload {n : Nat} {x : Int32} (h : decode (zb y) pc = .ok (.iload n, 2)) (hl : zld1 ls n = some x) : wGo cf y pc ls st m k = wGo cf y (pc + 2) ls (.int x :: st) m k := wr_go h rfl rfl (by simp only [zstep, hl]; rfl) rfl
theorem wr_aload_n {n : Fin 4} {x : Nat} (h : decode (zb y) pc = .ok (.aload_n n, 1)) (hl : zldr ls n = some x) : wGo cf y pc ls st m k = wGo cf y (pc + 1) ls (.ref x :: st) m k := wr_go h rfl rfl (by simp only [zstep, hl]; rfl) rfl
theorem wr_istore_n {n : Fin 4} {x : Int32} {l1 : List Value} (h : decode (zb y) pc = .ok (.istore_n n, 1)) (hl : zst1 ls n (.int x) = some l1) : wGo cf y pc ls (.int x :: st) m k = wGo cf y (pc + 1) l1 st m k := wr_go h rfl rfl (by simp only [zstep, hl]; rfl) rfl
theorem wr_istore {n : Nat} {x : Int32} {l1 : List Value} (h : decode (zb y) pc = .ok (.istore n, 2)) (hl : zst1 ls n (.int x) = some l1) : wGo cf y pc ls (.int x :: st) m k = wGo cf y (pc + 2) l1 st m k := wr_go h rfl rfl (by simp only [zstep, hl]; rfl) rfl
theorem wr_iinc {n : Nat} {j x : Int} {l1 : List Value} (h : decode (zb y) pc = .ok (.iinc n j, 3)) (hl : zld1 ls n = some (zi x)) (hs : zst1 ls n (.int (zi (x + j))) = some l1) : wGo cf y pc ls st m k = wGo cf y (pc + 3) l1 st m k := wr_go h rfl rfl (by
  simp only [zstep, hl, Option.bind_some]
  rw [show Int32.ofInt j = zi j from rfl, zi_add, hs]
  rfl) rfl
theorem wr_iconst {n : Int} (h : decode (zb y) pc = .ok (.iconst n, 1)) : wGo cf y pc ls st m k = wGo cf y (pc + 1) ls (.int (zi n) :: st) m k := wr_go h rfl rfl rfl rfl
theorem wr_bipush {n : Int} (h : decode (zb y) pc = .ok (.bipush n, 2)) (hn : (Int8.ofInt n).toInt32 = zi n) : wGo cf y pc ls st m k = wGo cf y (pc + 2) ls (.int (zi n) :: st) m k := wr_go h rfl rfl (by simp only [zstep, hn]) rfl
theorem wr_sipush {n : Int} (h : decode (zb y) pc = .ok (.sipush n, 3)) (hn : (Int16.ofInt n).toInt32 = zi n) : wGo cf y pc ls st m k = wGo cf y (pc + 3) ls (.int (zi n) :: st) m k := wr_go h rfl rfl (by simp only [zstep, hn]) rfl
theorem wr_iadd {a b : Int} (h : decode (zb y) pc = .ok (.iadd, 1)) : wGo cf y pc ls (.int (zi b) :: .int (zi a) :: st) m k = wGo cf y (pc + 1) ls (.int (zi (a + b)) :: st) m k := wr_go h rfl rfl (by simp only [zstep, zi_add]) rfl
theorem wr_isub {a b : Int} (h : decode (zb y) pc = .ok (.isub, 1)) : wGo cf y pc ls (.int (zi b) :: .int (zi a) :: st) m k = wGo cf y (pc + 1) ls (.int (zi (a - b)) :: st) m k := wr_go h rfl rfl (by simp only [zstep, zi_sub]) rfl
theorem wr_imul {a b : Int} (h : decode (zb y) pc = .ok (.imul, 1)) : wGo cf y pc ls (.int (zi b) :: .int (zi a) :: st) m k = wGo cf y (pc + 1) ls (.int (zi (a * b)) :: st) m k := wr_go h rfl rfl (by simp only [zstep, zi_mul]) rfl
theorem wr_idiv {a b : Int} (h : decode (zb y) pc = .ok (.idiv, 1)) : wGo cf y pc ls (.int (zi b) :: .int (zi a) :: st) m k = wck (qw b ≠ 0) (wGo cf y (pc + 1) ls (.int (zi (qdiv a b)) :: st) m k) := wr_ck (c := ¬ zi b = 0) h rfl rfl (by simp only [zstep, qdiv, zi_to]) (by rw [← zi_0, zi_eq, qw_0]) rfl
theorem wr_irem {a b : Int} (h : decode (zb y) pc = .ok (.irem, 1)) : wGo cf y pc ls (.int (zi b) :: .int (zi a) :: st) m k = wck (qw b ≠ 0) (wGo cf y (pc + 1) ls (.int (zi (qrem a b)) :: st) m k) := wr_ck (c := ¬ zi b = 0) h rfl rfl (by simp only [zstep, qrem, zi_to]) (by rw [← zi_0, zi_eq, qw_0]) rfl
theorem wr_goto {off : Int} {t : Nat} (h : decode (zb y) pc = .ok (.goto off, 3)) (ht : zj pc off = some t) : wGo cf y pc ls st m k = wGo cf y t ls st m k := wr_go h rfl rfl (by simp only [zstep, ht]; rfl) rfl
theorem wr_ifeq {off a : Int} {t : Nat} (h : decode (zb y) pc = .ok (.ifCond .eq off, 3)) (ht : zj pc off = some t) : wGo cf y pc ls (.int (zi a) :: st) m k = if qw a = 0 then wGo cf y t ls st m k else wGo cf y (pc + 3) ls st m k := wr_br (c := zi a = 0) h rfl rfl rfl ht (by rw [← zi_0, zi_eq, qw_0])
theorem wr_ifne {off a : Int} {t : Nat} (h : decode (zb y) pc = .ok (.ifCond .ne off, 3)) (ht : zj pc off = some t) : wGo cf y pc ls (.int (zi a) :: st) m k = if qw a ≠ 0 then wGo cf y t ls st m k else wGo cf y (pc + 3) ls st m k := wr_br (c := zi a ≠ 0) h rfl rfl rfl ht (by rw [← zi_0, Ne, zi_eq, qw_0])
theorem wr_iflt {off a : Int} {t : Nat} (h : decode (zb y) pc = .ok (.ifCond .lt off, 3)) (ht : zj pc off = some t) : wGo cf y pc ls (.int (zi a) :: st) m k = if qw a < 0 then wGo cf y t ls st m k else wGo cf y (pc + 3) ls st m k := wr_br (c := zi a < 0) h rfl rfl rfl ht (by rw [← zi_0, zi_lt, qw_0])
theorem wr_ifge {off a : Int} {t : Nat} (h : decode (zb y) pc = .ok (.ifCond .ge off, 3)) (ht : zj pc off = some t) : wGo cf y pc ls (.int (zi a) :: st) m k = if 0 ≤ qw a then wGo cf y t ls st m k else wGo cf y (pc + 3) ls st m k := wr_br (c := 0 ≤ zi a) h rfl rfl rfl ht (by rw [← zi_0, zi_le, qw_0])
theorem wr_ifgt {off a : Int} {t : Nat} (h : decode (zb y) pc = .ok (.ifCond .gt off, 3)) (ht : zj pc off = some t) : wGo cf y pc ls (.int (zi a) :: st) m k = if 0 < qw a then wGo cf y t ls st m k else wGo cf y (pc + 3) ls st m k := wr_br (c := 0 < zi a) h rfl rfl rfl ht (by rw [← zi_0, zi_lt, qw_0])
theorem wr_ifle {off a : Int} {t : Nat} (h : decode (zb y) pc = .ok (.ifCond .le off, 3)) (ht : zj pc off = some t) : wGo cf y pc ls (.int (zi a) :: st) m k = if qw a ≤ 0 then wGo cf y t ls st m k else wGo cf y (pc + 3) ls st m k := wr_br (c := zi a ≤ 0) h rfl rfl rfl ht (by rw [← zi_0, zi_le, qw_0])
theorem wr_ceq {off a b : Int} {t : Nat} (h : decode (zb y) pc = .ok (.if_icmp .eq off, 3)) (ht : zj pc off = some t) : wGo cf y pc ls (.int (zi b) :: .int (zi a) :: st) m k = if qw a = qw b then wGo cf y t ls st m k else wGo cf y (pc + 3) ls st m k := wr_br (c := zi a = zi b) h rfl rfl rfl ht (zi_eq a b)
theorem wr_cne {off a b : Int} {t : Nat} (h : decode (zb y) pc = .ok (.if_icmp .ne off, 3)) (ht : zj pc off = some t) : wGo cf y pc ls (.int (zi b) :: .int (zi a) :: st) m k = if qw a ≠ qw b then wGo cf y t ls st m k else wGo cf y (pc + 3) ls st m k := wr_br (c := zi a ≠ zi b) h rfl rfl rfl ht (by rw [Ne, zi_eq])
theorem wr_clt {off a b : Int} {t : Nat} (h : decode (zb y) pc = .ok (.if_icmp .lt off, 3)) (ht : zj pc off = some t) : wGo cf y pc ls (.int (zi b) :: .int (zi a) :: st) m k = if qw a < qw b then wGo cf y t ls st m k else wGo cf y (pc + 3) ls st m k := wr_br (c := zi a < zi b) h rfl rfl rfl ht (zi_lt a b)
theorem wr_cge {off a b : Int} {t : Nat} (h : decode (zb y) pc = .ok (.if_icmp .ge off, 3)) (ht : zj pc off = some t) : wGo cf y pc ls (.int (zi b) :: .int (zi a) :: st) m k = if qw b ≤ qw a then wGo cf y t ls st m k else wGo cf y (pc + 3) ls st m k := wr_br (c := zi b ≤ zi a) h rfl rfl rfl ht (zi_le b a)
theorem wr_cgt {off a b : Int} {t : Nat} (h : decode (zb y) pc = .ok (.if_icmp .gt off, 3)) (ht : zj pc off = some t) : wGo cf y pc ls (.int (zi b) :: .int (zi a) :: st) m k = if qw b < qw a then wGo cf y t ls st m k else wGo cf y (pc + 3) ls st m k := wr_br (c := zi b < zi a) h rfl rfl rfl ht (zi_lt b a)
theorem wr_cle {off a b : Int} {t : Nat} (h : decode (zb y) pc = .ok (.if_icmp .le off, 3)) (ht : zj pc off = some t) : wGo cf y pc ls (.int (zi b) :: .int (zi a) :: st) m k = if qw a ≤ qw b then wGo cf y t ls st m k else wGo cf y (pc + 3) ls st m k := wr_br (c := zi a ≤ zi b) h rfl rfl rfl ht (zi_le a b)
theorem wr_iald {o n : Nat} {e : Int} (h : decode (zb y) pc = .ok (.iaload, 1)) (hs : zS0 o = (13, n)) : wGo cf y pc ls (.int (zi e) :: .ref o :: st) (zm V J d) k = wck (0 ≤ qw e ∧ qw e < n) (wGo cf y (pc + 1) ls (.int (zi (V o (qw e))) :: st) (zm V J d) k) := by
  have hs' : (zm V J d).1 o = (13, n) := hs
  rw [wGo_in h rfl]
  show wGoc cf y (zm V J d) k (wplain y .iaload pc ls _ (zm V J d)) = _
  unfold wplain
  simp only [zstep, hs']
  unfold zok wck
  by_cases q : 0 ≤ qw e ∧ qw e < n
  · rw [if_pos ((zix_qw e n).mpr q), if_pos q, if_pos trivial, zm_rd (zS0_lt hs (by decide)) q.1]
    show wGoc cf y (zm V J d) k (if (zm V J d).2.2.1 = (zm V J d).2.2.1 then _ else none) = _
    rw [if_pos rfl]
    rfl
  · rw [if_neg (fun p => q ((zix_qw e n).mp p)), if_neg q]
    rfl
theorem wr_iast {o n : Nat} {e x : Int} (h : decode (zb y) pc = .ok (.iastore, 1)) (hs : zS0 o = (13, n)) : wGo cf y pc ls (.int (zi x) :: .int (zi e) :: .ref o :: st) (zm V J d) k = wck (0 ≤ qw e ∧ qw e < n) (wGo cf y (pc + 1) ls st (zm (vup V o (qw e) x) J d) k) := by
  have hs' : (zm V J d).1 o = (13, n) := hs
  rw [wGo_in h rfl]
  show wGoc cf y (zm V J d) k (wplain y .iastore pc ls _ (zm V J d)) = _
  unfold wplain
  simp only [zstep, hs']
  unfold zok wck
  by_cases q : 0 ≤ qw e ∧ qw e < n
  · rw [if_pos ⟨(zix_qw e n).mpr q, trivial⟩, if_pos q, zm_wr (zS0_lt hs (by decide)) q.1]
    show wGoc cf y (zm V J d) k (if (zm (vup V o (qw e) x) J d).2.2.1 = (zm V J d).2.2.1 then _ else none) = _
    rw [if_pos (show (zm (vup V o (qw e) x) J d).2.2.1 = (zm V J d).2.2.1 from rfl)]
    rfl
  · rw [if_neg (fun p => q ((zix_qw e n).mp p.1)), if_neg q]
    rfl
theorem wr_ret {a : Int} (h : decode (zb y) pc = .ok (.ireturn, 1)) : wGo cf y pc ls [.int (zi a)] m k = wck (qw a = 0 ∨ qw a = 1) (some (zi a, m, k)) := by
  have hx : (zi a = 0 ∨ zi a = 1) ↔ (qw a = 0 ∨ qw a = 1) := by rw [← zi_0, zi_eq, show (1 : Int32) = zi 1 from rfl, zi_eq, qw_0, show qw 1 = 1 from by decide]
  rw [wGo_in h rfl]
  unfold wck
  show wGoc cf y m k (if zi a = 0 ∨ zi a = 1 then some (.inr (.inr (zi a))) else none) = _
  by_cases q : zi a = 0 ∨ zi a = 1
  · rw [if_pos q, if_pos (hx.mp q)]
    rfl
  · rw [if_neg q, if_neg (fun p => q (hx.mpr p))]
    rfl
theorem wr_stub {i s w : Nat} {xs : List Int32} {t : List Value} (h : decode (zb y) pc = .ok (.invokestatic i, 3)) (hp : zpool 16 i = (13, s, w)) (hs : s < 27) (ht : t.reverse = wvals xs) (hl : t.length = wA s) (hx : xs.length = wA s) (h4 : zcs rest ≤ 8) : wGo cf y pc ls (t ++ .ref 0 :: rest) (zm V J d) k = (wstub s xs (zm V J d)).bind (wGos cf y (pc + 3) ls rest k) := by
  rw [wGo_in h rfl]
  show wGoc cf y (zm V J d) k (wstepS cf y i pc ls (t ++ .ref 0 :: rest) (zm V J d)) = _
  simp only [wstepS, hp]
  rw [if_neg (by omega), ← hl, List.drop_left, List.take_left]
  dsimp only
  rw [if_pos ⟨hs, rfl, rfl, h4⟩, ht, wlist_of, Option.bind_some, hl, if_pos hx]
  cases wstub s xs (zm V J d) with
  | none => rfl
  | some q => rfl
theorem wr_cell {i w : Nat} {a : Int} (h : decode (zb 237) pc = .ok (.invokestatic i, 3)) (hp : zpool 16 i = (13, 27, w)) (h4 : zcs rest ≤ 8) : wGo cf 237 pc ls (.int (zi a) :: .ref 1048578 :: rest) m k = wck (0 ≤ qw a) (wGo cf 237 (pc + 3) ls (.int (zi (cf (zi a)).toInt) :: rest) m k) := by
  have hx : (0 ≤ zi a) ↔ 0 ≤ qw a := by rw [← zi_0, zi_le, qw_0]
  rw [wGo_in h rfl]
  show wGoc cf 237 m k (wstepS cf 237 i pc ls _ m) = _
  simp only [wstepS, hp]
  unfold wck
  rw [zi_to, if_pos trivial]
  by_cases q : 0 ≤ zi a
  · rw [if_pos ⟨trivial, trivial, h4, q⟩, if_pos (hx.mp q)]
    rfl
  · rw [if_neg (fun p => q p.2.2.2), if_neg (fun p => q (hx.mpr p))]
    rfl
theorem wr_call {i z w : Nat} {t L : List Value} (h : decode (zb 237) pc = .ok (.invokestatic i, 3)) (hp : zpool 16 i = (2, z, w)) (hz : z = 143 ∨ z = 144) (hl : t.length = za z) (ha : zarg t.reverse = true) (h4 : zcs rest ≤ 8) (hL : zent z t.reverse = L) : wGo cf 237 pc ls (t ++ rest) m k = (wGo cf z 0 L [] m k).bind (wGor cf 237 (pc + 3) ls rest) := by
  rw [wGo_in h rfl]
  show wGoc cf 237 m k (wstepS cf 237 i pc ls (t ++ rest) m) = _
  simp only [wstepS, hp]
  rw [← hl, List.drop_left, List.take_left, if_pos ⟨trivial, hz, h4, ha, rfl⟩]
  show (wGo cf z 0 (zent z t.reverse) [] m k).bind _ = _
  rw [hL]
theorem wr_virt {i z w : Nat} (h : decode (zb 237) pc = .ok (.invokevirtual i, 3)) (hp : zpool 16 i = (2, z, w)) (hz : (Nat.blt z 143 && (Nat.beq (za z) 0 && (Nat.beq (zk z) 0 && (Nat.beq (zc z) 11 && (Nat.ble 1 (zl z) && (Nat.ble (zf z + 1) 11 && Nat.ble (8 + (zl z + 11) + zw z) 270)))))) = true) (h4 : zcs rest ≤ 8) : wGo cf 237 pc ls (.ref 0 :: rest) (zm V J d) k = (wvirt z (zm V J d)).bind (wGov cf 237 (pc + 3) ls rest k) := by
  simp only [Bool.and_eq_true, Nat.blt_eq, Nat.beq_eq_true_eq, Nat.ble_eq] at hz
  obtain ⟨z1, z2, z3, z4, z5, z6, z7⟩ := hz
  have z2 := Nat.eq_of_beq_eq_true z2
  have z3 := Nat.eq_of_beq_eq_true z3
  have z4 := Nat.eq_of_beq_eq_true z4
  rw [wGo_in h rfl]
  show wGoc cf 237 (zm V J d) k (wstepV 237 i pc ls (.ref 0 :: rest) (zm V J d)) = _
  simp only [wstepV, hp]
  rw [if_pos ⟨trivial, z1, z2, z3, by rw [z4]; rfl, by omega, h4, z5, z6, z7⟩]
  unfold wvirt
  split
  · rename_i v m1 e
    rw [e]
    dsimp only
    by_cases hq : m1.2.2.1 = (zm V J d).2.2.1
    · rw [if_pos hq, if_pos hq]
      rfl
    · rw [if_neg hq, if_neg hq]
      rfl
  · rename_i hno
    split
    · rename_i v m1 e
      exact absurd e (hno v m1)
    · rfl
end
