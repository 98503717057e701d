/-! part 99s: the law's loop -/
/-! THE CLAIM OUT OF ONE WALK OF THE LAW'S BODY. Your part is whole_start (and what it stands on); all else here is the same for every law, but numbers. -/
def R_law : String := "PartSongDeskLaw"
def lw_P (b : Addr) (xs : List Int32) (args : Array Value) (s : State) : Prop := args = #[.ref b] ∧ s.IntsAt b xs ∧ xs.length ≤ 2560 ∧ (Jvm.Cond.and given_1 narrow_1).before args s = true
/-- what a walk over the start with the record d0 says of its end, said of the start itself -/
theorem lw_closed {s t : State} {o : Outcome} {d0 : Drawn} {L : List Loc} {k n : Nat} (hd0 : s.drawn.sameBut d0 lw_cs) (hv : ∃ v, o = .returned v) (hW : (s.setDrawn d0).WarmedH t.vm) (hs : (s.setDrawn d0).sameButNew ({ t with vm := s.vm } : State) L k n) : State.butDraws s t lw_cs (fun t1 => Framed s o t1 L k n) := by
  have h2 : t.drawn = d0 := congrArg State.drawn hs.1
  refine ⟨⟨hv, hW, State.sameButNew.setDrawn hs s.drawn⟩, ?_, by decide⟩
  rw [h2]
  exact hd0
def lw_Q (_ : Array Value) (s : State) (o : Outcome) (t : State) : Prop := o = .returned (some (.int 1)) ∧ State.butDraws s t lw_cs (fun t1 => Framed s o t1 [] 601024 7293034)
def lw_Z (below : List Frame) (a : Array Value) (s : State) : State → Prop := fun t => ∃ o, t.status = .running ∧ Ended t below o ∧ lw_Q a s o t
/-- the law's own end, with 1 on the stack, nothing written that was there before, its room as the claim has it; d0: the record of draws at this point (at the entry s.drawn: begin with 'refine W.base ?_' and 'have hd0 := Drawn.sameBut.refl s.drawn lw_cs') -/
theorem lw_ret {p : Program} {l : Launch} {e : Env} {s : State} {m : MethodId} {below : List Frame} {meth : Method} {c : Code} {b : Nat} {d0 : Drawn} (hd0 : s.drawn.sameBut d0 lw_cs) (hx : p.tables.exec = Jvm.exec) (hb : c.code = code) (hr : meth.sig.returnType = ret) (hlocks : meth.locks = false) {pc : Nat} {H : Heap} {ls : Array Slot} (hdg : decode code pc = .ok (.ireturn, 1)) : W p l e room_1 (s.setDrawn d0) m #[Value.ref b] below meth c H [] 601024 7293034 (lw_Z below #[Value.ref b] s) (F0 m pc ls [.int 1]) := by
  intro T hT X
  obtain ⟨fs, hret, hrun, hended, hW, hframe⟩ := X.leave (v := some (.int 1)) (hlocks := hlocks) (fun h => by rw [hr] at h; cases h)
  have hmeth' : T.vm.method? m = some meth := X.method'
  refine ⟨T.setFrames fs, ?_, .returned (some (.int 1)), hrun, hended, rfl, lw_closed hd0 ⟨_, rfl⟩ hW hframe⟩
  jvm_step X.here [X.here.top, hx, hb, hdg, hmeth', hr, ret, narrow_b1]
  (try refine ⟨rfl, ?_⟩); (try refine ⟨rfl, ?_⟩)
  first | (intro acts; rw [hret _ acts rfl rfl rfl]) | rw [hret _ _ rfl rfl rfl]
  exact Steps.refl _
/-- what holds at the law's entry: the machine, the code, the tables' words (any of lw_tbl by 'hts w (by decide +kernel)'), the script of L ints xs at the cell b, what the Statement gives of the start (any of its parts by flat_of_before) -/
def lw_At (p : Program) (s : State) (m : MethodId) (meth : Method) (c : Code) (b L : Nat) (xs : Nat → Int32) : Prop :=
  p.tables.exec = Jvm.exec ∧ c.code = code ∧ meth.sig.returnType = ret ∧ c.maxLocals = 8 ∧ s.vm.findClass R_law = some m.cls ∧ (∀ w ∈ lw_tbl, w.before #[Value.ref b] s = true) ∧ va_X b L xs s s.heap ∧ b < s.heap.size ∧ meth.locks = false ∧ (Jvm.Cond.and given_1 narrow_1).before #[Value.ref b] s = true
theorem lw_d28 : decode code 28 = .ok (.iload 5, 2) := by decide +kernel
theorem lw_d30 : decode code 30 = .ok (.aload_n 0, 1) := by decide +kernel
theorem lw_d31 : decode code 31 = .ok (.arraylength, 1) := by decide +kernel
theorem lw_d32 : decode code 32 = .ok (.iconst 5, 1) := by decide +kernel
theorem lw_d33 : decode code 33 = .ok (.isub, 1) := by decide +kernel
theorem lw_d34 : decode code 34 = .ok (.if_icmp .gt 2250, 3) := by decide +kernel
theorem lw_d37 : decode code 37 = .ok (.aload_n 0, 1) := by decide +kernel
theorem lw_d38 : decode code 38 = .ok (.iload 5, 2) := by decide +kernel
theorem lw_d40 : decode code 40 = .ok (.iaload, 1) := by decide +kernel
theorem lw_d41 : decode code 41 = .ok (.bipush 31, 2) := by decide +kernel
theorem lw_d43 : decode code 43 = .ok (.iand, 1) := by decide +kernel
theorem lw_d2278 : decode code 2278 = .ok (.iinc 5 5, 3) := by decide +kernel
theorem lw_d2281 : decode code 2281 = .ok (.goto (-2253), 3) := by decide +kernel
theorem lw_d2284 : decode code 2284 = .ok (.iconst 1, 1) := by decide +kernel
theorem lw_d2285 : decode code 2285 = .ok (.ireturn, 1) := by decide +kernel
theorem lw_d44 : decode code 44 = .ok (.tableswitch 2234 0 30 #[140, 222, 302, 370, 438, 506, 586, 654, 746, 848, 916, 984, 1040, 1132, 1188, 1244, 1324, 1404, 1491, 1559, 1627, 1695, 1708, 1776, 1868, 1881, 1937, 2029, 2109, 2165, 2221], 140) := by decide +kernel
theorem lw_and31 (x : Int32) : 0 ≤ (x &&& 31).toInt ∧ (x &&& 31).toInt ≤ 31 := by
  have h : (x &&& 31).toBitVec.toNat ≤ 31 := by
    show (x.toBitVec &&& (31 : Int32).toBitVec).toNat ≤ 31
    rw [BitVec.toNat_and]
    exact Nat.and_le_right
  have e : (x &&& 31).toInt = ((x &&& 31).toBitVec.toNat : Int) := by
    show BitVec.toInt (x &&& 31).toBitVec = _
    rw [BitVec.toInt_eq_toNat_of_lt]
    omega
  omega
section
variable {p : Program} {l : Launch} {e : Env} {s : State} {mid : MethodId} {below : List Frame} {meth : Method} {c : Code}
variable {b L b0 : Nat} {xs : Nat → Int32} {ro : Nat → Nat} {cA : Nat → ClassId} {D : va_G}
/-- the case of seconds, as the loop asks for it -/
def lwSec (p : Program) (l : Launch) (e : Env) (s : State) (mid : MethodId) (below : List Frame) (meth : Method) (c : Code) (b L : Nat) (xs : Nat → Int32) (b0 : Nat) (ro : Nat → Nat) (cA : Nat → ClassId) (D : va_G) (Q : State → Prop) : Prop :=
  ∀ (k : Nat) (V : zVt) (J : zJt) (d : Nat → Nat → UInt64) (H : Heap) (locs : List Loc) (ls : Array Slot) (cells slots : Nat), 5 * k + 5 ≤ L → k < 512 → zInv (k : Int) V J → va_P D vwCl (zW b0 ro cA (zm V J d)) H → va_S (zA b0) s.heap H locs → lv_has ls 8 (lwL b b0 k) → cells + 1 ≤ 601024 ∧ slots + 6 ≤ 7293034 → (∀ d2, lwK p l e s mid b below meth c Q b0 k ro cA D d2 cells slots) → W p l e room_1 s mid #[Value.ref b] below meth c H locs cells slots Q (F0 mid 790 ls [])
theorem lw_loop (C : lwC p l s mid meth c b L xs b0 ro cA D) (hr : meth.sig.returnType = ret) (hlocks : meth.locks = false) (hb0 : s.heap.size ≤ b0) (hsec : lwSec p l e s mid below meth c b L xs b0 ro cA D (lw_Z below #[Value.ref b] s)) :
    ∀ (n k : Nat) (V : zVt) (J : zJt) (d : Nat → Nat → UInt64) (H : Heap) (locs : List Loc) (ls : Array Slot), L ≤ 5 * k + 5 * n → k ≤ 512 → zInv (k : Int) V J → va_P D vwCl (zW b0 ro cA (zm V J d)) H → va_S (zA b0) s.heap H locs → lv_has ls 8 (lwL b b0 k) → W p l e room_1 s mid #[Value.ref b] below meth c H locs (476 + k) (85943 + 6 * k) (lw_Z below #[Value.ref b] s) (F0 mid 28 ls []) := by
  have C2 := C
  obtain ⟨hx, hb, hml, hown, hts, hG, hN, hX, hbl, hbA, hst, hL2⟩ := C2
  intro n
  induction n with
  | zero =>
    intro k V J d H locs ls hLn hk hI hP hS hl
    have hq1 : qw ((L : Int) - 5) = (L : Int) - 5 := qw_id (by omega) (by omega)
    have hq2 : qw ((5 * k : Nat) : Int) = ((5 * k : Nat) : Int) := qw_id (by omega) (by omega)
    refine lv_iload hx hb lw_d28 (lv_at hl 5 rfl) ?_
    refine lv_aload_n hx hb lw_d30 rfl (lv_at hl 0 rfl) ?_
    refine va_slen hx hb hX hbl hbA hS lw_d31 ?_
    refine lv_iconst (v := zi 5) hx hb lw_d32 rfl ?_
    refine lv_isub hx hb lw_d33 ?_
    rw [show (Int32.ofNat L : Int32) = zi (L : Int) from (Int32.ofInt_eq_ofNat).symm, zi_sub]
    refine lv_icmp_gt (tgt := 2284) hx hb lw_d34 (by decide) (fun _ => ?_) (fun hq => ?_)
    · refine lv_iconst (v := 1) hx hb lw_d2284 (by decide) ?_
      refine va_forget (fun q hq => Nat.le_trans hb0 (hS.2.2 q hq)) ?_
      refine W.widen (k := 601024) (n := 7293034) (by omega) (by omega) ?_
      refine W.base ?_
      exact lw_ret (Drawn.sameBut.refl s.drawn lw_cs) hx hb hr hlocks lw_d2285
    · rw [zi_lt, hq1, hq2] at hq
      exact absurd (by omega) hq
  | succ n ih =>
    intro k V J d H locs ls hLn hk hI hP hS hl
    have hq1 : qw ((L : Int) - 5) = (L : Int) - 5 := qw_id (by omega) (by omega)
    have hq2 : qw ((5 * k : Nat) : Int) = ((5 * k : Nat) : Int) := qw_id (by omega) (by omega)
    refine lv_iload hx hb lw_d28 (lv_at hl 5 rfl) ?_
    refine lv_aload_n hx hb lw_d30 rfl (lv_at hl 0 rfl) ?_
    refine va_slen hx hb hX hbl hbA hS lw_d31 ?_
    refine lv_iconst (v := zi 5) hx hb lw_d32 rfl ?_
    refine lv_isub hx hb lw_d33 ?_
    rw [show (Int32.ofNat L : Int32) = zi (L : Int) from (Int32.ofInt_eq_ofNat).symm, zi_sub]
    refine lv_icmp_gt (tgt := 2284) hx hb lw_d34 (by decide) (fun _ => ?_) (fun hq => ?_)
    · refine lv_iconst (v := 1) hx hb lw_d2284 (by decide) ?_
      refine va_forget (fun q hq => Nat.le_trans hb0 (hS.2.2 q hq)) ?_
      refine W.widen (k := 601024) (n := 7293034) (by omega) (by omega) ?_
      refine W.base ?_
      exact lw_ret (Drawn.sameBut.refl s.drawn lw_cs) hx hb hr hlocks lw_d2285
    rw [zi_lt, hq1, hq2] at hq
    have hL5 : 5 * k + 5 ≤ L := by omega
    have hk5 : k < 512 := by omega
    have hn : (zi ((5 * k : Nat) : Int)).toNatClampNeg = 5 * k := by
      have := qw_nat (e := ((5 * k : Nat) : Int)) (by omega)
      omega
    refine lv_aload_n hx hb lw_d37 rfl (lv_at hl 0 rfl) ?_
    refine lv_iload hx hb lw_d38 (lv_at hl 5 rfl) ?_
    refine va_sld hx hb hX hbl hbA hS (z_in ((zix_qw _ _).mpr ⟨by omega, by omega⟩)) lw_d40 ?_
    rw [hn]
    refine lv_bipush (v := 31) hx hb lw_d41 (by decide) ?_
    refine lv_iand hx hb lw_d43 ?_
    have hv := lw_and31 (xs (5 * k))
    generalize xs (5 * k) &&& 31 = v at hv
    have hf : 476 + k + 1 ≤ 601024 ∧ 85943 + 6 * k + 6 ≤ 7293034 := ⟨by omega, by omega⟩
    have hn2 : L ≤ 5 * (k + 1) + 5 * n := by omega
    have KK : ∀ d2, lwK p l e s mid b below meth c (lw_Z below #[Value.ref b] s) b0 k ro cA D d2 (476 + k) (85943 + 6 * k) := fun d2 V2 J2 H2 locs2 ls2 hI2 hP2 hS2 hl2 => by
      refine lv_iinc (v := zi ((5 * (k + 1) : Nat) : Int)) (lv' := [(5, .int (zi ((5 * (k + 1) : Nat) : Int))), (0, .ref b), (1, .ref (b0 + 0)), (2, .ref (b0 + 430)), (3, .ref (b0 + 474)), (4, .ref (b0 + 475))]) hx hb lw_d2278 hl2 (k := 5) rfl ?_ (by decide) rfl (fun ls3 hl3 => ?_)
      · rw [show Int32.ofInt 5 = zi 5 from rfl, zi_add]
        congr 1
      · refine lv_goto (tgt := 28) hx hb lw_d2281 (by decide) ?_
        have r := ih (k + 1) V2 J2 d2 H2 locs2 ls3 hn2 (by omega) (by
          rw [show ((k + 1 : Nat) : Int) = (k : Int) + 1 by omega]
          exact hI2) hP2 hS2 (lv_sub hl3 [1, 2, 3, 4, 5, 0] rfl)
        rw [show 476 + (k + 1) = 476 + k + 1 by omega, show 85943 + 6 * (k + 1) = 85943 + 6 * k + 6 by omega] at r
        exact r
    clear ih hn2
    rcases (show v.toInt = 31 ∨ v.toInt = 0 ∨ v.toInt = 1 ∨ v.toInt = 2 ∨ v.toInt = 3 ∨ v.toInt = 4 ∨ v.toInt = 5 ∨ v.toInt = 6 ∨ v.toInt = 7 ∨ v.toInt = 8 ∨ v.toInt = 9 ∨ v.toInt = 10 ∨ v.toInt = 11 ∨ v.toInt = 12 ∨ v.toInt = 13 ∨ v.toInt = 14 ∨ v.toInt = 15 ∨ v.toInt = 16 ∨ v.toInt = 17 ∨ v.toInt = 18 ∨ v.toInt = 19 ∨ v.toInt = 20 ∨ v.toInt = 21 ∨ v.toInt = 22 ∨ v.toInt = 23 ∨ v.toInt = 24 ∨ v.toInt = 25 ∨ v.toInt = 26 ∨ v.toInt = 27 ∨ v.toInt = 28 ∨ v.toInt = 29 ∨ v.toInt = 30 by omega) with hv | hv | hv | hv | hv | hv | hv | hv | hv | hv | hv | hv | hv | hv | hv | hv | hv | hv | hv | hv | hv | hv | hv | hv | hv | hv | hv | hv | hv | hv | hv | hv
    · refine lv_tableOut (tgt := 2278) hx hb lw_d44 (Or.inr (by omega)) (by decide) ?_
      refine W.widen (k := 476 + k + 1) (n := 85943 + 6 * k + 6) (by omega) (by omega) ?_
      exact KK d V J H locs ls (zInv_up hI (by omega)) hP hS hl
    · refine lv_tableIn (off := 140) (tgt := 184) hx hb lw_d44 (by omega) (by omega) (by rw [hv]; rfl) (by decide) ?_
      exact lc_write C hL5 hk5 hI hP hS hl hf (KK d)
    · refine lv_tableIn (off := 222) (tgt := 266) hx hb lw_d44 (by omega) (by omega) (by rw [hv]; rfl) (by decide) ?_
      exact lc_strike C hL5 hk5 hI hP hS hl hf (KK d)
    · refine lv_tableIn (off := 302) (tgt := 346) hx hb lw_d44 (by omega) (by omega) (by rw [hv]; rfl) (by decide) ?_
      exact lc_error C hL5 hk5 hI hP hS hl hf (KK d)
    · refine lv_tableIn (off := 370) (tgt := 414) hx hb lw_d44 (by omega) (by omega) (by rw [hv]; rfl) (by decide) ?_
      exact lc_errorAt C hL5 hk5 hI hP hS hl hf (KK d)
    · refine lv_tableIn (off := 438) (tgt := 482) hx hb lw_d44 (by omega) (by omega) (by rw [hv]; rfl) (by decide) ?_
      exact lc_tokens C hL5 hk5 hI hP hS hl hf (KK d)
    · refine lv_tableIn (off := 506) (tgt := 550) hx hb lw_d44 (by omega) (by omega) (by rw [hv]; rfl) (by decide) ?_
      exact lc_token C hL5 hk5 hI hP hS hl hf (KK d)
    · refine lv_tableIn (off := 586) (tgt := 630) hx hb lw_d44 (by omega) (by omega) (by rw [hv]; rfl) (by decide) ?_
      exact lc_bars C hL5 hk5 hI hP hS hl hf (KK d)
    · refine lv_tableIn (off := 654) (tgt := 698) hx hb lw_d44 (by omega) (by omega) (by rw [hv]; rfl) (by decide) ?_
      exact lc_pitch C hL5 hk5 hI hP hS hl hf (KK d)
    · refine lv_tableIn (off := 746) (tgt := 790) hx hb lw_d44 (by omega) (by omega) (by rw [hv]; rfl) (by decide) ?_
      exact hsec k V J d H locs ls _ _ hL5 hk5 hI hP hS hl hf KK
    · refine lv_tableIn (off := 848) (tgt := 892) hx hb lw_d44 (by omega) (by omega) (by rw [hv]; rfl) (by decide) ?_
      exact lc_print C hL5 hk5 hI hP hS hl hf (KK d)
    · refine lv_tableIn (off := 916) (tgt := 960) hx hb lw_d44 (by omega) (by omega) (by rw [hv]; rfl) (by decide) ?_
      exact lc_lend C hL5 hk5 hI hP hS hl hf (KK d)
    · refine lv_tableIn (off := 984) (tgt := 1028) hx hb lw_d44 (by omega) (by omega) (by rw [hv]; rfl) (by decide) ?_
      exact lc_back C hL5 hk5 hI hP hS hl hf (KK d)
    · refine lv_tableIn (off := 1040) (tgt := 1084) hx hb lw_d44 (by omega) (by omega) (by rw [hv]; rfl) (by decide) ?_
      exact lc_pencil C hL5 hk5 hI hP hS hl hf (KK d)
    · refine lv_tableIn (off := 1132) (tgt := 1176) hx hb lw_d44 (by omega) (by omega) (by rw [hv]; rfl) (by decide) ?_
      exact lc_holder C hL5 hk5 hI hP hS hl hf (KK d)
    · refine lv_tableIn (off := 1188) (tgt := 1232) hx hb lw_d44 (by omega) (by omega) (by rw [hv]; rfl) (by decide) ?_
      exact lc_copyError C hL5 hk5 hI hP hS hl hf (KK d)
    · refine lv_tableIn (off := 1244) (tgt := 1288) hx hb lw_d44 (by omega) (by omega) (by rw [hv]; rfl) (by decide) ?_
      exact lc_copyPitch C hL5 hk5 hI hP hS hl hf (KK d)
    · refine lv_tableIn (off := 1324) (tgt := 1368) hx hb lw_d44 (by omega) (by omega) (by rw [hv]; rfl) (by decide) ?_
      exact lc_copyPitchAnew C hL5 hk5 hI hP hS hl hf (KK d)
    · refine lv_tableIn (off := 1404) (tgt := 1448) hx hb lw_d44 (by omega) (by omega) (by rw [hv]; rfl) (by decide) ?_
      exact lc_begins C hL5 hk5 hI hP hS hl hf (KK d)
    · refine lv_tableIn (off := 1491) (tgt := 1535) hx hb lw_d44 (by omega) (by omega) (by rw [hv]; rfl) (by decide) ?_
      exact lc_differ C hL5 hk5 hI hP hS hl hf (KK d)
    · refine lv_tableIn (off := 1559) (tgt := 1603) hx hb lw_d44 (by omega) (by omega) (by rw [hv]; rfl) (by decide) ?_
      exact lc_clashes C hL5 hk5 hI hP hS hl hf (KK d)
    · refine lv_tableIn (off := 1627) (tgt := 1671) hx hb lw_d44 (by omega) (by omega) (by rw [hv]; rfl) (by decide) ?_
      exact lc_clashesOf C hL5 hk5 hI hP hS hl hf (KK d)
    · refine lv_tableIn (off := 1695) (tgt := 1739) hx hb lw_d44 (by omega) (by omega) (by rw [hv]; rfl) (by decide) ?_
      exact lc_day C hk5 hI hP hS hl hf (KK d)
    · refine lv_tableIn (off := 1708) (tgt := 1752) hx hb lw_d44 (by omega) (by omega) (by rw [hv]; rfl) (by decide) ?_
      exact lc_room C hL5 hk5 hI hP hS hl hf (KK d)
    · refine lv_tableIn (off := 1776) (tgt := 1820) hx hb lw_d44 (by omega) (by omega) (by rw [hv]; rfl) (by decide) ?_
      exact lc_ask C hL5 hk5 hI hP hS hl hf (KK d)
    · refine lv_tableIn (off := 1868) (tgt := 1912) hx hb lw_d44 (by omega) (by omega) (by rw [hv]; rfl) (by decide) ?_
      exact lc_plan C hk5 hI hP hS hl hf (KK d)
    · refine lv_tableIn (off := 1881) (tgt := 1925) hx hb lw_d44 (by omega) (by omega) (by rw [hv]; rfl) (by decide) ?_
      exact lc_done C hL5 hk5 hI hP hS hl hf (KK d)
    · refine lv_tableIn (off := 1937) (tgt := 1981) hx hb lw_d44 (by omega) (by omega) (by rw [hv]; rfl) (by decide) ?_
      exact lc_learned C hL5 hk5 hI hP hS hl hf (KK d)
    · refine lv_tableIn (off := 2029) (tgt := 2073) hx hb lw_d44 (by omega) (by omega) (by rw [hv]; rfl) (by decide) ?_
      exact lc_misled C hL5 hk5 hI hP hS hl hf (KK d)
    · refine lv_tableIn (off := 2109) (tgt := 2153) hx hb lw_d44 (by omega) (by omega) (by rw [hv]; rfl) (by decide) ?_
      exact lc_judge C hL5 hk5 hI hP hS hl hf (KK d)
    · refine lv_tableIn (off := 2165) (tgt := 2209) hx hb lw_d44 (by omega) (by omega) (by rw [hv]; rfl) (by decide) ?_
      exact lc_concert C hL5 hk5 hI hP hS hl hf (KK d)
    · refine lv_tableIn (off := 2221) (tgt := 2265) hx hb lw_d44 (by omega) (by omega) (by rw [hv]; rfl) (by decide) ?_
      exact lc_concerts C hk5 hI hP hS hl hf (KK d)
end
