/-! part 99zz5: seconds (its numbers are no NaN: rows of the whole library, used in this last part alone); the law from its entry, and the claim -/
theorem zfNum {a : UInt32} (h : FP.fIsNaN a = false) : a &&& 0x7fffffff ≤ 0x7f800000 := by
  have h1 : ¬ (2139095040 < a.toNat % 2 ^ 31) := fun q => by
    have := (FP.Core.isNaN_bits32 a).2 q
    exact Bool.false_ne_true (h.symm.trans this)
  rw [UInt32.le_iff_toNat_le, UInt32.toNat_and, show (0x7fffffff : UInt32).toNat = 2 ^ 31 - 1 from rfl, Nat.and_two_pow_sub_one_eq_mod]
  show _ ≤ 2139095040
  omega
theorem zfN64 {a : UInt32} (h : FP.fIsNaN a = false) : vf_n64 (FP.f2d a) := by
  have h2 : FP.dIsNaN (FP.f2d a) = false := (FP.f2d_nan a).trans h
  have h1 : ¬ (9218868437227405312 < (FP.f2d a).toNat % 2 ^ 63) := fun q => by
    have := (FP.Core.isNaN_bits (FP.f2d a)).2 q
    exact Bool.false_ne_true (h2.symm.trans this)
  unfold vf_n64
  rw [UInt64.le_iff_toNat_le, UInt64.toNat_and, show (0x7fffffffffffffff : UInt64).toNat = 2 ^ 63 - 1 from rfl, Nat.and_two_pow_sub_one_eq_mod]
  show _ ≤ 9218868437227405312
  omega
theorem zfCmp {a : UInt32} (h : FP.fIsNaN a = false) : FP.dcmp (FP.f2d a) (FP.f2d a) = some .eq := FP.Core.dcmp_refl ((FP.f2d_nan a).trans h)
theorem zfMul (v : Int32) : FP.fIsNaN (FP.fmul (FP.i2f v) (UInt32.ofNat 1097859072)) = false := FP.Core.fmul_out (FP.Core.i2f_fin v) ((FP.Core.fin_bits32 _).2 (by decide))
theorem zfDiv (v : Int32) {u : Int32} (h : u ≠ 0) : FP.fIsNaN (FP.fdiv (FP.fmul (FP.i2f v) (UInt32.ofNat 1097859072)) (FP.i2f u)) = false := FP.Core.fdiv_out (zfMul v) (FP.Core.i2f_fin u) (fun q => FP.Core.i2f_ne_zero h ((FP.Core.zero_bits232 _).1 q))
theorem zfNeg : FP.fIsNaN (UInt32.ofNat 3212836864) = false := by decide
/-- a turn of the reference that answers a float and changes nothing that stays -/
theorem zRnF_of {N : Int} {V : zVt} {J : zJt} {R : Nat} {l : List Value} {c : Int} {x : UInt32} (h : zInv N V J) (hN : N < 600) (hr : ∀ (J1 : zJt) (d1 : Nat → Nat → UInt64), (∀ o : Nat, o ≠ 474 → J1 o = J o) → zInv N V J1 → ∃ y V2 J2, zGo false R 0 l [] (zm V J1 d1) = some (.inl (some (.float y)), zm V2 J2 d1) ∧ V2 430 60 = c ∧ pM V V2 J1 J2 ∧ pC V V2 J1 J2 ∧ (c = 0 → y = x)) : zRnF N V J R l c x := by
  intro J1 d1 hj
  have h1 := zInv_fr (pM_j hj) (pC_j hj) h
  obtain ⟨y, V2, J2, q1, q2, q3, q4, q6⟩ := hr J1 d1 hj h1
  exact ⟨y, V2, J2, q1, q2, zInv_up (zInv_fr q3 q4 h1) hN, q6⟩
/-- the answer: minus one where the music is at fault -/
def zSec (f n t c : Int) : UInt32 := if f = 0 then FP.fdiv (FP.fmul (FP.i2f (zi (n * t))) (UInt32.ofNat 1097859072)) (FP.i2f (zi c)) else UInt32.ofNat 3212836864
theorem zSec_num {f n t c : Int} (hc : 20 ≤ c ∧ c ≤ 300) : FP.fIsNaN (zSec f n t c) = false := by
  unfold zSec
  split
  · refine zfDiv _ (fun q => ?_)
    rw [← zi_0] at q
    have q2 : qw c = qw 0 := by rw [← zi_eq]; exact q
    rw [qw_0, qw_id (by omega) (by omega)] at q2
    omega
  · exact zfNeg
section
variable {V : zVt} {J : zJt} {N a b c : Int}
theorem x108 (h : zInv N V J) (hN : N < 600) (ha : -2147483648 ≤ a ∧ a < 2147483648) (hb : -2147483648 ≤ b ∧ b < 2147483648) (hc : -2147483648 ≤ c ∧ c < 2147483648) : zTwF N V J [.ref 0, .int (zi a), .int (zi b), .int (zi c), .null] [.ref 430, .int (zi a), .int (zi b), .int (zi c)] := by
  intro d
  by_cases hp : (0 ≤ a ∧ a < 3) ∧ (0 ≤ b ∧ b < 4)
  · obtain ⟨V1, J1, q1, q2, q3, q4, q5⟩ := cp100 (d := d) h hp
    have hw12 : (4 * a + b).toNat < 12 := by omega
    have hwi : (((4 * a + b).toNat : Nat) : Int) = 4 * a + b := by omega
    generalize (4 * a + b).toNat = w at *
    have hB := zBk_part hw12
    have hB5 := zBk_6music hB
    have hM := cMu_ok q2 hw12 q4
    unfold cMok at hM
    rw [show 63 + 15 * w = 50 + 15 * w + 13 by omega] at hM
    by_cases hk : 20 ≤ c ∧ c ≤ 300
    · left
      have hnum := zSec_num (f := V1 (50 + 15 * w + 13) 0) (n := V1 (50 + 15 * w + 13) 2) (t := V1 (50 + 15 * w + 13) 3) hk
      have k1 := zfNum (zfMul (zi (V1 (50 + 15 * w + 13) 2 * V1 (50 + 15 * w + 13) 3)))
      have k2 := zfNum hnum
      refine ⟨_, V1, J1, ?_, zfN64 hnum, zfCmp hnum, zRnF_of q2 hN ?_⟩
      · by_cases f0 : V1 (50 + 15 * w + 13) 0 = 0
        · unfold zSec at k2 ⊢
          rw [if_pos f0] at k2 ⊢
          simp (disch := first | omega | assumption | (simp (disch := omega) only [vup_fn, vup_o, vup_k, vup_at]; first | done | omega | assumption)) only [ze_108_0, ze_108_6, ze_108_24, q1, Int.add_zero, ↓reduceIte, qw_id, zck_T, zck_t, zGor_v, zGor_n, zGor_e, zbs, vup_at, vup_vup, vup_self, vup_o, vup_k, vup_fn, ne_eq, not_true_eq_false, not_false_eq_true, and_true, true_and, and_self, and_false, false_and, or_true, true_or, or_self, or_false, false_or, xlt_t, xlt_f, xle_t, xle_f, xeq_t, xeq_f, xand_f, xor_t]
        · unfold zSec
          rw [if_neg f0]
          simp (disch := first | omega | assumption | (simp (disch := omega) only [vup_fn, vup_o, vup_k, vup_at]; first | done | omega | assumption)) only [ze_108_0, ze_108_6, ze_108_24, q1, Int.add_zero, ↓reduceIte, qw_id, zck_T, zck_t, zGor_v, zGor_n, zGor_e, zbs, vup_at, vup_vup, vup_self, vup_o, vup_k, vup_fn, ne_eq, not_true_eq_false, not_false_eq_true, and_true, true_and, and_self, and_false, false_and, or_true, true_or, or_self, or_false, false_or, xlt_t, xlt_f, xle_t, xle_f, xeq_t, xeq_f, xand_f, xor_t]
      intro J2 d2 hj hi
      have hi2 := zInv_fr (pM_60 (c := gC 1 1 1)) pC_60 hi
      have e1 := sm146 (V := V1) (J := J2) (d := d2) ha hb
      rw [if_pos hp] at e1
      have e3 := sp148 (V := V1) (J := J2) (d := d2) (a := c) (b := 20) (c := 300) hc (by omega) (by omega)
      rw [if_pos (by omega)] at e3
      have e2 := sm150 (V := V1) (J := J2) (d := d2) (p := 1) (q := 1) (r := 1) (by omega) (by omega) (by omega)
      rw [if_pos (show gC 1 1 1 = 0 from rfl)] at e2
      obtain ⟨V3, J3, m1, m2, m3⟩ := mLib (d := d2) hi2 hw12 (by rw [vup_fn (by omega)]; exact q4) (s := 0) (by omega)
      unfold rMus at m3
      rw [show 63 + 15 * w = 50 + 15 * w + 13 by omega, vup_fn (by omega)] at m1 m3
      rw [hwi] at m1
      refine ⟨_, V3, J3, ?_, by rw [m2.2.1 60 (by omega), vup_at]; rfl, pM_t pM_60 (mFm_pM m2), pC_t pC_60 (mFm_pC m2), fun _ => rfl⟩
      have m4 := m3.2.1
      have m5 := m3.2.2.1
      by_cases f0 : V1 (50 + 15 * w + 13) 0 = 0
      · have m6 := m5 f0
        unfold zSec at k2 ⊢
        rw [if_pos f0] at k2 ⊢
        rw [← m4, ← m6] at k1 k2 ⊢
        simp (disch := first | omega | assumption | (simp (disch := omega) only [vup_fn, vup_o, vup_k, vup_at]; first | done | omega | assumption)) only [ze_186_0, ze_186_6, ze_186_15, ze_186_19, ze_186_34, e1, e3, e2, m1, Int.add_zero, ↓reduceIte, qw_id, zck_T, zck_t, zGor_v, zGor_n, zGor_e, zbs, vup_at, vup_vup, vup_self, vup_o, vup_k, vup_fn, ne_eq, not_true_eq_false, not_false_eq_true, and_true, true_and, and_self, and_false, false_and, or_true, true_or, or_self, or_false, false_or, xlt_t, xlt_f, xle_t, xle_f, xeq_t, xeq_f, xand_f, xor_t]
      · unfold zSec
        rw [if_neg f0]
        simp (disch := first | omega | assumption | (simp (disch := omega) only [vup_fn, vup_o, vup_k, vup_at]; first | done | omega | assumption)) only [ze_186_0, ze_186_6, ze_186_15, ze_186_19, ze_186_34, e1, e3, e2, m1, Int.add_zero, ↓reduceIte, qw_id, zck_T, zck_t, zGor_v, zGor_n, zGor_e, zbs, vup_at, vup_vup, vup_self, vup_o, vup_k, vup_fn, ne_eq, not_true_eq_false, not_false_eq_true, and_true, true_and, and_self, and_false, false_and, or_true, true_or, or_self, or_false, false_or, xlt_t, xlt_f, xle_t, xle_f, xeq_t, xeq_f, xand_f, xor_t]
    · right
      refine ⟨1, 1, V1, J1, rfl, ?_, zRnF_of q2 hN ?_⟩
      · by_cases k0 : c < 20
        · simp (disch := first | omega | assumption | (simp (disch := omega) only [vup_fn, vup_o, vup_k, vup_at]; first | done | omega | assumption)) only [ze_108_0, ze_108_6, ze_108_24, q1, Int.add_zero, ↓reduceIte, qw_id, zck_T, zck_t, zGor_v, zGor_n, zGor_e, zbs, vup_at, vup_vup, vup_self, vup_o, vup_k, vup_fn, ne_eq, not_true_eq_false, not_false_eq_true, and_true, true_and, and_self, and_false, false_and, or_true, true_or, or_self, or_false, false_or, xlt_t, xlt_f, xle_t, xle_f, xeq_t, xeq_f, xand_f, xor_t]
        · simp (disch := first | omega | assumption | (simp (disch := omega) only [vup_fn, vup_o, vup_k, vup_at]; first | done | omega | assumption)) only [ze_108_0, ze_108_6, ze_108_24, q1, Int.add_zero, ↓reduceIte, qw_id, zck_T, zck_t, zGor_v, zGor_n, zGor_e, zbs, vup_at, vup_vup, vup_self, vup_o, vup_k, vup_fn, ne_eq, not_true_eq_false, not_false_eq_true, and_true, true_and, and_self, and_false, false_and, or_true, true_or, or_self, or_false, false_or, xlt_t, xlt_f, xle_t, xle_f, xeq_t, xeq_f, xand_f, xor_t]
      intro J2 d2 hj hi
      have e1 := sm146 (V := V1) (J := J2) (d := d2) ha hb
      rw [if_pos hp] at e1
      have e3 := sp148 (V := V1) (J := J2) (d := d2) (a := c) (b := 20) (c := 300) hc (by omega) (by omega)
      rw [if_neg (by omega)] at e3
      have e2 := sm150 (V := V1) (J := J2) (d := d2) (p := 1) (q := 0) (r := 1) (by omega) (by omega) (by omega)
      rw [if_neg (show ¬ gC 1 0 1 = 0 by decide)] at e2
      refine ⟨FP.fconst0, vup V1 430 60 (gC 1 0 1), J2, ?_, vup_at _ _ _ _, pM_60, pC_60, fun w => by omega⟩
      simp (disch := first | omega | assumption | (simp (disch := omega) only [vup_fn, vup_o, vup_k, vup_at]; first | done | omega | assumption)) only [ze_186_0, ze_186_6, ze_186_15, ze_186_19, ze_186_34, e1, e3, e2, Int.add_zero, ↓reduceIte, qw_id, zck_T, zck_t, zGor_v, zGor_n, zGor_e, zbs, vup_at, vup_vup, vup_self, vup_o, vup_k, vup_fn, ne_eq, not_true_eq_false, not_false_eq_true, and_true, true_and, and_self, and_false, false_and, or_true, true_or, or_self, or_false, false_or, xlt_t, xlt_f, xle_t, xle_f, xeq_t, xeq_f, xand_f, xor_t]
  · right
    have e := cp100e (V := V) (J := J) (d := d) ha hb hp
    refine ⟨0, 0, V, J, rfl, ?_, zRnF_of h hN ?_⟩
    · simp (disch := first | omega | assumption | (simp (disch := omega) only [vup_fn, vup_o, vup_k, vup_at]; first | done | omega | assumption)) only [ze_108_0, ze_108_6, ze_108_24, e, Int.add_zero, ↓reduceIte, qw_id, zck_T, zck_t, zGor_v, zGor_n, zGor_e, zbs, vup_at, vup_vup, vup_self, vup_o, vup_k, vup_fn, ne_eq, not_true_eq_false, not_false_eq_true, and_true, true_and, and_self, and_false, false_and, or_true, true_or, or_self, or_false, false_or, xlt_t, xlt_f, xle_t, xle_f, xeq_t, xeq_f, xand_f, xor_t]
    intro J2 d2 hj hi
    have e1 := sm146 (V := V) (J := J2) (d := d2) ha hb
    rw [if_neg hp] at e1
    have e3 := sp148 (V := V) (J := J2) (d := d2) (a := c) (b := 20) (c := 300) hc (by omega) (by omega)
    by_cases hk : 20 ≤ c ∧ c ≤ 300
    · rw [if_pos (by omega)] at e3
      have e2 := sm150 (V := V) (J := J2) (d := d2) (p := 0) (q := 1) (r := 1) (by omega) (by omega) (by omega)
      rw [if_neg (show ¬ gC 0 1 1 = 0 by decide)] at e2
      refine ⟨FP.fconst0, vup V 430 60 (gC 0 1 1), J2, ?_, vup_at _ _ _ _, pM_60, pC_60, fun w => by omega⟩
      simp (disch := first | omega | assumption | (simp (disch := omega) only [vup_fn, vup_o, vup_k, vup_at]; first | done | omega | assumption)) only [ze_186_0, ze_186_6, ze_186_15, ze_186_19, ze_186_34, e1, e3, e2, Int.add_zero, ↓reduceIte, qw_id, zck_T, zck_t, zGor_v, zGor_n, zGor_e, zbs, vup_at, vup_vup, vup_self, vup_o, vup_k, vup_fn, ne_eq, not_true_eq_false, not_false_eq_true, and_true, true_and, and_self, and_false, false_and, or_true, true_or, or_self, or_false, false_or, xlt_t, xlt_f, xle_t, xle_f, xeq_t, xeq_f, xand_f, xor_t]
    · rw [if_neg (by omega)] at e3
      have e2 := sm150 (V := V) (J := J2) (d := d2) (p := 0) (q := 0) (r := 1) (by omega) (by omega) (by omega)
      rw [if_neg (show ¬ gC 0 0 1 = 0 by decide)] at e2
      refine ⟨FP.fconst0, vup V 430 60 (gC 0 0 1), J2, ?_, vup_at _ _ _ _, pM_60, pC_60, fun w => by omega⟩
      simp (disch := first | omega | assumption | (simp (disch := omega) only [vup_fn, vup_o, vup_k, vup_at]; first | done | omega | assumption)) only [ze_186_0, ze_186_6, ze_186_15, ze_186_19, ze_186_34, e1, e3, e2, Int.add_zero, ↓reduceIte, qw_id, zck_T, zck_t, zGor_v, zGor_n, zGor_e, zbs, vup_at, vup_vup, vup_self, vup_o, vup_k, vup_fn, ne_eq, not_true_eq_false, not_false_eq_true, and_true, true_and, and_self, and_false, false_and, or_true, true_or, or_self, or_false, false_or, xlt_t, xlt_f, xle_t, xle_f, xeq_t, xeq_f, xand_f, xor_t]
end
theorem lw_sec {p : Program} {l : Launch} {e : Env} {s : State} {mid : MethodId} {below : List Frame} {meth : Method} {c : Code} {b L b0 : Nat} {xs : Nat → Int32} {ro : Nat → Nat} {cA : Nat → ClassId} {D : va_G} {Q : State → Prop} (C : lwC p l s mid meth c b L xs b0 ro cA D) : lwSec p l e s mid below meth c b L xs b0 ro cA D Q := fun k V J d H locs ls cells slots hL hk hI hP hS hl hf K => lc_seconds C hL (x108 hI (by omega) (lw_rg (5 * k + 1)) (lw_rg (5 * k + 1 + 1)) (lw_rg (5 * k + 1 + 1 + 1))) hP hS hl hf K
theorem whole_start {p : Program} {e : Env} {s : State} {m : MethodId} {below : List Frame} {meth : Method} {c : Code} (l : Launch) (hflags : l.flags = flags0) {b L : Nat} {xs : Nat → Int32} (hL : L ≤ 2560) (C0 : lw_At p s m meth c b L xs) : W p l e room_1 s m #[Value.ref b] below meth c s.heap [] 0 0 (lw_Z below #[Value.ref b] s) (entryFrame m ([Value.ref b] : List Value).toArray 8) := lw_open l hflags hL C0 (fun ro cA D C => lw_sec C)
set_option maxHeartbeats 4000000 in
theorem lw_walk (l : Launch) (hflags : l.flags = flags0) (b : Addr) (xs : List Int32) : MetFree l x (headSpec (Jvm.Cond.code x code maxLocals ret :: tables_1) room_1) (lw_P b xs) (fun _ _ _ _ _ => True) lw_Q := by
  refine MetFree.of_bodyS (code := code) (maxLocals := maxLocals) (ret := ret) (by decide) ?_ ?_
  · intro args s m h hn
    obtain ⟨meth, c, h1, h2, h3, h4, h5, h6, -, -⟩ := Cond.code_spec hn (atoms_spec (ws := Jvm.Cond.code x code maxLocals ret :: tables_1) h _ List.mem_cons_self)
    exact ⟨meth, c, h1, h2, h3, h4, h5, h6⟩
  · intro p e s m args below meth c s₁ B hml0 hP _
    obtain ⟨rfl, hx, hbd, hgv⟩ := hP
    obtain ⟨scr, harrAt, hlist, hof, hsmall⟩ := hx
    obtain ⟨hcb, hkn, -, -⟩ := State.arrayAt?_spec harrAt
    have hown : s.vm.findClass R_law = some m.cls := findClass_of_methodNamed B.named
    have hts0 : ∀ c ∈ (Jvm.Cond.code x code maxLocals ret :: tables_1), c.before #[Value.ref b] s = true := atoms_spec (ws := Jvm.Cond.code x code maxLocals ret :: tables_1) B.pre
    have hts : ∀ w ∈ lw_tbl, w.before #[Value.ref b] s = true := k2_hts_sels lw_privs (fun w hw => hts0 w (List.mem_cons_of_mem _ hw)) lw_privs_ok
    have hml : c.maxLocals = 8 := B.maxLocals_eq (hts0 _ List.mem_cons_self)
    have X₀ : Stand p l e room_1 s m #[Value.ref b] below meth c s₁ [] 0 0 := Stand.of_body B
    have hh0 : s₁.heap = s.heap := by rw [B.state]; rfl
    have hsz : scr.slots.size = xs.length := by rw [← Array.length_toList, hlist, List.length_map]
    have hval : ∀ j : Nat, j < xs.length → scr.slots[j]? = some (.int (xs.getD j 0)) := fun j hj => by
      rw [← Array.getElem?_toList, hlist]
      simp [hj]
    have hbl : b < s.heap.size := (Array.getElem?_eq_some_iff.mp hcb).1
    have hX : va_X b xs.length (fun j => xs.getD j 0) s s.heap := ⟨scr, hcb, hof, hkn, hsz, hval⟩
    have K : W p l e room_1 s m #[Value.ref b] below meth c s₁.heap [] 0 0 (lw_Z below #[Value.ref b] s) (entryFrame m ([Value.ref b] : List Value).toArray 8) := by
      rw [hh0]
      exact whole_start l hflags hbd ⟨B.exec, B.bytes, B.returns, hml, hown, hts, hX, hbl, B.notSynchronized, hgv⟩
    obtain ⟨t, a1, o, b1, b2, b3⟩ := K s₁ rfl X₀
    exact ⟨t, o, a1, b1, b2, b3⟩
theorem lw_pre_spec {args : Array Value} {s : State} (h : (Jvm.Cond.and given_1 narrow_1).before args s = true) (hr : rest_1_c.before args s = true) : ∃ (b : Addr) (xs : List Int32), lw_P b xs args s := by
  have hs := flat_of_before _ h
  have hq := flat_of_before _ hr
  have hc : (Cond.count 1).before args s = true := hs _ (by decide +kernel)
  have harr : (Cond.arrayOf (.arg 0) .int).before args s = true := hs _ (by decide +kernel)
  have hle : (Cond.le (.length (.arg 0)) (.int 2560)).before args s = true := hs _ (by decide +kernel)
  have hlen : (Cond.isInt (.length (.arg 0))).before args s = true := hq _ (by decide +kernel)
  have hall : (Cond.all (.arg 0) (.isInt (.elem (.arg 0) (.index 0)))).before args s = true := hq _ (by decide +kernel)
  obtain ⟨b, xs, hb, hx⟩ := State.ints_of_pre rfl harr hlen hall
  have hsm : xs.length < 2 ^ 31 := hx.choose_spec.2.2.2
  have hev : (Term.length (.arg 0)).eval args s none [] s = some (.int xs.length.toInt32) := hx.length_eval hb
  have hv := Cond.le_ints hev (show (Term.int 2560).eval args s none [] s = some (.int 2560) from rfl)
  have hd : xs.length.toInt32 ≤ 2560 := by
    simpa [Cond.before, Cond.holds, hv] using hle
  have hN : xs.length ≤ 2560 := (Int32.ofNat_le_ofNat hsm (by decide)).mp (show Int32.ofNat xs.length ≤ Int32.ofNat 2560 from hd)
  exact ⟨b, xs, Cond.one_arg hc (show args[0]? = some (.ref b) from hb), hx, hN, h⟩
theorem lw_comes (l : Launch) (hflags : l.flags = flags0) : Comes l x (Jvm.Cond.code x code maxLocals ret :: tables_1) room_1 (fun tb e args s => Calls_1 tb e args s ∧ rest_1 tb e args s ∧ Pre_1 tb e args s)
    (fun _ _ args s o t => lw_Q args s o t) := by
  intro p e ha hc hk s m args below hf hfit hheap happ hpre
  obtain ⟨b, xs, hP⟩ := lw_pre_spec hpre.2.2 hpre.2.1
  obtain ⟨k, o, h1, h2, h3, hQ⟩ := lw_walk l hflags b xs p e ha hc hk s m args below hf ((Spec.applies_iff_loose hf).mp happ).1 hP trivial
  exact ⟨k, o, h1, h2, h3, hQ⟩
theorem lw_frame {s t : State} {o : Outcome} {args : Array Value} (h : State.butDraws s t lw_cs (fun t1 => Framed s o t1 [] 601024 7293034)) :
    State.butDraws s t [Jvm.Choice.named "NaN.bits"] (fun t1 => Framed s o t1 (fieldLocs frame_1_writes args s ++ arrayLocs frame_1_arrays args s ++ staticLocs frame_1_statics s) 601024 7293034) := h
theorem lw_limb (L : Cond) (hL : ∀ (args : Array Value) (s t : State), L.after args s (.returned (some (.int 1))) t = true) :
    ArmFor flags0 classFile x code maxLocals ret World_1 tables_1 room_1 Calls_1 rest_1 Pre_1
      (fun tb e a s o t => postC L tb e a s o t ∧ State.butDraws s t [Jvm.Choice.named "NaN.bits"] (fun t1 => Framed s o t1 (fieldLocs frame_1_writes a s ++ arrayLocs frame_1_arrays a s ++ staticLocs frame_1_statics s) 601024 7293034)) := by
  intro l hflags _ _ p e ha hc hk s m args below hf hfit hheap happ hpre
  obtain ⟨k, o, h1, h2, h3, rfl, hF⟩ := lw_comes l hflags p e ha hc hk s m args below hf hfit hheap happ hpre
  exact ⟨k, _, h1, h2, h3, hL args s _, lw_frame hF⟩
theorem i_vc : Claimed_1_1 ∧ Claimed_1_2 := ⟨lw_limb limb_1_1 (fun args s t => by simp [limb_1_1, Cond.after, Cond.holds, Cond.value]), lw_limb limb_1_2 (fun args s t => Cond.after_iff.mpr (by
  first | (rw [show limb_1_2 = Cond.eq .result (.int 1) from rfl, Cond.eq_ints (x := 1) (y := 1) rfl rfl]; simp; done) | (simp [limb_1_2, Cond.value, Term.eval]; done)))⟩
