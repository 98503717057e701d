/-! part 99r: the concert: what the class answers and does; the ghosts go along -/
/-- the sum of g from k on -/
def lSm (g : Int → Int) : Int → Nat → Int
  | _, 0 => 0
  | k, n + 1 => g k + lSm g (k + 1) n
theorem lSm_0 {g : Int → Int} (hg : ∀ j, 0 ≤ g j) : ∀ (n : Nat) (k : Int), 0 ≤ lSm g k n
  | 0, _ => Int.le_refl _
  | n + 1, k => by
    have := lSm_0 hg n (k + 1)
    have := hg k
    show 0 ≤ g k + lSm g (k + 1) n
    omega
theorem lSm_le {g f : Int → Int} (hg : ∀ j, f j ≤ g j) : ∀ (n : Nat) (k : Int), lSm f k n ≤ lSm g k n
  | 0, _ => Int.le_refl _
  | n + 1, k => by
    have := lSm_le hg n (k + 1)
    have := hg k
    show f k + lSm f (k + 1) n ≤ g k + lSm g (k + 1) n
    omega
theorem lSm_b {g : Int → Int} (hg : ∀ j, g j ≤ 1) : ∀ (n : Nat) (k : Int), lSm g k n ≤ n
  | 0, _ => Int.le_refl _
  | n + 1, k => by
    have := lSm_b hg n (k + 1)
    have := hg k
    show g k + lSm g (k + 1) n ≤ ((n + 1 : Nat) : Int)
    omega
theorem lSm_add (f g : Int → Int) : ∀ (n : Nat) (k : Int), lSm (fun j => f j + g j) k n = lSm f k n + lSm g k n
  | 0, _ => rfl
  | n + 1, k => by
    have := lSm_add f g n (k + 1)
    show (f k + g k) + lSm (fun j => f j + g j) (k + 1) n = (f k + lSm f (k + 1) n) + (g k + lSm g (k + 1) n)
    omega
theorem lSm_one (i : Int) : ∀ (n : Nat) (k : Int), k ≤ i → i < k + n → lSm (fun j => if j = i then 1 else 0) k n = 1
  | 0, k => fun _ _ => by omega
  | n + 1, k => fun h1 h2 => by
    show (if k = i then (1 : Int) else 0) + lSm (fun j => if j = i then 1 else 0) (k + 1) n = 1
    by_cases e : k = i
    · rw [if_pos e]
      have : ∀ (n : Nat) (k : Int), i < k → lSm (fun j => if j = i then 1 else 0) k n = 0 := fun n => by
        induction n with
        | zero => intro k _; rfl
        | succ n ih =>
          intro k hk
          show (if k = i then (1 : Int) else 0) + lSm (fun j => if j = i then 1 else 0) (k + 1) n = 0
          rw [if_neg (by omega), ih (k + 1) (by omega)]
          rfl
      rw [this n (k + 1) (by omega)]
      rfl
    · rw [if_neg e, lSm_one i n (k + 1) (by omega) (by omega)]
      rfl
/-- what a concert leaves as it was -/
def lFc (V V' : zVt) : Prop := (∀ o : Nat, ((37 ≤ o ∧ o ≤ 49) ∨ (430 ≤ o ∧ o ≤ 432) ∨ o = 454 ∨ (460 ≤ o ∧ o ≤ 472)) → V' o = V o) ∧ (V' 480 37 = V 480 37 ∧ V' 480 42 = V 480 42 ∧ V' 480 46 = V 480 46 ∧ V' 480 52 = V 480 52)
/-- a lent copy of the piece counts 1 -/
def lLe (V : zVt) (p j : Int) : Int := if V 455 j ≠ -1 ∧ V 454 j / 4 = p then 1 else 0
section
variable {J I : zJt} {U V : zVt} {N p : Int} {d : Nat → Nat → UInt64}
theorem c_conL (hp : -2147483648 ≤ p ∧ p < 2147483648) (g : Int → Int) (n : Nat) : ∀ (k : Nat) (x : Int) (U V : zVt) (I J : zJt), zInv N U I → U 480 37 = k + n → pC U V I J → (V 481 = U 481 ∧ V 432 = U 432) → (∀ j, (k : Int) ≤ j → g j = lLe U p j) → ∃ (V' : zVt) (J' : zJt) (U' : zVt) (I' : zJt), zGo false 142 28 [.ref 0, .int (zi p), .int (zi x), .int (zi k)] [] (zm V J d) = zI1 (x + lSm g k n) (vup V' 0 11 (V' 0 11 + 1)) J' d ∧ pC U' V' I' J' ∧ (∀ o : Nat, 430 ≤ o → V' o = V o ∧ J' o = J o) ∧ zInv N U' I' ∧ (∀ o : Nat, ¬(7 ≤ o ∧ o ≤ 36) → ¬(50 ≤ o ∧ o ≤ 429) → o ≠ 455 → o ≠ 456 → U' o = U o) ∧ ∀ j : Int, U' 455 j = if (k ≤ j ∧ j < U 480 37) ∧ U 454 j / 4 = p then -1 else U 455 j := by
  induction n with
  | zero =>
    intro k x U V I J hi hk hc hV _
    have h37 := hi.2.2.2.1
    have a0 : V 0 2 = U 480 37 := by rw [hc.1 0 (by omega)]; exact h37.2
    refine ⟨V, J, U, I, ?_, hc, fun o ho => ⟨rfl, rfl⟩, hi, fun o _ _ _ _ => rfl, fun j => by rw [if_neg (by omega)]⟩
    have ex : x + lSm g k 0 = x := Int.add_zero x
    rw [ze_142_28, ex]
    simp (disch := first | omega | assumption | (simp (disch := omega) only [vup_fn, vup_o, vup_k, vup_at]; first | done | omega | assumption)) only [a0, Int.add_zero, ↓reduceIte, qw_id, zck_T, zck_t, zGor_v, zGor_n, zGor_e, zbs, vup_at, vup_vup, vup_self, vup_o, vup_k, vup_fn, ne_eq, not_true_eq_false, not_false_eq_true, and_true, true_and, and_self, and_false, false_and, or_true, true_or, or_self, or_false, false_or, xlt_t, xlt_f, xle_t, xle_f, xeq_t, xeq_f, xand_f, xor_t]
  | succ n ih =>
    intro k x U V I J hi hk hc hV hg
    have h37 := hi.2.2.2.1
    have hk1 : ((k : Nat) : Int) + 1 = ((k + 1 : Nat) : Int) := by omega
    have hkn : ((k : Nat) : Int).toNat = k := by omega
    have a0 : V 0 2 = U 480 37 := by rw [hc.1 0 (by omega)]; exact h37.2
    have e1 := sp1v (d := d) hi hc (k := k) (by omega) hp
    obtain ⟨_, _, _, _, c2, c5, _, _, k40⟩ := iCp_mk hi (k := k) (by omega)
    have gk := hg k (by omega)
    unfold lLe at gk
    have ls : lSm g k (n + 1) = g k + lSm g ((k + 1 : Nat) : Int) n := by rw [← hk1]; rfl
    by_cases hl : U 455 k ≠ -1 ∧ U 454 k / 4 = p
    · rw [if_pos hl] at e1 gk
      obtain ⟨y, V1, J1, U1, I1, q1, q2, q3, q4, q5, q6, _, _, q9⟩ := c_take hi (k := k) (by omega) hc hV (d := d)
      have u480 := q6 480 (by omega) (by omega) (by omega) (by omega)
      have u454 := q6 454 (by omega) (by omega) (by omega) (by omega)
      obtain ⟨V', J', U', I', r1, r2, r3, r4, r5, r6⟩ := ih (k + 1) (x + 1) U1 V1 I1 J1 q4 (by rw [u480]; omega) q2 ⟨by rw [(q3 481 (by omega)).1, q6 481 (by omega) (by omega) (by omega) (by omega)]; exact hV.1, by rw [(q3 432 (by omega)).1, q6 432 (by omega) (by omega) (by omega) (by omega)]; exact hV.2⟩ (fun j hj => by
        rw [hg j (by omega)]
        unfold lLe
        rw [u454, show U1 455 j = U 455 j by rw [q9, if_neg (by omega)]])
      refine ⟨V', J', U', I', ?_, r2, fun o ho => ⟨(r3 o ho).1.trans (q3 o ho).1, (r3 o ho).2.trans (q3 o ho).2⟩, r4, fun o h1 h2 h3 h4 => (r5 o h1 h2 h3 h4).trans (q6 o h1 h2 h3 h4), fun j => ?_⟩
      · have ex : x + lSm g k (n + 1) = x + 1 + lSm g ((k + 1 : Nat) : Int) n := by rw [ls, gk]; omega
        rw [ze_142_28, ex]
        simp (disch := first | omega | assumption | (simp (disch := omega) only [vup_fn, vup_o, vup_k, vup_at]; first | done | omega | assumption)) only [a0, hkn, e1, ze_142_46, q1, ze_142_59, ze_142_63, hk1, r1, Int.add_zero, ↓reduceIte, qw_id, zck_T, zck_t, zGor_v, zGor_n, zGor_e, zbs, vup_at, vup_vup, vup_self, vup_o, vup_k, vup_fn, ne_eq, not_true_eq_false, not_false_eq_true, and_true, true_and, and_self, and_false, false_and, or_true, true_or, or_self, or_false, false_or, xlt_t, xlt_f, xle_t, xle_f, xeq_t, xeq_f, xand_f, xor_t]
      · rw [r6, u480, u454, q9]
        by_cases e : j = k
        · rw [if_neg (by omega), if_pos e, if_pos (by rw [e]; exact ⟨by omega, hl.2⟩)]
        · rw [if_neg e]
          by_cases e2 : (k ≤ j ∧ j < U 480 37) ∧ U 454 j / 4 = p
          · rw [if_pos e2, if_pos ⟨by omega, e2.2⟩]
          · rw [if_neg e2, if_neg (fun w => e2 ⟨by omega, w.2⟩)]
    · rw [if_neg hl] at e1 gk
      obtain ⟨V', J', U', I', r1, r2, r3, r4, r5, r6⟩ := ih (k + 1) x U V I J hi (by omega) hc hV (fun j hj => hg j (by omega))
      refine ⟨V', J', U', I', ?_, r2, r3, r4, r5, fun j => ?_⟩
      · have ex : x + lSm g k (n + 1) = x + lSm g ((k + 1 : Nat) : Int) n := by rw [ls, gk]; omega
        rw [ze_142_28, ex]
        simp (disch := first | omega | assumption | (simp (disch := omega) only [vup_fn, vup_o, vup_k, vup_at]; first | done | omega | assumption)) only [a0, hkn, e1, ze_142_46, ze_142_63, hk1, r1, Int.add_zero, ↓reduceIte, qw_id, zck_T, zck_t, zGor_v, zGor_n, zGor_e, zbs, vup_at, vup_vup, vup_self, vup_o, vup_k, vup_fn, ne_eq, not_true_eq_false, not_false_eq_true, and_true, true_and, and_self, and_false, false_and, or_true, true_or, or_self, or_false, false_or, xlt_t, xlt_f, xle_t, xle_f, xeq_t, xeq_f, xand_f, xor_t]
      · rw [r6]
        by_cases e : j = k
        · rw [if_neg (by omega)]
          by_cases e2 : (k ≤ j ∧ j < U 480 37) ∧ U 454 j / 4 = p
          · rw [if_pos e2]
            rw [e] at e2 ⊢
            exact Decidable.byContradiction fun w => hl ⟨w, e2.2⟩
          · rw [if_neg e2]
        · by_cases e2 : (k ≤ j ∧ j < U 480 37) ∧ U 454 j / 4 = p
          · rw [if_pos e2, if_pos ⟨by omega, e2.2⟩]
          · rw [if_neg e2, if_neg (fun w => e2 ⟨by omega, w.2⟩)]
theorem oP1_4 (h : oP1 V p) : 4 ≤ lSm (lLe V p) 0 (V 480 37).toNat := by
  obtain ⟨j0, ⟨b0, c0⟩, a0⟩ := h 0 (by omega) (by omega)
  obtain ⟨j1, ⟨b1, c1⟩, a1⟩ := h 1 (by omega) (by omega)
  obtain ⟨j2, ⟨b2, c2⟩, a2⟩ := h 2 (by omega) (by omega)
  obtain ⟨j3, ⟨b3, c3⟩, a3⟩ := h 3 (by omega) (by omega)
  have n01 : j0 ≠ j1 := fun e => by rw [e] at a0; omega
  have n02 : j0 ≠ j2 := fun e => by rw [e] at a0; omega
  have n03 : j0 ≠ j3 := fun e => by rw [e] at a0; omega
  have n12 : j1 ≠ j2 := fun e => by rw [e] at a1; omega
  have n13 : j1 ≠ j3 := fun e => by rw [e] at a1; omega
  have n23 : j2 ≠ j3 := fun e => by rw [e] at a2; omega
  have hle := lSm_le (f := fun j => (if j = j0 then 1 else 0) + ((if j = j1 then 1 else 0) + ((if j = j2 then 1 else 0) + (if j = j3 then 1 else 0)))) (g := lLe V p) (fun j => by
    show (if j = j0 then (1 : Int) else 0) + ((if j = j1 then 1 else 0) + ((if j = j2 then 1 else 0) + (if j = j3 then 1 else 0))) ≤ lLe V p j
    unfold lLe
    by_cases e0 : j = j0
    · rw [if_pos e0, if_neg (by omega), if_neg (by omega), if_neg (by omega), if_pos (by rw [e0]; exact c0)]
      decide
    · rw [if_neg e0]
      by_cases e1 : j = j1
      · rw [if_pos e1, if_neg (by omega), if_neg (by omega), if_pos (by rw [e1]; exact c1)]
        decide
      · rw [if_neg e1]
        by_cases e2 : j = j2
        · rw [if_pos e2, if_neg (by omega), if_pos (by rw [e2]; exact c2)]
          decide
        · rw [if_neg e2]
          by_cases e3 : j = j3
          · rw [if_pos e3, if_pos (by rw [e3]; exact c3)]
            decide
          · rw [if_neg e3]
            split <;> decide) (V 480 37).toNat 0
  rw [lSm_add (fun j => if j = j0 then 1 else 0), lSm_add (fun j => if j = j1 then 1 else 0), lSm_add (fun j => if j = j2 then 1 else 0), lSm_one j0 _ _ (by omega) (by omega), lSm_one j1 _ _ (by omega) (by omega), lSm_one j2 _ _ (by omega) (by omega), lSm_one j3 _ _ (by omega) (by omega)] at hle
  omega
theorem c_concert (h : zInv N V J) (hN : N < 600) (h1 : 0 ≤ p ∧ p < 3) {x : Int} (x1 : oVd V J p x) :
    (x ≠ 0 ∧ wstub 26 [zi p] (zm V J d) = some (zi (-103), zm V J d)) ∨
    (x = 0 ∧ 4 ≤ lSm (lLe V p) 0 (V 480 37).toNat ∧ ∃ V' J', wstub 26 [zi p] (zm V J d) = some (zi (lSm (lLe V p) 0 (V 480 37).toNat), zm V' J' d) ∧ zInv (N + 1) V' J' ∧ lFc V V' ∧ V' 480 59 = V 480 59 + 1 ∧ (∀ j, V' 455 j = if (0 ≤ j ∧ j < V 480 37) ∧ V 454 j / 4 = p then -1 else V 455 j) ∧ oVd V' J' p 1) := by
  have h37 := h.2.2.2.1
  have hp : -2147483648 ≤ p ∧ p < 2147483648 := by omega
  have e124 := sp124 (V := V) (J := J) (d := d) hp
  rw [if_pos h1] at e124
  obtain ⟨y, y1, x2⟩ := sp136 (d := d) h hp
  have hxy := oVd_un x1 y1
  subst hxy
  have xr := oVd_rng x1
  by_cases hx : x = 0
  · right
    subst hx
    have hP1 : oP1 V p := by
      rcases x1 with ⟨a, _⟩ | ⟨a, _⟩ | ⟨a, _⟩ | ⟨a, _⟩ | ⟨a, _⟩ | ⟨_, q, _⟩
      · omega
      · omega
      · omega
      · omega
      · omega
      · exact q
    obtain ⟨V1, J1, U1, I1, r1, r2, r3, r4, r5, r6⟩ := c_conL (N := N) (d := d) hp (lLe V p) (V 480 37).toNat 0 0 V V J J h (by omega) pC_r ⟨rfl, rfl⟩ (fun j _ => rfl)
    rw [show ((0 : Nat) : Int) = 0 from rfl, Int.zero_add] at r1
    obtain ⟨t, ht⟩ : ∃ t, lSm (lLe V p) 0 (V 480 37).toNat = t := ⟨_, rfl⟩
    rw [ht] at r1
    have hgo : zGo false 142 0 [.ref 0, .int (zi p), .null, .null] [] (zm V J d) = zI1 t (vup V1 0 11 (V1 0 11 + 1)) J1 d := by
      simp (disch := first | omega | assumption | (simp (disch := omega) only [vup_fn, vup_o, vup_k, vup_at]; first | done | omega | assumption)) only [ze_142_0, ze_142_5, ze_142_10, e124, x2, r1, Int.add_zero, ↓reduceIte, qw_id, zck_T, zck_t, zGor_v, zGor_n, zGor_e, zbs, vup_at, vup_vup, vup_self, vup_o, vup_k, vup_fn, ne_eq, not_true_eq_false, not_false_eq_true, and_true, true_and, and_self, and_false, false_and, or_true, true_or, or_self, or_false, false_or, xlt_t, xlt_f, xle_t, xle_f, xeq_t, xeq_f, xand_f, xor_t]
    have hZ := zInv_mix (V := V1) (J := J1) r4 r2
    have hm : ∀ o : Nat, ¬(7 ≤ o ∧ o ≤ 36) → ¬(50 ≤ o ∧ o ≤ 429) → o ≠ 455 → o ≠ 456 → mixV V1 U1 o = V o := fun o g1 g2 g3 g4 => by
      by_cases e : o < 432
      · rw [mixV_l e]
        by_cases e2 : 430 ≤ o
        · exact (r3 o e2).1
        · rw [r2.1 o (by omega)]
          exact r5 o g1 g2 g3 g4
      · rw [mixV_r (by omega)]
        exact r5 o g1 g2 g3 g4
    have m455 : ∀ j, mixV V1 U1 455 j = if (0 ≤ j ∧ j < V 480 37) ∧ V 454 j / 4 = p then -1 else V 455 j := fun j => by
      rw [mixV_r (by omega)]
      exact r6 j
    have zmx : zm (vup V1 0 11 (V1 0 11 + 1)) J1 d = zm (vup (vup (mixV V1 U1) 0 11 (mixV V1 U1 0 11 + 1)) 480 59 (mixV V1 U1 480 59 + 1)) (mixJ J1 I1) d := zm_cg (fun o ho => by
      rw [vup_fn (by omega)]
      by_cases e : o = 0
      · funext x
        rw [e]
        by_cases e2 : x = 11
        · rw [e2, vup_at, vup_at, mixV_l (by omega)]
        · rw [vup_k e2, vup_k e2, mixV_l (by omega)]
      · rw [vup_fn e, vup_fn e, mixV_l ho]) (fun o ho => mixJ_l ho)
    generalize mixV V1 U1 = W at *
    have w0 : W 0 = V 0 := hm 0 (by omega) (by omega) (by omega) (by omega)
    have w480 : W 480 = V 480 := hm 480 (by omega) (by omega) (by omega) (by omega)
    have fo : ∀ o : Nat, o ≠ 0 → o ≠ 480 → vup (vup W 0 11 (W 0 11 + 1)) 480 59 (W 480 59 + 1) o = W o := fun o g1 g2 => by rw [vup_fn g2, vup_fn g1]
    have f480 : ∀ x, vup (vup W 0 11 (W 0 11 + 1)) 480 59 (W 480 59 + 1) 480 x = if x = 59 then V 480 59 + 1 else V 480 x := fun x => by
      by_cases e : x = 59
      · rw [if_pos e, e, vup_at, w480]
      · rw [if_neg e, vup_k e, vup_o (by omega), w480]
    have f02 : vup (vup W 0 11 (W 0 11 + 1)) 480 59 (W 480 59 + 1) 0 2 = W 0 2 := by rw [vup_o (by omega), vup_k (by omega)]
    have f011 : vup (vup W 0 11 (W 0 11 + 1)) 480 59 (W 480 59 + 1) 0 11 = W 0 11 + 1 := by rw [vup_o (by omega), vup_at]
    generalize vup (vup W 0 11 (W 0 11 + 1)) 480 59 (W 480 59 + 1) = V' at *
    have a455 : ∀ j, V' 455 j = if (0 ≤ j ∧ j < V 480 37) ∧ V 454 j / 4 = p then -1 else V 455 j := fun j => by rw [fo 455 (by omega) (by omega)]; exact m455 j
    refine ⟨rfl, oP1_4 hP1, V', mixJ J1 I1, ?_, ?_, ⟨fun o ho => by rw [fo o (by omega) (by omega)]; exact hm o (by omega) (by omega) (by omega) (by omega), by rw [f480, if_neg (by omega)], by rw [f480, if_neg (by omega)], by rw [f480, if_neg (by omega)], by rw [f480, if_neg (by omega)]⟩, by rw [f480, if_pos rfl], a455, Or.inl ⟨rfl, fun q => ?_⟩⟩
    · rw [ht, ← zmx]
      exact ws_i (C := 142) (L := [.ref 0, .int (zi p), .null, .null]) rfl rfl (by decide) hgo
    · refine zInv_cc hZ hN fo f02 ?_ ⟨f011, by rw [f480, if_pos rfl, w480]⟩
      rw [f480, f480, f480, f480, if_neg (by omega), if_neg (by omega), if_neg (by omega), if_neg (by omega), w480]
      exact ⟨rfl, rfl, rfl, rfl⟩
    · obtain ⟨j, ⟨k1, k2, k3⟩, _⟩ := q 0 (by omega) (by omega)
      rw [f480, if_neg (by omega)] at k1
      rw [a455] at k2
      rw [fo 454 (by omega) (by omega), hm 454 (by omega) (by omega) (by omega) (by omega)] at k3
      exact k2 (if_pos ⟨k1, k3⟩)
  · left
    refine ⟨hx, (ws_e (s := 26) (e := 2) (C := 142) (L := [.ref 0, .int (zi p), .null, .null]) rfl rfl (by decide) ?_).trans (by rw [wz101.2.2])⟩
    simp (disch := first | omega | assumption | (simp (disch := omega) only [vup_fn, vup_o, vup_k, vup_at]; first | done | omega | assumption)) only [ze_142_0, ze_142_5, ze_142_10, e124, x2, Int.add_zero, ↓reduceIte, qw_id, zck_T, zck_t, zGor_v, zGor_n, zGor_e, zbs, vup_at, vup_vup, vup_self, vup_o, vup_k, vup_fn, ne_eq, not_true_eq_false, not_false_eq_true, and_true, true_and, and_self, and_false, false_and, or_true, true_or, or_self, or_false, false_or, xlt_t, xlt_f, xle_t, xle_f, xeq_t, xeq_f, xand_f, xor_t]
end
