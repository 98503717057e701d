/-! part 34: the reference's reading of a note and of any token -/
def ySg (c : Int) : Int := if c = 94 then 1 else if c = 95 then 2 else if c = 61 then 3 else 0
theorem ySg_cs (c : Int) : (c = 94 ∧ ySg c = 1) ∨ (c = 95 ∧ ySg c = 2) ∨ (c = 61 ∧ ySg c = 3) ∨ ((c ≠ 94 ∧ c ≠ 95 ∧ c ≠ 61) ∧ ySg c = 0) := by
  unfold ySg
  repeat' split
  all_goals omega
/-- behind the digits at b; their number -/
def yDe (T : Int → Int) (b : Int) : Int := if 48 ≤ T b ∧ T b ≤ 57 then (if 48 ≤ T (b + 1) ∧ T (b + 1) ≤ 57 then b + 2 else b + 1) else b
def yDv (T : Int → Int) (b : Int) : Int := if 48 ≤ T b ∧ T b ≤ 57 then (if 48 ≤ T (b + 1) ∧ T (b + 1) ≤ 57 then 10 * (T b - 48) + (T (b + 1) - 48) else T b - 48) else 0
theorem yD_cs (T : Int → Int) (b : Int) : ((T b < 48 ∨ 57 < T b) ∧ yDe T b = b ∧ yDv T b = 0) ∨ ((48 ≤ T b ∧ T b ≤ 57) ∧ (T (b + 1) < 48 ∨ 57 < T (b + 1)) ∧ yDe T b = b + 1 ∧ yDv T b = T b - 48) ∨ ((48 ≤ T b ∧ T b ≤ 57) ∧ (48 ≤ T (b + 1) ∧ T (b + 1) ≤ 57) ∧ yDe T b = b + 2 ∧ yDv T b = 10 * (T b - 48) + (T (b + 1) - 48)) := by
  unfold yDe yDv
  repeat' split
  all_goals omega
def yNa (T : Int → Int) (p : Int) : Int := p + (if ySg (T p) = 0 then 0 else 1)
def yNm (T : Int → Int) (a : Int) : Int := if T a = 45 then 1 else 0
def yNb (T : Int → Int) (p : Int) : Int := yNa T p + yNm T (yNa T p)
/-- a signed number m (below 0 or not), its digits at b, ended at e -/
def yVs (m v : Int) : Int := if m = 0 then v else -v
abbrev yOk (b e s : Int) : Prop := e ≠ b ∧ -9 ≤ s ∧ s ≤ 19
section
variable {V : zVt} {J : zJt} {d : Nat → Nat → UInt64}
theorem sq162a (h : zTx (V 432) (V 431)) {w p : Int} (hw : 0 ≤ w ∧ w < 12) (hp : 0 ≤ p ∧ p < 9000) : zGo false 162 0 [.ref 430, .int (zi w), .int (zi p), .null, .null, .null, .null, .null, .null, .null] [] (zm V J d) =
    zGo false 162 57 [.ref 430, .int (zi w), .int (zi p), .int (zi p), .int (zi (zt (V 432) (V 431) w p)), .int (zi (ySg (zt (V 432) (V 431) w p))), .null, .null, .null, .null] [.int (zi (if ySg (zt (V 432) (V 431) w p) = 0 then 0 else 1)), .int (zi p)] (zm V J d) := by
  have r1 := zt_rng h hw p hp.1
  rcases ySg_cs (zt (V 432) (V 431) w p) with ⟨e1, e2⟩ | ⟨e1, e2⟩ | ⟨e1, e2⟩ | ⟨e1, e2⟩
  all_goals
    rw [e2]
    simp (disch := first | omega | assumption | (simp (disch := omega) only [yIs_n, vup_fn, vup_o, vup_k, vup_at]; first | done | omega | assumption)) only [ze_162_0, ze_162_8, ze_162_44, sp155, Int.add_zero, ↓reduceIte, qw_id, zck_T, zck_t, zGor_v, zGor_n, zGor_e, zbs, vup_at, vup_vup, vup_self, vup_o, vup_k, vup_fn, ne_eq, not_true_eq_false, not_false_eq_true, and_true, true_and, and_self, and_false, false_and, or_true, true_or, or_self, or_false, false_or, xlt_t, xlt_f, xle_t, xle_f, xeq_t, xeq_f, xand_f, xor_t]
theorem sq162b (h : zTx (V 432) (V 431)) {w p a t g s0 s1 : Int} (hw : 0 ≤ w ∧ w < 12) (he : s0 + s1 = a) (ha : 0 ≤ a ∧ a < 9100) : zGo false 162 57 [.ref 430, .int (zi w), .int (zi p), .int (zi p), .int (zi t), .int (zi g), .null, .null, .null, .null] [.int (zi s1), .int (zi s0)] (zm V J d) =
    zGo false 162 96 [.ref 430, .int (zi w), .int (zi p), .int (zi (a + yNm (zt (V 432) (V 431) w) a)), .int (zi t), .int (zi g), .int (zi (yNm (zt (V 432) (V 431) w) a)), .int (zi (a + yNm (zt (V 432) (V 431) w) a)), .int (zi 0), .null] [] (zm V J d) := by
  have r1 := zt_rng h hw a ha.1
  unfold yNm
  by_cases h1 : zt (V 432) (V 431) w a = 45
  · rw [if_pos h1]
    simp (disch := first | omega | assumption | (simp (disch := omega) only [yIs_n, vup_fn, vup_o, vup_k, vup_at]; first | done | omega | assumption)) only [ze_162_57, ze_162_65, ze_162_75, ze_162_88, he, sp155, Int.add_zero, ↓reduceIte, qw_id, zck_T, zck_t, zGor_v, zGor_n, zGor_e, zbs, vup_at, vup_vup, vup_self, vup_o, vup_k, vup_fn, ne_eq, not_true_eq_false, not_false_eq_true, and_true, true_and, and_self, and_false, false_and, or_true, true_or, or_self, or_false, false_or, xlt_t, xlt_f, xle_t, xle_f, xeq_t, xeq_f, xand_f, xor_t]
  · rw [if_neg h1]
    simp (disch := first | omega | assumption | (simp (disch := omega) only [yIs_n, vup_fn, vup_o, vup_k, vup_at]; first | done | omega | assumption)) only [ze_162_57, ze_162_65, ze_162_75, ze_162_88, he, sp155, Int.add_zero, ↓reduceIte, qw_id, zck_T, zck_t, zGor_v, zGor_n, zGor_e, zbs, vup_at, vup_vup, vup_self, vup_o, vup_k, vup_fn, ne_eq, not_true_eq_false, not_false_eq_true, and_true, true_and, and_self, and_false, false_and, or_true, true_or, or_self, or_false, false_or, xlt_t, xlt_f, xle_t, xle_f, xeq_t, xeq_f, xand_f, xor_t]
theorem sq162c (h : zTx (V 432) (V 431)) {w p t g m b : Int} (hw : 0 ≤ w ∧ w < 12) (hb : 0 ≤ b ∧ b < 9200) : zGo false 162 96 [.ref 430, .int (zi w), .int (zi p), .int (zi b), .int (zi t), .int (zi g), .int (zi m), .int (zi b), .int (zi 0), .null] [] (zm V J d) =
    zGo false 162 142 [.ref 430, .int (zi w), .int (zi p), .int (zi (yDe (zt (V 432) (V 431) w) b)), .int (zi t), .int (zi g), .int (zi m), .int (zi b), .int (zi (yDv (zt (V 432) (V 431) w) b)), .null] [] (zm V J d) := by
  have r1 := zt_rng h hw b hb.1
  have r2 := zt_rng h hw (b + 1) (by omega)
  have e3 : b + 1 + 1 = b + 2 := by omega
  rcases yD_cs (zt (V 432) (V 431) w) b with ⟨e1, e5, e6⟩ | ⟨e1, e4, e5, e6⟩ | ⟨e1, e4, e5, e6⟩
  · rw [e5, e6]
    simp (disch := first | omega | assumption | (simp (disch := omega) only [yIs_n, vup_fn, vup_o, vup_k, vup_at]; first | done | omega | assumption)) only [ze_162_96, ze_162_110, ze_162_116, ze_162_130, sp155, sp158, Int.add_zero, ↓reduceIte, qw_id, zck_T, zck_t, zGor_v, zGor_n, zGor_e, zbs, vup_at, vup_vup, vup_self, vup_o, vup_k, vup_fn, ne_eq, not_true_eq_false, not_false_eq_true, and_true, true_and, and_self, and_false, false_and, or_true, true_or, or_self, or_false, false_or, xlt_t, xlt_f, xle_t, xle_f, xeq_t, xeq_f, xand_f, xor_t]
  · rw [e5, e6]
    have e7 : 10 * 0 + zt (V 432) (V 431) w b - 48 = zt (V 432) (V 431) w b - 48 := by omega
    simp (disch := first | omega | assumption | (simp (disch := omega) only [yIs_n, vup_fn, vup_o, vup_k, vup_at]; first | done | omega | assumption)) only [ze_162_96, ze_162_110, ze_162_116, ze_162_130, sp155, sp158, e7, Int.add_zero, ↓reduceIte, qw_id, zck_T, zck_t, zGor_v, zGor_n, zGor_e, zbs, vup_at, vup_vup, vup_self, vup_o, vup_k, vup_fn, ne_eq, not_true_eq_false, not_false_eq_true, and_true, true_and, and_self, and_false, false_and, or_true, true_or, or_self, or_false, false_or, xlt_t, xlt_f, xle_t, xle_f, xeq_t, xeq_f, xand_f, xor_t]
  · rw [e5, e6]
    have e7 : 10 * 0 + zt (V 432) (V 431) w b - 48 = zt (V 432) (V 431) w b - 48 := by omega
    have e8 : 10 * (zt (V 432) (V 431) w b - 48) + zt (V 432) (V 431) w (b + 1) - 48 = 10 * (zt (V 432) (V 431) w b - 48) + (zt (V 432) (V 431) w (b + 1) - 48) := by omega
    simp (disch := first | omega | assumption | (simp (disch := omega) only [yIs_n, vup_fn, vup_o, vup_k, vup_at]; first | done | omega | assumption)) only [ze_162_96, ze_162_110, ze_162_116, ze_162_130, sp155, sp158, e7, e8, e3, Int.add_zero, ↓reduceIte, qw_id, zck_T, zck_t, zGor_v, zGor_n, zGor_e, zbs, vup_at, vup_vup, vup_self, vup_o, vup_k, vup_fn, ne_eq, not_true_eq_false, not_false_eq_true, and_true, true_and, and_self, and_false, false_and, or_true, true_or, or_self, or_false, false_or, xlt_t, xlt_f, xle_t, xle_f, xeq_t, xeq_f, xand_f, xor_t]
theorem sq162d (h : zTx (V 432) (V 431)) {w p t g m b e v : Int} (hw : 0 ≤ w ∧ w < 12) (hn : 0 ≤ V 430 10 ∧ V 430 10 < 60) (hb : 0 ≤ b ∧ b < 9300) (he : b ≤ e ∧ e ≤ b + 2) (hv : 0 ≤ v ∧ v < 100) (hm : m = 0 ∨ m = 1) (hk : yOk b e (yVs m v)) : zGo false 162 142 [.ref 430, .int (zi w), .int (zi p), .int (zi e), .int (zi t), .int (zi g), .int (zi m), .int (zi b), .int (zi v), .null] [] (zm V J d) =
    if yTe (zt (V 432) (V 431) w e) (zt (V 432) (V 431) w (e + 1)) e = -1 then zI1 (-1) (vup V 430 12 (yTk (zt (V 432) (V 431) w e) (zt (V 432) (V 431) w (e + 1)))) J d else
      zI1 (yTe (zt (V 432) (V 431) w e) (zt (V 432) (V 431) w (e + 1)) e + (if zt (V 432) (V 431) w (yTe (zt (V 432) (V 431) w e) (zt (V 432) (V 431) w (e + 1)) e) = 126 then 1 else 0)) (yIs (vup V 430 12 (yTk (zt (V 432) (V 431) w e) (zt (V 432) (V 431) w (e + 1)))) (V 430 10) 3 (yVs m v) g (yTk (zt (V 432) (V 431) w e) (zt (V 432) (V 431) w (e + 1))) (if zt (V 432) (V 431) w (yTe (zt (V 432) (V 431) w e) (zt (V 432) (V 431) w (e + 1)) e) = 126 then 1 else 0)) J d := by
  have e0 := sp161 (J := J) (d := d) h hw (p := e) (by omega)
  have hr := yTe_yTk (zt (V 432) (V 431) w e) (zt (V 432) (V 431) w (e + 1)) e
  generalize yTe (zt (V 432) (V 431) w e) (zt (V 432) (V 431) w (e + 1)) e = q at *
  generalize yTk (zt (V 432) (V 431) w e) (zt (V 432) (V 431) w (e + 1)) = k at *
  have hs : zGo false 162 142 [.ref 430, .int (zi w), .int (zi p), .int (zi e), .int (zi t), .int (zi g), .int (zi m), .int (zi b), .int (zi v), .null] [] (zm V J d) = zGo false 162 155 [.ref 430, .int (zi w), .int (zi p), .int (zi e), .int (zi t), .int (zi g), .int (zi m), .int (zi b), .int (zi v), .null] [.int (zi (yVs m v))] (zm V J d) := by
    unfold yVs
    rcases hm with rfl | rfl
    · simp (disch := first | omega | assumption | (simp (disch := omega) only [yIs_n, vup_fn, vup_o, vup_k, vup_at]; first | done | omega | assumption)) only [ze_162_142, Int.add_zero, ↓reduceIte, qw_id, zck_T, zck_t, zGor_v, zGor_n, zGor_e, zbs, vup_at, vup_vup, vup_self, vup_o, vup_k, vup_fn, ne_eq, not_true_eq_false, not_false_eq_true, and_true, true_and, and_self, and_false, false_and, or_true, true_or, or_self, or_false, false_or, xlt_t, xlt_f, xle_t, xle_f, xeq_t, xeq_f, xand_f, xor_t]
    · simp (disch := first | omega | assumption | (simp (disch := omega) only [yIs_n, vup_fn, vup_o, vup_k, vup_at]; first | done | omega | assumption)) only [ze_162_142, Int.add_zero, ↓reduceIte, qw_id, zck_T, zck_t, zGor_v, zGor_n, zGor_e, zbs, vup_at, vup_vup, vup_self, vup_o, vup_k, vup_fn, ne_eq, not_true_eq_false, not_false_eq_true, and_true, true_and, and_self, and_false, false_and, or_true, true_or, or_self, or_false, false_or, xlt_t, xlt_f, xle_t, xle_f, xeq_t, xeq_f, xand_f, xor_t]
  rw [hs]
  generalize yVs m v = s at *
  by_cases h1 : q = -1
  · simp (disch := first | omega | assumption | (simp (disch := omega) only [yIs_n, vup_fn, vup_o, vup_k, vup_at]; first | done | omega | assumption)) only [ze_162_155, ze_162_172, ze_162_185, sp148, e0, Int.add_zero, ↓reduceIte, qw_id, zck_T, zck_t, zGor_v, zGor_n, zGor_e, zbs, vup_at, vup_vup, vup_self, vup_o, vup_k, vup_fn, ne_eq, not_true_eq_false, not_false_eq_true, and_true, true_and, and_self, and_false, false_and, or_true, true_or, or_self, or_false, false_or, xlt_t, xlt_f, xle_t, xle_f, xeq_t, xeq_f, xand_f, xor_t]
  · have r1 := zt_rng h hw q (by omega)
    by_cases h2 : zt (V 432) (V 431) w q = 126
    · simp (disch := first | omega | assumption | (simp (disch := omega) only [yIs_n, vup_fn, vup_o, vup_k, vup_at]; first | done | omega | assumption)) only [ze_162_155, ze_162_172, ze_162_185, ze_162_204, ze_162_244, ze_162_254, ze_162_276, sp148, e0, sp157, yIs_n, yIs_s, yIs_t, yIs_i, yIs_i5, sp155, Int.add_zero, ↓reduceIte, qw_id, zck_T, zck_t, zGor_v, zGor_n, zGor_e, zbs, vup_at, vup_vup, vup_self, vup_o, vup_k, vup_fn, ne_eq, not_true_eq_false, not_false_eq_true, and_true, true_and, and_self, and_false, false_and, or_true, true_or, or_self, or_false, false_or, xlt_t, xlt_f, xle_t, xle_f, xeq_t, xeq_f, xand_f, xor_t]
    · simp (disch := first | omega | assumption | (simp (disch := omega) only [yIs_n, vup_fn, vup_o, vup_k, vup_at]; first | done | omega | assumption)) only [ze_162_155, ze_162_172, ze_162_185, ze_162_204, ze_162_244, ze_162_254, ze_162_276, sp148, e0, sp157, yIs_n, yIs_s, yIs_t, yIs_i, yIs_i5, sp155, Int.add_zero, ↓reduceIte, qw_id, zck_T, zck_t, zGor_v, zGor_n, zGor_e, zbs, vup_at, vup_vup, vup_self, vup_o, vup_k, vup_fn, ne_eq, not_true_eq_false, not_false_eq_true, and_true, true_and, and_self, and_false, false_and, or_true, true_or, or_self, or_false, false_or, xlt_t, xlt_f, xle_t, xle_f, xeq_t, xeq_f, xand_f, xor_t]
theorem sq162e {w p t g m b e v : Int} (hb : 0 ≤ b ∧ b < 9300) (he : b ≤ e ∧ e ≤ b + 2) (hv : 0 ≤ v ∧ v < 100) (hm : m = 0 ∨ m = 1) (hk : ¬ yOk b e (yVs m v)) : zGo false 162 142 [.ref 430, .int (zi w), .int (zi p), .int (zi e), .int (zi t), .int (zi g), .int (zi m), .int (zi b), .int (zi v), .null] [] (zm V J d) = zI1 (-1) V J d := by
  unfold yOk yVs at hk
  rcases hm with rfl | rfl
  · simp only [↓reduceIte] at hk
    by_cases h1 : e = b
    · simp (disch := first | omega | assumption | (simp (disch := omega) only [yIs_n, vup_fn, vup_o, vup_k, vup_at]; first | done | omega | assumption)) only [ze_162_142, ze_162_155, ze_162_172, ze_162_175, ze_162_185, sp148, Int.add_zero, ↓reduceIte, qw_id, zck_T, zck_t, zGor_v, zGor_n, zGor_e, zbs, vup_at, vup_vup, vup_self, vup_o, vup_k, vup_fn, ne_eq, not_true_eq_false, not_false_eq_true, and_true, true_and, and_self, and_false, false_and, or_true, true_or, or_self, or_false, false_or, xlt_t, xlt_f, xle_t, xle_f, xeq_t, xeq_f, xand_f, xor_t]
    · by_cases h2 : v < -9
      · simp (disch := first | omega | assumption | (simp (disch := omega) only [yIs_n, vup_fn, vup_o, vup_k, vup_at]; first | done | omega | assumption)) only [ze_162_142, ze_162_155, ze_162_172, ze_162_175, ze_162_185, sp148, Int.add_zero, ↓reduceIte, qw_id, zck_T, zck_t, zGor_v, zGor_n, zGor_e, zbs, vup_at, vup_vup, vup_self, vup_o, vup_k, vup_fn, ne_eq, not_true_eq_false, not_false_eq_true, and_true, true_and, and_self, and_false, false_and, or_true, true_or, or_self, or_false, false_or, xlt_t, xlt_f, xle_t, xle_f, xeq_t, xeq_f, xand_f, xor_t]
      · simp (disch := first | omega | assumption | (simp (disch := omega) only [yIs_n, vup_fn, vup_o, vup_k, vup_at]; first | done | omega | assumption)) only [ze_162_142, ze_162_155, ze_162_172, ze_162_175, ze_162_185, sp148, Int.add_zero, ↓reduceIte, qw_id, zck_T, zck_t, zGor_v, zGor_n, zGor_e, zbs, vup_at, vup_vup, vup_self, vup_o, vup_k, vup_fn, ne_eq, not_true_eq_false, not_false_eq_true, and_true, true_and, and_self, and_false, false_and, or_true, true_or, or_self, or_false, false_or, xlt_t, xlt_f, xle_t, xle_f, xeq_t, xeq_f, xand_f, xor_t]
  · simp only [Int.one_ne_zero, ↓reduceIte] at hk
    by_cases h1 : e = b
    · simp (disch := first | omega | assumption | (simp (disch := omega) only [yIs_n, vup_fn, vup_o, vup_k, vup_at]; first | done | omega | assumption)) only [ze_162_142, ze_162_155, ze_162_172, ze_162_175, ze_162_185, sp148, Int.add_zero, ↓reduceIte, qw_id, zck_T, zck_t, zGor_v, zGor_n, zGor_e, zbs, vup_at, vup_vup, vup_self, vup_o, vup_k, vup_fn, ne_eq, not_true_eq_false, not_false_eq_true, and_true, true_and, and_self, and_false, false_and, or_true, true_or, or_self, or_false, false_or, xlt_t, xlt_f, xle_t, xle_f, xeq_t, xeq_f, xand_f, xor_t]
    · by_cases h2 : -v < -9
      · simp (disch := first | omega | assumption | (simp (disch := omega) only [yIs_n, vup_fn, vup_o, vup_k, vup_at]; first | done | omega | assumption)) only [ze_162_142, ze_162_155, ze_162_172, ze_162_175, ze_162_185, sp148, Int.add_zero, ↓reduceIte, qw_id, zck_T, zck_t, zGor_v, zGor_n, zGor_e, zbs, vup_at, vup_vup, vup_self, vup_o, vup_k, vup_fn, ne_eq, not_true_eq_false, not_false_eq_true, and_true, true_and, and_self, and_false, false_and, or_true, true_or, or_self, or_false, false_or, xlt_t, xlt_f, xle_t, xle_f, xeq_t, xeq_f, xand_f, xor_t]
      · simp (disch := first | omega | assumption | (simp (disch := omega) only [yIs_n, vup_fn, vup_o, vup_k, vup_at]; first | done | omega | assumption)) only [ze_162_142, ze_162_155, ze_162_172, ze_162_175, ze_162_185, sp148, Int.add_zero, ↓reduceIte, qw_id, zck_T, zck_t, zGor_v, zGor_n, zGor_e, zbs, vup_at, vup_vup, vup_self, vup_o, vup_k, vup_fn, ne_eq, not_true_eq_false, not_false_eq_true, and_true, true_and, and_self, and_false, false_and, or_true, true_or, or_self, or_false, false_or, xlt_t, xlt_f, xle_t, xle_f, xeq_t, xeq_f, xand_f, xor_t]
end
/-- a note's place, its end ahead of a tie, the ticks' cell -/
def yNe (T : Int → Int) (p : Int) : Int := yDe T (yNb T p)
def yNs (T : Int → Int) (p : Int) : Int := yVs (yNm T (yNa T p)) (yDv T (yNb T p))
abbrev yNo (T : Int → Int) (p : Int) : Prop := yOk (yNb T p) (yNe T p) (yNs T p)
def yNt (T : Int → Int) (p : Int) : Int := if yNo T p then yTe (T (yNe T p)) (T (yNe T p + 1)) (yNe T p) else -1
def yNl (T : Int → Int) (p l : Int) : Int := if yNo T p then yTk (T (yNe T p)) (T (yNe T p + 1)) else l
def yNi (T : Int → Int) (p : Int) : Int := if T (yNt T p) = 126 then 1 else 0
theorem yN_rng (T : Int → Int) (p : Int) (hT : ∀ q, p ≤ q → 0 ≤ T q ∧ T q ≤ 126) : (p ≤ yNa T p ∧ yNa T p ≤ p + 1) ∧ (yNa T p ≤ yNb T p ∧ yNb T p ≤ yNa T p + 1) ∧ (yNb T p ≤ yNe T p ∧ yNe T p ≤ yNb T p + 2) ∧ (0 ≤ yDv T (yNb T p) ∧ yDv T (yNb T p) < 100) := by
  have h1 : p ≤ yNa T p ∧ yNa T p ≤ p + 1 := by
    unfold yNa
    split <;> omega
  have h2 : yNa T p ≤ yNb T p ∧ yNb T p ≤ yNa T p + 1 := by
    unfold yNb yNm
    split <;> omega
  refine ⟨h1, h2, ?_⟩
  unfold yNe
  rcases yD_cs T (yNb T p) with ⟨e1, e5, e6⟩ | ⟨e1, e4, e5, e6⟩ | ⟨e1, e4, e5, e6⟩
  all_goals omega
theorem yNt_rng (T : Int → Int) (p : Int) (hT : ∀ q, p ≤ q → 0 ≤ T q ∧ T q ≤ 126) (hp : 0 ≤ p) : (yNt T p = -1 ∨ p + 1 ≤ yNt T p ∧ yNt T p ≤ p + 6) ∧ 0 ≤ yNi T p ∧ yNi T p ≤ 1 := by
  have h2 := yN_rng T p hT
  have h3 := yTe_yTk (T (yNe T p)) (T (yNe T p + 1)) (yNe T p)
  constructor
  · unfold yNt
    split
    · rename_i hk
      have := hk.1
      omega
    · exact Or.inl rfl
  · unfold yNi
    split <;> omega
section
variable {V : zVt} {J : zJt} {d : Nat → Nat → UInt64}
theorem sp162 (h : zTx (V 432) (V 431)) {w p : Int} (hw : 0 ≤ w ∧ w < 12) (hp : 0 ≤ p ∧ p < 9000) (hn : 0 ≤ V 430 10 ∧ V 430 10 < 60) : zGo false 162 0 [.ref 430, .int (zi w), .int (zi p), .null, .null, .null, .null, .null, .null, .null] [] (zm V J d) =
    if yNt (zt (V 432) (V 431) w) p = -1 then zI1 (-1) (vup V 430 12 (yNl (zt (V 432) (V 431) w) p (V 430 12))) J d else
      zI1 (yNt (zt (V 432) (V 431) w) p + yNi (zt (V 432) (V 431) w) p) (yIs (vup V 430 12 (yNl (zt (V 432) (V 431) w) p (V 430 12))) (V 430 10) 3 (yNs (zt (V 432) (V 431) w) p) (ySg (zt (V 432) (V 431) w p)) (yNl (zt (V 432) (V 431) w) p (V 430 12)) (yNi (zt (V 432) (V 431) w) p)) J d := by
  have hr := yN_rng (zt (V 432) (V 431) w) p (fun q hq => zt_rng h hw q (by omega))
  rw [sq162a h hw hp, sq162b h hw (a := yNa (zt (V 432) (V 431) w) p) rfl (by omega)]
  rw [show yNa (zt (V 432) (V 431) w) p + yNm (zt (V 432) (V 431) w) (yNa (zt (V 432) (V 431) w) p) = yNb (zt (V 432) (V 431) w) p from rfl]
  rw [sq162c h hw (by omega)]
  rw [show yDe (zt (V 432) (V 431) w) (yNb (zt (V 432) (V 431) w) p) = yNe (zt (V 432) (V 431) w) p from rfl]
  have hm : yNm (zt (V 432) (V 431) w) (yNa (zt (V 432) (V 431) w) p) = 0 ∨ yNm (zt (V 432) (V 431) w) (yNa (zt (V 432) (V 431) w) p) = 1 := by
    unfold yNm
    split <;> omega
  by_cases hk : yNo (zt (V 432) (V 431) w) p
  · rw [sq162d h hw hn (by omega) (by omega) (by omega) hm hk]
    simp only [yNt, yNl, yNi, if_pos hk]
    rfl
  · rw [sq162e (by omega) (by omega) (by omega) hm hk]
    simp only [yNt, yNl, if_neg hk, ↓reduceIte, vup_self]
end
