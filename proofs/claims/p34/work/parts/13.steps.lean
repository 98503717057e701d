/-! part 13: a step of the small machine is a step of the walk -/
section
variable {p : Program} {l : Launch} {e : Env} {R : Room} {s : State} {mid : MethodId} {args : Array Value} {below : List Frame} {meth : Method} {c : Code} {H : Heap} {locs : List Loc} {cells slots pc : Nat} {Q : State → Prop}
variable {b : Nat} {ro : Nat → Nat} {cA : Nat → ClassId} {D : va_G} {al : Bool} {m : zM} {lc : Array Slot} {y : Nat}
variable {ls st : List Value}
theorem z_sz {g : JFrame} (hP : va_P D vwCl (zW b ro cA m) H) (hS : va_S (zA b) s.heap H locs) (hb : b ≤ s.heap.size) (hz : s.heap.size + cells = b + m.2.2.1.1) (k : H.size = b + m.2.2.1.1 → W p l e R s mid args below meth c H locs cells slots Q g) : W p l e R s mid args below meth c H locs cells slots Q g := fun T hT X => k (z_size hT X hP hS hb hz) T hT X
theorem z_push {t n w : Nat} {H1 : Heap} (hP : va_P D vwCl (zW b ro cA m) H) (hS : va_S (zA b) s.heap H locs) (z1 : H1.size = H.size + 1) (o1 : ∀ q, q < H.size → H1[q]? = H[q]?) (he : va_at D vwCl (b + m.2.2.1.1, zE b ro cA (zmk m t n w) m.2.2.1.1) H1) : va_P D vwCl (zW b ro cA (zmk m t n w)) H1 ∧ va_S (zA b) s.heap H1 locs := by
  refine ⟨?_, ⟨Nat.le_trans hS.1 (by omega), fun x h1 h2 => (o1 x (Nat.lt_of_lt_of_le h1 hS.1)).trans (hS.2.1 x h1 h2), hS.2.2⟩⟩
  rw [← zW_mk rfl]
  refine (hP.kept (fun k x hx => o1 x.1 ((hP k x hx).lt))).app (fun k x hx => ?_)
  have hk : k < 1 := (List.getElem?_eq_some_iff.mp hx).1
  rw [show k = 0 by omega] at hx
  cases hx
  exact he
theorem zK.mk {t n w pc1 : Nat} {H1 : Heap} (K : zK p l e R s mid args below meth c cells slots Q b ro cA D y m (pc1, ls, .ref m.2.2.1.1 :: st, zmk m t n w)) (hn : m.2.2.1.1 < 1000000) (hPS : va_P D vwCl (zW b ro cA (zmk m t n w)) H1 ∧ va_S (zA b) s.heap H1 locs) (hL : zL b ro lc (zl y) ls) : W p l e R s mid args below meth c H1 locs (cells + 1) (slots + w) Q (F0 mid pc1 lc (.ref (b + m.2.2.1.1) :: st.map (zcv b ro))) := by
  have h := K H1 locs lc hPS.1 hPS.2 hL
  have e : zad b ro m.2.2.1.1 = b + m.2.2.1.1 := if_pos (by omega)
  simp only [zmk, Nat.add_sub_cancel_left, List.map_cons, zcv, e] at h
  exact h
theorem z_born {c k : Nat} (hf : zfr m) (hc : c < 13) (hk : k < (zCl c).2.2) : defaultValue (zty c k) = zcv b ro (zgetf (zmk m c 0 (zCl c).2.2) m.2.2.1.1 c k) := by
  have h := hf m.2.2.1.1 k (Nat.le_refl _)
  unfold zgetf
  show _ = zcv b ro (if zfk c k = 2 then va_rf (m.2.1 m.2.2.1.1 k) else .int (m.2.2.2.1 m.2.2.1.1 k))
  rw [h.1, h.2.2.2]
  rcases zfk_3 c k with q | q | q
  · rw [zfk_int hc hk q, q]
    rfl
  · rw [zfk_1 q, q]
    rfl
  · rw [if_pos q]
    rcases zfk_2 q with ⟨n, e⟩ | ⟨n, e⟩
    · rw [e]
      rfl
    · rw [e]
      rfl
theorem z_new {cc i : Nat} (hx : p.tables.exec = Jvm.exec) (hb : c.code = zb y) (hts : ∀ w ∈ zGT, w.before args s = true) (hown : s.vm.findClass (zXn (zc y)) = some mid.cls) (hG : zG b ro cA D s) (hz : s.heap.size + cells = b + m.2.2.1.1) (hf : zfr m) (hn : m.2.2.1.1 < 1000000) (hP : va_P D vwCl (zW b ro cA m) H) (hS : va_S (zA b) s.heap H locs) (hL : zL b ro lc (zl y) ls) (hc : cc < 13) (hw : (Cond.classLink (zXn (zc y)) i (zCl cc).1).before args s = true) (hini : (Cond.initialized (zCl cc).1).before args s = true)
    (hcq : cells + ((zmk m cc 0 (zCl cc).2.2).2.2.1.1 - m.2.2.1.1) ≤ R.cells) (hsq : slots + ((zmk m cc 0 (zCl cc).2.2).2.2.1.2 - m.2.2.1.2) ≤ R.slots) (hd : decode (zb y) pc = .ok (.new i, 3)) (K : zK p l e R s mid args below meth c cells slots Q b ro cA D y m (pc + 3, ls, .ref m.2.2.1.1 :: st, zmk m cc 0 (zCl cc).2.2)) : W p l e R s mid args below meth c H locs cells slots Q (F0 mid pc lc (st.map (zcv b ro))) := by
  refine z_sz hP hS hG.2.1 hz (fun hsz => ?_)
  simp only [zmk, Nat.add_sub_cancel_left] at hcq hsq
  have hKn := hG.1.1 cc _ (zcl_at hc)
  refine W.newcK hx hb hown hw (hts _ (zt_in hc)) hini rfl hd hcq hsq hKn.2.1 hsz fun H1 kC hkC e1 z1 o1 => ?_
  refine zK.mk K hn (z_push hP hS (by omega) (fun q hq => o1 q (by omega)) ?_) hL
  rw [zE_obj (m := zmk m cc 0 (zCl cc).2.2) (c := cc) (by simp [zmk]) hc]
  exact ⟨_, zcl_at hc, (u_born (zty cc) hts (zu_in hc) hKn hkC e1 (zcl_ty hc)).to (fun j hj => by
    have hj' : j < (zCl cc).2.2 := hj
    rw [z_born (b := b) (ro := ro) hf hc hj']
    unfold vp_V
    rw [List.getD_eq_getElem?_getD]
    simp [hj'])⟩
theorem z_newa_int (hx : p.tables.exec = Jvm.exec) (hb : c.code = zb y) (hts : ∀ w ∈ zGT, w.before args s = true) (hG : zG b ro cA D s) (hz : s.heap.size + cells = b + m.2.2.1.1) (hf : zfr m) (hn : m.2.2.1.1 < 1000000) (hP : va_P D vwCl (zW b ro cA m) H) (hS : va_S (zA b) s.heap H locs) (hL : zL b ro lc (zl y) ls) {n : Int32} (h0 : ¬ n < 0) (hbig : n.toNatClampNeg ≤ 60000000)
    (hcq : cells + ((zmk m 13 n.toNatClampNeg n.toNatClampNeg).2.2.1.1 - m.2.2.1.1) ≤ R.cells) (hsq : slots + ((zmk m 13 n.toNatClampNeg n.toNatClampNeg).2.2.1.2 - m.2.2.1.2) ≤ R.slots) (hd : decode (zb y) pc = .ok (.newarray .int, 2)) (K : zK p l e R s mid args below meth c cells slots Q b ro cA D y m (pc + 2, ls, .ref m.2.2.1.1 :: st, zmk m 13 n.toNatClampNeg n.toNatClampNeg)) : W p l e R s mid args below meth c H locs cells slots Q (F0 mid pc lc (.int n :: st.map (zcv b ro))) := by
  refine z_sz hP hS hG.2.1 hz (fun hsz => ?_)
  simp only [zmk, Nat.add_sub_cancel_left] at hcq hsq
  refine va_newaK (atype := .int) hx hb (hts _ (zw_a _ (by simp [newarray.typeOf]))) rfl hd rfl h0 rfl (by show _ * componentBytes FieldType.int ≤ _; simp only [componentBytes]; omega) hcq hsq hsz (fun H1 cA' e1 z1 o1 hAr hfc => ?_)
  have hcA : cA' = cA 13 := Option.some.inj (hfc.symm.trans (hG.1.2 0 (cA 13, .int) rfl).2)
  subst hcA
  refine zK.mk K hn (z_push hP hS (by omega) (fun q hq => o1 q (by omega)) ?_) hL
  rw [zE_arr (m := zmk m 13 n.toNatClampNeg n.toNatClampNeg) (t := 13) (by simp [zmk]) (by decide) (by decide)]
  show H1[b + m.2.2.1.1]? = some (vp_cell (cA 13) (_, _))
  rw [vp_cell_i, e1]
  have hz0 : ∀ j, m.2.2.2.1 m.2.2.1.1 j = 0 := fun j => (hf m.2.2.1.1 j (Nat.le_refl _)).1
  have hl : ((zmk m 13 n.toNatClampNeg n.toNatClampNeg).1 m.2.2.1.1).2 = n.toNatClampNeg := by simp [zmk]
  rw [hl]
  show some (arrV (cA 13) n.toNatClampNeg (fun _ => defaultValue .int)) = some (arrV (cA 13) n.toNatClampNeg (fun j => .int (m.2.2.2.1 m.2.2.1.1 j)))
  simp only [hz0]
  rfl
theorem z_newa_boolean (hx : p.tables.exec = Jvm.exec) (hb : c.code = zb y) (hts : ∀ w ∈ zGT, w.before args s = true) (hG : zG b ro cA D s) (hz : s.heap.size + cells = b + m.2.2.1.1) (hf : zfr m) (hn : m.2.2.1.1 < 1000000) (hP : va_P D vwCl (zW b ro cA m) H) (hS : va_S (zA b) s.heap H locs) (hL : zL b ro lc (zl y) ls) {n : Int32} (h0 : ¬ n < 0) (hbig : n.toNatClampNeg ≤ 60000000)
    (hcq : cells + ((zmk m 14 n.toNatClampNeg n.toNatClampNeg).2.2.1.1 - m.2.2.1.1) ≤ R.cells) (hsq : slots + ((zmk m 14 n.toNatClampNeg n.toNatClampNeg).2.2.1.2 - m.2.2.1.2) ≤ R.slots) (hd : decode (zb y) pc = .ok (.newarray .boolean, 2)) (K : zK p l e R s mid args below meth c cells slots Q b ro cA D y m (pc + 2, ls, .ref m.2.2.1.1 :: st, zmk m 14 n.toNatClampNeg n.toNatClampNeg)) : W p l e R s mid args below meth c H locs cells slots Q (F0 mid pc lc (.int n :: st.map (zcv b ro))) := by
  refine z_sz hP hS hG.2.1 hz (fun hsz => ?_)
  simp only [zmk, Nat.add_sub_cancel_left] at hcq hsq
  refine va_newaK (atype := .boolean) hx hb (hts _ (zw_a _ (by simp [newarray.typeOf]))) rfl hd rfl h0 rfl (by show _ * componentBytes FieldType.boolean ≤ _; simp only [componentBytes]; omega) hcq hsq hsz (fun H1 cA' e1 z1 o1 hAr hfc => ?_)
  have hcA : cA' = cA 14 := Option.some.inj (hfc.symm.trans (hG.1.2 1 (cA 14, .boolean) rfl).2)
  subst hcA
  refine zK.mk K hn (z_push hP hS (by omega) (fun q hq => o1 q (by omega)) ?_) hL
  rw [zE_arr (m := zmk m 14 n.toNatClampNeg n.toNatClampNeg) (t := 14) (by simp [zmk]) (by decide) (by decide)]
  show H1[b + m.2.2.1.1]? = some (vp_cell (cA 14) (_, _))
  rw [vp_cell_i, e1]
  have hz0 : ∀ j, m.2.2.2.1 m.2.2.1.1 j = 0 := fun j => (hf m.2.2.1.1 j (Nat.le_refl _)).1
  have hl : ((zmk m 14 n.toNatClampNeg n.toNatClampNeg).1 m.2.2.1.1).2 = n.toNatClampNeg := by simp [zmk]
  rw [hl]
  show some (arrV (cA 14) n.toNatClampNeg (fun _ => defaultValue .boolean)) = some (arrV (cA 14) n.toNatClampNeg (fun j => .int (m.2.2.2.1 m.2.2.1.1 j)))
  simp only [hz0]
  rfl
theorem z_newa_char (hx : p.tables.exec = Jvm.exec) (hb : c.code = zb y) (hts : ∀ w ∈ zGT, w.before args s = true) (hG : zG b ro cA D s) (hz : s.heap.size + cells = b + m.2.2.1.1) (hf : zfr m) (hn : m.2.2.1.1 < 1000000) (hP : va_P D vwCl (zW b ro cA m) H) (hS : va_S (zA b) s.heap H locs) (hL : zL b ro lc (zl y) ls) {n : Int32} (h0 : ¬ n < 0) (hbig : n.toNatClampNeg ≤ 60000000)
    (hcq : cells + ((zmk m 15 n.toNatClampNeg n.toNatClampNeg).2.2.1.1 - m.2.2.1.1) ≤ R.cells) (hsq : slots + ((zmk m 15 n.toNatClampNeg n.toNatClampNeg).2.2.1.2 - m.2.2.1.2) ≤ R.slots) (hd : decode (zb y) pc = .ok (.newarray .char, 2)) (K : zK p l e R s mid args below meth c cells slots Q b ro cA D y m (pc + 2, ls, .ref m.2.2.1.1 :: st, zmk m 15 n.toNatClampNeg n.toNatClampNeg)) : W p l e R s mid args below meth c H locs cells slots Q (F0 mid pc lc (.int n :: st.map (zcv b ro))) := by
  refine z_sz hP hS hG.2.1 hz (fun hsz => ?_)
  simp only [zmk, Nat.add_sub_cancel_left] at hcq hsq
  refine va_newaK (atype := .char) hx hb (hts _ (zw_a _ (by simp [newarray.typeOf]))) rfl hd rfl h0 rfl (by show _ * componentBytes FieldType.char ≤ _; simp only [componentBytes]; omega) hcq hsq hsz (fun H1 cA' e1 z1 o1 hAr hfc => ?_)
  have hcA : cA' = cA 15 := Option.some.inj (hfc.symm.trans (hG.1.2 2 (cA 15, .char) rfl).2)
  subst hcA
  refine zK.mk K hn (z_push hP hS (by omega) (fun q hq => o1 q (by omega)) ?_) hL
  rw [zE_arr (m := zmk m 15 n.toNatClampNeg n.toNatClampNeg) (t := 15) (by simp [zmk]) (by decide) (by decide)]
  show H1[b + m.2.2.1.1]? = some (vp_cell (cA 15) (_, _))
  rw [vp_cell_i, e1]
  have hz0 : ∀ j, m.2.2.2.1 m.2.2.1.1 j = 0 := fun j => (hf m.2.2.1.1 j (Nat.le_refl _)).1
  have hl : ((zmk m 15 n.toNatClampNeg n.toNatClampNeg).1 m.2.2.1.1).2 = n.toNatClampNeg := by simp [zmk]
  rw [hl]
  show some (arrV (cA 15) n.toNatClampNeg (fun _ => defaultValue .char)) = some (arrV (cA 15) n.toNatClampNeg (fun j => .int (m.2.2.2.1 m.2.2.1.1 j)))
  simp only [hz0]
  rfl
theorem z_newa_long (hx : p.tables.exec = Jvm.exec) (hb : c.code = zb y) (hts : ∀ w ∈ zGT, w.before args s = true) (hG : zG b ro cA D s) (hz : s.heap.size + cells = b + m.2.2.1.1) (hf : zfr m) (hn : m.2.2.1.1 < 1000000) (hP : va_P D vwCl (zW b ro cA m) H) (hS : va_S (zA b) s.heap H locs) (hL : zL b ro lc (zl y) ls) {n : Int32} (h0 : ¬ n < 0) (hbig : n.toNatClampNeg ≤ 60000000)
    (hcq : cells + ((zmk m 16 n.toNatClampNeg n.toNatClampNeg).2.2.1.1 - m.2.2.1.1) ≤ R.cells) (hsq : slots + ((zmk m 16 n.toNatClampNeg n.toNatClampNeg).2.2.1.2 - m.2.2.1.2) ≤ R.slots) (hd : decode (zb y) pc = .ok (.newarray .long, 2)) (K : zK p l e R s mid args below meth c cells slots Q b ro cA D y m (pc + 2, ls, .ref m.2.2.1.1 :: st, zmk m 16 n.toNatClampNeg n.toNatClampNeg)) : W p l e R s mid args below meth c H locs cells slots Q (F0 mid pc lc (.int n :: st.map (zcv b ro))) := by
  refine z_sz hP hS hG.2.1 hz (fun hsz => ?_)
  simp only [zmk, Nat.add_sub_cancel_left] at hcq hsq
  refine va_newaK (atype := .long) hx hb (hts _ (zw_a _ (by simp [newarray.typeOf]))) rfl hd rfl h0 rfl (by show _ * componentBytes FieldType.long ≤ _; simp only [componentBytes]; omega) hcq hsq hsz (fun H1 cA' e1 z1 o1 hAr hfc => ?_)
  have hcA : cA' = cA 16 := Option.some.inj (hfc.symm.trans (hG.1.2 3 (cA 16, .long) rfl).2)
  subst hcA
  refine zK.mk K hn (z_push hP hS (by omega) (fun q hq => o1 q (by omega)) ?_) hL
  rw [zE_arrJ (m := zmk m 16 n.toNatClampNeg n.toNatClampNeg) (by simp [zmk])]
  show H1[b + m.2.2.1.1]? = some (vp_cell (cA 16) (_, _))
  rw [vp_cell_l, e1]
  have hz0 : ∀ j, m.2.2.2.2.1 m.2.2.1.1 j = 0 := fun j => (hf m.2.2.1.1 j (Nat.le_refl _)).2.1
  have hl : ((zmk m 16 n.toNatClampNeg n.toNatClampNeg).1 m.2.2.1.1).2 = n.toNatClampNeg := by simp [zmk]
  rw [hl]
  show some (arrV (cA 16) n.toNatClampNeg (fun _ => defaultValue .long)) = some (arrV (cA 16) n.toNatClampNeg (fun j => .long (m.2.2.2.2.1 m.2.2.1.1 j)))
  simp only [hz0]
  rfl
theorem z_newq_6 {i : Nat} (hx : p.tables.exec = Jvm.exec) (hb : c.code = zb y) (hown : s.vm.findClass (zXn (zc y)) = some mid.cls) (hG : zG b ro cA D s) (hz : s.heap.size + cells = b + m.2.2.1.1) (hf : zfr m) (hn : m.2.2.1.1 < 1000000) (hP : va_P D vwCl (zW b ro cA m) H) (hS : va_S (zA b) s.heap H locs) (hL : zL b ro lc (zl y) ls) (hw : (Cond.classLink (zXn (zc y)) i RX6).before args s = true) {n : Int32} (h0 : ¬ n < 0) (hbig : n.toNatClampNeg ≤ 60000000)
    (hcq : cells + ((zmk m 18 n.toNatClampNeg n.toNatClampNeg).2.2.1.1 - m.2.2.1.1) ≤ R.cells) (hsq : slots + ((zmk m 18 n.toNatClampNeg n.toNatClampNeg).2.2.1.2 - m.2.2.1.2) ≤ R.slots) (hd : decode (zb y) pc = .ok (.anewarray i, 3)) (K : zK p l e R s mid args below meth c cells slots Q b ro cA D y m (pc + 3, ls, .ref m.2.2.1.1 :: st, zmk m 18 n.toNatClampNeg n.toNatClampNeg)) : W p l e R s mid args below meth c H locs cells slots Q (F0 mid pc lc (.int n :: st.map (zcv b ro))) := by
  refine z_sz hP hS hG.2.1 hz (fun hsz => ?_)
  simp only [zmk, Nat.add_sub_cancel_left] at hcq hsq
  refine W.anew hx hb hown hw (va_AO.use hG.2.2.2.2.2.2.2.1) rfl hd rfl h0 (by omega) hcq hsq fun cA' kA comp f1 f2 f3 f4 => ?_
  obtain ⟨kA', comp', -, -, -, g4⟩ := (hG.1.2 5 (cA 18, .object RX6) rfl).2
  have hcA : cA' = cA 18 := Option.some.inj (f1.symm.trans g4)
  subst hcA
  generalize hH1 : H.push ({ cls := cA 18, slots := Array.replicate n.toNatClampNeg .null, vm := .none } : Cell) = H1
  have z1 : H1.size = H.size + 1 := by rw [← hH1, Array.size_push]
  have e1 : H1[H.size]? = some (arrV (cA 18) n.toNatClampNeg (fun _ => .null)) := by rw [← hH1, Array.getElem?_push_size, ← arrV_new]
  have o1 : ∀ q : Nat, q < H.size → H1[q]? = H[q]? := fun q hq => by rw [← hH1, Array.getElem?_push, if_neg (Nat.ne_of_lt hq)]
  rw [hsz] at e1 ⊢
  refine zK.mk K hn (z_push hP hS z1 o1 ?_) hL
  rw [zE_arrR (m := zmk m 18 n.toNatClampNeg n.toNatClampNeg) (t := 18) (by simp [zmk]) (by decide)]
  show H1[b + m.2.2.1.1]? = some (vp_cell (cA 18) (_, _))
  rw [vp_cell_q, e1]
  have hz0 : ∀ j, m.2.1 m.2.2.1.1 j = none := fun j => (hf m.2.2.1.1 j (Nat.le_refl _)).2.2.2
  have hl : ((zmk m 18 n.toNatClampNeg n.toNatClampNeg).1 m.2.2.1.1).2 = n.toNatClampNeg := by simp [zmk]
  rw [hl]
  show some (arrV (cA 18) n.toNatClampNeg (fun _ => .null)) = some (arrV (cA 18) n.toNatClampNeg (fun j => va_rf ((m.2.1 m.2.2.1.1 j).map (zad b ro))))
  simp only [hz0]
  rfl
theorem z_newq_0 {i : Nat} (hx : p.tables.exec = Jvm.exec) (hb : c.code = zb y) (hown : s.vm.findClass (zXn (zc y)) = some mid.cls) (hG : zG b ro cA D s) (hz : s.heap.size + cells = b + m.2.2.1.1) (hf : zfr m) (hn : m.2.2.1.1 < 1000000) (hP : va_P D vwCl (zW b ro cA m) H) (hS : va_S (zA b) s.heap H locs) (hL : zL b ro lc (zl y) ls) (hw : (Cond.classLink (zXn (zc y)) i RX0).before args s = true) {n : Int32} (h0 : ¬ n < 0) (hbig : n.toNatClampNeg ≤ 60000000)
    (hcq : cells + ((zmk m 19 n.toNatClampNeg n.toNatClampNeg).2.2.1.1 - m.2.2.1.1) ≤ R.cells) (hsq : slots + ((zmk m 19 n.toNatClampNeg n.toNatClampNeg).2.2.1.2 - m.2.2.1.2) ≤ R.slots) (hd : decode (zb y) pc = .ok (.anewarray i, 3)) (K : zK p l e R s mid args below meth c cells slots Q b ro cA D y m (pc + 3, ls, .ref m.2.2.1.1 :: st, zmk m 19 n.toNatClampNeg n.toNatClampNeg)) : W p l e R s mid args below meth c H locs cells slots Q (F0 mid pc lc (.int n :: st.map (zcv b ro))) := by
  refine z_sz hP hS hG.2.1 hz (fun hsz => ?_)
  simp only [zmk, Nat.add_sub_cancel_left] at hcq hsq
  refine W.anew hx hb hown hw (va_AO.use hG.2.2.2.2.2.2.2.2) rfl hd rfl h0 (by omega) hcq hsq fun cA' kA comp f1 f2 f3 f4 => ?_
  obtain ⟨kA', comp', -, -, -, g4⟩ := (hG.1.2 6 (cA 19, .object RX0) rfl).2
  have hcA : cA' = cA 19 := Option.some.inj (f1.symm.trans g4)
  subst hcA
  generalize hH1 : H.push ({ cls := cA 19, slots := Array.replicate n.toNatClampNeg .null, vm := .none } : Cell) = H1
  have z1 : H1.size = H.size + 1 := by rw [← hH1, Array.size_push]
  have e1 : H1[H.size]? = some (arrV (cA 19) n.toNatClampNeg (fun _ => .null)) := by rw [← hH1, Array.getElem?_push_size, ← arrV_new]
  have o1 : ∀ q : Nat, q < H.size → H1[q]? = H[q]? := fun q hq => by rw [← hH1, Array.getElem?_push, if_neg (Nat.ne_of_lt hq)]
  rw [hsz] at e1 ⊢
  refine zK.mk K hn (z_push hP hS z1 o1 ?_) hL
  rw [zE_arrR (m := zmk m 19 n.toNatClampNeg n.toNatClampNeg) (t := 19) (by simp [zmk]) (by decide)]
  show H1[b + m.2.2.1.1]? = some (vp_cell (cA 19) (_, _))
  rw [vp_cell_q, e1]
  have hz0 : ∀ j, m.2.1 m.2.2.1.1 j = none := fun j => (hf m.2.2.1.1 j (Nat.le_refl _)).2.2.2
  have hl : ((zmk m 19 n.toNatClampNeg n.toNatClampNeg).1 m.2.2.1.1).2 = n.toNatClampNeg := by simp [zmk]
  rw [hl]
  show some (arrV (cA 19) n.toNatClampNeg (fun _ => .null)) = some (arrV (cA 19) n.toNatClampNeg (fun j => va_rf ((m.2.1 m.2.2.1.1 j).map (zad b ro))))
  simp only [hz0]
  rfl
theorem zinit {cc : Nat} (hts : ∀ w ∈ zGT, w.before args s = true) (hc : cc < 13) : (Cond.initialized (zCl cc).1).before args s = true := by
  have h := hts _ (zi_in (k := cc) (by omega))
  rwa [show zXn cc = (zCl cc).1 from (by rcases (show cc = 0 ∨ cc = 1 ∨ cc = 2 ∨ cc = 3 ∨ cc = 4 ∨ cc = 5 ∨ cc = 6 ∨ cc = 7 ∨ cc = 8 ∨ cc = 9 ∨ cc = 10 ∨ cc = 11 ∨ cc = 12 by omega) with rfl | rfl | rfl | rfl | rfl | rfl | rfl | rfl | rfl | rfl | rfl | rfl | rfl <;> rfl)] at h
set_option maxHeartbeats 20000000 in
set_option maxRecDepth 4000 in
theorem zstep_next {ins : Instr} {len : Nat} {q : Nat × List Value × List Value × zM} (hx : p.tables.exec = Jvm.exec) (hb : c.code = zb y) (hml : c.maxLocals = zl y) (hown : s.vm.findClass (zXn (zc y)) = some mid.cls) (hts : ∀ w ∈ zGT, w.before args s = true) (hin : zk y = 2 → meth.name = "<init>") (hG : zG b ro cA D s) (hm : zwf m) (hfr : al = true → zfr m) (hz : al = true → s.heap.size + cells = b + m.2.2.1.1)
    (hRf : zf y ≤ R.frames) (hRl : zw y ≤ R.locals) (hcq : cells + (q.2.2.2.2.2.1.1 - m.2.2.1.1) ≤ R.cells) (hsq : slots + (q.2.2.2.2.2.1.2 - m.2.2.1.2) ≤ R.slots) (hP : va_P D vwCl (zW b ro cA m) H) (hS : va_S (zA b) s.heap H locs) (hL : zL b ro lc (zl y) ls) (hd : decode (zb y) pc = .ok (ins, zlen ins len))
    (h : zstep al y ins pc ls st m = some (.inl q)) (K : zK p l e R s mid args below meth c cells slots Q b ro cA D y m q) : W p l e R s mid args below meth c H locs cells slots Q (F0 mid pc lc (st.map (zcv b ro))) := by
  have hDD : va_D (zA b) (zW b ro cA m) := zW_D (zA b) (fun _ q => q)
  unfold zstep at h
  split at h
  · rename_i n st
    obtain ⟨x, e, h⟩ := z_bind h
    cases h
    exact lv_aload_n hx hb hd rfl (zldr_at hL e) (K.sm rfl hP hS hL)
  · rename_i n st
    obtain ⟨x, e, h⟩ := z_bind h
    cases h
    exact lv_aload hx hb hd (zldr_at hL e) (K.sm rfl hP hS hL)
  · rename_i n st
    obtain ⟨x, e, h⟩ := z_bind h
    cases h
    exact lv_iload_n hx hb hd rfl (zld1_at hL e).2 (K.sm rfl hP hS hL)
  · rename_i n st
    obtain ⟨x, e, h⟩ := z_bind h
    cases h
    exact lv_iload hx hb hd (zld1_at hL e).2 (K.sm rfl hP hS hL)
  · rename_i n st
    obtain ⟨x, e, h⟩ := z_bind h
    cases h
    exact lv_lload_n hx hb hd rfl (zldl_at hL e) (K.sm rfl hP hS hL)
  · rename_i n st
    obtain ⟨x, e, h⟩ := z_bind h
    cases h
    exact lv_lload hx hb hd (zldl_at hL e) (K.sm rfl hP hS hL)
  · rename_i n st
    obtain ⟨x, e, h⟩ := z_bind h
    cases h
    exact lv_fload hx hb hd (zldf_at hL e) (K.sm rfl hP hS hL)
  · rename_i n x st
    obtain ⟨l1, e, h⟩ := z_bind h
    cases h
    exact lv_istore_n hx hb hd rfl hL.has (by have := zst1_lt e; rw [hL.1] at this; exact this) rfl (fun ls2 h2 => K.sm rfl hP hS (hL.st1 e h2))
  · rename_i n x st
    obtain ⟨l1, e, h⟩ := z_bind h
    cases h
    exact lv_istore hx hb hd hL.has (by have := zst1_lt e; rw [hL.1] at this; exact this) rfl (fun ls2 h2 => K.sm rfl hP hS (hL.st1 e h2))
  · rename_i n x st
    obtain ⟨l1, e, h⟩ := z_bind h
    cases h
    exact lv_astore_n hx hb hd rfl hL.has (by have := zst1_lt e; rw [hL.1] at this; exact this) rfl (fun ls2 h2 => K.sm rfl hP hS (hL.st1 e h2))
  · rename_i n x st
    obtain ⟨l1, e, h⟩ := z_bind h
    cases h
    exact lv_astore hx hb hd hL.has (by have := zst1_lt e; rw [hL.1] at this; exact this) rfl (fun ls2 h2 => K.sm rfl hP hS (hL.st1 e h2))
  · rename_i n x st
    obtain ⟨l1, e, h⟩ := z_bind h
    cases h
    exact lv_lstore_n hx hb hd rfl hL.has (by have := zst2_lt e; rw [hL.1] at this; exact this) rfl (fun ls2 h2 => K.sm rfl hP hS (hL.st2 e h2))
  · rename_i n x st
    obtain ⟨l1, e, h⟩ := z_bind h
    cases h
    exact lv_lstore hx hb hd hL.has (by have := zst2_lt e; rw [hL.1] at this; exact this) rfl (fun ls2 h2 => K.sm rfl hP hS (hL.st2 e h2))
  · rename_i n x st
    obtain ⟨l1, e, h⟩ := z_bind h
    cases h
    exact lv_fstore hx hb hd hL.has (by have := zst1_lt e; rw [hL.1] at this; exact this) rfl (fun ls2 h2 => K.sm rfl hP hS (hL.st1 e h2))
  · rename_i st n k
    obtain ⟨x, e0, h⟩ := z_bind h
    obtain ⟨l1, e, h⟩ := z_bind h
    cases h
    have h0 : lv_has lc (zl y) ((n, .int x) :: zal b ro ls) := ⟨hL.2.1, hL.2.2.1, fun q hq => by
      rcases List.mem_cons.mp hq with rfl | hq
      · exact (zld1_at hL e0).2
      · exact hL.has.2.2 q hq⟩
    exact lv_iinc hx hb hd h0 (k := 0) rfl rfl (by have := zst1_lt e; rw [hL.1] at this; exact this) rfl (fun ls2 h2 => K.sm rfl hP hS (hL.st1 e (by rw [List.filter_cons_of_neg (by simp)] at h2; exact h2)))
  · rename_i n st
    cases h
    exact lv_iconst hx hb hd rfl (K.sm rfl hP hS hL)
  · rename_i n st
    cases h
    exact lv_bipush hx hb hd rfl (K.sm rfl hP hS hL)
  · rename_i n st
    cases h
    exact lv_sipush hx hb hd rfl (K.sm rfl hP hS hL)
  · rename_i n st
    cases h
    exact lv_lconst hx hb hd rfl (K.sm rfl hP hS hL)
  · rename_i st
    cases h
    exact lv_fconst0 hx hb hd (K.sm rfl hP hS hL)
  · rename_i i st
    split at h
    · rename_i v w e
      cases h
      exact lv_ldc hx hb hown (hts _ (zp_in e (by simp) (by simp))) hd (K.sm rfl hP hS hL)
    · rename_i v w e
      cases h
      exact lv_ldcf hx hb hown (hts _ (zp_in e (by simp) (by simp))) hd (K.sm rfl hP hS hL)
    · cases h
  · rename_i i st
    split at h
    · rename_i v w e
      cases h
      exact lv_ldcw hx hb hown (hts _ (zp_in e (by simp) (by simp))) hd (K.sm rfl hP hS hL)
    · rename_i v w e
      cases h
      exact z_ldcwf hx hb hown (hts _ (zp_in e (by simp) (by simp))) hd (K.sm rfl hP hS hL)
    · cases h
  · rename_i i st
    split at h
    · rename_i v w e
      cases h
      exact lv_ldc2 hx hb hown (hts _ (zp_in e (by simp) (by simp))) hd (K.sm rfl hP hS hL)
    · cases h
  · rename_i y2 x st
    cases h
    exact lv_iadd hx hb hd (K.sm rfl hP hS hL)
  · rename_i y2 x st
    cases h
    exact lv_isub hx hb hd (K.sm rfl hP hS hL)
  · rename_i y2 x st
    cases h
    exact lv_imul hx hb hd (K.sm rfl hP hS hL)
  · rename_i y2 x st
    obtain ⟨hne, h⟩ := z_ok h
    cases h
    exact lv_idiv hx hb hd hne (K.sm rfl hP hS hL)
  · rename_i y2 x st
    obtain ⟨hne, h⟩ := z_ok h
    cases h
    exact lv_irem hx hb hd hne (K.sm rfl hP hS hL)
  · rename_i x st
    cases h
    exact lv_ineg hx hb hd (K.sm rfl hP hS hL)
  · rename_i y2 x st
    cases h
    exact lv_iand hx hb hd (K.sm rfl hP hS hL)
  · rename_i y2 x st
    cases h
    exact lv_ior hx hb hd (K.sm rfl hP hS hL)
  · rename_i y2 x st
    cases h
    exact lv_ixor hx hb hd (K.sm rfl hP hS hL)
  · rename_i y2 x st
    cases h
    exact lv_ishl hx hb hd (K.sm rfl hP hS hL)
  · rename_i y2 x st
    cases h
    exact lv_ishr hx hb hd (K.sm rfl hP hS hL)
  · rename_i y2 x st
    cases h
    exact lv_iushr hx hb hd rfl (K.sm rfl hP hS hL)
  · rename_i y2 x st
    cases h
    exact lv_ladd hx hb hd (K.sm rfl hP hS hL)
  · rename_i y2 x st
    cases h
    exact lv_lmul hx hb hd (K.sm rfl hP hS hL)
  · rename_i y2 x st
    cases h
    exact lv_land hx hb hd (K.sm rfl hP hS hL)
  · rename_i y2 x st
    cases h
    exact lv_lor hx hb hd (K.sm rfl hP hS hL)
  · rename_i y2 x st
    cases h
    exact lv_lshl hx hb hd rfl (K.sm rfl hP hS hL)
  · rename_i y2 x st
    cases h
    exact lv_lshr hx hb hd rfl (K.sm rfl hP hS hL)
  · rename_i y2 x st
    cases h
    exact lv_lushr hx hb hd rfl (K.sm rfl hP hS hL)
  · rename_i y2 x st
    cases h
    exact W.lcmp hx hb hd (K.sm rfl hP hS hL)
  · rename_i x st
    cases h
    exact lv_i2l hx hb hd rfl (K.sm rfl hP hS hL)
  · rename_i x st
    cases h
    exact lv_l2i hx hb hd rfl (K.sm rfl hP hS hL)
  · rename_i x st
    cases h
    exact lv_i2c hx hb hd rfl (K.sm rfl hP hS hL)
  · rename_i x st
    cases h
    exact lv_i2f hx hb hd (K.sm rfl hP hS hL)
  · rename_i y2 x st
    obtain ⟨hne, h⟩ := z_ok h
    cases h
    exact lv_fmul hx hb hd hne (K.sm rfl hP hS hL)
  · rename_i y2 x st
    obtain ⟨hne, h⟩ := z_ok h
    cases h
    exact lv_fdiv hx hb hd hne (K.sm rfl hP hS hL)
  · rename_i x st
    obtain ⟨h1, h⟩ := z_ok h
    cases h
    exact lv_dup hx hb hd ((zcv_cat x).trans h1) (K.sm rfl hP hS hL)
  · rename_i x x2 st
    obtain ⟨h1, h⟩ := z_ok h
    cases h
    exact lv_dup2_11 hx hb hd ((zcv_cat x).trans h1.1) ((zcv_cat x2).trans h1.2) (K.sm rfl hP hS hL)
  · rename_i x st
    obtain ⟨h1, h⟩ := z_ok h
    cases h
    exact lv_pop hx hb hd ((zcv_cat x).trans h1) (K.sm rfl hP hS hL)
  · rename_i off st
    obtain ⟨t, e, h⟩ := z_bind h
    cases h
    exact lv_goto hx hb hd (z_j e) (K.sm rfl hP hS hL)
  · rename_i off x st
    obtain ⟨t, ht, h1, h2⟩ := z_br h
    refine lv_if_eq hx hb hd ht (fun hc => ?_) (fun hc => ?_)
    · cases h1 hc
      exact (K.sm rfl hP hS hL)
    · cases h2 hc
      exact (K.sm rfl hP hS hL)
  · rename_i off x st
    obtain ⟨t, ht, h1, h2⟩ := z_br h
    refine lv_if_ne hx hb hd ht (fun hc => ?_) (fun hc => ?_)
    · cases h1 hc
      exact (K.sm rfl hP hS hL)
    · cases h2 (fun q => q hc)
      exact (K.sm rfl hP hS hL)
  · rename_i off x st
    obtain ⟨t, ht, h1, h2⟩ := z_br h
    refine lv_if_lt hx hb hd ht (fun hc => ?_) (fun hc => ?_)
    · cases h1 hc
      exact (K.sm rfl hP hS hL)
    · cases h2 hc
      exact (K.sm rfl hP hS hL)
  · rename_i off x st
    obtain ⟨t, ht, h1, h2⟩ := z_br h
    refine lv_if_ge hx hb hd ht (fun hc => ?_) (fun hc => ?_)
    · cases h1 hc
      exact (K.sm rfl hP hS hL)
    · cases h2 hc
      exact (K.sm rfl hP hS hL)
  · rename_i off x st
    obtain ⟨t, ht, h1, h2⟩ := z_br h
    refine lv_if_gt hx hb hd ht (fun hc => ?_) (fun hc => ?_)
    · cases h1 hc
      exact (K.sm rfl hP hS hL)
    · cases h2 hc
      exact (K.sm rfl hP hS hL)
  · rename_i off x st
    obtain ⟨t, ht, h1, h2⟩ := z_br h
    refine lv_if_le hx hb hd ht (fun hc => ?_) (fun hc => ?_)
    · cases h1 hc
      exact (K.sm rfl hP hS hL)
    · cases h2 hc
      exact (K.sm rfl hP hS hL)
  · rename_i off y2 x st
    obtain ⟨t, ht, h1, h2⟩ := z_br h
    refine lv_icmp_eq hx hb hd ht (fun hc => ?_) (fun hc => ?_)
    · cases h1 hc
      exact (K.sm rfl hP hS hL)
    · cases h2 hc
      exact (K.sm rfl hP hS hL)
  · rename_i off y2 x st
    obtain ⟨t, ht, h1, h2⟩ := z_br h
    refine lv_icmp_ne hx hb hd ht (fun hc => ?_) (fun hc => ?_)
    · cases h1 hc
      exact (K.sm rfl hP hS hL)
    · cases h2 (fun q => q hc)
      exact (K.sm rfl hP hS hL)
  · rename_i off y2 x st
    obtain ⟨t, ht, h1, h2⟩ := z_br h
    refine lv_icmp_lt hx hb hd ht (fun hc => ?_) (fun hc => ?_)
    · cases h1 hc
      exact (K.sm rfl hP hS hL)
    · cases h2 hc
      exact (K.sm rfl hP hS hL)
  · rename_i off y2 x st
    obtain ⟨t, ht, h1, h2⟩ := z_br h
    refine lv_icmp_ge hx hb hd ht (fun hc => ?_) (fun hc => ?_)
    · cases h1 hc
      exact (K.sm rfl hP hS hL)
    · cases h2 hc
      exact (K.sm rfl hP hS hL)
  · rename_i off y2 x st
    obtain ⟨t, ht, h1, h2⟩ := z_br h
    refine lv_icmp_gt hx hb hd ht (fun hc => ?_) (fun hc => ?_)
    · cases h1 hc
      exact (K.sm rfl hP hS hL)
    · cases h2 hc
      exact (K.sm rfl hP hS hL)
  · rename_i off y2 x st
    obtain ⟨t, ht, h1, h2⟩ := z_br h
    refine lv_icmp_le hx hb hd ht (fun hc => ?_) (fun hc => ?_)
    · cases h1 hc
      exact (K.sm rfl hP hS hL)
    · cases h2 hc
      exact (K.sm rfl hP hS hL)
  · rename_i d lo hi offs x st
    split at h
    · rename_i hc
      obtain ⟨t, e, h⟩ := z_bind h
      cases h
      exact lv_tableOut hx hb hd hc (z_j e) (K.sm rfl hP hS hL)
    · rename_i hc
      split at h
      · rename_i off eo
        obtain ⟨t, e, h⟩ := z_bind h
        cases h
        exact lv_tableIn hx hb hd (fun q => hc (Or.inl q)) (fun q => hc (Or.inr q)) eo (z_j e) (K.sm rfl hP hS hL)
      · cases h
  · rename_i d ps x st
    obtain ⟨hc, h⟩ := z_ok h
    obtain ⟨t, e, h⟩ := z_bind h
    cases h
    exact lv_lookup hx hb hd hc rfl (z_j e) (K.sm rfl hP hS hL)
  · rename_i i o st
    split at h
    · rename_i cc k e
      obtain ⟨⟨ht, hc, hk⟩, h⟩ := z_ok h
      cases h
      have hlt := hm.in_ ht (by omega)
      have e1 := hm.ad b ro ht (by omega)
      simp only [List.map_cons, zcv, e1]
      exact va_get hx hb hts (zu_in hc) hown hG.1 hP o (by rw [zW_at hlt, zE_obj ht hc]) (zcl_at hc) k hk (hts _ (zp_in e (by simp) (by simp))) (fun _ q => q) (v := zcv b ro (zgetf m o cc k)) (by simp [hk]) hd (K.sm rfl hP hS hL)
    · cases h
  · rename_i i x o st
    split at h
    · rename_i cc k e
      obtain ⟨⟨ht, hc, hk, hf, hfin⟩, h⟩ := z_ok h
      cases h
      have hlt := hm.in_ ht (by omega)
      have e1 := hm.ad b ro ht (by omega)
      have hf2 : ¬ zfk cc k = 2 := by omega
      simp only [List.map_cons, zcv, e1]
      exact va_put hx hb hts (zu_in hc) (zty cc) (zcl_ty hc) (zcl_nm hc) hown hG.1 hP hDD hS o (by rw [zW_at hlt, zE_obj ht hc]) (zcl_at hc) k hk (hts _ (zp_in e (by simp) (by simp))) (fun _ q => q) hfin (zcl_ty hc k hk) (z_narI hc hk hf).1 (z_narI hc hk hf).2 (by simp [hk]) hd (fun H1 locs1 hP1 _ hS1 => K.sm rfl (by rw [zW_set (m1 := zsI m o k x) hlt rfl (zE_objI ht hc hk hf2) (fun i hi => zE_I hi)] at hP1; exact hP1) hS1 hL)
    · cases h
  · rename_i i v o st
    split at h
    · rename_i cc k e
      obtain ⟨⟨ht, hc, hk, hf, hfin, hk2, hcc⟩, h⟩ := z_ok h
      cases h
      have hlt := hm.in_ ht (by omega)
      have e1 := hm.ad b ro ht (by omega)
      simp only [List.map_cons, zcv, e1]
      exact va_putF hx hb hts (zu_in hc) (zty cc) (zcl_ty hc) (zcl_nm hc) hown hG.1 hP hDD hS o (by rw [zW_at hlt, zE_obj ht hc]) (zcl_at hc) k hk (hts _ (zp_in e (by simp) (by simp))) (fun _ q => q) hfin (hin hk2) (by rw [zfk_own hc hk, hcc]) (zcl_ty hc k hk) (z_narR hf).1 (z_narR hf).2 (by simp [hk]) hd (fun H1 locs1 hP1 _ hS1 => K.sm rfl (by rw [zW_set (m1 := zsR m o k (some v)) hlt rfl (zE_objR ht hc hk hf) (fun i hi => zE_R hi)] at hP1; exact hP1) hS1 hL)
    · cases h
  · rename_i i st
    split at h
    · rename_i w e
      cases h
      exact va_gets hx hb hG.2.2.1.1 hS hown (hts _ (zp_in e (by simp) (by simp))) (fun _ q => q) hd (by have q := (K.sm rfl hP hS hL); simp only [List.map_cons, zcv, zad_tab0] at q; exact q)
    · rename_i w e
      cases h
      exact va_gets hx hb hG.2.2.2.1.1 hS hown (hts _ (zp_in e (by simp) (by simp))) (fun _ q => q) hd (by have q := (K.sm rfl hP hS hL); simp only [List.map_cons, zcv, zad_tab1] at q; exact q)
    · cases h
  · rename_i o st
    obtain ⟨⟨h13, h23⟩, h⟩ := z_ok h
    cases h
    rcases Nat.lt_or_ge (m.1 o).1 20 with h20 | h20
    · have hlt := hm.in_ rfl h20
      have e1 := hm.ad b ro rfl h20
      obtain ⟨xx, ex⟩ := zE_inl (b := b) (ro := ro) (cA := cA) (m := m) (o := o) rfl h13
      obtain ⟨ty, ety⟩ := zTys_at (cA := cA) h13 h20
      simp only [List.map_cons, zcv, e1]
      exact va_alen (x := ((m.1 o).2, xx)) hx hb hG.1 hP o ((m.1 o).1 - 13) (by rw [zW_at hlt, ex]) ety rfl hd (K.sm rfl hP hS hL)
    · rcases hm.tab rfl h20 (by omega) with ⟨ho, hs⟩ | ⟨ho, hs⟩
      · subst ho
        rw [hs] at K
        simp only [List.map_cons, zcv, zad_tab0]
        exact va_tlen hx hb hG.2.2.1.2 hS rfl hd (K.sm rfl hP hS hL)
      · subst ho
        rw [hs] at K
        simp only [List.map_cons, zcv, zad_tab1]
        exact va_tlen hx hb hG.2.2.2.1.2 hS rfl hd (K.sm rfl hP hS hL)
  · rename_i i o st
    obtain ⟨hi, h⟩ := z_ok h
    split at h
    · rename_i ht
      cases h
      have hlt := hm.in_ ht (by decide)
      have e1 := hm.ad b ro ht (by decide)
      simp only [List.map_cons, zcv, e1]
      exact va_iald hx hb hG.1 hP o 0 (by rw [zW_at hlt, zE_arr ht (by decide) (by decide)]) rfl (z_in hi) hd (K.sm rfl hP hS hL)
    · split at h
      · rename_i ht2
        cases h
        rcases hm.tab rfl (show 20 ≤ (m.1 o).1 by omega) (by omega) with ⟨ho, hs⟩ | ⟨ho, hs⟩
        · subst ho
          rw [hs] at K hi
          simp only [List.map_cons, zcv, zad_tab0]
          exact va_ti hx hb hG.2.2.1.2 hS (z_in hi) rfl hd (K.sm rfl hP hS hL)
        · subst ho
          rw [hs] at K hi
          simp only [List.map_cons, zcv, zad_tab1]
          exact va_ti hx hb hG.2.2.2.1.2 hS (z_in hi) rfl hd (K.sm rfl hP hS hL)
      · cases h
  · rename_i i o st
    obtain ⟨⟨hi, ht⟩, h⟩ := z_ok h
    cases h
    have hlt := hm.in_ ht (by decide)
    have e1 := hm.ad b ro ht (by decide)
    simp only [List.map_cons, zcv, e1]
    exact va_zald hx hb hG.1 hP o 1 (by rw [zW_at hlt, zE_arr ht (by decide) (by decide)]) rfl (z_in hi) hd (K.sm rfl hP hS hL)
  · rename_i i o st
    obtain ⟨⟨hi, ht⟩, h⟩ := z_ok h
    cases h
    have hlt := hm.in_ ht (by decide)
    have e1 := hm.ad b ro ht (by decide)
    simp only [List.map_cons, zcv, e1]
    exact va_cald hx hb hG.1 hP o 2 (by rw [zW_at hlt, zE_arr ht (by decide) (by decide)]) rfl (z_in hi) hd (K.sm rfl hP hS hL)
  · rename_i i o st
    obtain ⟨⟨hi, ht⟩, h⟩ := z_ok h
    cases h
    have hlt := hm.in_ ht (by decide)
    have e1 := hm.ad b ro ht (by decide)
    simp only [List.map_cons, zcv, e1]
    exact va_lald hx hb hG.1 hP o 3 (by rw [zW_at hlt, zE_arrJ ht]) rfl (z_in hi) hd (K.sm rfl hP hS hL)
  · rename_i i o st
    obtain ⟨⟨hi, ht⟩, h⟩ := z_ok h
    cases h
    have q := (K.sm rfl hP hS hL)
    simp only [List.map_cons, zcv_rf] at q
    rcases ht with ht | ht
    · have hlt := hm.in_ ht (by decide)
      have e1 := hm.ad b ro ht (by decide)
      simp only [List.map_cons, zcv, e1]
      exact va_aldq hx hb hG.1 hP o 5 (by rw [zW_at hlt, zE_arrR ht (by decide)]) rfl (z_in hi) hd q
    · have hlt := hm.in_ ht (by decide)
      have e1 := hm.ad b ro ht (by decide)
      simp only [List.map_cons, zcv, e1]
      exact va_aldq hx hb hG.1 hP o 6 (by rw [zW_at hlt, zE_arrR ht (by decide)]) rfl (z_in hi) hd q
  · rename_i x i o st
    obtain ⟨⟨hi, ht⟩, h⟩ := z_ok h
    cases h
    have hlt := hm.in_ ht (by decide)
    have e1 := hm.ad b ro ht (by decide)
    simp only [List.map_cons, zcv, e1]
    exact va_iast hx hb hG.1 hP hDD hS o 0 (by rw [zW_at hlt, zE_arr ht (by decide) (by decide)]) rfl (z_in hi) hd (fun H1 locs1 hP1 _ hS1 => K.sm rfl (by rw [zW_set (m1 := zsI m o i.toNatClampNeg x) hlt rfl (zE_stI ht (by decide) (by decide)) (fun i hi => zE_I hi)] at hP1; exact hP1) hS1 hL)
  · rename_i x i o st
    obtain ⟨⟨hi, ht, hr⟩, h⟩ := z_ok h
    cases h
    have hlt := hm.in_ ht (by decide)
    have e1 := hm.ad b ro ht (by decide)
    simp only [List.map_cons, zcv, e1]
    exact va_zast hx hb hG.1 hP hDD hS o 1 (by rw [zW_at hlt, zE_arr ht (by decide) (by decide)]) rfl (z_in hi) hd (fun H1 locs1 hP1 _ hS1 => K.sm rfl (by rw [z_narz hr, zW_set (m1 := zsI m o i.toNatClampNeg x) hlt rfl (zE_stI ht (by decide) (by decide)) (fun i hi => zE_I hi)] at hP1; exact hP1) hS1 hL)
  · rename_i x i o st
    obtain ⟨⟨hi, ht, hr⟩, h⟩ := z_ok h
    cases h
    have hlt := hm.in_ ht (by decide)
    have e1 := hm.ad b ro ht (by decide)
    simp only [List.map_cons, zcv, e1]
    exact va_cast hx hb hG.1 hP hDD hS o 2 (by rw [zW_at hlt, zE_arr ht (by decide) (by decide)]) rfl (z_in hi) hd (fun H1 locs1 hP1 _ hS1 => K.sm rfl (by rw [z_narc hr, zW_set (m1 := zsI m o i.toNatClampNeg x) hlt rfl (zE_stI ht (by decide) (by decide)) (fun i hi => zE_I hi)] at hP1; exact hP1) hS1 hL)
  · rename_i x i o st
    obtain ⟨⟨hi, ht⟩, h⟩ := z_ok h
    cases h
    have hlt := hm.in_ ht (by decide)
    have e1 := hm.ad b ro ht (by decide)
    simp only [List.map_cons, zcv, e1]
    exact va_last hx hb hG.1 hP hDD hS o 3 (by rw [zW_at hlt, zE_arrJ ht]) rfl (z_in hi) hd (fun H1 locs1 hP1 _ hS1 => K.sm rfl (by rw [zW_set (m1 := zsJ m o i.toNatClampNeg x) hlt rfl (zE_stJ ht) (fun i hi => zE_J hi)] at hP1; exact hP1) hS1 hL)
  · rename_i v i o st
    obtain ⟨⟨hi, ht⟩, h⟩ := z_ok h
    cases h
    rcases ht with ⟨ht, hv⟩ | ⟨ht, hv⟩
    · have hlt := hm.in_ ht (by decide)
      have e1 := hm.ad b ro ht (by decide)
      have hlv := hm.in_ hv (by decide)
      have e2 := hm.ad b ro hv (by decide)
      simp only [List.map_cons, zcv, e1, e2]
      exact va_astq hx hb hG.1 hP hDD hS o 5 v 6 (r := zCl 6) (by rw [zW_at hlt, zE_arrR ht (by decide)]) rfl (by rw [zW_at hlv, zE_obj hv (by decide)]) (zcl_at (by decide)) (z_in hi) hd (fun H1 locs1 hP1 _ hS1 => K.sm rfl (by rw [zW_set (m1 := zsR m o i.toNatClampNeg (some v)) hlt rfl (zE_stR ht (by decide) e2) (fun i hi => zE_R hi)] at hP1; exact hP1) hS1 hL)
    · have hlt := hm.in_ ht (by decide)
      have e1 := hm.ad b ro ht (by decide)
      have hlv := hm.in_ hv (by decide)
      have e2 := hm.ad b ro hv (by decide)
      simp only [List.map_cons, zcv, e1, e2]
      exact va_astq hx hb hG.1 hP hDD hS o 6 v 0 (r := zCl 0) (by rw [zW_at hlt, zE_arrR ht (by decide)]) rfl (by rw [zW_at hlv, zE_obj hv (by decide)]) (zcl_at (by decide)) (z_in hi) hd (fun H1 locs1 hP1 _ hS1 => K.sm rfl (by rw [zW_set (m1 := zsR m o i.toNatClampNeg (some v)) hlt rfl (zE_stR ht (by decide) e2) (fun i hi => zE_R hi)] at hP1; exact hP1) hS1 hL)
  · rename_i i st
    split at h
    · rename_i cc w e
      obtain ⟨⟨hal, hn, hc⟩, h⟩ := z_ok h
      cases h
      exact z_new hx hb hts hown hG (hz hal) (hfr hal) hn hP hS hL hc (hts _ (zp_in e (by simp) (by simp))) (zinit hts hc) hcq hsq hd K
    · have := (z_ok h).2
      simp at this
    · cases h
  · rename_i ty n st
    obtain ⟨⟨hal, hn, h0, hbig⟩, h⟩ := z_ok h
    split at h
    · cases h
      exact z_newa_int hx hb hts hG (hz hal) (hfr hal) hn hP hS hL h0 hbig hcq hsq hd K
    · cases h
      exact z_newa_boolean hx hb hts hG (hz hal) (hfr hal) hn hP hS hL h0 hbig hcq hsq hd K
    · cases h
      exact z_newa_char hx hb hts hG (hz hal) (hfr hal) hn hP hS hL h0 hbig hcq hsq hd K
    · cases h
      exact z_newa_long hx hb hts hG (hz hal) (hfr hal) hn hP hS hL h0 hbig hcq hsq hd K
    · cases h
  · rename_i i n st
    split at h
    · rename_i w e
      obtain ⟨⟨hal, hn, h0, hbig⟩, h⟩ := z_ok h
      cases h
      exact z_newq_6 hx hb hown hG (hz hal) (hfr hal) hn hP hS hL (hts _ (zp_in e (by simp) (by simp))) h0 hbig hcq hsq hd K
    · rename_i w e
      obtain ⟨⟨hal, hn, h0, hbig⟩, h⟩ := z_ok h
      cases h
      exact z_newq_0 hx hb hown hG (hz hal) (hfr hal) hn hP hS hL (hts _ (zp_in e (by simp) (by simp))) h0 hbig hcq hsq hd K
    · cases h
  · rename_i i st
    split at h
    · split at h
      · exact (z_callno (z_ok h).2).elim
      · cases h
    · cases h
  · rename_i i st
    split at h
    · exact (z_callno (z_ok h).2).elim
    · cases h
  · rename_i i st
    split at h
    · rename_i w1 w2 e
      split at h
      · rename_i oo rest
        obtain ⟨⟨h1, h2, h3⟩, h⟩ := z_ok h
        cases h
        exact W.objInit hx hb hown (hts _ (zp_in e (by simp) (by simp))) (hts _ (zw_o _ (List.mem_cons_self))) (hts _ (zw_o _ (List.mem_cons_of_mem _ List.mem_cons_self))) rfl (by rw [hml]; exact hL.2.1) rfl hd (by omega) (by have := lv_room (m := mid) (pc := pc) (ls := lc) (rest := rest.map (zcv b ro)) (z_catm b ro rest h3); exact Nat.le_trans (Nat.add_le_add_right this 12) (by omega)) (K.sm rfl hP hS hL)
      · cases h
    · split at h
      · exact (z_callno (z_ok h).2).elim
      · cases h
    · split at h
      · exact (z_callno (z_ok h).2).elim
      · cases h
    · cases h
  · rename_i st
    obtain ⟨v, e, h⟩ := z_bind (z_ok h).2
    simp at h
  · rename_i st
    obtain ⟨v, e, h⟩ := z_bind (z_ok h).2
    simp at h
  · rename_i st
    obtain ⟨v, e, h⟩ := z_bind (z_ok h).2
    simp at h
  · rename_i st
    obtain ⟨v, e, h⟩ := z_bind (z_ok h).2
    simp at h
  · have := (z_ok h).2
    simp at this
  · cases h
end
