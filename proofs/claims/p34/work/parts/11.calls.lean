/-! part 11: what holds around a walk of a method of the small machine; contracts; calls -/
def zNw : List Cond := zNe.map (fun q => Cond.methodLinkNest q.1 q.2.1 q.2.2.1 q.2.2.2) ++ (zEx.map (fun e => Cond.castable e e) ++ (["java/lang/RuntimeException", "java/lang/Exception", "java/lang/Throwable"].map (fun x => Cond.declares (Bundle.initS x))))
theorem zNw_warm {s U : State} (hW : s.WarmedH U.vm) (w : Cond) (hw : w ∈ zNw) (h : va_Nw w s) : va_Nw w U := by
  rcases List.mem_append.mp hw with hw | hw
  · obtain ⟨q, -, rfl⟩ := List.mem_map.mp hw
    exact va_Nw.warmM hW h
  · rcases List.mem_append.mp hw with hw | hw
    · obtain ⟨q, -, rfl⟩ := List.mem_map.mp hw
      exact va_Nw.warmC hW h
    · obtain ⟨q, -, rfl⟩ := List.mem_map.mp hw
      exact va_Nw.warmD hW h
/-- what is known of the tables, and of the cells that nobody writes -/
def zG (b : Nat) (ro : Nat → Nat) (cA : Nat → ClassId) (D : va_G) (U : State) : Prop :=
  va_K D vwCl (zTys cA) U ∧ b ≤ U.heap.size ∧
  (va_Z "PartSongDesk$Singing" "LETTER_PITCH" "[I" (.ref (ro 1048576)) (zA b) U U.heap ∧ va_T .int (ro 1048576) 7 (fun j => .int (ztab 21 j)) (zA b) U U.heap) ∧
  (va_Z "PartSongDesk$Singing" "SHARP_AHEAD" "[I" (.ref (ro 1048577)) (zA b) U U.heap ∧ va_T .int (ro 1048577) 7 (fun j => .int (ztab 22 j)) (zA b) U U.heap) ∧
  (vx_Zq Bundle.tN "UNASSIGNED_STACK" Bundle.steD (zA b) U U.heap ∧ vx_Zq Bundle.tN "SUPPRESSED_SENTINEL" Bundle.listD (zA b) U U.heap) ∧
  (∀ q ∈ zTh, ∃ sa, vk_R (zXn (zc q.1)) q.2.2.2.1 q.2.2.2.2.2.2.2 sa U) ∧ (∀ w ∈ zNw, va_Nw w U) ∧ va_AO RX6 U ∧ va_AO RX0 U
theorem zG.to {b : Nat} {ro : Nat → Nat} {cA : Nat → ClassId} {D : va_G} {s U : State} (h : zG b ro cA D s) (hW : s.WarmedH U.vm) (hz : s.heap.size ≤ U.heap.size) (hq : ∀ a : Nat, a < s.heap.size → ¬ zA b a → U.heap[a]? = s.heap[a]?) : zG b ro cA D U := by
  obtain ⟨h1, h2, ⟨h3, h4⟩, ⟨h5, h6⟩, ⟨h7, h8⟩, h9, h10, h11, h12⟩ := h
  have hal := hW.alike
  exact ⟨va_K.moved hal h1, Nat.le_trans h2 hz, ⟨va_Z.moved hal (h3.kept hq), va_T.moved hal (h4.kept hq)⟩, ⟨va_Z.moved hal (h5.kept hq), va_T.moved hal (h6.kept hq)⟩, ⟨vx_Zq.moved hal (h7.kept hq), vx_Zq.moved hal (h8.kept hq)⟩,
    fun q hq => by obtain ⟨sa, g⟩ := h9 q hq; exact ⟨sa, vk_R.warm hW g⟩, fun w hw => zNw_warm hW w hw (h10 w hw), va_AO.moved hal h11, va_AO.moved hal h12⟩
def zPc (b : Nat) (ro : Nat → Nat) (cA : Nat → ClassId) (D : va_G) (al : Bool) (m : zM) (as : List Value) : Array Value → State → Prop := fun v U => v = (as.map (zcv b ro)).toArray ∧ zG b ro cA D U ∧ va_P D vwCl (zW b ro cA m) U.heap ∧ (al = true → U.heap.size = b + m.2.2.1.1)
def zQ (b : Nat) (ro : Nat → Nat) (cA : Nat → ClassId) (D : va_G) (al : Bool) (r : zRes) (m1 : zM) : Array Value → State → Outcome → State → Prop := fun _ st o t => match r with
  | .inl v => o = .returned (v.map (zcv b ro)) ∧ va_P D vwCl (zW b ro cA m1) t.heap ∧ va_F (zA b) st t ∧ (al = true → t.heap.size = b + m1.2.2.1.1)
  | .inr _ => False
def zXC (b : Nat) (ro : Nat → Nat) (cA : Nat → ClassId) (D : va_G) (r : zRes) (m1 : zM) : String → State → State → Prop := fun E st t => match r with
  | .inl _ => False
  | .inr e => E = zEx.getD e "" ∧ va_P D vwCl (zW b ro cA m1) t.heap ∧ va_F (zA b) st t
/-- what an exception makes: one cell of six slots -/
def zth : zRes → Nat
  | .inl _ => 0
  | .inr _ => 1
abbrev zws (y : Nat) : List Cond := zWc y :: zGT
abbrev zrm (y mc ms : Nat) : Room := { frames := zf y, cells := mc, slots := ms, locals := zw y }
theorem zPc_blind {b : Nat} {ro : Nat → Nat} {cA : Nat → ClassId} {D : va_G} {al : Bool} {m : zM} {as : List Value} : FrameBlind (zPc b ro cA D al m as) := by
  intro a U g mk h
  obtain ⟨h1, h2, h3, h4⟩ := h
  exact ⟨h1, zG.to (U := U.calling g mk a) h2 (State.WarmedH.refl U) (Nat.le_refl _) (fun _ _ _ => rfl), h3, h4⟩
theorem z_ofW {l : Launch} {y : MethodName} {ws ws' : List Cond} {rm : Room} {Pc : Array Value → State → Prop} {Qc : Array Value → State → Outcome → State → Prop} {XC : String → State → State → Prop} {mc ms : Nat} {free : Addr → Prop} {cc : ByteArray} {maxL : Nat} {ret : Option FieldType}
    (hy : plainFor y = true) (hw : ws = Cond.code y cc maxL ret :: ws')
    (body : ∀ p e s m args below meth c s₁, BodyLoose p l y (headSpec ws rm) cc maxL ret e s m args below meth c s₁ → c.maxLocals = maxL → (∀ x ∈ c.exceptionTable.toList, False) → Pc args s →
      W p l e (headSpec ws rm).room s m args below meth c s.heap [] 0 0 (vx_MQ below Qc XC args s mc ms free) (entryFrame m args maxL)) : vx_Met l y ws rm Pc Qc XC mc ms free := by
  refine MetFree.of_bodySF (code := cc) (maxLocals := maxL) (ret := ret) hy ?_ ?_
  · intro args s m h hn
    obtain ⟨meth, c, h1, h2, h3, h4, h5, h6, -, -⟩ := Cond.code_spec hn (atoms_spec (ws := ws) h _ (by rw [hw]; exact List.mem_cons_self))
    exact ⟨meth, c, h1, h2, h3, h4, h5, h6⟩
  · intro p e s m args below meth c s₁ B hml hP _
    have hh0 : s₁.heap = s.heap := by rw [B.state]; rfl
    have ht : ∀ x ∈ c.exceptionTable.toList, False := by
      obtain ⟨meth9, c9, h1, h2, -, -, -, -, h7, -⟩ := Cond.code_spec B.named (atoms_spec (ws := ws) B.pre _ (by rw [hw]; exact List.mem_cons_self))
      cases Option.some.inj (h1.symm.trans B.method)
      cases Option.some.inj (h2.symm.trans (Stand.of_body B).code)
      intro x hx
      rw [Array.isEmpty_iff.mp h7] at hx
      cases hx
    obtain ⟨t, a1, o, b1, b2, b3⟩ := body p e s m args below meth c s₁ B hml ht hP s₁ hh0 (Stand.of_body B)
    exact ⟨t, o, a1, b1, b2, b3⟩
/-- the walk's surroundings -/
def zCtx (p : Program) (l : Launch) (s : State) (mid : MethodId) (args : Array Value) (meth : Method) (c : Code) (y : Nat) (b : Nat) (ro : Nat → Nat) (cA : Nat → ClassId) (D : va_G) : Prop :=
  p.tables.exec = Jvm.exec ∧ c.code = zb y ∧ c.maxLocals = zl y ∧ meth.sig.returnType = zr y ∧ meth.locks = false ∧ s.vm.findClass (zXn (zc y)) = some mid.cls ∧ (∀ w ∈ zws y, w.before args s = true) ∧ (zk y = 2 → meth.name = "<init>") ∧ (∀ x ∈ c.exceptionTable.toList, False) ∧ zG b ro cA D s ∧ l.stackTraces = false ∧ y < 237
section
variable {p : Program} {l : Launch} {e : Env} {R : Room} {s : State} {mid : MethodId} {args : Array Value} {below : List Frame} {meth : Method} {c : Code} {H : Heap} {locs : List Loc} {cells slots mc ms pc : Nat} {Q : State → Prop}
variable {b : Nat} {ro : Nat → Nat} {cA : Nat → ClassId} {D : va_G} {al : Bool} {m m1 : zM} {lc : Array Slot} {st0 rest : List Value} {a : Array Value}
theorem zcall_ret {v : Option Value} (hr : vx_Run p l e R s mid args below meth c H locs cells slots mc ms (F0 mid pc lc st0) rest (zQ b ro cA D al (.inl v) m1 a) (zXC b ro cA D (.inl v) m1) (zA b)) (hS : va_S (zA b) s.heap H locs)
    (K : ∀ (H1 : Heap) (locs1 : List Loc), va_P D vwCl (zW b ro cA m1) H1 → va_S (zA b) s.heap H1 locs1 → (al = true → H1.size = b + m1.2.2.1.1) → W p l e R s mid args below meth c H1 locs1 (cells + mc) (slots + ms) Q (F0 mid (pc + 3) lc ((v.map (zcv b ro)).toList ++ rest))) :
    W p l e R s mid args below meth c H locs cells slots Q (F0 mid pc lc st0) := by
  intro T hT X
  rcases hr T hT X with ⟨v', st₀, t, T', L, h0, X', hL, e1, e2, ⟨hv, hP, hF, hz⟩, st⟩ | ⟨q, st₀, t, T', L, E, ce, h0, X', hL, e1, e2, hx, hce, hcv, hcl, st⟩
  · cases hv
    obtain ⟨k1, k2, k3⟩ := vx_keep (A1 := zA b) h0 e1 hS (fun _ _ h => h) (fun _ h => h) hL hF
    obtain ⟨t2, a1, b1⟩ := K T'.heap (locs ++ L) (by rw [e1]; exact hP) k3 (by rw [e1]; exact hz) T' rfl X'
    exact ⟨t2, st t2 a1, b1⟩
  · exact hx.elim
theorem zcall_thr {ex : Nat} {mcQ msQ : Nat} {res : zRes} {m2 : zM} (hr : vx_Run p l e R s mid args below meth c H locs cells slots mc ms (F0 mid pc lc st0) rest (zQ b ro cA D al (.inr ex) m1 a) (zXC b ro cA D (.inr ex) m1) (zA b)) (hS : va_S (zA b) s.heap H locs)
    (hlocks : meth.locks = false) (hout : ∀ x ∈ c.exceptionTable.toList, False) (hc : cells + mc ≤ mcQ) (hs : slots + ms ≤ msQ) (hres : res = .inr ex) (hm : m2 = m1) :
    W p l e R s mid args below meth c H locs cells slots (vx_MQ below (zQ b ro cA D al res m2) (zXC b ro cA D res m2) args s mcQ msQ (zA b)) (F0 mid pc lc st0) := by
  subst hres; subst hm
  intro T hT X
  rcases hr T hT X with ⟨v', st₀, t, T', L, h0, X', hL, e1, e2, hx, st⟩ | ⟨q, st₀, t, T', L, E, ce, h0, X', hL, e1, e2, ⟨hE, hP, hF⟩, hce, hcv, hcl, st⟩
  · exact hx.elim
  · obtain ⟨k1, k2, k3⟩ := vx_keep (A1 := zA b) h0 e1 hS (fun _ _ h => h) (fun _ h => h) hL hF
    obtain ⟨t2, a1, b1⟩ := vx_out (p := p) (l := l) (e := e) (R := R) (s := s) (m := mid) (args := args) (below := below) (meth := meth) (c := c) (H := T'.heap) (locs := locs ++ L) (cells := cells + mc) (slots := slots + ms) (mc := mcQ) (ms := msQ) (free := zA b) (Qc := zQ b ro cA D al (.inr ex) m2) (XC := zXC b ro cA D (.inr ex) m2) (pc := pc) (ls := lc) (rest := rest) (E := E) (ce := ce) (q := q)
      (fun x hx => (hout x hx).elim) hlocks (by rw [e1]; exact hce) hcv hcl (fun t9 ht9 _ => ⟨hE, by rw [ht9, e1]; exact hP, k3.F ht9⟩) k3.2.2 hc hs T' rfl X'
    exact ⟨t2, st.trans a1, b1⟩
end
