/-! part 99zz2: a launch of the statement keeps no stack traces; the entry, with the case of seconds as a hypothesis -/
theorem lw_hst (l : Launch) (hflags : l.flags = flags0) : l.stackTraces = false := by
  unfold Launch.stackTraces
  rw [hflags]
  decide +kernel
theorem lw_open {p : Program} {e : Env} {s : State} {m : MethodId} {below : List Frame} {meth : Method} {c : Code} (l : Launch) (hflags : l.flags = flags0) {b L : Nat} {xs : Nat → Int32} (hL : L ≤ 2560) (C0 : lw_At p s m meth c b L xs)
    (hsec : ∀ (ro : Nat → Nat) (cA : Nat → ClassId) (D : va_G), lwC p l s m meth c b L xs s.heap.size ro cA D → lwSec p l e s m below meth c b L xs s.heap.size ro cA D (lw_Z below #[Value.ref b] s)) : W p l e room_1 s m #[Value.ref b] below meth c s.heap [] 0 0 (lw_Z below #[Value.ref b] s) (entryFrame m ([Value.ref b] : List Value).toArray 8) := by
  obtain ⟨ro, cA, D, hG, hN⟩ := lw_world C0
  obtain ⟨hx, hb, hr, hml, hown, hts, hX, hbl, hlocks, hgv⟩ := C0
  have C : lwC p l s m meth c b L xs s.heap.size ro cA D := ⟨hx, hb, hml, hown, fun w hw => hts w (List.mem_filter.mp hw).1, hG, hN, hX, hbl, Nat.not_le.mpr hbl, lw_hst l hflags, hL⟩
  exact lw_enter C hr hlocks (hsec ro cA D C)
