/-! part 85: pencil, the call -/
theorem aGood_n {T : Int → Int} {n : Int} {H H2 q m v q2 m2 v2 : Int → Int} {cnt : Int} (hg : aGood T H q m v cnt n) (hc : cnt < 200) (h : ∀ c, 0 ≤ c → c < cnt → q2 c = q c ∧ m2 c = m c ∧ v2 c = v c) (hH : ∀ c, c ≠ cnt → H2 c = H c) (h1 : H2 cnt = 1) (hq : 0 ≤ q2 cnt ∧ q2 cnt < n) (hV : oV (m2 cnt) (v2 cnt)) (hF : oF (m2 cnt) (tK T (q2 cnt))) : aGood T H2 q2 m2 v2 (cnt + 1) n := by
  obtain ⟨a1, a2, a3⟩ := hg
  refine ⟨by omega, fun c c0 c1 => ?_, fun c c0 c1 c2 => ?_⟩
  · by_cases e : c = cnt
    · rw [e, h1]
      exact Or.inr rfl
    · rw [hH c e]
      exact a2 c c0 c1
  · by_cases e : c = cnt
    · rw [e]
      refine ⟨hq, ?_⟩
      unfold oV oL at hV
      unfold oF at hF
      omega
    · obtain ⟨e1, e2, e3⟩ := h c c0 (by omega)
      rw [hH c e] at c2
      rw [e1, e2, e3]
      exact a3 c c0 (by omega) c2
section
variable {V : zVt} {J : zJt} {N a b m v : Int}
end
