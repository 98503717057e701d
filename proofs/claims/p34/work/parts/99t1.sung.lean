/-! part 99t1: the texts that sings writes: grammar and singing -/
/-- bars, an item (bars, or a repeat of bars), items -/
def lBs : List (List lTk) → List lTk
  | [] => []
  | b :: bs => b ++ lBa :: lBs bs
def lIt (i : Int × List (List lTk)) : List lTk := if i.1 = 0 then lBs i.2 else lOp :: (lBs i.2 ++ [lCe i.1])
def lIs : List (Int × List (List lTk)) → List lTk
  | [] => []
  | i :: r => lIt i ++ lIs r
def lSu : List lTk → Int
  | [] => 0
  | t :: ts => t.2.2.1 + lSu ts
/-- a bar of m ticks -/
def lBk (m : Int) (b : List lTk) : Prop := (∀ t ∈ b, (t.1 = 3 ∨ t.1 = 4) ∧ 0 ≤ t.2.2.1) ∧ lSu b = m
def lIk (m : Int) (i : Int × List (List lTk)) : Prop := (i.1 = 0 ∨ i.1 = 2 ∨ i.1 = 3) ∧ ∀ b ∈ i.2, lBk m b
def lMu (i : Int × List (List lTk)) : Int := (if i.1 = 0 then 1 else i.1) * (i.2.length : Nat)
def lCu : List (Int × List (List lTk)) → Int
  | [] => 0
  | i :: r => lMu i + lCu r
section
variable {K N : Int → Int}
theorem lG_pl (ts : List lTk) : ∀ k : Int, 3 ≤ k → lA (fun j t => K j = t.1 ∧ N j = t.2.1) k ts → (∀ t ∈ ts, t.1 = 3 ∨ t.1 = 4 ∨ t.1 = 5) → hE K N k = 0 → hF K k = -1 → (hD K (k + (ts.length : Nat)) = hD K k ∧ hE K N (k + (ts.length : Nat)) = 0 ∧ hF K (k + (ts.length : Nat)) = -1 ∧ ∀ i, hO K (k + (ts.length : Nat)) i = hO K k i) ∧ ∀ j, k ≤ j → j < k + (ts.length : Nat) → gX K N j = 0 := by
  induction ts with
  | nil =>
    intro k hk _ _ h1 h2
    rw [show k + ((List.length ([] : List lTk) : Nat) : Int) = k from Int.add_zero k]
    exact ⟨⟨rfl, h1, h2, fun _ => rfl⟩, fun j j0 j1 => by omega⟩
  | cons t ts ih =>
    intro k hk h hp h1 h2
    have hk3 := hp t List.mem_cons_self
    have hkk := h.1.1
    have d1 : hD K (k + 1) = hD K k := by rw [hD_s (by omega), if_neg (by omega), if_neg (by omega), if_neg (by omega)]
    have e1 : hE K N (k + 1) = 0 := by rw [hE_s (by omega), if_neg (by omega), if_neg (by omega), if_neg (by omega), h1]
    have f1 : hF K (k + 1) = -1 := by rw [hF_s (by omega), if_neg (by omega), if_neg (by omega), if_neg (by omega), h2]
    have o1 : ∀ i, hO K (k + 1) i = hO K k i := fun i => by rw [hO_s (by omega), if_neg (by omega)]
    obtain ⟨⟨a1, a2, a3, a4⟩, a5⟩ := ih (k + 1) (by omega) h.2 (fun s hs => hp s (List.mem_cons_of_mem _ hs)) e1 f1
    have el : k + ((List.length (t :: ts) : Nat) : Int) = k + 1 + (ts.length : Nat) := by rw [List.length_cons]; omega
    rw [el]
    refine ⟨⟨a1.trans d1, a2, a3, fun i => (a4 i).trans (o1 i)⟩, fun j j0 j1 => ?_⟩
    by_cases e : j = k
    · rw [e]
      unfold gX gXf
      rw [if_neg (by omega), h1, h2, if_neg (by omega), if_neg (by omega), if_neg (by omega), if_neg (by omega), if_neg (by omega)]
    · exact a5 j (by omega) j1
theorem lBs_pl {m : Int} : ∀ (bs : List (List lTk)), (∀ b ∈ bs, lBk m b) → ∀ t ∈ lBs bs, t.1 = 3 ∨ t.1 = 4 ∨ t.1 = 5
  | [], _ => fun t ht => by cases ht
  | b :: bs, h => fun t ht => by
    rcases List.mem_append.mp ht with q | q
    · have := ((h b List.mem_cons_self).1 t q).1
      omega
    · rcases List.mem_cons.mp q with e | q
      · rw [e]
        exact Or.inr (Or.inr rfl)
      · exact lBs_pl bs (fun c hc => h c (List.mem_cons_of_mem _ hc)) t q
abbrev lGs (K N : Int → Int) (k : Int) : Prop := hD K k = 0 ∧ hE K N k = 0 ∧ hF K k = -1
theorem lG_it {m : Int} {it : Int × List (List lTk)} (hi : lIk m it) {k : Int} (hk : 3 ≤ k) (h : lA (fun j t => K j = t.1 ∧ N j = t.2.1) k (lIt it)) (hg : lGs K N k) : lGs K N (k + ((lIt it).length : Nat)) ∧ (∀ j, k ≤ j → j < k + ((lIt it).length : Nat) → gX K N j = 0) ∧ (it.1 ≠ 0 → K (k + 1 + ((lBs it.2).length : Nat)) = 7 ∧ hO K (k + 1 + ((lBs it.2).length : Nat)) (hD K (k + 1 + ((lBs it.2).length : Nat)) - 1) = k) := by
  obtain ⟨g1, g2, g3⟩ := hg
  by_cases h0 : it.1 = 0
  · have e : lIt it = lBs it.2 := if_pos h0
    rw [e] at h ⊢
    obtain ⟨⟨a1, a2, a3, a4⟩, a5⟩ := lG_pl (lBs it.2) k hk h (lBs_pl it.2 hi.2) g2 g3
    exact ⟨⟨a1.trans g1, a2, a3⟩, a5, fun w => absurd h0 w⟩
  · have e : lIt it = lOp :: (lBs it.2 ++ [lCe it.1]) := if_neg h0
    rw [e] at h ⊢
    obtain ⟨⟨hK, _⟩, h1⟩ := h
    rw [lA_app] at h1
    obtain ⟨h1, ⟨⟨hC, hN⟩, _⟩⟩ := h1
    have hK : K k = 6 := hK
    have hi3 := hi.1
    have d1 : hD K (k + 1) = 1 := by rw [hD_s (by omega), if_neg (by omega), if_pos hK, g1]; rfl
    have e1 : hE K N (k + 1) = 0 := by rw [hE_s (by omega), if_neg (by omega), if_pos (Or.inl hK)]
    have f1 : hF K (k + 1) = -1 := by rw [hF_s (by omega), if_neg (by omega), if_neg (by omega), if_neg (by omega), g3]
    have o1 : hO K (k + 1) 0 = k := by rw [hO_s (by omega), if_pos ⟨by omega, hK, g1.symm⟩]
    obtain ⟨⟨a1, a2, a3, a4⟩, a5⟩ := lG_pl (lBs it.2) (k + 1) (by omega) h1 (lBs_pl it.2 hi.2) e1 f1
    obtain ⟨c, hc⟩ : ∃ c, k + 1 + ((lBs it.2).length : Nat) = c := ⟨_, rfl⟩
    rw [hc] at a1 a2 a3 a4 a5 hC hN ⊢
    have hC : K c = 7 := hC
    have el : k + ((List.length (lOp :: (lBs it.2 ++ [lCe it.1])) : Nat) : Int) = c + 1 := by
      rw [List.length_cons, List.length_append, List.length_cons, List.length_nil]
      omega
    rw [el]
    refine ⟨⟨?_, ?_, ?_⟩, fun j j0 j1 => ?_, fun _ => ?_⟩
    · rw [hD_s (by omega), if_neg (by omega), if_neg (by omega), if_pos hC, a1, d1]
      rfl
    · rw [hE_s (by omega), if_neg (by omega), if_pos (Or.inr hC)]
    · rw [hF_s (by omega), if_neg (by omega), if_neg (by omega), if_neg (by omega), a3]
    · by_cases q : j = k
      · rw [q]
        unfold gX gXf
        rw [if_neg (by omega), g1, g2, g3, if_neg (by omega), if_neg (by omega), if_neg (by omega), if_neg (by omega), if_pos hK, if_neg (by omega), if_neg (by omega)]
      · by_cases q2 : j = c
        · rw [q2]
          unfold gX gXf
          rw [if_neg (by omega), a1, d1, a2, a3, if_neg (by omega), if_pos hC, if_neg (by omega), if_neg (by omega)]
        · exact a5 j (by omega) (by omega)
    · rw [a1, d1, a4]
      exact ⟨hC, o1⟩
theorem lG_is {m : Int} : ∀ (its : List (Int × List (List lTk))) (k : Int), (∀ i ∈ its, lIk m i) → 3 ≤ k → lA (fun j t => K j = t.1 ∧ N j = t.2.1) k (lIs its) → lGs K N k → lGs K N (k + ((lIs its).length : Nat)) ∧ ∀ j, k ≤ j → j < k + ((lIs its).length : Nat) → gX K N j = 0
  | [], k => fun _ _ _ hg => by
    rw [show k + ((List.length (lIs []) : Nat) : Int) = k from Int.add_zero k]
    exact ⟨hg, fun j j0 j1 => by omega⟩
  | i :: r, k => fun hi hk h hg => by
    have h2 := (lA_app (lIt i) (lIs r) k).mp h
    obtain ⟨a1, a2, _⟩ := lG_it (hi i List.mem_cons_self) hk h2.1 hg
    obtain ⟨b1, b2⟩ := lG_is r _ (fun j hj => hi j (List.mem_cons_of_mem _ hj)) (by omega) h2.2 a1
    have el : k + ((List.length (lIs (i :: r)) : Nat) : Int) = k + ((lIt i).length : Nat) + ((lIs r).length : Nat) := by
      rw [show lIs (i :: r) = lIt i ++ lIs r from rfl, List.length_append]
      omega
    rw [el]
    refine ⟨b1, fun j j0 j1 => ?_⟩
    by_cases q : j < k + ((lIt i).length : Nat)
    · exact a2 j j0 q
    · exact b2 j (by omega) j1
end
/-- a state of singing: place, depth, ticks in the bar, bars, passes -/
def lSt (S : zVt) (k D f b q : Int) : Prop := S 0 0 = k ∧ S 0 1 = D ∧ S 0 2 = f ∧ S 0 3 = b ∧ S 0 4 = -1 ∧ S 0 7 = 0 ∧ (D = 1 → S 1 0 = q)
def lGo (P : zVt) (k D f b q k2 D2 f2 b2 q2 : Int) (j : Nat) : Prop := ∀ S, lSt S k D f b q → ∃ S', lSt S' k2 D2 f2 b2 q2 ∧ ∀ n : Nat, yRun P (n + j) S = yRun P n S'
section
variable {P : zVt} {k D f b q : Int}
theorem lGo_r : lGo P k D f b q k D f b q 0 := fun S h => ⟨S, h, fun _ => rfl⟩
theorem lGo_t {k2 D2 f2 b2 q2 k3 D3 f3 b3 q3 : Int} {i j : Nat} (h : lGo P k D f b q k2 D2 f2 b2 q2 i) (h2 : lGo P k2 D2 f2 b2 q2 k3 D3 f3 b3 q3 j) : lGo P k D f b q k3 D3 f3 b3 q3 (j + i) := fun S hs => by
  obtain ⟨S1, a1, a2⟩ := h S hs
  obtain ⟨S2, b1, b2⟩ := h2 S1 a1
  exact ⟨S2, b1, fun n => by rw [← Nat.add_assoc, a2, b2]⟩
theorem lGo_1 {S S' : zVt} (hk : k < P 8 0) (h0 : S 0 0 = k) (h7 : S 0 7 = 0) (e : yStep P S = S') (n : Nat) : yRun P (n + 1) S = yRun P n S' := by
  show (if S 0 0 < P 8 0 ∧ S 0 7 = 0 then yRun P n (yStep P S) else S) = _
  rw [if_pos ⟨by omega, h7⟩, e]
theorem lGo_note (hk : k < P 8 0) (h3 : P 0 k = 3) (h5 : P 5 k = 0) (hf : f + P 4 k ≤ P 8 1) : lGo P k D f b q (k + 1) D (f + P 4 k) b q 1 := fun S hs => by
  obtain ⟨s0, s1, s2, s3, s4, s7, sq⟩ := hs
  refine ⟨yStep P S, ?_, lGo_1 hk s0 s7 rfl⟩
  unfold yStep yNote yFil lSt
  rw [s0, if_pos h3, if_neg (fun w => w.1 s4), if_neg (by omega), if_pos h5]
  by_cases c : P 3 k ≠ 0
  · rw [if_pos c]
    refine ⟨vup_at _ _ _ _, ?_, ?_, ?_, ?_, ?_, fun w => ?_⟩ <;> simp (disch := decide) only [vup_k, vup_o, vup_at, vst_o]
    · exact s1
    · rw [s2]
    · exact s3
    · exact s7
    · exact sq w
  · rw [if_neg c]
    refine ⟨vup_at _ _ _ _, ?_, ?_, ?_, ?_, ?_, fun w => ?_⟩ <;> simp (disch := decide) only [vup_k, vup_o, vup_at, vst_o]
    · exact s1
    · rw [s2]
    · exact s3
    · exact s7
    · exact sq w
theorem lGo_rest (hk : k < P 8 0) (h3 : P 0 k = 4) (hf : f + P 4 k ≤ P 8 1) : lGo P k D f b q (k + 1) D (f + P 4 k) b q 1 := fun S hs => by
  obtain ⟨s0, s1, s2, s3, s4, s7, sq⟩ := hs
  refine ⟨yStep P S, ?_, lGo_1 hk s0 s7 rfl⟩
  unfold yStep yRest yFil lSt
  rw [s0, if_neg (by omega), if_pos h3, if_neg (fun w => w s4), if_neg (by omega)]
  refine ⟨vup_at _ _ _ _, ?_, ?_, ?_, ?_, ?_, fun w => ?_⟩ <;> simp (disch := decide) only [vup_k, vup_o, vup_at, vst_o]
  · exact s1
  · rw [s2]
  · exact s3
  · exact s4
  · exact s7
  · exact sq w
theorem lGo_bar (hk : k < P 8 0) (h3 : P 0 k = 5) (hm : 0 < P 8 1) (hb : b < 40) : lGo P k D (P 8 1) b q (k + 1) D 0 (b + 1) q 1 := fun S hs => by
  obtain ⟨s0, s1, s2, s3, s4, s7, sq⟩ := hs
  refine ⟨yStep P S, ?_, lGo_1 hk s0 s7 rfl⟩
  unfold yStep yBar lSt
  rw [s0, if_neg (by omega), if_neg (by omega), if_pos h3, if_neg (by omega), if_neg (by omega)]
  refine ⟨vup_at _ _ _ _, ?_, ?_, ?_, ?_, ?_, fun w => ?_⟩ <;> simp (disch := decide) only [vup_k, vup_o, vup_at, vst_o]
  · exact s1
  · rw [s3]
  · exact s4
  · exact s7
  · exact sq w
theorem lGo_open (hk : k < P 8 0) (h3 : P 0 k = 6) : lGo P k 0 f b q (k + 1) 1 f b 1 1 := fun S hs => by
  obtain ⟨s0, s1, s2, s3, s4, s7, sq⟩ := hs
  refine ⟨yStep P S, ?_, lGo_1 hk s0 s7 rfl⟩
  unfold yStep lSt
  rw [s0, if_neg (by omega), if_neg (by omega), if_neg (by omega), if_pos h3, s1]
  refine ⟨vup_at _ _ _ _, ?_, ?_, ?_, ?_, ?_, fun w => ?_⟩ <;> simp (disch := decide) only [vup_k, vup_o, vup_at, vst_o]
  · rfl
  · exact s2
  · exact s3
  · exact s4
  · exact s7
theorem lGo_again (hk : k < P 8 0) (h3 : P 0 k = 7) (hq : q < P 1 k) : lGo P k 1 f b q (P 6 k + 1) 1 f b (q + 1) 1 := fun S hs => by
  obtain ⟨s0, s1, s2, s3, s4, s7, sq⟩ := hs
  have sq := sq rfl
  refine ⟨yStep P S, ?_, lGo_1 hk s0 s7 rfl⟩
  unfold yStep lSt
  rw [s0, if_neg (by omega), if_neg (by omega), if_neg (by omega), if_neg (by omega), if_pos h3, s1, show (1 : Int) - 1 = 0 from rfl, sq, if_pos hq]
  refine ⟨vup_at _ _ _ _, ?_, ?_, ?_, ?_, ?_, fun w => ?_⟩ <;> simp (disch := decide) only [vup_k, vup_o, vup_at, vst_o]
  · exact s1
  · exact s2
  · exact s3
  · exact s4
  · exact s7
theorem lGo_close (hk : k < P 8 0) (h3 : P 0 k = 7) (hq : ¬ q < P 1 k) : lGo P k 1 f b q (k + 1) 0 f b 0 1 := fun S hs => by
  obtain ⟨s0, s1, s2, s3, s4, s7, sq⟩ := hs
  have sq := sq rfl
  refine ⟨yStep P S, ?_, lGo_1 hk s0 s7 rfl⟩
  unfold yStep lSt
  rw [s0, if_neg (by omega), if_neg (by omega), if_neg (by omega), if_neg (by omega), if_pos h3, s1, show (1 : Int) - 1 = 0 from rfl, sq, if_neg hq]
  refine ⟨vup_at _ _ _ _, ?_, ?_, ?_, ?_, ?_, fun w => absurd w (by decide)⟩ <;> simp (disch := decide) only [vup_k, vup_o, vup_at, vst_o]
  · exact s2
  · exact s3
  · exact s4
  · exact s7
/-- what singing sees of the tokens -/
def lQs (P : zVt) (j : Int) (t : lTk) : Prop := P 0 j = t.1 ∧ P 1 j = t.2.1 ∧ P 4 j = t.2.2.1 ∧ P 5 j = 0 ∧ j < P 8 0
theorem lGo_notes {D b q : Int} (ts : List lTk) : ∀ (k f : Int), lA (lQs P) k ts → (∀ t ∈ ts, (t.1 = 3 ∨ t.1 = 4) ∧ 0 ≤ t.2.2.1) → f + lSu ts ≤ P 8 1 → lGo P k D f b q (k + (ts.length : Nat)) D (f + lSu ts) b q ts.length := by
  induction ts with
  | nil =>
    intro k f _ _ _
    rw [show k + ((List.length ([] : List lTk) : Nat) : Int) = k from Int.add_zero k, show f + lSu [] = f from Int.add_zero f]
    exact lGo_r
  | cons t ts ih =>
    intro k f h hp hf
    obtain ⟨⟨h0, h1, h4, h5, h8⟩, hr⟩ := h
    have hsu : lSu (t :: ts) = t.2.2.1 + lSu ts := rfl
    have hpos : ∀ l : List lTk, (∀ t ∈ l, (t.1 = 3 ∨ t.1 = 4) ∧ 0 ≤ t.2.2.1) → 0 ≤ lSu l := fun l => by
      induction l with
      | nil => intro _; exact Int.le_refl _
      | cons s l ih2 =>
        intro hl
        have a := (hl s List.mem_cons_self).2
        have b := ih2 (fun u hu => hl u (List.mem_cons_of_mem _ hu))
        show 0 ≤ s.2.2.1 + lSu l
        omega
    have hps : ∀ t ∈ ts, (t.1 = 3 ∨ t.1 = 4) ∧ 0 ≤ t.2.2.1 := fun s hs => hp s (List.mem_cons_of_mem _ hs)
    have h0s := hpos ts hps
    have r := ih (k + 1) (f + P 4 k) hr hps (by omega)
    have e1 : k + ((List.length (t :: ts) : Nat) : Int) = k + 1 + (ts.length : Nat) := by rw [List.length_cons]; omega
    have e2 : f + lSu (t :: ts) = f + P 4 k + lSu ts := by omega
    rw [e1, e2]
    rcases (hp t List.mem_cons_self).1 with w | w
    · exact lGo_t (lGo_note h8 (h0.trans w) h5 (by omega)) r
    · exact lGo_t (lGo_rest h8 (h0.trans w) (by omega)) r
theorem lGo_bars {D q : Int} (hm : 0 < P 8 1) (bs : List (List lTk)) : ∀ (k b : Int), lA (lQs P) k (lBs bs) → (∀ x ∈ bs, lBk (P 8 1) x) → b + (bs.length : Nat) ≤ 40 → lGo P k D 0 b q (k + ((lBs bs).length : Nat)) D 0 (b + (bs.length : Nat)) q (lBs bs).length := by
  induction bs with
  | nil =>
    intro k b _ _ _
    rw [show k + ((List.length (lBs []) : Nat) : Int) = k from Int.add_zero k, show b + ((List.length ([] : List (List lTk)) : Nat) : Int) = b from Int.add_zero b]
    exact lGo_r
  | cons x bs ih =>
    intro k b h hp hb
    rw [List.length_cons] at hb ⊢
    have h2 := (lA_app x (lBa :: lBs bs) k).mp h
    obtain ⟨ha, ⟨h0, h1, h4, h5, h8⟩, hr⟩ := h2
    obtain ⟨hx1, hx2⟩ := hp x List.mem_cons_self
    have g1 := lGo_notes (D := D) (b := b) (q := q) x k 0 ha hx1 (by omega)
    rw [Int.zero_add, hx2] at g1
    have g2 := lGo_bar (D := D) (b := b) (q := q) h8 h0 hm (by omega)
    have g3 := ih (k + (x.length : Nat) + 1) (b + 1) hr (fun y hy => hp y (List.mem_cons_of_mem _ hy)) (by omega)
    have r := lGo_t (lGo_t g1 g2) g3
    have e1 : k + ((List.length (lBs (x :: bs)) : Nat) : Int) = k + (x.length : Nat) + 1 + ((lBs bs).length : Nat) := by
      rw [show lBs (x :: bs) = x ++ lBa :: lBs bs from rfl, List.length_append, List.length_cons]
      omega
    have e2 : b + ((bs.length + 1 : Nat) : Int) = b + 1 + (bs.length : Nat) := by omega
    have e3 : (lBs (x :: bs)).length = (lBs bs).length + (1 + x.length) := by
      rw [show lBs (x :: bs) = x ++ lBa :: lBs bs from rfl, List.length_append, List.length_cons]
      omega
    rw [e1, e2, e3]
    exact r
theorem lGo_it (hm : 0 < P 8 1) {it : Int × List (List lTk)} (hi : lIk (P 8 1) it) (h : lA (lQs P) k (lIt it)) (h6 : it.1 ≠ 0 → P 6 (k + 1 + ((lBs it.2).length : Nat)) = k) (hb : b + lMu it ≤ 40) : ∃ j : Nat, j ≤ 3 * (lIt it).length ∧ lGo P k 0 0 b 0 (k + ((lIt it).length : Nat)) 0 0 (b + lMu it) 0 j := by
  unfold lMu at hb ⊢
  by_cases h0 : it.1 = 0
  · rw [if_pos h0, Int.one_mul] at hb ⊢
    have e : lIt it = lBs it.2 := if_pos h0
    rw [e] at h ⊢
    exact ⟨(lBs it.2).length, by omega, lGo_bars hm it.2 k b h hi.2 hb⟩
  · rw [if_neg h0] at hb ⊢
    have h6 := h6 h0
    have e : lIt it = lOp :: (lBs it.2 ++ [lCe it.1]) := if_neg h0
    rw [e] at h ⊢
    obtain ⟨⟨a0, a1, a4, a5, a8⟩, h1⟩ := h
    rw [lA_app] at h1
    obtain ⟨h1, ⟨c0, c1, c4, c5, c8⟩, _⟩ := h1
    obtain ⟨c, hc⟩ : ∃ c, k + 1 + ((lBs it.2).length : Nat) = c := ⟨_, rfl⟩
    rw [hc] at h6 c0 c1 c8
    obtain ⟨L, hL⟩ : ∃ L : Nat, it.2.length = L := ⟨_, rfl⟩
    obtain ⟨M, hM⟩ : ∃ M : Nat, (lBs it.2).length = M := ⟨_, rfl⟩
    have el : (List.length (lOp :: (lBs it.2 ++ [lCe it.1])) : Nat) = M + 2 := by
      rw [List.length_cons, List.length_append, List.length_cons, List.length_nil, hM]
    have el2 : k + ((M + 2 : Nat) : Int) = c + 1 := by omega
    rw [hL] at hb
    rw [el, el2, hL]
    have c1 : P 1 c = it.1 := c1
    have g0 := lGo_open (P := P) (f := 0) (b := b) (q := 0) a8 a0
    have gb : ∀ (b q : Int), b + (L : Nat) ≤ 40 → lGo P (k + 1) 1 0 b q c 1 0 (b + (L : Nat)) q M := fun b q hbb => by
      have := lGo_bars (D := 1) (q := q) hm it.2 (k + 1) b h1 hi.2 (by rw [hL]; exact hbb)
      rw [hc, hL, hM] at this
      exact this
    have ga : ∀ (b q : Int), q < it.1 → lGo P c 1 0 b q (k + 1) 1 0 b (q + 1) 1 := fun b q hq => by
      have := lGo_again (P := P) (f := 0) (b := b) (q := q) c8 c0 (by rw [c1]; exact hq)
      rw [h6] at this
      exact this
    have gz : ∀ (b q : Int), ¬ q < it.1 → lGo P c 1 0 b q (c + 1) 0 0 b 0 1 := fun b q hq => lGo_close c8 c0 (by rw [c1]; exact hq)
    rcases hi.1 with w | w | w
    · exact absurd w h0
    · rw [w] at hb ga gz ⊢
      have r := lGo_t (lGo_t (lGo_t (lGo_t g0 (gb b 1 (by omega))) (ga _ 1 (by decide))) (gb _ (1 + 1) (by omega))) (gz _ _ (by decide))
      rw [show b + (L : Int) + (L : Int) = b + 2 * (L : Int) by omega] at r
      exact ⟨_, by omega, r⟩
    · rw [w] at hb ga gz ⊢
      have r := lGo_t (lGo_t (lGo_t (lGo_t (lGo_t (lGo_t g0 (gb b 1 (by omega))) (ga _ 1 (by decide))) (gb _ (1 + 1) (by omega))) (ga _ _ (by decide))) (gb _ _ (by omega))) (gz _ _ (by decide))
      rw [show b + (L : Int) + (L : Int) + (L : Int) = b + 3 * (L : Int) by omega] at r
      exact ⟨_, by omega, r⟩
end
