/-! part 65: what holds between the class and the reference between two calls -/
abbrev yTt (V : zVt) (w : Nat) : Int → Int := zt (V 432) (V 481) w
/-- how many are set -/
def yCt (H : Int → Int) : Nat → Int
  | 0 => 0
  | n + 1 => yCt H n + (if H n ≠ 0 then 1 else 0)
def iTxt (V : zVt) : Prop := zTx (V 432) (V 481) ∧ ∀ w : Nat, w < 12 → V (50 + 15 * w) 1 = V 432 w ∧ ∀ p, 0 ≤ p → p < V 432 w → V (51 + 15 * w) p = V 481 (160 * w + p)
def iCor (V : zVt) : Prop := (0 ≤ V 480 42 ∧ V 480 42 ≤ 200) ∧ V 3 0 = V 480 42 ∧ V 4 = V 457 ∧ V 5 = V 458 ∧ V 6 = V 459
/-- marks M of the class, set e of the reference -/
def iMk (V : zVt) (M : Nat) (e : Int) : Prop := (∀ c, 0 ≤ c → c < 200 → V 456 (200 * e + c) = V (M + 1) c ∧ (V (M + 1) c = 0 ∨ V (M + 1) c = 1) ∧ (V 480 42 ≤ c → V (M + 1) c = 0)) ∧ V M 1 = yCt (V (M + 1)) 200
/-- music M of the class is part w's with the set H -/
def iMs (V : zVt) (J : zJt) (M : Nat) (w : Nat) (H : Int → Int) : Prop := ∃ n b F A fa, yTx (yTt V w) (V 432 w) n b F A fa ∧ (F = 0 → aGood (yTt V w) H (V 4) (V 5) (V 6) (V 3 0) n) ∧ cMus V J M (sF (aP (yTt V w) (V 432 w) n H (V 4) (V 5) (V 6) (V 3 0)) F) (sA (aP (yTt V w) (V 432 w) n H (V 4) (V 5) (V 6) (V 3 0)) F fa) (sN (aP (yTt V w) (V 432 w) n H (V 4) (V 5) (V 6) (V 3 0)) F) (sM (aP (yTt V w) (V 432 w) n H (V 4) (V 5) (V 6) (V 3 0)) F) (yAll (aP (yTt V w) (V 432 w) n H (V 4) (V 5) (V 6) (V 3 0)) 4)
/-- a part that is read -/
def iRd (V : zVt) (J : zJt) (w : Nat) : Prop := (∃ n b F A fa, cRow V (52 + 15 * w) (yTt V w) (V 432 w) n b F A fa ∧ V (50 + 15 * w) 4 = sF (aP (yTt V w) (V 432 w) n (fun _ => 0) (V 4) (V 5) (V 6) (V 3 0)) F ∧ V (50 + 15 * w) 5 = sA (aP (yTt V w) (V 432 w) n (fun _ => 0) (V 4) (V 5) (V 6) (V 3 0)) F fa) ∧ iMs V J (63 + 15 * w) w (V (62 + 15 * w))
def iPart (V : zVt) (J : zJt) (w : Nat) : Prop := (V (50 + 15 * w) 2 = 0 ∨ V (50 + 15 * w) 2 = 1) ∧ (V (50 + 15 * w) 3 = 0 ∨ V (50 + 15 * w) 3 = 1) ∧ (V (50 + 15 * w) 3 = 1 ↔ ∃ j, (0 ≤ j ∧ j < V 480 37) ∧ V 454 j = w) ∧ iMk V (61 + 15 * w) (40 + w) ∧ (V (50 + 15 * w) 3 = 0 → ∀ c, 0 ≤ c → c < 200 → V (62 + 15 * w) c = 0) ∧ (V (50 + 15 * w) 2 = 1 → iRd V J w) ∧ (V (50 + 15 * w) 3 = 1 → V (50 + 15 * w) 2 = 1 ∧ V (50 + 15 * w) 4 = 0)
def iCopy (V : zVt) (J : zJt) (j : Nat) : Prop := iMk V (231 + 5 * j) j ∧ ((j : Int) < V 480 37 → (0 ≤ V 454 j ∧ V 454 j < 12) ∧ V (230 + 5 * j) 0 = V 454 j ∧ V (230 + 5 * j) 1 = V 455 j ∧ (-1 ≤ V 455 j ∧ V 455 j < 12) ∧ iMs V J (233 + 5 * j) (V 454 j).toNat (V (232 + 5 * j))) ∧ (V 480 37 ≤ j → V (230 + 5 * j) 1 = -1 ∧ ∀ c, 0 ≤ c → c < 200 → V (232 + 5 * j) c = 0)
def iOne (V : zVt) : Prop := ∀ j k, 0 ≤ j → j < V 480 37 → 0 ≤ k → k < V 480 37 → V 455 j ≠ -1 → V 455 j = V 455 k → V 454 j / 4 = V 454 k / 4 → j = k
def iReh (N : Int) (V : zVt) : Prop := (∀ r, 0 ≤ r → r < 4 → V 43 r = V 460 r ∧ 0 ≤ V 43 r ∧ V 43 r ≤ 12) ∧ (∀ k, 0 ≤ k → k < 16 → V 44 k = V 461 k ∧ (V 44 k = 0 ∨ V 44 k = 1)) ∧ (∀ t, 0 ≤ t → t < 4 → V 45 t = yHr (fun s => if s < 12 then V 462 (12 * t + s) else 0) 16 ∧ ∀ s, 0 ≤ s → s < 12 → V 462 (12 * t + s) = 0 ∨ V 462 (12 * t + s) = 1) ∧ V 37 7 = V 480 46 ∧ (0 ≤ V 480 46 ∧ V 480 46 ≤ N) ∧ V 37 5 = V 480 52 ∧ (0 ≤ V 480 52 ∧ V 480 52 ≤ 40) ∧ ∀ k, 0 ≤ k → k < V 480 52 → V 38 k = V 463 k ∧ V 39 k = V 464 k ∧ V 40 k = V 465 k ∧ V 41 k = V 466 k ∧ V 42 k = V 467 k ∧ (0 ≤ V 463 k ∧ V 463 k < 3) ∧ (1 ≤ V 464 k ∧ V 464 k ≤ 15) ∧ (0 ≤ V 465 k ∧ V 465 k ≤ V 466 k ∧ V 466 k < 40) ∧ (-1 ≤ V 467 k ∧ V 467 k ≤ 100 * N + 33)
/-- one learned bar -/
def iLb (V : zVt) (J : zJt) (i : Int) : Prop := ∃ B : Int → Int, (∀ r, 0 ≤ r → r < 16 → yByte (B r)) ∧ (∀ r, 0 ≤ r → r < 8 → zby (J 48 i) r = B r ∧ zby (J 49 i) r = B (r + 8) ∧ zby (J 468 i) r = yMb (B r) ∧ zby (J 469 i) r = yMb (B (r + 8))) ∧ V 470 i = yHr (fun t => yBg (B t)) 16
def iLrn (N : Int) (V : zVt) (J : zJt) : Prop := ∀ i, 0 ≤ i → i < 5760 → V 47 i = V 472 i ∧ (0 ≤ V 47 i ∧ V 47 i ≤ 40 * N) ∧ (0 < V 47 i → V (50 + 15 * (i / 40 % 12).toNat) 3 = 1 ∧ V 471 i = tN (yTt V (i / 40 % 12).toNat) 2 ∧ iLb V J i)
def zInv (N : Int) (V : zVt) (J : zJt) : Prop := iTxt V ∧ iCor V ∧ (∀ w, w < 12 → iPart V J w) ∧ ((0 ≤ V 480 37 ∧ V 480 37 ≤ 40) ∧ V 0 2 = V 480 37) ∧ (∀ j, j < 40 → iCopy V J j) ∧ iOne V ∧ iReh N V ∧ iLrn N V J ∧ (V 0 11 = V 480 59 ∧ 0 ≤ V 480 59 ∧ V 480 59 ≤ N) ∧ (0 ≤ N ∧ N ≤ 600)
/-! what stays -/
def pM (V V' : zVt) (J J' : zJt) : Prop := (∀ o : Nat, (o = 481 ∨ o = 432 ∨ (454 ≤ o ∧ o ≤ 472)) → V' o = V o) ∧ (V' 480 37 = V 480 37 ∧ V' 480 42 = V 480 42 ∧ V' 480 46 = V 480 46 ∧ V' 480 52 = V 480 52 ∧ V' 480 59 = V 480 59) ∧ J' 468 = J 468 ∧ J' 469 = J 469
def pC (V V' : zVt) (J J' : zJt) : Prop := (∀ o : Nat, (o ≤ 6 ∨ (37 ≤ o ∧ o ≤ 429)) → V' o = V o) ∧ ∀ o : Nat, (37 ≤ o ∧ o ≤ 429) → J' o = J o
/-- the class but part w0's reading -/
def pCw (w0 : Nat) (V V' : zVt) (J J' : zJt) : Prop := (∀ o : Nat, (o ≤ 6 ∨ (37 ≤ o ∧ o ≤ 429)) → ¬(50 + 15 * w0 ≤ o ∧ o < 65 + 15 * w0) → V' o = V o) ∧ (∀ o : Nat, (37 ≤ o ∧ o ≤ 429) → o ≠ 64 + 15 * w0 → J' o = J o) ∧ V' (51 + 15 * w0) = V (51 + 15 * w0) ∧ V' (61 + 15 * w0) = V (61 + 15 * w0) ∧ V' (62 + 15 * w0) = V (62 + 15 * w0) ∧ V' (50 + 15 * w0) 1 = V (50 + 15 * w0) 1 ∧ V' (50 + 15 * w0) 3 = V (50 + 15 * w0) 3
theorem pCw_of {V V' : zVt} {J J' : zJt} (h : pC V V' J J') {w0 : Nat} (hw : w0 < 12) : pCw w0 V V' J J' := ⟨fun o h1 _ => h.1 o h1, fun o h1 _ => h.2 o h1, h.1 _ (by omega), h.1 _ (by omega), h.1 _ (by omega), by rw [h.1 _ (by omega)], by rw [h.1 _ (by omega)]⟩
section
variable {V V' : zVt} {J J' : zJt} {w0 : Nat}
theorem iTxt_fr (hw : w0 < 12) (hm : pM V V' J J') (hc : pCw w0 V V' J J') (h : iTxt V) : iTxt V' := by
  unfold iTxt at *
  rw [hm.1 481 (by omega), hm.1 432 (by omega)]
  refine ⟨h.1, fun w w1 => ?_⟩
  have q := h.2 w w1
  by_cases e : w = w0
  · subst e
    rw [hc.2.2.2.2.2.1, hc.2.2.1]
    exact q
  · rw [hc.1 (50 + 15 * w) (by omega) (by omega), hc.1 (51 + 15 * w) (by omega) (by omega)]
    exact q
theorem iCor_fr (hw : w0 < 12) (hm : pM V V' J J') (hc : pCw w0 V V' J J') (h : iCor V) : iCor V' := by
  unfold iCor at *
  rw [hm.2.1.2.1, hc.1 3 (by omega) (by omega), hc.1 4 (by omega) (by omega), hc.1 5 (by omega) (by omega), hc.1 6 (by omega) (by omega), hm.1 457 (by omega), hm.1 458 (by omega), hm.1 459 (by omega)]
  exact h
theorem iMk_fr {M : Nat} {e : Int} (h1 : V' M = V M) (h2 : V' (M + 1) = V (M + 1)) (h3 : V' 456 = V 456) (h4 : V' 480 42 = V 480 42) (h : iMk V M e) : iMk V' M e := by
  unfold iMk at *
  rw [h1, h2, h3, h4]
  exact h
theorem iMs_fr {M w : Nat} {H : Int → Int} (h1 : V' M = V M) (h2 : J' (M + 1) = J (M + 1)) (h3 : V' 481 = V 481) (h4 : V' 432 = V 432) (h5 : V' 3 = V 3) (h6 : V' 4 = V 4 ∧ V' 5 = V 5 ∧ V' 6 = V 6) (h : iMs V J M w H) : iMs V' J' M w H := by
  unfold iMs yTt cMus at *
  rw [h1, h2, h3, h4, h5, h6.1, h6.2.1, h6.2.2]
  exact h
theorem iRd_fr {w : Nat} (hr : ∀ o : Nat, 50 + 15 * w ≤ o → o < 65 + 15 * w → V' o = V o) (h2 : J' (64 + 15 * w) = J (64 + 15 * w)) (h3 : V' 481 = V 481) (h4 : V' 432 = V 432) (h5 : V' 3 = V 3) (h6 : V' 4 = V 4 ∧ V' 5 = V 5 ∧ V' 6 = V 6) (h : iRd V J w) : iRd V' J' w := by
  unfold iRd at *
  refine ⟨?_, ?_⟩
  · obtain ⟨n, b, F, A, fa, c1, c2, c3⟩ := h.1
    refine ⟨n, b, F, A, fa, ?_, ?_, ?_⟩
    · unfold cRow cTok7 yTt at *
      rw [h3, h4, hr (52 + 15 * w) (by omega) (by omega), hr (52 + 15 * w + 1) (by omega) (by omega), hr (52 + 15 * w + 2) (by omega) (by omega), hr (52 + 15 * w + 3) (by omega) (by omega), hr (52 + 15 * w + 4) (by omega) (by omega), hr (52 + 15 * w + 5) (by omega) (by omega), hr (52 + 15 * w + 6) (by omega) (by omega), hr (52 + 15 * w + 7) (by omega) (by omega), hr (52 + 15 * w + 8) (by omega) (by omega)]
      exact c1
    · unfold yTt at *
      rw [h3, h4, h5, h6.1, h6.2.1, h6.2.2, hr (50 + 15 * w) (by omega) (by omega)]
      exact c2
    · unfold yTt at *
      rw [h3, h4, h5, h6.1, h6.2.1, h6.2.2, hr (50 + 15 * w) (by omega) (by omega)]
      exact c3
  · rw [hr (62 + 15 * w) (by omega) (by omega)]
    exact iMs_fr (hr _ (by omega) (by omega)) (by rw [show 63 + 15 * w + 1 = 64 + 15 * w by omega]; exact h2) h3 h4 h5 h6 h.2
theorem iPart_fr {w : Nat} (hw : w < 12) (hr : ∀ o : Nat, 50 + 15 * w ≤ o → o < 65 + 15 * w → V' o = V o) (h2 : J' (64 + 15 * w) = J (64 + 15 * w)) (hm : pM V V' J J') (h5 : V' 3 = V 3) (h6 : V' 4 = V 4 ∧ V' 5 = V 5 ∧ V' 6 = V 6) (h : iPart V J w) : iPart V' J' w := by
  obtain ⟨a1, a2, a3, a4, a5, a6, a7⟩ := h
  have e50 := hr (50 + 15 * w) (by omega) (by omega)
  unfold iPart
  rw [e50, hr (62 + 15 * w) (by omega) (by omega), hm.2.1.1, hm.1 454 (by omega)]
  exact ⟨a1, a2, a3, iMk_fr (hr _ (by omega) (by omega)) (hr _ (by omega) (by omega)) (hm.1 456 (by omega)) hm.2.1.2.1 a4, a5, fun q => iRd_fr hr h2 (hm.1 481 (by omega)) (hm.1 432 (by omega)) h5 h6 (a6 q), a7⟩
theorem iCopy_fr {j : Nat} (hj : j < 40) (hr : ∀ o : Nat, 230 + 5 * j ≤ o → o < 235 + 5 * j → V' o = V o) (h2 : J' (234 + 5 * j) = J (234 + 5 * j)) (hm : pM V V' J J') (h5 : V' 3 = V 3) (h6 : V' 4 = V 4 ∧ V' 5 = V 5 ∧ V' 6 = V 6) (h : iCopy V J j) : iCopy V' J' j := by
  obtain ⟨a1, a2, a3⟩ := h
  unfold iCopy
  rw [hr (230 + 5 * j) (by omega) (by omega), hr (232 + 5 * j) (by omega) (by omega), hm.2.1.1, hm.1 454 (by omega), hm.1 455 (by omega)]
  refine ⟨iMk_fr (hr _ (by omega) (by omega)) (hr _ (by omega) (by omega)) (hm.1 456 (by omega)) hm.2.1.2.1 a1, fun q => ?_, a3⟩
  obtain ⟨b1, b2, b3, b4, b5⟩ := a2 q
  exact ⟨b1, b2, b3, b4, iMs_fr (hr _ (by omega) (by omega)) (by rw [show 233 + 5 * j + 1 = 234 + 5 * j by omega]; exact h2) (hm.1 481 (by omega)) (hm.1 432 (by omega)) h5 h6 b5⟩
/-- the invariant where only part w0's reading has changed -/
theorem zInv_w {N : Int} (hw : w0 < 12) (hm : pM V V' J J') (hc : pCw w0 V V' J J') (h : zInv N V J) (hp : iPart V' J' w0) : zInv N V' J' := by
  obtain ⟨a1, a2, a3, a4, a5, a6, a7, a8, a9, a10⟩ := h
  have e3 := hc.1 3 (by omega) (by omega)
  have e4 := hc.1 4 (by omega) (by omega)
  have e5 := hc.1 5 (by omega) (by omega)
  have e6 := hc.1 6 (by omega) (by omega)
  refine ⟨iTxt_fr hw hm hc a1, iCor_fr hw hm hc a2, ?_, ?_, ?_, ?_, ?_, ?_, ?_, a10⟩
  · intro w w1
    by_cases e : w = w0
    · rw [e]; exact hp
    · exact iPart_fr w1 (fun o h1 h2 => hc.1 o (by omega) (by omega)) (hc.2.1 _ (by omega) (by omega)) hm e3 ⟨e4, e5, e6⟩ (a3 w w1)
  · rw [hm.2.1.1, hc.1 0 (by omega) (by omega)]
    exact a4
  · intro j j1
    exact iCopy_fr j1 (fun o h1 h2 => hc.1 o (by omega) (by omega)) (hc.2.1 _ (by omega) (by omega)) hm e3 ⟨e4, e5, e6⟩ (a5 j j1)
  · unfold iOne at *
    rw [hm.2.1.1, hm.1 454 (by omega), hm.1 455 (by omega)]
    exact a6
  · unfold iReh at *
    rw [hc.1 43 (by omega) (by omega), hc.1 44 (by omega) (by omega), hc.1 45 (by omega) (by omega), hc.1 37 (by omega) (by omega), hc.1 38 (by omega) (by omega), hc.1 39 (by omega) (by omega), hc.1 40 (by omega) (by omega), hc.1 41 (by omega) (by omega), hc.1 42 (by omega) (by omega), hm.1 460 (by omega), hm.1 461 (by omega), hm.1 462 (by omega), hm.1 463 (by omega), hm.1 464 (by omega), hm.1 465 (by omega), hm.1 466 (by omega), hm.1 467 (by omega), hm.2.1.2.2.1, hm.2.1.2.2.2.1]
    exact a7
  · intro i i0 i1
    have q := a8 i i0 i1
    unfold iLb yTt at *
    rw [hc.1 47 (by omega) (by omega), hm.1 470 (by omega), hm.1 471 (by omega), hm.1 472 (by omega), hm.1 481 (by omega), hm.1 432 (by omega), hc.2.1 48 (by omega) (by omega), hc.2.1 49 (by omega) (by omega), hm.2.2.1, hm.2.2.2]
    have e50 : V' (50 + 15 * (i / 40 % 12).toNat) 3 = V (50 + 15 * (i / 40 % 12).toNat) 3 := by
      by_cases e : (i / 40 % 12).toNat = w0
      · rw [e]; exact hc.2.2.2.2.2.2
      · rw [hc.1 _ (by omega) (by omega)]
    rw [e50]
    exact q
  · rw [hc.1 0 (by omega) (by omega), hm.2.1.2.2.2.2]
    exact a9
theorem zInv_fr {N : Int} (hm : pM V V' J J') (hc : pC V V' J J') (h : zInv N V J) : zInv N V' J' := by
  refine zInv_w (w0 := 0) (by decide) hm (pCw_of hc (by decide)) h ?_
  exact iPart_fr (by decide) (fun o h1 h2 => hc.1 o (by omega)) (hc.2 _ (by omega)) hm (hc.1 3 (by omega)) ⟨hc.1 4 (by omega), hc.1 5 (by omega), hc.1 6 (by omega)⟩ (h.2.2.1 0 (by decide))
end
