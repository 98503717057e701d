/-! part 95: judging in the reference, the rest; judge -/
section
variable {V : zVt} {J : zJt} {N p : Int} {d : Nat → Nat → UInt64}
theorem oSt_m {W W1 : zVt} {K K1 : zJt} {C : zVt} {D : zJt} {t : Int} {k5 : Int → Int64} (hs : oSt V J W K C D t k5) (m3 : pM V W1 J K1) (m4 : ∀ o : Nat, o < 430 → W1 o = W o ∧ K1 o = K o) (m5 : K1 474 = K 474) (m6 : W1 480 60 = W 480 60) : oSt V J W1 K1 C D t k5 := ⟨m3, fun o ho => ⟨(m4 o ho).1.trans (hs.2.1 o ho).1, (m4 o ho).2.trans (hs.2.1 o ho).2⟩, m6.trans hs.2.2.1, m5.trans hs.2.2.2⟩
end
section
variable {V : zVt} {J : zJt} {N p : Int}
end
