/-! part 81: lend, the call -/
section
variable {V : zVt} {J : zJt} {N a b : Int}
theorem iCp_rg (h : zInv N V J) : ∀ j, 0 ≤ j → j < V 480 37 → (0 ≤ V 454 j ∧ V 454 j < 12) ∧ (-1 ≤ V 455 j ∧ V 455 j < 12) := fun j j0 j1 => ⟨(iCp_ms h ⟨j0, j1⟩).2.1, (iCp_ms h ⟨j0, j1⟩).2.2.2.2⟩
end
