/-! the law's default -/
theorem case_def {j : Nat} {m : Mem} (h : Inv j m) : Inv (j + 1) m := by
  obtain ⟨g, n, h⟩ := h
  exact ⟨g, n, h.same (by omega) (SM.refl m)⟩
