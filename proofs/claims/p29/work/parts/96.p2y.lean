/-! no land, no CHAIRS -/
theorem mH_0 {I : Nat → Nat → Int} (h : mH I) (h0 : I 105 0 = 0) : I 105 2 = 0 := by
  obtain ⟨a, _, d⟩ := h
  apply Classical.byContradiction
  intro g
  have := (d 0 (by omega) (by omega)).1
  unfold mCell at this
  rw [h0] at this
  omega
