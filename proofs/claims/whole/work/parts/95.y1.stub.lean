/-! a stub -/
theorem kn_nine {E X : Nat → Nat → Prop} {P : knP} (g : kn_good P) {r : Nat} (h : kn_sol E X r P) : kn_sol E X 9 P := by
  sorry
