/-! contracts of the class typed by hand (open ones stand with sorry) -/
section Sw
variable {l : Launch} {D : va_G} {cy : Nat → ClassId} {z d bc bs N : Nat} {T : Nat → Nat × Nat} {R : Nat → Nat → Option Nat} {I : Nat → Nat → Int} {K : yKo}
theorem w_35 (hT : yLT T) (hR : yLR R) (hk : ∀ I', (∀ k j, ¬ (k = 1 ∧ j = 6) → I' k j = I k j) → (True) → K none (N, T, R, I')) : yW l zSS D cy zFk z (d + 3) 35 bc bs K 0 0 0 [(0, yr (some 1))] [] (N, T, R, I) := by sorry
theorem w_48 (hT : yLT T) (hR : yLR R) {p : Nat} (hp : yAtSentence T R p) {x1 x4 : Int} (hk : ∀ r, (r = 0 ∨ r = 1) → K (some (yi r)) (N, T, R, I)) : yW l zSS D cy zFk z (d + 2) 48 bc bs K 0 0 0 [(0, yr (some p)), (1, yi x1), (2, yr (some 4)), (3, yr (some 16)), (4, yi x4)] [] (N, T, R, I) := by sorry
theorem w_63 (hT : yLT T) (hR : yLR R) {p : Nat} (hp : yAtState T R p) (gp : (1 < p ∧ p + 13 ≤ 102) ∨ 126 ≤ p) {x1 : Int} (hk : ∀ I', (∀ k j, ¬ (p ≤ k ∧ k < p + 13) → I' k j = I k j) → (True) → K none (N, T, R, I')) : yW l zSS D cy zFk z d 63 bc bs K 0 0 0 [(0, yr (some p)), (1, yi x1)] [] (N, T, R, I) := by sorry
end Sw
