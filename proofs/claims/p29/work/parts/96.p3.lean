/-! CONTRACTS of the reference, printed by wip/whole/y/t5.py (96.p3) -/
section Sw
variable {l : Launch} {D : va_G} {cy : Nat → ClassId} {z d bc bs N : Nat} {T : Nat → Nat × Nat} {R : Nat → Nat → Option Nat} {I : Nat → Nat → Int} {K : yKo}
set_option maxHeartbeats 2000000 in
/-- ChairAlleyModel.line()Z -/
theorem w_211 (hT : yLT T) (hR : yLR R) (h0 : 0 ≤ I 102 3 ∧ I 102 3 ≤ 940 ∧ 0 ≤ I 102 4 ∧ I 102 4 ≤ 940 ∧ 0 ≤ I 102 14 ∧ I 102 14 ≤ 10000) (h1 : (I 102 22 = 0 → I 105 0 = 0) ∧ (I 102 23 = 0 → I 105 6 = 0)) (hP0 : mH I) (hk : ∀ r I', (∀ k j, ¬ ((k = 102 ∧ (j = 4 ∨ (11 ≤ j ∧ j ≤ 23))) ∨ k = 105 ∨ k = 107) → I' k j = I k j) → (((0 ≤ I' 102 3 ∧ I' 102 3 ≤ 940 ∧ 0 ≤ I' 102 4 ∧ I' 102 4 ≤ 940 ∧ 0 ≤ I' 102 14 ∧ I' 102 14 ≤ 10000) ∧ ((I' 102 22 = 0 → I' 105 0 = 0) ∧ (I' 102 23 = 0 → I' 105 6 = 0)) ∧ I 102 4 ≤ I' 102 4 ∧ (r = 0 ∨ (r = 1 ∧ (I' 102 11 = 3 → I 102 4 < I' 102 4)))) ∧ mH I') → K (some (yi r)) (N, T, R, I')) : yW l zSS D cy zFk z (d + 5) 211 bc bs K 0 0 0 [(0, yr (some 102))] [] (N, T, R, I) := by
  have hd := hP0.1
  have u245 : ∀ k j : Nat, ¬ ((k = 102 ∧ (j = 4 ∨ (11 ≤ j ∧ j ≤ 23))) ∨ k = 105 ∨ k = 107) → ¬ (k = 102 ∧ (j = 4 ∨ (11 ≤ j ∧ j ≤ 18))) := fun k j h => by omega
  have ymH245 : ∀ k j : Nat, k = 105 → ¬ (k = 102 ∧ (j = 4 ∨ (11 ≤ j ∧ j ≤ 18))) := fun k j h => by omega
  have v105 : ∀ k j i : Nat, ¬ ((k = 102 ∧ (j = 4 ∨ (11 ≤ j ∧ j ≤ 23))) ∨ k = 105 ∨ k = 107) → ¬ (k = 105 ∧ j = i) := fun k j i h => by omega
  have u230 : ∀ k j : Nat, ¬ ((k = 102 ∧ (j = 4 ∨ (11 ≤ j ∧ j ≤ 23))) ∨ k = 105 ∨ k = 107) → ¬ ((k = 102 ∧ (j = 4 ∨ (11 ≤ j ∧ j ≤ 18))) ∨ k = 105) := fun k j h => by omega
  have u159 : ∀ k j : Nat, ¬ ((k = 102 ∧ (j = 4 ∨ (11 ≤ j ∧ j ≤ 23))) ∨ k = 105 ∨ k = 107) → ¬ (k = 102 ∧ (j = 15 ∨ j = 16)) := fun k j h => by omega
  have ymH159 : ∀ k j : Nat, k = 105 → ¬ (k = 102 ∧ (j = 15 ∨ j = 16)) := fun k j h => by omega
  have u182 : ∀ k j : Nat, ¬ ((k = 102 ∧ (j = 4 ∨ (11 ≤ j ∧ j ≤ 23))) ∨ k = 105 ∨ k = 107) → ¬ (k = 102 ∧ (j = 4 ∨ (11 ≤ j ∧ j ≤ 14) ∨ j = 17)) := fun k j h => by omega
  have ymH182 : ∀ k j : Nat, k = 105 → ¬ (k = 102 ∧ (j = 4 ∨ (11 ≤ j ∧ j ≤ 14) ∨ j = 17)) := fun k j h => by omega
  have u212 : ∀ k j : Nat, ¬ ((k = 102 ∧ (j = 4 ∨ (11 ≤ j ∧ j ≤ 23))) ∨ k = 105 ∨ k = 107) → ¬ (k = 102 ∧ (j = 4 ∨ (11 ≤ j ∧ j ≤ 18))) := fun k j h => by omega
  have ymH212 : ∀ k j : Nat, k = 105 → ¬ (k = 102 ∧ (j = 4 ∨ (11 ≤ j ∧ j ≤ 18))) := fun k j h => by omega
  have v102_20 : ∀ k j : Nat, ¬ ((k = 102 ∧ (j = 4 ∨ (11 ≤ j ∧ j ≤ 23))) ∨ k = 105 ∨ k = 107) → ¬ (k = 102 ∧ j = 20) := fun k j h => by omega
  have xmH102_20 : ∀ k j : Nat, k = 105 → ¬ (k = 102 ∧ j = 20) := fun k j h => by omega
  have u229 : ∀ k j : Nat, ¬ ((k = 102 ∧ (j = 4 ∨ (11 ≤ j ∧ j ≤ 23))) ∨ k = 105 ∨ k = 107) → ¬ ((k = 102 ∧ (j = 4 ∨ (11 ≤ j ∧ j ≤ 18))) ∨ k = 105 ∨ k = 107) := fun k j h => by omega
  have v102_21 : ∀ k j : Nat, ¬ ((k = 102 ∧ (j = 4 ∨ (11 ≤ j ∧ j ≤ 23))) ∨ k = 105 ∨ k = 107) → ¬ (k = 102 ∧ j = 21) := fun k j h => by omega
  have xmH102_21 : ∀ k j : Nat, k = 105 → ¬ (k = 102 ∧ j = 21) := fun k j h => by omega
  have v102_23 : ∀ k j : Nat, ¬ ((k = 102 ∧ (j = 4 ∨ (11 ≤ j ∧ j ≤ 23))) ∨ k = 105 ∨ k = 107) → ¬ (k = 102 ∧ j = 23) := fun k j h => by omega
  have xmH102_23 : ∀ k j : Nat, k = 105 → ¬ (k = 102 ∧ j = 23) := fun k j h => by omega
  have v105_6 : ∀ k j : Nat, ¬ ((k = 102 ∧ (j = 4 ∨ (11 ≤ j ∧ j ≤ 23))) ∨ k = 105 ∨ k = 107) → ¬ (k = 105 ∧ j = 6) := fun k j h => by omega
  have v102_22 : ∀ k j : Nat, ¬ ((k = 102 ∧ (j = 4 ∨ (11 ≤ j ∧ j ≤ 23))) ∨ k = 105 ∨ k = 107) → ¬ (k = 102 ∧ j = 22) := fun k j h => by omega
  have xmH102_22 : ∀ k j : Nat, k = 105 → ¬ (k = 102 ∧ j = 22) := fun k j h => by omega
  have k0 : ∀ k j, ¬ ((k = 102 ∧ (j = 4 ∨ (11 ≤ j ∧ j ≤ 23))) ∨ k = 105 ∨ k = 107) → I k j = I k j := fun _ _ _ => rfl
  have L : ∀ m : Nat, (∀ x1 : Int, ∀ X : Nat → Nat → Int, (∀ k j, ¬ ((k = 102 ∧ (j = 4 ∨ (11 ≤ j ∧ j ≤ 23))) ∨ k = 105 ∨ k = 107) → X k j = I k j) → (20 + (2 - x1) : Int).toNat < m → (((0 ≤ X 102 3 ∧ X 102 3 ≤ 940 ∧ 0 ≤ X 102 4 ∧ X 102 4 ≤ 940 ∧ 0 ≤ X 102 14 ∧ X 102 14 ≤ 10000) ∧ ((X 102 22 = 0 → X 105 0 = 0) ∧ (X 102 23 = 0 → X 105 6 = 0)) ∧ I 102 4 ≤ X 102 4 ∧ 0 ≤ x1 ∧ x1 ≤ 2 ∧ X 102 22 = 1 ∧ X 105 2 = 0 ∧ (2 ≤ x1 → (X 102 11 = 3 → I 102 4 < X 102 4))) ∧ mH X) → yW l zSS D cy zFk z (d + 5) 211 bc bs K 0 0 34 [(0, yr (some 102)), (1, yi x1)] [] (N, T, R, X)) ∧ (∀ X : Nat → Nat → Int, (∀ k j, ¬ ((k = 102 ∧ (j = 4 ∨ (11 ≤ j ∧ j ≤ 23))) ∨ k = 105 ∨ k = 107) → X k j = I k j) → (60 : Int).toNat < m → (((0 ≤ X 102 3 ∧ X 102 3 ≤ 940 ∧ 0 ≤ X 102 4 ∧ X 102 4 ≤ 940 ∧ 0 ≤ X 102 14 ∧ X 102 14 ≤ 10000) ∧ ((X 102 22 = 0 → X 105 0 = 0) ∧ (X 102 23 = 0 → X 105 6 = 0)) ∧ I 102 4 ≤ X 102 4) ∧ mH X) → yW l zSS D cy zFk z (d + 5) 211 bc bs K 0 0 71 [(0, yr (some 102))] [] (N, T, R, X)) ∧ (∀ X : Nat → Nat → Int, (∀ k j, ¬ ((k = 102 ∧ (j = 4 ∨ (11 ≤ j ∧ j ≤ 23))) ∨ k = 105 ∨ k = 107) → X k j = I k j) → (59 : Int).toNat < m → (((0 ≤ X 102 3 ∧ X 102 3 ≤ 940 ∧ 0 ≤ X 102 4 ∧ X 102 4 ≤ 940 ∧ 0 ≤ X 102 14 ∧ X 102 14 ≤ 10000) ∧ ((X 102 22 = 0 → X 105 0 = 0) ∧ (X 102 23 = 0 → X 105 6 = 0)) ∧ I 102 4 ≤ X 102 4) ∧ mH X) → yW l zSS D cy zFk z (d + 5) 211 bc bs K 0 0 91 [(0, yr (some 102))] [] (N, T, R, X)) ∧ (∀ X : Nat → Nat → Int, (∀ k j, ¬ ((k = 102 ∧ (j = 4 ∨ (11 ≤ j ∧ j ≤ 23))) ∨ k = 105 ∨ k = 107) → X k j = I k j) → (58 : Int).toNat < m → (((0 ≤ X 102 3 ∧ X 102 3 ≤ 940 ∧ 0 ≤ X 102 4 ∧ X 102 4 ≤ 940 ∧ 0 ≤ X 102 14 ∧ X 102 14 ≤ 10000) ∧ ((X 102 22 = 0 → X 105 0 = 0) ∧ (X 102 23 = 0 → X 105 6 = 0)) ∧ I 102 4 ≤ X 102 4) ∧ mH X) → yW l zSS D cy zFk z (d + 5) 211 bc bs K 0 0 111 [(0, yr (some 102))] [] (N, T, R, X)) ∧ (∀ X : Nat → Nat → Int, (∀ k j, ¬ ((k = 102 ∧ (j = 4 ∨ (11 ≤ j ∧ j ≤ 23))) ∨ k = 105 ∨ k = 107) → X k j = I k j) → (57 : Int).toNat < m → (((0 ≤ X 102 3 ∧ X 102 3 ≤ 940 ∧ 0 ≤ X 102 4 ∧ X 102 4 ≤ 940 ∧ 0 ≤ X 102 14 ∧ X 102 14 ≤ 10000) ∧ ((X 102 22 = 0 → X 105 0 = 0) ∧ (X 102 23 = 0 → X 105 6 = 0)) ∧ I 102 4 ≤ X 102 4) ∧ mH X) → yW l zSS D cy zFk z (d + 5) 211 bc bs K 0 0 132 [(0, yr (some 102))] [] (N, T, R, X)) ∧ (∀ X : Nat → Nat → Int, (∀ k j, ¬ ((k = 102 ∧ (j = 4 ∨ (11 ≤ j ∧ j ≤ 23))) ∨ k = 105 ∨ k = 107) → X k j = I k j) → (53 : Int).toNat < m → (((0 ≤ X 102 3 ∧ X 102 3 ≤ 940 ∧ 0 ≤ X 102 4 ∧ X 102 4 ≤ 940 ∧ 0 ≤ X 102 14 ∧ X 102 14 ≤ 10000) ∧ ((X 102 22 = 0 → X 105 0 = 0) ∧ (X 102 23 = 0 → X 105 6 = 0)) ∧ I 102 4 ≤ X 102 4) ∧ mH X) → yW l zSS D cy zFk z (d + 5) 211 bc bs K 0 0 157 [(0, yr (some 102))] [] (N, T, R, X)) ∧ (∀ X : Nat → Nat → Int, (∀ k j, ¬ ((k = 102 ∧ (j = 4 ∨ (11 ≤ j ∧ j ≤ 23))) ∨ k = 105 ∨ k = 107) → X k j = I k j) → (45 : Int).toNat < m → (((0 ≤ X 102 3 ∧ X 102 3 ≤ 940 ∧ 0 ≤ X 102 4 ∧ X 102 4 ≤ 940 ∧ 0 ≤ X 102 14 ∧ X 102 14 ≤ 10000) ∧ ((X 102 22 = 0 → X 105 0 = 0) ∧ (X 102 23 = 0 → X 105 6 = 0)) ∧ I 102 4 ≤ X 102 4 ∧ (0 ≤ X 102 18 ∧ X 102 18 < 100 ∧ X 102 18 % 10 < X 105 0 ∧ X 102 18 / 10 < X 105 1)) ∧ mH X) → yW l zSS D cy zFk z (d + 5) 211 bc bs K 0 0 170 [(0, yr (some 102))] [] (N, T, R, X)) ∧ (∀ x1 : Int, ∀ X : Nat → Nat → Int, (∀ k j, ¬ ((k = 102 ∧ (j = 4 ∨ (11 ≤ j ∧ j ≤ 23))) ∨ k = 105 ∨ k = 107) → X k j = I k j) → (44 : Int).toNat < m → (((0 ≤ X 102 3 ∧ X 102 3 ≤ 940 ∧ 0 ≤ X 102 4 ∧ X 102 4 ≤ 940 ∧ 0 ≤ X 102 14 ∧ X 102 14 ≤ 10000) ∧ ((X 102 22 = 0 → X 105 0 = 0) ∧ (X 102 23 = 0 → X 105 6 = 0)) ∧ I 102 4 ≤ X 102 4 ∧ 0 ≤ x1 ∧ x1 < 100) ∧ mH X) → yW l zSS D cy zFk z (d + 5) 211 bc bs K 0 0 194 [(0, yr (some 102)), (1, yi x1)] [] (N, T, R, X)) ∧ (∀ x1 x2 : Int, ∀ X : Nat → Nat → Int, (∀ k j, ¬ ((k = 102 ∧ (j = 4 ∨ (11 ≤ j ∧ j ≤ 23))) ∨ k = 105 ∨ k = 107) → X k j = I k j) → (43 : Int).toNat < m → (((0 ≤ X 102 3 ∧ X 102 3 ≤ 940 ∧ 0 ≤ X 102 4 ∧ X 102 4 ≤ 940 ∧ 0 ≤ X 102 14 ∧ X 102 14 ≤ 10000) ∧ ((X 102 22 = 0 → X 105 0 = 0) ∧ (X 102 23 = 0 → X 105 6 = 0)) ∧ I 102 4 ≤ X 102 4 ∧ 0 ≤ x1 ∧ x1 < 100 ∧ 0 ≤ x2 ∧ x2 ≤ 3) ∧ mH X) → yW l zSS D cy zFk z (d + 5) 211 bc bs K 0 0 213 [(0, yr (some 102)), (1, yi x1), (2, yi x2)] [] (N, T, R, X)) ∧ (∀ X : Nat → Nat → Int, (∀ k j, ¬ ((k = 102 ∧ (j = 4 ∨ (11 ≤ j ∧ j ≤ 23))) ∨ k = 105 ∨ k = 107) → X k j = I k j) → (56 : Int).toNat < m → (((0 ≤ X 102 3 ∧ X 102 3 ≤ 940 ∧ 0 ≤ X 102 4 ∧ X 102 4 ≤ 940 ∧ 0 ≤ X 102 14 ∧ X 102 14 ≤ 10000) ∧ ((X 102 22 = 0 → X 105 0 = 0) ∧ (X 102 23 = 0 → X 105 6 = 0)) ∧ I 102 4 ≤ X 102 4) ∧ mH X) → yW l zSS D cy zFk z (d + 5) 211 bc bs K 0 0 242 [(0, yr (some 102))] [] (N, T, R, X)) ∧ (∀ X : Nat → Nat → Int, (∀ k j, ¬ ((k = 102 ∧ (j = 4 ∨ (11 ≤ j ∧ j ≤ 23))) ∨ k = 105 ∨ k = 107) → X k j = I k j) → (55 : Int).toNat < m → (((0 ≤ X 102 3 ∧ X 102 3 ≤ 940 ∧ 0 ≤ X 102 4 ∧ X 102 4 ≤ 940 ∧ 0 ≤ X 102 14 ∧ X 102 14 ≤ 10000) ∧ ((X 102 22 = 0 → X 105 0 = 0) ∧ (X 102 23 = 0 → X 105 6 = 0)) ∧ I 102 4 ≤ X 102 4) ∧ mH X) → yW l zSS D cy zFk z (d + 5) 211 bc bs K 0 0 257 [(0, yr (some 102))] [] (N, T, R, X)) ∧ (∀ X : Nat → Nat → Int, (∀ k j, ¬ ((k = 102 ∧ (j = 4 ∨ (11 ≤ j ∧ j ≤ 23))) ∨ k = 105 ∨ k = 107) → X k j = I k j) → (12 : Int).toNat < m → (((0 ≤ X 102 3 ∧ X 102 3 ≤ 940 ∧ 0 ≤ X 102 4 ∧ X 102 4 ≤ 940 ∧ 0 ≤ X 102 14 ∧ X 102 14 ≤ 10000) ∧ ((X 102 22 = 0 → X 105 0 = 0) ∧ (X 102 23 = 0 → X 105 6 = 0)) ∧ I 102 4 ≤ X 102 4) ∧ mH X) → yW l zSS D cy zFk z (d + 5) 211 bc bs K 0 0 277 [(0, yr (some 102))] [] (N, T, R, X)) ∧ (∀ x1 : Int, ∀ X : Nat → Nat → Int, (∀ k j, ¬ ((k = 102 ∧ (j = 4 ∨ (11 ≤ j ∧ j ≤ 23))) ∨ k = 105 ∨ k = 107) → X k j = I k j) → (10 : Int).toNat < m → (((0 ≤ X 102 3 ∧ X 102 3 ≤ 940 ∧ 0 ≤ X 102 4 ∧ X 102 4 ≤ 940 ∧ 0 ≤ X 102 14 ∧ X 102 14 ≤ 10000) ∧ ((X 102 22 = 0 → X 105 0 = 0) ∧ (X 102 23 = 0 → X 105 6 = 0)) ∧ I 102 4 ≤ X 102 4) ∧ mH X) → yW l zSS D cy zFk z (d + 5) 211 bc bs K 0 0 302 [(0, yr (some 102)), (1, yi x1)] [] (N, T, R, X)) ∧ (∀ x1 x2 : Int, ∀ X : Nat → Nat → Int, (∀ k j, ¬ ((k = 102 ∧ (j = 4 ∨ (11 ≤ j ∧ j ≤ 23))) ∨ k = 105 ∨ k = 107) → X k j = I k j) → (9 : Int).toNat < m → (((0 ≤ X 102 3 ∧ X 102 3 ≤ 940 ∧ 0 ≤ X 102 4 ∧ X 102 4 ≤ 940 ∧ 0 ≤ X 102 14 ∧ X 102 14 ≤ 10000) ∧ ((X 102 22 = 0 → X 105 0 = 0) ∧ (X 102 23 = 0 → X 105 6 = 0)) ∧ I 102 4 ≤ X 102 4 ∧ 0 ≤ x2 ∧ x2 ≤ 8) ∧ mH X) → yW l zSS D cy zFk z (d + 5) 211 bc bs K 0 0 340 [(0, yr (some 102)), (1, yi x1), (2, yi x2)] [] (N, T, R, X)) ∧ (∀ X : Nat → Nat → Int, (∀ k j, ¬ ((k = 102 ∧ (j = 4 ∨ (11 ≤ j ∧ j ≤ 23))) ∨ k = 105 ∨ k = 107) → X k j = I k j) → (1 : Int).toNat < m → (((0 ≤ X 102 3 ∧ X 102 3 ≤ 940 ∧ 0 ≤ X 102 4 ∧ X 102 4 ≤ 940 ∧ 0 ≤ X 102 14 ∧ X 102 14 ≤ 10000) ∧ ((X 102 22 = 0 → X 105 0 = 0) ∧ (X 102 23 = 0 → X 105 6 = 0)) ∧ I 102 4 ≤ X 102 4) ∧ mH X) → yW l zSS D cy zFk z (d + 5) 211 bc bs K 0 0 351 [(0, yr (some 102))] [] (N, T, R, X)) ∧ (∀ x1 x2 : Int, ∀ X : Nat → Nat → Int, (∀ k j, ¬ ((k = 102 ∧ (j = 4 ∨ (11 ≤ j ∧ j ≤ 23))) ∨ k = 105 ∨ k = 107) → X k j = I k j) → (8 : Int).toNat < m → (((0 ≤ X 102 3 ∧ X 102 3 ≤ 940 ∧ 0 ≤ X 102 4 ∧ X 102 4 ≤ 940 ∧ 0 ≤ X 102 14 ∧ X 102 14 ≤ 10000) ∧ ((X 102 22 = 0 → X 105 0 = 0) ∧ (X 102 23 = 0 → X 105 6 = 0)) ∧ I 102 4 ≤ X 102 4 ∧ 0 ≤ x2 ∧ x2 ≤ 8) ∧ mH X) → yW l zSS D cy zFk z (d + 5) 211 bc bs K 0 0 357 [(0, yr (some 102)), (1, yi x1), (2, yi x2)] [] (N, T, R, X)) ∧ (∀ X : Nat → Nat → Int, (∀ k j, ¬ ((k = 102 ∧ (j = 4 ∨ (11 ≤ j ∧ j ≤ 23))) ∨ k = 105 ∨ k = 107) → X k j = I k j) → (54 : Int).toNat < m → (((0 ≤ X 102 3 ∧ X 102 3 ≤ 940 ∧ 0 ≤ X 102 4 ∧ X 102 4 ≤ 940 ∧ 0 ≤ X 102 14 ∧ X 102 14 ≤ 10000) ∧ ((X 102 22 = 0 → X 105 0 = 0) ∧ (X 102 23 = 0 → X 105 6 = 0)) ∧ I 102 4 ≤ X 102 4) ∧ mH X) → yW l zSS D cy zFk z (d + 5) 211 bc bs K 0 0 418 [(0, yr (some 102))] [] (N, T, R, X)) ∧ (∀ x1 : Int, ∀ X : Nat → Nat → Int, (∀ k j, ¬ ((k = 102 ∧ (j = 4 ∨ (11 ≤ j ∧ j ≤ 23))) ∨ k = 105 ∨ k = 107) → X k j = I k j) → (2 * (3 - X 105 6) + 4 : Int).toNat < m → (((0 ≤ X 102 3 ∧ X 102 3 ≤ 940 ∧ 0 ≤ X 102 4 ∧ X 102 4 ≤ 940 ∧ 0 ≤ X 102 14 ∧ X 102 14 ≤ 10000) ∧ ((X 102 22 = 0 → X 105 0 = 0) ∧ (X 102 23 = 0 → X 105 6 = 0)) ∧ I 102 4 ≤ X 102 4 ∧ X 102 23 = 1 ∧ (x1 ≠ 0 → (X 102 11 = 3 → I 102 4 < X 102 4))) ∧ mH X ∧ (mLx x1 (X 105 6))) → yW l zSS D cy zFk z (d + 5) 211 bc bs K 0 0 458 [(0, yr (some 102)), (1, yi x1)] [] (N, T, R, X)) ∧ (∀ x1 : Int, ∀ X : Nat → Nat → Int, (∀ k j, ¬ ((k = 102 ∧ (j = 4 ∨ (11 ≤ j ∧ j ≤ 23))) ∨ k = 105 ∨ k = 107) → X k j = I k j) → (2 * (3 - X 105 6) + 3 : Int).toNat < m → (((0 ≤ X 102 3 ∧ X 102 3 ≤ 940 ∧ 0 ≤ X 102 4 ∧ X 102 4 ≤ 940 ∧ 0 ≤ X 102 14 ∧ X 102 14 ≤ 10000) ∧ ((X 102 22 = 0 → X 105 0 = 0) ∧ (X 102 23 = 0 → X 105 6 = 0)) ∧ I 102 4 ≤ X 102 4 ∧ X 102 23 = 1) ∧ mH X ∧ (mLx x1 (X 105 6))) → yW l zSS D cy zFk z (d + 5) 211 bc bs K 0 0 471 [(0, yr (some 102)), (1, yi x1)] [] (N, T, R, X)) := by
    intro m
    induction m with
    | zero => exact ⟨fun _ _ _ h => absurd h (Nat.not_lt_zero _), fun _ _ h => absurd h (Nat.not_lt_zero _), fun _ _ h => absurd h (Nat.not_lt_zero _), fun _ _ h => absurd h (Nat.not_lt_zero _), fun _ _ h => absurd h (Nat.not_lt_zero _), fun _ _ h => absurd h (Nat.not_lt_zero _), fun _ _ h => absurd h (Nat.not_lt_zero _), fun _ _ _ h => absurd h (Nat.not_lt_zero _), fun _ _ _ _ h => absurd h (Nat.not_lt_zero _), fun _ _ h => absurd h (Nat.not_lt_zero _), fun _ _ h => absurd h (Nat.not_lt_zero _), fun _ _ h => absurd h (Nat.not_lt_zero _), fun _ _ _ h => absurd h (Nat.not_lt_zero _), fun _ _ _ _ h => absurd h (Nat.not_lt_zero _), fun _ _ h => absurd h (Nat.not_lt_zero _), fun _ _ _ _ h => absurd h (Nat.not_lt_zero _), fun _ _ h => absurd h (Nat.not_lt_zero _), fun _ _ _ h => absurd h (Nat.not_lt_zero _), fun _ _ _ h => absurd h (Nat.not_lt_zero _)⟩
    | succ m ih =>
      refine ⟨?_, ?_, ?_, ?_, ?_, ?_, ?_, ?_, ?_, ?_, ?_, ?_, ?_, ?_, ?_, ?_, ?_, ?_, ?_⟩
      · intro x1 X kX hm iv
        obtain ⟨iv, pX_0⟩ := iv
        refine e_li (i := 1) (x := x1) rfl fun _ _ => ?_
        have hd := pX_0.1
        have t1 : X 102 3 = (I 102 3) := (kX 102 3 (by decide))
        refine Bx_211_34 hT hR ?_
        try rw [t1]
        refine ⟨fun c2 => ?_, fun c2 => ?_⟩
        · exact hk _ _ kX ⟨(by omega), pX_0⟩
        · refine w_245 (d := d + 2) hT hR  (by omega) (fun r3 I4 f6 q5 => ⟨_, _, rfl, rfl, ?_⟩)
          have k7 : ∀ k j, ¬ ((k = 102 ∧ (j = 4 ∨ (11 ≤ j ∧ j ≤ 23))) ∨ k = 105 ∨ k = 107) → I4 k j = I k j := fun k j h => (f6 k j (u245 k j h)).trans (kX k j h)
          have t8 : I4 102 3 = (I 102 3) := (f6 102 3 (by decide)).trans t1
          try rw [t8]
          try rw [t8] at q5
          have t9 : I4 102 22 = (X 102 22) := (f6 102 22 (by decide))
          try rw [t9]
          try rw [t9] at q5
          have t10 : I4 102 23 = (X 102 23) := (f6 102 23 (by decide))
          try rw [t10]
          try rw [t10] at q5
          have t11 : I4 105 0 = (X 105 0) := (f6 105 0 (by decide))
          try rw [t11]
          try rw [t11] at q5
          have t12 : I4 105 1 = (X 105 1) := (f6 105 1 (by decide))
          try rw [t12]
          try rw [t12] at q5
          have t13 : I4 105 2 = (X 105 2) := (f6 105 2 (by decide))
          try rw [t13]
          try rw [t13] at q5
          have t14 : I4 105 6 = (X 105 6) := (f6 105 6 (by decide))
          try rw [t14]
          try rw [t14] at q5
          have t15 : I4 102 19 = (X 102 19) := (f6 102 19 (by decide))
          try rw [t15]
          try rw [t15] at q5
          have t16 : I4 102 20 = (X 102 20) := (f6 102 20 (by decide))
          try rw [t16]
          try rw [t16] at q5
          have t17 : I4 102 21 = (X 102 21) := (f6 102 21 (by decide))
          try rw [t17]
          try rw [t17] at q5
          have p18 : mH I4 := mH_eq pX_0 (fun k j h => f6 k j (ymH245 k j h))
          refine ⟨fun c19 => ?_, fun c19 => ?_⟩
          · have a20 : yadd 0 x1 = (0 + x1) := yadd_eq (by omega) (by omega)
            try rw [a20]
            refine ⟨by omega, by omega, ?_⟩
            intro I21 e22
            first | have n23 : ynar 1 (I4 102 18) = (I4 102 18) := ynar1_eq (by omega) (by omega) | skip
            try rw [n23] at e22
            have k24 : ∀ k j, ¬ ((k = 102 ∧ (j = 4 ∨ (11 ≤ j ∧ j ≤ 23))) ∨ k = 105 ∨ k = 107) → I21 k j = I k j := fun k j h => ((congrFun (congrFun e22 k) j).trans (yU_ne _ _ (v105 k j _ h))).trans (k7 k j h)
            have p25 : mH I21 := by rw [e22]; exact mH_set p18 (by omega)
            have t26 : I21 102 3 = (I 102 3) := ((congrFun (congrFun e22 102) 3).trans (yU_ne _ _ (fun q => absurd q.1 (by decide)))).trans t8
            try rw [t26]
            have t27 : I21 102 4 = (I4 102 4) := (congrFun (congrFun e22 102) 4).trans (yU_ne _ _ (fun q => absurd q.1 (by decide)))
            try rw [t27]
            have t28 : I21 102 11 = (I4 102 11) := (congrFun (congrFun e22 102) 11).trans (yU_ne _ _ (fun q => absurd q.1 (by decide)))
            try rw [t28]
            have t29 : I21 102 14 = (I4 102 14) := (congrFun (congrFun e22 102) 14).trans (yU_ne _ _ (fun q => absurd q.1 (by decide)))
            try rw [t29]
            have t30 : I21 102 18 = (I4 102 18) := (congrFun (congrFun e22 102) 18).trans (yU_ne _ _ (fun q => absurd q.1 (by decide)))
            try rw [t30]
            have t31 : I21 102 22 = (X 102 22) := ((congrFun (congrFun e22 102) 22).trans (yU_ne _ _ (fun q => absurd q.1 (by decide)))).trans t9
            try rw [t31]
            have t32 : I21 102 23 = (X 102 23) := ((congrFun (congrFun e22 102) 23).trans (yU_ne _ _ (fun q => absurd q.1 (by decide)))).trans t10
            try rw [t32]
            have t33 : I21 105 2 = (X 105 2) := ((congrFun (congrFun e22 105) 2).trans (yU_ne _ _ (by omega))).trans t13
            try rw [t33]
            have t34 : I21 105 6 = (X 105 6) := ((congrFun (congrFun e22 105) 6).trans (yU_ne _ _ (by omega))).trans t14
            try rw [t34]
            have t35 : I21 102 19 = (X 102 19) := ((congrFun (congrFun e22 102) 19).trans (yU_ne _ _ (fun q => absurd q.1 (by decide)))).trans t15
            try rw [t35]
            have t36 : I21 102 20 = (X 102 20) := ((congrFun (congrFun e22 102) 20).trans (yU_ne _ _ (fun q => absurd q.1 (by decide)))).trans t16
            try rw [t36]
            have t37 : I21 102 21 = (X 102 21) := ((congrFun (congrFun e22 102) 21).trans (yU_ne _ _ (fun q => absurd q.1 (by decide)))).trans t17
            try rw [t37]
            have a38 : yadd x1 1 = (x1 + 1) := yadd_eq (by omega) (by omega)
            try rw [a38]
            exact ih.1 _ _ k24 (by omega) ⟨(by omega), p25⟩
          · exact hk _ _ k7 ⟨(by omega), p18⟩
      · intro X kX hm iv
        obtain ⟨iv, pX_0⟩ := iv
        have hd := pX_0.1
        have t39 : X 102 3 = (I 102 3) := (kX 102 3 (by decide))
        refine Bx_211_71 hT hR ?_
        try rw [t39]
        refine w_199 (d := d + 4) hT hR   (fun r40 q41 => ⟨_, _, rfl, rfl, ?_⟩)
        refine ⟨fun c43 => ?_, fun c43 => ?_⟩
        · exact ih.2.2.1  _ kX (by omega) ⟨(by omega), pX_0⟩
        · refine w_230 (d := d) hT hR  (by omega) (by omega) (by omega) pX_0 (fun r44 I45 f47 q46 => ⟨_, _, rfl, rfl, ?_⟩)
          have k48 : ∀ k j, ¬ ((k = 102 ∧ (j = 4 ∨ (11 ≤ j ∧ j ≤ 23))) ∨ k = 105 ∨ k = 107) → I45 k j = I k j := fun k j h => (f47 k j (u230 k j h)).trans (kX k j h)
          have t49 : I45 102 3 = (I 102 3) := (f47 102 3 (by decide)).trans t39
          try rw [t49]
          try rw [t49] at q46
          have t50 : I45 102 22 = (X 102 22) := (f47 102 22 (by decide))
          try rw [t50]
          try rw [t50] at q46
          have t51 : I45 102 23 = (X 102 23) := (f47 102 23 (by decide))
          try rw [t51]
          try rw [t51] at q46
          have t52 : I45 102 19 = (X 102 19) := (f47 102 19 (by decide))
          try rw [t52]
          try rw [t52] at q46
          have t53 : I45 102 20 = (X 102 20) := (f47 102 20 (by decide))
          try rw [t53]
          try rw [t53] at q46
          have t54 : I45 102 21 = (X 102 21) := (f47 102 21 (by decide))
          try rw [t54]
          try rw [t54] at q46
          obtain ⟨q46, q46_0⟩ := q46
          refine ⟨by omega, ?_⟩
          exact hk _ _ k48 ⟨(by omega), q46_0⟩
      · intro X kX hm iv
        obtain ⟨iv, pX_0⟩ := iv
        have hd := pX_0.1
        have t55 : X 102 3 = (I 102 3) := (kX 102 3 (by decide))
        refine Bx_211_91 hT hR ?_
        try rw [t55]
        refine w_199 (d := d + 4) hT hR   (fun r56 q57 => ⟨_, _, rfl, rfl, ?_⟩)
        refine ⟨fun c59 => ?_, fun c59 => ?_⟩
        · exact ih.2.2.2.1  _ kX (by omega) ⟨(by omega), pX_0⟩
        · refine w_230 (d := d) hT hR  (by omega) (by omega) (by omega) pX_0 (fun r60 I61 f63 q62 => ⟨_, _, rfl, rfl, ?_⟩)
          have k64 : ∀ k j, ¬ ((k = 102 ∧ (j = 4 ∨ (11 ≤ j ∧ j ≤ 23))) ∨ k = 105 ∨ k = 107) → I61 k j = I k j := fun k j h => (f63 k j (u230 k j h)).trans (kX k j h)
          have t65 : I61 102 3 = (I 102 3) := (f63 102 3 (by decide)).trans t55
          try rw [t65]
          try rw [t65] at q62
          have t66 : I61 102 22 = (X 102 22) := (f63 102 22 (by decide))
          try rw [t66]
          try rw [t66] at q62
          have t67 : I61 102 23 = (X 102 23) := (f63 102 23 (by decide))
          try rw [t67]
          try rw [t67] at q62
          have t68 : I61 102 19 = (X 102 19) := (f63 102 19 (by decide))
          try rw [t68]
          try rw [t68] at q62
          have t69 : I61 102 20 = (X 102 20) := (f63 102 20 (by decide))
          try rw [t69]
          try rw [t69] at q62
          have t70 : I61 102 21 = (X 102 21) := (f63 102 21 (by decide))
          try rw [t70]
          try rw [t70] at q62
          obtain ⟨q62, q62_0⟩ := q62
          refine ⟨by omega, ?_⟩
          exact hk _ _ k64 ⟨(by omega), q62_0⟩
      · intro X kX hm iv
        obtain ⟨iv, pX_0⟩ := iv
        have hd := pX_0.1
        have t71 : X 102 3 = (I 102 3) := (kX 102 3 (by decide))
        refine Bx_211_111 hT hR ?_
        try rw [t71]
        refine w_199 (d := d + 4) hT hR   (fun r72 q73 => ⟨_, _, rfl, rfl, ?_⟩)
        refine ⟨fun c75 => ?_, fun c75 => ?_⟩
        · exact ih.2.2.2.2.1  _ kX (by omega) ⟨(by omega), pX_0⟩
        · refine w_230 (d := d) hT hR  (by omega) (by omega) (by omega) pX_0 (fun r76 I77 f79 q78 => ⟨_, _, rfl, rfl, ?_⟩)
          have k80 : ∀ k j, ¬ ((k = 102 ∧ (j = 4 ∨ (11 ≤ j ∧ j ≤ 23))) ∨ k = 105 ∨ k = 107) → I77 k j = I k j := fun k j h => (f79 k j (u230 k j h)).trans (kX k j h)
          have t81 : I77 102 3 = (I 102 3) := (f79 102 3 (by decide)).trans t71
          try rw [t81]
          try rw [t81] at q78
          have t82 : I77 102 22 = (X 102 22) := (f79 102 22 (by decide))
          try rw [t82]
          try rw [t82] at q78
          have t83 : I77 102 23 = (X 102 23) := (f79 102 23 (by decide))
          try rw [t83]
          try rw [t83] at q78
          have t84 : I77 102 19 = (X 102 19) := (f79 102 19 (by decide))
          try rw [t84]
          try rw [t84] at q78
          have t85 : I77 102 20 = (X 102 20) := (f79 102 20 (by decide))
          try rw [t85]
          try rw [t85] at q78
          have t86 : I77 102 21 = (X 102 21) := (f79 102 21 (by decide))
          try rw [t86]
          try rw [t86] at q78
          obtain ⟨q78, q78_0⟩ := q78
          refine ⟨by omega, ?_⟩
          exact hk _ _ k80 ⟨(by omega), q78_0⟩
      · intro X kX hm iv
        obtain ⟨iv, pX_0⟩ := iv
        have hd := pX_0.1
        have t87 : X 102 3 = (I 102 3) := (kX 102 3 (by decide))
        refine Bx_211_132 hT hR ?_
        try rw [t87]
        refine w_199 (d := d + 4) hT hR   (fun r88 q89 => ⟨_, _, rfl, rfl, ?_⟩)
        refine ⟨fun c91 => ?_, fun c91 => ?_⟩
        · exact ih.2.2.2.2.2.2.2.2.2.1  _ kX (by omega) ⟨(by omega), pX_0⟩
        · refine ⟨fun c92 => ?_, fun c92 => ?_⟩
          · exact ih.2.2.2.2.2.1  _ kX (by omega) ⟨(by omega), pX_0⟩
          · refine w_159 (d := d + 4) hT hR  (by omega) (fun r93 I94 f96 q95 => ⟨_, _, rfl, rfl, ?_⟩)
            have k97 : ∀ k j, ¬ ((k = 102 ∧ (j = 4 ∨ (11 ≤ j ∧ j ≤ 23))) ∨ k = 105 ∨ k = 107) → I94 k j = I k j := fun k j h => (f96 k j (u159 k j h)).trans (kX k j h)
            have t98 : I94 102 3 = (I 102 3) := (f96 102 3 (by decide)).trans t87
            try rw [t98]
            try rw [t98] at q95
            have t99 : I94 102 4 = (X 102 4) := (f96 102 4 (by decide))
            try rw [t99]
            try rw [t99] at q95
            have t100 : I94 102 11 = (X 102 11) := (f96 102 11 (by decide))
            try rw [t100]
            try rw [t100] at q95
            have t101 : I94 102 14 = (X 102 14) := (f96 102 14 (by decide))
            try rw [t101]
            try rw [t101] at q95
            have t102 : I94 102 18 = (X 102 18) := (f96 102 18 (by decide))
            try rw [t102]
            try rw [t102] at q95
            have t103 : I94 102 22 = (X 102 22) := (f96 102 22 (by decide))
            try rw [t103]
            try rw [t103] at q95
            have t104 : I94 102 23 = (X 102 23) := (f96 102 23 (by decide))
            try rw [t104]
            try rw [t104] at q95
            have t105 : I94 105 0 = (X 105 0) := (f96 105 0 (by decide))
            try rw [t105]
            try rw [t105] at q95
            have t106 : I94 105 1 = (X 105 1) := (f96 105 1 (by decide))
            try rw [t106]
            try rw [t106] at q95
            have t107 : I94 105 2 = (X 105 2) := (f96 105 2 (by decide))
            try rw [t107]
            try rw [t107] at q95
            have t108 : I94 105 6 = (X 105 6) := (f96 105 6 (by decide))
            try rw [t108]
            try rw [t108] at q95
            have t109 : I94 102 19 = (X 102 19) := (f96 102 19 (by decide))
            try rw [t109]
            try rw [t109] at q95
            have t110 : I94 102 20 = (X 102 20) := (f96 102 20 (by decide))
            try rw [t110]
            try rw [t110] at q95
            have t111 : I94 102 21 = (X 102 21) := (f96 102 21 (by decide))
            try rw [t111]
            try rw [t111] at q95
            have p112 : mH I94 := mH_eq pX_0 (fun k j h => f96 k j (ymH159 k j h))
            refine ⟨by omega, ?_⟩
            exact hk _ _ k97 ⟨(by omega), p112⟩
      · intro X kX hm iv
        obtain ⟨iv, pX_0⟩ := iv
        have hd := pX_0.1
        have t113 : X 102 3 = (I 102 3) := (kX 102 3 (by decide))
        refine Bx_211_157 hT hR ?_
        try rw [t113]
        refine w_182 (d := d + 3) hT hR  (by omega) (fun I114 f116 q115 => ⟨_, rfl, rfl, ?_⟩)
        have k117 : ∀ k j, ¬ ((k = 102 ∧ (j = 4 ∨ (11 ≤ j ∧ j ≤ 23))) ∨ k = 105 ∨ k = 107) → I114 k j = I k j := fun k j h => (f116 k j (u182 k j h)).trans (kX k j h)
        have t118 : I114 102 3 = (I 102 3) := (f116 102 3 (by decide)).trans t113
        try rw [t118]
        try rw [t118] at q115
        have t119 : I114 102 18 = (X 102 18) := (f116 102 18 (by decide))
        try rw [t119]
        try rw [t119] at q115
        have t120 : I114 102 22 = (X 102 22) := (f116 102 22 (by decide))
        try rw [t120]
        try rw [t120] at q115
        have t121 : I114 102 23 = (X 102 23) := (f116 102 23 (by decide))
        try rw [t121]
        try rw [t121] at q115
        have t122 : I114 105 0 = (X 105 0) := (f116 105 0 (by decide))
        try rw [t122]
        try rw [t122] at q115
        have t123 : I114 105 1 = (X 105 1) := (f116 105 1 (by decide))
        try rw [t123]
        try rw [t123] at q115
        have t124 : I114 105 2 = (X 105 2) := (f116 105 2 (by decide))
        try rw [t124]
        try rw [t124] at q115
        have t125 : I114 105 6 = (X 105 6) := (f116 105 6 (by decide))
        try rw [t125]
        try rw [t125] at q115
        have t126 : I114 102 19 = (X 102 19) := (f116 102 19 (by decide))
        try rw [t126]
        try rw [t126] at q115
        have t127 : I114 102 20 = (X 102 20) := (f116 102 20 (by decide))
        try rw [t127]
        try rw [t127] at q115
        have t128 : I114 102 21 = (X 102 21) := (f116 102 21 (by decide))
        try rw [t128]
        try rw [t128] at q115
        have p129 : mH I114 := mH_eq pX_0 (fun k j h => f116 k j (ymH182 k j h))
        refine w_212 (d := d + 1) hT hR  (by omega) (by omega) (fun r130 I131 f133 q132 => ⟨_, _, rfl, rfl, ?_⟩)
        have k134 : ∀ k j, ¬ ((k = 102 ∧ (j = 4 ∨ (11 ≤ j ∧ j ≤ 23))) ∨ k = 105 ∨ k = 107) → I131 k j = I k j := fun k j h => (f133 k j (u212 k j h)).trans (k117 k j h)
        have t135 : I131 102 3 = (I 102 3) := (f133 102 3 (by decide)).trans t118
        try rw [t135]
        try rw [t135] at q132
        have t136 : I131 102 22 = (X 102 22) := (f133 102 22 (by decide)).trans t120
        try rw [t136]
        try rw [t136] at q132
        have t137 : I131 102 23 = (X 102 23) := (f133 102 23 (by decide)).trans t121
        try rw [t137]
        try rw [t137] at q132
        have t138 : I131 105 0 = (X 105 0) := (f133 105 0 (by decide)).trans t122
        try rw [t138]
        try rw [t138] at q132
        have t139 : I131 105 1 = (X 105 1) := (f133 105 1 (by decide)).trans t123
        try rw [t139]
        try rw [t139] at q132
        have t140 : I131 105 2 = (X 105 2) := (f133 105 2 (by decide)).trans t124
        try rw [t140]
        try rw [t140] at q132
        have t141 : I131 105 6 = (X 105 6) := (f133 105 6 (by decide)).trans t125
        try rw [t141]
        try rw [t141] at q132
        have t142 : I131 102 19 = (X 102 19) := (f133 102 19 (by decide)).trans t126
        try rw [t142]
        try rw [t142] at q132
        have t143 : I131 102 20 = (X 102 20) := (f133 102 20 (by decide)).trans t127
        try rw [t143]
        try rw [t143] at q132
        have t144 : I131 102 21 = (X 102 21) := (f133 102 21 (by decide)).trans t128
        try rw [t144]
        try rw [t144] at q132
        have p145 : mH I131 := mH_eq p129 (fun k j h => f133 k j (ymH212 k j h))
        refine ⟨fun c146 => ?_, fun c146 => ?_⟩
        · exact ih.2.2.2.2.2.2.1  _ k134 (by omega) ⟨(by omega), p145⟩
        · exact hk _ _ k134 ⟨(by omega), p145⟩
      · intro X kX hm iv
        obtain ⟨iv, pX_0⟩ := iv
        have hd := pX_0.1
        have t147 : X 102 3 = (I 102 3) := (kX 102 3 (by decide))
        refine Bx_211_170 hT hR ?_
        try rw [t147]
        have a148 : yadd 358 (X 102 18) = (358 + (X 102 18)) := yadd_eq (by omega) (by omega)
        try rw [a148]
        refine ⟨by omega, by omega, ?_⟩
        refine ⟨fun c149 => ?_, fun c149 => ?_⟩
        · exact ih.2.2.2.2.2.2.2.1 _ _ kX (by omega) ⟨(by omega), pX_0⟩
        · refine w_159 (d := d + 4) hT hR  (by omega) (fun r150 I151 f153 q152 => ⟨_, _, rfl, rfl, ?_⟩)
          have k154 : ∀ k j, ¬ ((k = 102 ∧ (j = 4 ∨ (11 ≤ j ∧ j ≤ 23))) ∨ k = 105 ∨ k = 107) → I151 k j = I k j := fun k j h => (f153 k j (u159 k j h)).trans (kX k j h)
          have t155 : I151 102 3 = (I 102 3) := (f153 102 3 (by decide)).trans t147
          try rw [t155]
          try rw [t155] at q152
          have t156 : I151 102 4 = (X 102 4) := (f153 102 4 (by decide))
          try rw [t156]
          try rw [t156] at q152
          have t157 : I151 102 11 = (X 102 11) := (f153 102 11 (by decide))
          try rw [t157]
          try rw [t157] at q152
          have t158 : I151 102 14 = (X 102 14) := (f153 102 14 (by decide))
          try rw [t158]
          try rw [t158] at q152
          have t159 : I151 102 18 = (X 102 18) := (f153 102 18 (by decide))
          try rw [t159]
          try rw [t159] at q152
          have t160 : I151 102 22 = (X 102 22) := (f153 102 22 (by decide))
          try rw [t160]
          try rw [t160] at q152
          have t161 : I151 102 23 = (X 102 23) := (f153 102 23 (by decide))
          try rw [t161]
          try rw [t161] at q152
          have t162 : I151 105 0 = (X 105 0) := (f153 105 0 (by decide))
          try rw [t162]
          try rw [t162] at q152
          have t163 : I151 105 1 = (X 105 1) := (f153 105 1 (by decide))
          try rw [t163]
          try rw [t163] at q152
          have t164 : I151 105 2 = (X 105 2) := (f153 105 2 (by decide))
          try rw [t164]
          try rw [t164] at q152
          have t165 : I151 105 6 = (X 105 6) := (f153 105 6 (by decide))
          try rw [t165]
          try rw [t165] at q152
          have t166 : I151 102 19 = (X 102 19) := (f153 102 19 (by decide))
          try rw [t166]
          try rw [t166] at q152
          have t167 : I151 102 20 = (X 102 20) := (f153 102 20 (by decide))
          try rw [t167]
          try rw [t167] at q152
          have t168 : I151 102 21 = (X 102 21) := (f153 102 21 (by decide))
          try rw [t168]
          try rw [t168] at q152
          have p169 : mH I151 := mH_eq pX_0 (fun k j h => f153 k j (ymH159 k j h))
          refine ⟨by omega, ?_⟩
          exact hk _ _ k154 ⟨(by omega), p169⟩
      · intro x1 X kX hm iv
        obtain ⟨iv, pX_0⟩ := iv
        refine e_li (i := 1) (x := x1) rfl fun _ _ => ?_
        have hd := pX_0.1
        have t170 : X 102 3 = (I 102 3) := (kX 102 3 (by decide))
        refine Bx_211_194 hT hR ?_
        try rw [t170]
        refine w_182 (d := d + 3) hT hR  (by omega) (fun I171 f173 q172 => ⟨_, rfl, rfl, ?_⟩)
        have k174 : ∀ k j, ¬ ((k = 102 ∧ (j = 4 ∨ (11 ≤ j ∧ j ≤ 23))) ∨ k = 105 ∨ k = 107) → I171 k j = I k j := fun k j h => (f173 k j (u182 k j h)).trans (kX k j h)
        have t175 : I171 102 3 = (I 102 3) := (f173 102 3 (by decide)).trans t170
        try rw [t175]
        try rw [t175] at q172
        have t176 : I171 102 18 = (X 102 18) := (f173 102 18 (by decide))
        try rw [t176]
        try rw [t176] at q172
        have t177 : I171 102 22 = (X 102 22) := (f173 102 22 (by decide))
        try rw [t177]
        try rw [t177] at q172
        have t178 : I171 102 23 = (X 102 23) := (f173 102 23 (by decide))
        try rw [t178]
        try rw [t178] at q172
        have t179 : I171 105 0 = (X 105 0) := (f173 105 0 (by decide))
        try rw [t179]
        try rw [t179] at q172
        have t180 : I171 105 1 = (X 105 1) := (f173 105 1 (by decide))
        try rw [t180]
        try rw [t180] at q172
        have t181 : I171 105 2 = (X 105 2) := (f173 105 2 (by decide))
        try rw [t181]
        try rw [t181] at q172
        have t182 : I171 105 6 = (X 105 6) := (f173 105 6 (by decide))
        try rw [t182]
        try rw [t182] at q172
        have t183 : I171 102 19 = (X 102 19) := (f173 102 19 (by decide))
        try rw [t183]
        try rw [t183] at q172
        have t184 : I171 102 20 = (X 102 20) := (f173 102 20 (by decide))
        try rw [t184]
        try rw [t184] at q172
        have t185 : I171 102 21 = (X 102 21) := (f173 102 21 (by decide))
        try rw [t185]
        try rw [t185] at q172
        have p186 : mH I171 := mH_eq pX_0 (fun k j h => f173 k j (ymH182 k j h))
        refine w_172 (d := d + 3) hT hR   (fun r187 q188 => ⟨_, _, rfl, rfl, ?_⟩)
        refine ⟨fun c190 => ?_, fun c190 => ?_⟩
        · exact ih.2.2.2.2.2.2.2.2.1 _ _ _ k174 (by omega) ⟨(by omega), p186⟩
        · refine w_159 (d := d + 4) hT hR  (by omega) (fun r191 I192 f194 q193 => ⟨_, _, rfl, rfl, ?_⟩)
          have k195 : ∀ k j, ¬ ((k = 102 ∧ (j = 4 ∨ (11 ≤ j ∧ j ≤ 23))) ∨ k = 105 ∨ k = 107) → I192 k j = I k j := fun k j h => (f194 k j (u159 k j h)).trans (k174 k j h)
          have t196 : I192 102 3 = (I 102 3) := (f194 102 3 (by decide)).trans t175
          try rw [t196]
          try rw [t196] at q193
          have t197 : I192 102 4 = (I171 102 4) := (f194 102 4 (by decide))
          try rw [t197]
          try rw [t197] at q193
          have t198 : I192 102 11 = (I171 102 11) := (f194 102 11 (by decide))
          try rw [t198]
          try rw [t198] at q193
          have t199 : I192 102 14 = (I171 102 14) := (f194 102 14 (by decide))
          try rw [t199]
          try rw [t199] at q193
          have t200 : I192 102 18 = (X 102 18) := (f194 102 18 (by decide)).trans t176
          try rw [t200]
          try rw [t200] at q193
          have t201 : I192 102 22 = (X 102 22) := (f194 102 22 (by decide)).trans t177
          try rw [t201]
          try rw [t201] at q193
          have t202 : I192 102 23 = (X 102 23) := (f194 102 23 (by decide)).trans t178
          try rw [t202]
          try rw [t202] at q193
          have t203 : I192 105 0 = (X 105 0) := (f194 105 0 (by decide)).trans t179
          try rw [t203]
          try rw [t203] at q193
          have t204 : I192 105 1 = (X 105 1) := (f194 105 1 (by decide)).trans t180
          try rw [t204]
          try rw [t204] at q193
          have t205 : I192 105 2 = (X 105 2) := (f194 105 2 (by decide)).trans t181
          try rw [t205]
          try rw [t205] at q193
          have t206 : I192 105 6 = (X 105 6) := (f194 105 6 (by decide)).trans t182
          try rw [t206]
          try rw [t206] at q193
          have t207 : I192 102 19 = (X 102 19) := (f194 102 19 (by decide)).trans t183
          try rw [t207]
          try rw [t207] at q193
          have t208 : I192 102 20 = (X 102 20) := (f194 102 20 (by decide)).trans t184
          try rw [t208]
          try rw [t208] at q193
          have t209 : I192 102 21 = (X 102 21) := (f194 102 21 (by decide)).trans t185
          try rw [t209]
          try rw [t209] at q193
          have p210 : mH I192 := mH_eq p186 (fun k j h => f194 k j (ymH159 k j h))
          refine ⟨by omega, ?_⟩
          exact hk _ _ k195 ⟨(by omega), p210⟩
      · intro x1 x2 X kX hm iv
        obtain ⟨iv, pX_0⟩ := iv
        refine e_li (i := 1) (x := x1) rfl fun _ _ => ?_
        refine e_li (i := 2) (x := x2) rfl fun _ _ => ?_
        have hd := pX_0.1
        have t211 : X 102 3 = (I 102 3) := (kX 102 3 (by decide))
        refine Bx_211_213 hT hR ?_
        try rw [t211]
        have a212 : yadd 358 x1 = (358 + x1) := yadd_eq (by omega) (by omega)
        try rw [a212]
        have a213 : yadd x2 1 = (x2 + 1) := yadd_eq (by omega) (by omega)
        try rw [a213]
        refine ⟨by omega, by omega, ?_⟩
        intro I214 e215
        first | have n216 : ynar 1 (x2 + 1) = (x2 + 1) := ynar1_eq (by omega) (by omega) | skip
        try rw [n216] at e215
        have k217 : ∀ k j, ¬ ((k = 102 ∧ (j = 4 ∨ (11 ≤ j ∧ j ≤ 23))) ∨ k = 105 ∨ k = 107) → I214 k j = I k j := fun k j h => ((congrFun (congrFun e215 k) j).trans (yU_ne _ _ (v105 k j _ h))).trans (kX k j h)
        have p218 : mH I214 := by rw [e215]; exact mH_set pX_0 (by omega)
        have t219 : I214 102 3 = (I 102 3) := ((congrFun (congrFun e215 102) 3).trans (yU_ne _ _ (fun q => absurd q.1 (by decide)))).trans t211
        try rw [t219]
        have t220 : I214 102 4 = (X 102 4) := (congrFun (congrFun e215 102) 4).trans (yU_ne _ _ (fun q => absurd q.1 (by decide)))
        try rw [t220]
        have t221 : I214 102 11 = (X 102 11) := (congrFun (congrFun e215 102) 11).trans (yU_ne _ _ (fun q => absurd q.1 (by decide)))
        try rw [t221]
        have t222 : I214 102 14 = (X 102 14) := (congrFun (congrFun e215 102) 14).trans (yU_ne _ _ (fun q => absurd q.1 (by decide)))
        try rw [t222]
        have t223 : I214 102 18 = (X 102 18) := (congrFun (congrFun e215 102) 18).trans (yU_ne _ _ (fun q => absurd q.1 (by decide)))
        try rw [t223]
        have t224 : I214 102 22 = (X 102 22) := (congrFun (congrFun e215 102) 22).trans (yU_ne _ _ (fun q => absurd q.1 (by decide)))
        try rw [t224]
        have t225 : I214 102 23 = (X 102 23) := (congrFun (congrFun e215 102) 23).trans (yU_ne _ _ (fun q => absurd q.1 (by decide)))
        try rw [t225]
        have t226 : I214 105 0 = (X 105 0) := (congrFun (congrFun e215 105) 0).trans (yU_ne _ _ (by omega))
        try rw [t226]
        have t227 : I214 105 1 = (X 105 1) := (congrFun (congrFun e215 105) 1).trans (yU_ne _ _ (by omega))
        try rw [t227]
        have t228 : I214 105 2 = (X 105 2) := (congrFun (congrFun e215 105) 2).trans (yU_ne _ _ (by omega))
        try rw [t228]
        have t229 : I214 105 6 = (X 105 6) := (congrFun (congrFun e215 105) 6).trans (yU_ne _ _ (by omega))
        try rw [t229]
        have t230 : I214 102 19 = (X 102 19) := (congrFun (congrFun e215 102) 19).trans (yU_ne _ _ (fun q => absurd q.1 (by decide)))
        try rw [t230]
        have t231 : I214 102 20 = (X 102 20) := (congrFun (congrFun e215 102) 20).trans (yU_ne _ _ (fun q => absurd q.1 (by decide)))
        try rw [t231]
        have t232 : I214 102 21 = (X 102 21) := (congrFun (congrFun e215 102) 21).trans (yU_ne _ _ (fun q => absurd q.1 (by decide)))
        try rw [t232]
        intro I233 e234
        have k235 : ∀ k j, ¬ ((k = 102 ∧ (j = 4 ∨ (11 ≤ j ∧ j ≤ 23))) ∨ k = 105 ∨ k = 107) → I233 k j = I k j := fun k j h => ((congrFun (congrFun e234 k) j).trans (yU_ne _ _ (v102_20 k j h))).trans (k217 k j h)
        have p236 : mH I233 := mH_eq p218 (fun k j h => (congrFun (congrFun e234 k) j).trans (yU_ne _ _ (xmH102_20 k j h)))
        have t237 : I233 102 3 = (I 102 3) := ((congrFun (congrFun e234 102) 3).trans (yU_ne _ _ (fun q => absurd q.2 (by decide)))).trans t219
        try rw [t237]
        have t238 : I233 102 4 = (X 102 4) := ((congrFun (congrFun e234 102) 4).trans (yU_ne _ _ (fun q => absurd q.2 (by decide)))).trans t220
        try rw [t238]
        have t239 : I233 102 11 = (X 102 11) := ((congrFun (congrFun e234 102) 11).trans (yU_ne _ _ (fun q => absurd q.2 (by decide)))).trans t221
        try rw [t239]
        have t240 : I233 102 14 = (X 102 14) := ((congrFun (congrFun e234 102) 14).trans (yU_ne _ _ (fun q => absurd q.2 (by decide)))).trans t222
        try rw [t240]
        have t241 : I233 102 18 = (X 102 18) := ((congrFun (congrFun e234 102) 18).trans (yU_ne _ _ (fun q => absurd q.2 (by decide)))).trans t223
        try rw [t241]
        have t242 : I233 102 22 = (X 102 22) := ((congrFun (congrFun e234 102) 22).trans (yU_ne _ _ (fun q => absurd q.2 (by decide)))).trans t224
        try rw [t242]
        have t243 : I233 102 23 = (X 102 23) := ((congrFun (congrFun e234 102) 23).trans (yU_ne _ _ (fun q => absurd q.2 (by decide)))).trans t225
        try rw [t243]
        have t244 : I233 105 0 = (X 105 0) := ((congrFun (congrFun e234 105) 0).trans (yU_ne _ _ (fun q => absurd q.1 (by decide)))).trans t226
        try rw [t244]
        have t245 : I233 105 1 = (X 105 1) := ((congrFun (congrFun e234 105) 1).trans (yU_ne _ _ (fun q => absurd q.1 (by decide)))).trans t227
        try rw [t245]
        have t246 : I233 105 2 = (X 105 2) := ((congrFun (congrFun e234 105) 2).trans (yU_ne _ _ (fun q => absurd q.1 (by decide)))).trans t228
        try rw [t246]
        have t247 : I233 105 6 = (X 105 6) := ((congrFun (congrFun e234 105) 6).trans (yU_ne _ _ (fun q => absurd q.1 (by decide)))).trans t229
        try rw [t247]
        have t248 : I233 102 19 = (X 102 19) := ((congrFun (congrFun e234 102) 19).trans (yU_ne _ _ (fun q => absurd q.2 (by decide)))).trans t230
        try rw [t248]
        have t249 : I233 102 20 = (yadd (X 102 20) 1) := (congrFun (congrFun e234 102) 20).trans (yU_eq _ _ _ _)
        try rw [t249]
        have t250 : I233 102 21 = (X 102 21) := ((congrFun (congrFun e234 102) 21).trans (yU_ne _ _ (fun q => absurd q.2 (by decide)))).trans t232
        try rw [t250]
        refine w_182 (d := d + 3) hT hR  (by omega) (fun I251 f253 q252 => ⟨_, rfl, rfl, ?_⟩)
        have k254 : ∀ k j, ¬ ((k = 102 ∧ (j = 4 ∨ (11 ≤ j ∧ j ≤ 23))) ∨ k = 105 ∨ k = 107) → I251 k j = I k j := fun k j h => (f253 k j (u182 k j h)).trans (k235 k j h)
        have t255 : I251 102 3 = (I 102 3) := (f253 102 3 (by decide)).trans t237
        try rw [t255]
        try rw [t255] at q252
        have t256 : I251 102 18 = (X 102 18) := (f253 102 18 (by decide)).trans t241
        try rw [t256]
        try rw [t256] at q252
        have t257 : I251 102 22 = (X 102 22) := (f253 102 22 (by decide)).trans t242
        try rw [t257]
        try rw [t257] at q252
        have t258 : I251 102 23 = (X 102 23) := (f253 102 23 (by decide)).trans t243
        try rw [t258]
        try rw [t258] at q252
        have t259 : I251 105 0 = (X 105 0) := (f253 105 0 (by decide)).trans t244
        try rw [t259]
        try rw [t259] at q252
        have t260 : I251 105 1 = (X 105 1) := (f253 105 1 (by decide)).trans t245
        try rw [t260]
        try rw [t260] at q252
        have t261 : I251 105 2 = (X 105 2) := (f253 105 2 (by decide)).trans t246
        try rw [t261]
        try rw [t261] at q252
        have t262 : I251 105 6 = (X 105 6) := (f253 105 6 (by decide)).trans t247
        try rw [t262]
        try rw [t262] at q252
        have t263 : I251 102 19 = (X 102 19) := (f253 102 19 (by decide)).trans t248
        try rw [t263]
        try rw [t263] at q252
        have t264 : I251 102 20 = (yadd (X 102 20) 1) := (f253 102 20 (by decide)).trans t249
        try rw [t264]
        try rw [t264] at q252
        have t265 : I251 102 21 = (X 102 21) := (f253 102 21 (by decide)).trans t250
        try rw [t265]
        try rw [t265] at q252
        have p266 : mH I251 := mH_eq p236 (fun k j h => f253 k j (ymH182 k j h))
        exact hk _ _ k254 ⟨(by omega), p266⟩
      · intro X kX hm iv
        obtain ⟨iv, pX_0⟩ := iv
        have hd := pX_0.1
        have t267 : X 102 3 = (I 102 3) := (kX 102 3 (by decide))
        refine Bx_211_242 hT hR ?_
        try rw [t267]
        refine w_199 (d := d + 4) hT hR   (fun r268 q269 => ⟨_, _, rfl, rfl, ?_⟩)
        refine ⟨fun c271 => ?_, fun c271 => ?_⟩
        · exact ih.2.2.2.2.2.2.2.2.2.2.1  _ kX (by omega) ⟨(by omega), pX_0⟩
        · refine w_229 (d := d) hT hR  (by omega) (by omega) pX_0 (fun r272 I273 f275 q274 => ⟨_, _, rfl, rfl, ?_⟩)
          have k276 : ∀ k j, ¬ ((k = 102 ∧ (j = 4 ∨ (11 ≤ j ∧ j ≤ 23))) ∨ k = 105 ∨ k = 107) → I273 k j = I k j := fun k j h => (f275 k j (u229 k j h)).trans (kX k j h)
          have t277 : I273 102 3 = (I 102 3) := (f275 102 3 (by decide)).trans t267
          try rw [t277]
          try rw [t277] at q274
          have t278 : I273 102 22 = (X 102 22) := (f275 102 22 (by decide))
          try rw [t278]
          try rw [t278] at q274
          have t279 : I273 102 23 = (X 102 23) := (f275 102 23 (by decide))
          try rw [t279]
          try rw [t279] at q274
          have t280 : I273 102 19 = (X 102 19) := (f275 102 19 (by decide))
          try rw [t280]
          try rw [t280] at q274
          have t281 : I273 102 20 = (X 102 20) := (f275 102 20 (by decide))
          try rw [t281]
          try rw [t281] at q274
          have t282 : I273 102 21 = (X 102 21) := (f275 102 21 (by decide))
          try rw [t282]
          try rw [t282] at q274
          obtain ⟨q274, q274_0⟩ := q274
          refine ⟨by omega, ?_⟩
          exact hk _ _ k276 ⟨(by omega), q274_0⟩
      · intro X kX hm iv
        obtain ⟨iv, pX_0⟩ := iv
        have hd := pX_0.1
        have t283 : X 102 3 = (I 102 3) := (kX 102 3 (by decide))
        refine Bx_211_257 hT hR ?_
        try rw [t283]
        refine w_199 (d := d + 4) hT hR   (fun r284 q285 => ⟨_, _, rfl, rfl, ?_⟩)
        refine ⟨fun c287 => ?_, fun c287 => ?_⟩
        · exact ih.2.2.2.2.2.2.2.2.2.2.2.1  _ kX (by omega) ⟨(by omega), pX_0⟩
        · refine w_199 (d := d + 4) hT hR   (fun r288 q289 => ⟨_, _, rfl, rfl, ?_⟩)
          refine ⟨fun c291 => ?_, fun c291 => ?_⟩
          · exact ih.2.2.2.2.2.2.2.2.2.2.2.2.2.2.2.2.1  _ kX (by omega) ⟨(by omega), pX_0⟩
          · exact ih.2.2.2.2.2.2.2.2.2.2.2.1  _ kX (by omega) ⟨(by omega), pX_0⟩
      · intro X kX hm iv
        obtain ⟨iv, pX_0⟩ := iv
        have hd := pX_0.1
        have t292 : X 102 3 = (I 102 3) := (kX 102 3 (by decide))
        refine Bx_211_277 hT hR ?_
        try rw [t292]
        refine w_199 (d := d + 4) hT hR   (fun r293 q294 => ⟨_, _, rfl, rfl, ?_⟩)
        refine w_182 (d := d + 3) hT hR  (by omega) (fun I296 f298 q297 => ⟨_, rfl, rfl, ?_⟩)
        have k299 : ∀ k j, ¬ ((k = 102 ∧ (j = 4 ∨ (11 ≤ j ∧ j ≤ 23))) ∨ k = 105 ∨ k = 107) → I296 k j = I k j := fun k j h => (f298 k j (u182 k j h)).trans (kX k j h)
        have t300 : I296 102 3 = (I 102 3) := (f298 102 3 (by decide)).trans t292
        try rw [t300]
        try rw [t300] at q297
        have t301 : I296 102 18 = (X 102 18) := (f298 102 18 (by decide))
        try rw [t301]
        try rw [t301] at q297
        have t302 : I296 102 22 = (X 102 22) := (f298 102 22 (by decide))
        try rw [t302]
        try rw [t302] at q297
        have t303 : I296 102 23 = (X 102 23) := (f298 102 23 (by decide))
        try rw [t303]
        try rw [t303] at q297
        have t304 : I296 105 0 = (X 105 0) := (f298 105 0 (by decide))
        try rw [t304]
        try rw [t304] at q297
        have t305 : I296 105 1 = (X 105 1) := (f298 105 1 (by decide))
        try rw [t305]
        try rw [t305] at q297
        have t306 : I296 105 2 = (X 105 2) := (f298 105 2 (by decide))
        try rw [t306]
        try rw [t306] at q297
        have t307 : I296 105 6 = (X 105 6) := (f298 105 6 (by decide))
        try rw [t307]
        try rw [t307] at q297
        have t308 : I296 102 19 = (X 102 19) := (f298 102 19 (by decide))
        try rw [t308]
        try rw [t308] at q297
        have t309 : I296 102 20 = (X 102 20) := (f298 102 20 (by decide))
        try rw [t309]
        try rw [t309] at q297
        have t310 : I296 102 21 = (X 102 21) := (f298 102 21 (by decide))
        try rw [t310]
        try rw [t310] at q297
        have p311 : mH I296 := mH_eq pX_0 (fun k j h => f298 k j (ymH182 k j h))
        refine w_194 (d := d + 4) hT hR   (fun r312 q313 => ⟨_, _, rfl, rfl, ?_⟩)
        refine ⟨fun c315 => ?_, fun c315 => ?_⟩
        · exact ih.2.2.2.2.2.2.2.2.2.2.2.2.1 _ _ k299 (by omega) ⟨(by omega), p311⟩
        · refine w_159 (d := d + 4) hT hR  (by omega) (fun r316 I317 f319 q318 => ⟨_, _, rfl, rfl, ?_⟩)
          have k320 : ∀ k j, ¬ ((k = 102 ∧ (j = 4 ∨ (11 ≤ j ∧ j ≤ 23))) ∨ k = 105 ∨ k = 107) → I317 k j = I k j := fun k j h => (f319 k j (u159 k j h)).trans (k299 k j h)
          have t321 : I317 102 3 = (I 102 3) := (f319 102 3 (by decide)).trans t300
          try rw [t321]
          try rw [t321] at q318
          have t322 : I317 102 4 = (I296 102 4) := (f319 102 4 (by decide))
          try rw [t322]
          try rw [t322] at q318
          have t323 : I317 102 11 = (I296 102 11) := (f319 102 11 (by decide))
          try rw [t323]
          try rw [t323] at q318
          have t324 : I317 102 14 = (I296 102 14) := (f319 102 14 (by decide))
          try rw [t324]
          try rw [t324] at q318
          have t325 : I317 102 18 = (X 102 18) := (f319 102 18 (by decide)).trans t301
          try rw [t325]
          try rw [t325] at q318
          have t326 : I317 102 22 = (X 102 22) := (f319 102 22 (by decide)).trans t302
          try rw [t326]
          try rw [t326] at q318
          have t327 : I317 102 23 = (X 102 23) := (f319 102 23 (by decide)).trans t303
          try rw [t327]
          try rw [t327] at q318
          have t328 : I317 105 0 = (X 105 0) := (f319 105 0 (by decide)).trans t304
          try rw [t328]
          try rw [t328] at q318
          have t329 : I317 105 1 = (X 105 1) := (f319 105 1 (by decide)).trans t305
          try rw [t329]
          try rw [t329] at q318
          have t330 : I317 105 2 = (X 105 2) := (f319 105 2 (by decide)).trans t306
          try rw [t330]
          try rw [t330] at q318
          have t331 : I317 105 6 = (X 105 6) := (f319 105 6 (by decide)).trans t307
          try rw [t331]
          try rw [t331] at q318
          have t332 : I317 102 19 = (X 102 19) := (f319 102 19 (by decide)).trans t308
          try rw [t332]
          try rw [t332] at q318
          have t333 : I317 102 20 = (X 102 20) := (f319 102 20 (by decide)).trans t309
          try rw [t333]
          try rw [t333] at q318
          have t334 : I317 102 21 = (X 102 21) := (f319 102 21 (by decide)).trans t310
          try rw [t334]
          try rw [t334] at q318
          have p335 : mH I317 := mH_eq p311 (fun k j h => f319 k j (ymH159 k j h))
          refine ⟨by omega, ?_⟩
          exact hk _ _ k320 ⟨(by omega), p335⟩
      · intro x1 X kX hm iv
        obtain ⟨iv, pX_0⟩ := iv
        refine e_li (i := 1) (x := x1) rfl fun _ _ => ?_
        have hd := pX_0.1
        have t336 : X 102 3 = (I 102 3) := (kX 102 3 (by decide))
        refine Bx_211_302 hT hR ?_
        try rw [t336]
        refine w_180 (d := d + 4) hT hR  (by omega) (fun r337 q338 => ⟨_, _, rfl, rfl, ?_⟩)
        refine ⟨fun c340 => ?_, fun c340 => ?_⟩
        · exact ih.2.2.2.2.2.2.2.2.2.2.2.2.2.2.1  _ kX (by omega) ⟨(by omega), pX_0⟩
        · refine ⟨fun c341 => ?_, fun c341 => ?_⟩
          · exact ih.2.2.2.2.2.2.2.2.2.2.2.2.2.1 _ _ _ kX (by omega) ⟨(by omega), pX_0⟩
          · have a342 : yadd 342 r337 = (342 + r337) := yadd_eq (by omega) (by omega)
            try rw [a342]
            refine ⟨by omega, by omega, ?_⟩
            refine ⟨fun c343 => ?_, fun c343 => ?_⟩
            · exact ih.2.2.2.2.2.2.2.2.2.2.2.2.2.2.2.1 _ _ _ kX (by omega) ⟨(by omega), pX_0⟩
            · exact ih.2.2.2.2.2.2.2.2.2.2.2.2.2.2.1  _ kX (by omega) ⟨(by omega), pX_0⟩
      · intro x1 x2 X kX hm iv
        obtain ⟨iv, pX_0⟩ := iv
        refine e_li (i := 1) (x := x1) rfl fun _ _ => ?_
        refine e_li (i := 2) (x := x2) rfl fun _ _ => ?_
        have hd := pX_0.1
        have t344 : X 102 3 = (I 102 3) := (kX 102 3 (by decide))
        refine Bx_211_340 hT hR ?_
        try rw [t344]
        refine w_164 (d := d + 4) hT hR   (fun r345 q346 => ⟨_, _, rfl, rfl, ?_⟩)
        refine ⟨fun c348 => ?_, fun c348 => ?_⟩
        · exact ih.2.2.2.2.2.2.2.2.2.2.2.2.2.2.2.1 _ _ _ kX (by omega) ⟨(by omega), pX_0⟩
        · exact ih.2.2.2.2.2.2.2.2.2.2.2.2.2.2.1  _ kX (by omega) ⟨(by omega), pX_0⟩
      · intro X kX hm iv
        obtain ⟨iv, pX_0⟩ := iv
        have hd := pX_0.1
        have t349 : X 102 3 = (I 102 3) := (kX 102 3 (by decide))
        refine Bx_211_351 hT hR ?_
        try rw [t349]
        refine w_159 (d := d + 4) hT hR  (by omega) (fun r350 I351 f353 q352 => ⟨_, _, rfl, rfl, ?_⟩)
        have k354 : ∀ k j, ¬ ((k = 102 ∧ (j = 4 ∨ (11 ≤ j ∧ j ≤ 23))) ∨ k = 105 ∨ k = 107) → I351 k j = I k j := fun k j h => (f353 k j (u159 k j h)).trans (kX k j h)
        have t355 : I351 102 3 = (I 102 3) := (f353 102 3 (by decide)).trans t349
        try rw [t355]
        try rw [t355] at q352
        have t356 : I351 102 4 = (X 102 4) := (f353 102 4 (by decide))
        try rw [t356]
        try rw [t356] at q352
        have t357 : I351 102 11 = (X 102 11) := (f353 102 11 (by decide))
        try rw [t357]
        try rw [t357] at q352
        have t358 : I351 102 14 = (X 102 14) := (f353 102 14 (by decide))
        try rw [t358]
        try rw [t358] at q352
        have t359 : I351 102 18 = (X 102 18) := (f353 102 18 (by decide))
        try rw [t359]
        try rw [t359] at q352
        have t360 : I351 102 22 = (X 102 22) := (f353 102 22 (by decide))
        try rw [t360]
        try rw [t360] at q352
        have t361 : I351 102 23 = (X 102 23) := (f353 102 23 (by decide))
        try rw [t361]
        try rw [t361] at q352
        have t362 : I351 105 0 = (X 105 0) := (f353 105 0 (by decide))
        try rw [t362]
        try rw [t362] at q352
        have t363 : I351 105 1 = (X 105 1) := (f353 105 1 (by decide))
        try rw [t363]
        try rw [t363] at q352
        have t364 : I351 105 2 = (X 105 2) := (f353 105 2 (by decide))
        try rw [t364]
        try rw [t364] at q352
        have t365 : I351 105 6 = (X 105 6) := (f353 105 6 (by decide))
        try rw [t365]
        try rw [t365] at q352
        have t366 : I351 102 19 = (X 102 19) := (f353 102 19 (by decide))
        try rw [t366]
        try rw [t366] at q352
        have t367 : I351 102 20 = (X 102 20) := (f353 102 20 (by decide))
        try rw [t367]
        try rw [t367] at q352
        have t368 : I351 102 21 = (X 102 21) := (f353 102 21 (by decide))
        try rw [t368]
        try rw [t368] at q352
        have p369 : mH I351 := mH_eq pX_0 (fun k j h => f353 k j (ymH159 k j h))
        refine ⟨by omega, ?_⟩
        exact hk _ _ k354 ⟨(by omega), p369⟩
      · intro x1 x2 X kX hm iv
        obtain ⟨iv, pX_0⟩ := iv
        refine e_li (i := 1) (x := x1) rfl fun _ _ => ?_
        refine e_li (i := 2) (x := x2) rfl fun _ _ => ?_
        have hd := pX_0.1
        have t370 : X 102 3 = (I 102 3) := (kX 102 3 (by decide))
        refine Bx_211_357 hT hR ?_
        try rw [t370]
        refine w_182 (d := d + 3) hT hR  (by omega) (fun I371 f373 q372 => ⟨_, rfl, rfl, ?_⟩)
        have k374 : ∀ k j, ¬ ((k = 102 ∧ (j = 4 ∨ (11 ≤ j ∧ j ≤ 23))) ∨ k = 105 ∨ k = 107) → I371 k j = I k j := fun k j h => (f373 k j (u182 k j h)).trans (kX k j h)
        have t375 : I371 102 3 = (I 102 3) := (f373 102 3 (by decide)).trans t370
        try rw [t375]
        try rw [t375] at q372
        have t376 : I371 102 18 = (X 102 18) := (f373 102 18 (by decide))
        try rw [t376]
        try rw [t376] at q372
        have t377 : I371 102 22 = (X 102 22) := (f373 102 22 (by decide))
        try rw [t377]
        try rw [t377] at q372
        have t378 : I371 102 23 = (X 102 23) := (f373 102 23 (by decide))
        try rw [t378]
        try rw [t378] at q372
        have t379 : I371 105 0 = (X 105 0) := (f373 105 0 (by decide))
        try rw [t379]
        try rw [t379] at q372
        have t380 : I371 105 1 = (X 105 1) := (f373 105 1 (by decide))
        try rw [t380]
        try rw [t380] at q372
        have t381 : I371 105 2 = (X 105 2) := (f373 105 2 (by decide))
        try rw [t381]
        try rw [t381] at q372
        have t382 : I371 105 6 = (X 105 6) := (f373 105 6 (by decide))
        try rw [t382]
        try rw [t382] at q372
        have t383 : I371 102 19 = (X 102 19) := (f373 102 19 (by decide))
        try rw [t383]
        try rw [t383] at q372
        have t384 : I371 102 20 = (X 102 20) := (f373 102 20 (by decide))
        try rw [t384]
        try rw [t384] at q372
        have t385 : I371 102 21 = (X 102 21) := (f373 102 21 (by decide))
        try rw [t385]
        try rw [t385] at q372
        have p386 : mH I371 := mH_eq pX_0 (fun k j h => f373 k j (ymH182 k j h))
        refine ⟨fun c387 => ?_, fun c387 => ?_⟩
        · intro I388 e389
          have k390 : ∀ k j, ¬ ((k = 102 ∧ (j = 4 ∨ (11 ≤ j ∧ j ≤ 23))) ∨ k = 105 ∨ k = 107) → I388 k j = I k j := fun k j h => ((congrFun (congrFun e389 k) j).trans (yU_ne _ _ (v102_21 k j h))).trans (k374 k j h)
          have p391 : mH I388 := mH_eq p386 (fun k j h => (congrFun (congrFun e389 k) j).trans (yU_ne _ _ (xmH102_21 k j h)))
          have t392 : I388 102 3 = (I 102 3) := ((congrFun (congrFun e389 102) 3).trans (yU_ne _ _ (fun q => absurd q.2 (by decide)))).trans t375
          try rw [t392]
          have t393 : I388 102 4 = (I371 102 4) := (congrFun (congrFun e389 102) 4).trans (yU_ne _ _ (fun q => absurd q.2 (by decide)))
          try rw [t393]
          have t394 : I388 102 11 = (I371 102 11) := (congrFun (congrFun e389 102) 11).trans (yU_ne _ _ (fun q => absurd q.2 (by decide)))
          try rw [t394]
          have t395 : I388 102 14 = (I371 102 14) := (congrFun (congrFun e389 102) 14).trans (yU_ne _ _ (fun q => absurd q.2 (by decide)))
          try rw [t395]
          have t396 : I388 102 18 = (X 102 18) := ((congrFun (congrFun e389 102) 18).trans (yU_ne _ _ (fun q => absurd q.2 (by decide)))).trans t376
          try rw [t396]
          have t397 : I388 102 22 = (X 102 22) := ((congrFun (congrFun e389 102) 22).trans (yU_ne _ _ (fun q => absurd q.2 (by decide)))).trans t377
          try rw [t397]
          have t398 : I388 102 23 = (X 102 23) := ((congrFun (congrFun e389 102) 23).trans (yU_ne _ _ (fun q => absurd q.2 (by decide)))).trans t378
          try rw [t398]
          have t399 : I388 105 0 = (X 105 0) := ((congrFun (congrFun e389 105) 0).trans (yU_ne _ _ (fun q => absurd q.1 (by decide)))).trans t379
          try rw [t399]
          have t400 : I388 105 1 = (X 105 1) := ((congrFun (congrFun e389 105) 1).trans (yU_ne _ _ (fun q => absurd q.1 (by decide)))).trans t380
          try rw [t400]
          have t401 : I388 105 2 = (X 105 2) := ((congrFun (congrFun e389 105) 2).trans (yU_ne _ _ (fun q => absurd q.1 (by decide)))).trans t381
          try rw [t401]
          have t402 : I388 105 6 = (X 105 6) := ((congrFun (congrFun e389 105) 6).trans (yU_ne _ _ (fun q => absurd q.1 (by decide)))).trans t382
          try rw [t402]
          have t403 : I388 102 19 = (X 102 19) := ((congrFun (congrFun e389 102) 19).trans (yU_ne _ _ (fun q => absurd q.2 (by decide)))).trans t383
          try rw [t403]
          have t404 : I388 102 20 = (X 102 20) := ((congrFun (congrFun e389 102) 20).trans (yU_ne _ _ (fun q => absurd q.2 (by decide)))).trans t384
          try rw [t404]
          have t405 : I388 102 21 = (yor (X 102 21) (yshl 1 x2)) := (congrFun (congrFun e389 102) 21).trans (yU_eq _ _ _ _)
          try rw [t405]
          refine w_245 (d := d + 2) hT hR  (by omega) (fun r406 I407 f409 q408 => ⟨_, _, rfl, rfl, ?_⟩)
          have k410 : ∀ k j, ¬ ((k = 102 ∧ (j = 4 ∨ (11 ≤ j ∧ j ≤ 23))) ∨ k = 105 ∨ k = 107) → I407 k j = I k j := fun k j h => (f409 k j (u245 k j h)).trans (k390 k j h)
          have t411 : I407 102 3 = (I 102 3) := (f409 102 3 (by decide)).trans t392
          try rw [t411]
          try rw [t411] at q408
          have t412 : I407 102 22 = (X 102 22) := (f409 102 22 (by decide)).trans t397
          try rw [t412]
          try rw [t412] at q408
          have t413 : I407 102 23 = (X 102 23) := (f409 102 23 (by decide)).trans t398
          try rw [t413]
          try rw [t413] at q408
          have t414 : I407 105 0 = (X 105 0) := (f409 105 0 (by decide)).trans t399
          try rw [t414]
          try rw [t414] at q408
          have t415 : I407 105 1 = (X 105 1) := (f409 105 1 (by decide)).trans t400
          try rw [t415]
          try rw [t415] at q408
          have t416 : I407 105 2 = (X 105 2) := (f409 105 2 (by decide)).trans t401
          try rw [t416]
          try rw [t416] at q408
          have t417 : I407 105 6 = (X 105 6) := (f409 105 6 (by decide)).trans t402
          try rw [t417]
          try rw [t417] at q408
          have t418 : I407 102 19 = (X 102 19) := (f409 102 19 (by decide)).trans t403
          try rw [t418]
          try rw [t418] at q408
          have t419 : I407 102 20 = (X 102 20) := (f409 102 20 (by decide)).trans t404
          try rw [t419]
          try rw [t419] at q408
          have t420 : I407 102 21 = (yor (X 102 21) (yshl 1 x2)) := (f409 102 21 (by decide)).trans t405
          try rw [t420]
          try rw [t420] at q408
          have p421 : mH I407 := mH_eq p391 (fun k j h => f409 k j (ymH245 k j h))
          refine ⟨fun c422 => ?_, fun c422 => ?_⟩
          · have a423 : yadd 350 x2 = (350 + x2) := yadd_eq (by omega) (by omega)
            try rw [a423]
            refine ⟨by omega, by omega, ?_⟩
            intro I424 e425
            first | have n426 : ynar 1 (I407 102 18) = (I407 102 18) := ynar1_eq (by omega) (by omega) | skip
            try rw [n426] at e425
            have k427 : ∀ k j, ¬ ((k = 102 ∧ (j = 4 ∨ (11 ≤ j ∧ j ≤ 23))) ∨ k = 105 ∨ k = 107) → I424 k j = I k j := fun k j h => ((congrFun (congrFun e425 k) j).trans (yU_ne _ _ (v105 k j _ h))).trans (k410 k j h)
            have p428 : mH I424 := by rw [e425]; exact mH_set p421 (by omega)
            have t429 : I424 102 3 = (I 102 3) := ((congrFun (congrFun e425 102) 3).trans (yU_ne _ _ (fun q => absurd q.1 (by decide)))).trans t411
            try rw [t429]
            have t430 : I424 102 4 = (I407 102 4) := (congrFun (congrFun e425 102) 4).trans (yU_ne _ _ (fun q => absurd q.1 (by decide)))
            try rw [t430]
            have t431 : I424 102 11 = (I407 102 11) := (congrFun (congrFun e425 102) 11).trans (yU_ne _ _ (fun q => absurd q.1 (by decide)))
            try rw [t431]
            have t432 : I424 102 14 = (I407 102 14) := (congrFun (congrFun e425 102) 14).trans (yU_ne _ _ (fun q => absurd q.1 (by decide)))
            try rw [t432]
            have t433 : I424 102 18 = (I407 102 18) := (congrFun (congrFun e425 102) 18).trans (yU_ne _ _ (fun q => absurd q.1 (by decide)))
            try rw [t433]
            have t434 : I424 102 22 = (X 102 22) := ((congrFun (congrFun e425 102) 22).trans (yU_ne _ _ (fun q => absurd q.1 (by decide)))).trans t412
            try rw [t434]
            have t435 : I424 102 23 = (X 102 23) := ((congrFun (congrFun e425 102) 23).trans (yU_ne _ _ (fun q => absurd q.1 (by decide)))).trans t413
            try rw [t435]
            have t436 : I424 105 0 = (X 105 0) := ((congrFun (congrFun e425 105) 0).trans (yU_ne _ _ (by omega))).trans t414
            try rw [t436]
            have t437 : I424 105 1 = (X 105 1) := ((congrFun (congrFun e425 105) 1).trans (yU_ne _ _ (by omega))).trans t415
            try rw [t437]
            have t438 : I424 105 2 = (X 105 2) := ((congrFun (congrFun e425 105) 2).trans (yU_ne _ _ (by omega))).trans t416
            try rw [t438]
            have t439 : I424 105 6 = (X 105 6) := ((congrFun (congrFun e425 105) 6).trans (yU_ne _ _ (by omega))).trans t417
            try rw [t439]
            have t440 : I424 102 19 = (X 102 19) := ((congrFun (congrFun e425 102) 19).trans (yU_ne _ _ (fun q => absurd q.1 (by decide)))).trans t418
            try rw [t440]
            have t441 : I424 102 20 = (X 102 20) := ((congrFun (congrFun e425 102) 20).trans (yU_ne _ _ (fun q => absurd q.1 (by decide)))).trans t419
            try rw [t441]
            have t442 : I424 102 21 = (yor (X 102 21) (yshl 1 x2)) := ((congrFun (congrFun e425 102) 21).trans (yU_ne _ _ (fun q => absurd q.1 (by decide)))).trans t420
            try rw [t442]
            exact hk _ _ k427 ⟨(by omega), p428⟩
          · exact hk _ _ k410 ⟨(by omega), p421⟩
        · have a443 : yadd 342 x2 = (342 + x2) := yadd_eq (by omega) (by omega)
          try rw [a443]
          refine ⟨by omega, by omega, ?_⟩
          intro I444 e445
          first | have n446 : ynar 1 1 = 1 := ynar1_eq (by omega) (by omega) | skip
          try rw [n446] at e445
          have k447 : ∀ k j, ¬ ((k = 102 ∧ (j = 4 ∨ (11 ≤ j ∧ j ≤ 23))) ∨ k = 105 ∨ k = 107) → I444 k j = I k j := fun k j h => ((congrFun (congrFun e445 k) j).trans (yU_ne _ _ (v105 k j _ h))).trans (k374 k j h)
          have p448 : mH I444 := by rw [e445]; exact mH_set p386 (by omega)
          have t449 : I444 102 3 = (I 102 3) := ((congrFun (congrFun e445 102) 3).trans (yU_ne _ _ (fun q => absurd q.1 (by decide)))).trans t375
          try rw [t449]
          have t450 : I444 102 4 = (I371 102 4) := (congrFun (congrFun e445 102) 4).trans (yU_ne _ _ (fun q => absurd q.1 (by decide)))
          try rw [t450]
          have t451 : I444 102 11 = (I371 102 11) := (congrFun (congrFun e445 102) 11).trans (yU_ne _ _ (fun q => absurd q.1 (by decide)))
          try rw [t451]
          have t452 : I444 102 14 = (I371 102 14) := (congrFun (congrFun e445 102) 14).trans (yU_ne _ _ (fun q => absurd q.1 (by decide)))
          try rw [t452]
          have t453 : I444 102 18 = (X 102 18) := ((congrFun (congrFun e445 102) 18).trans (yU_ne _ _ (fun q => absurd q.1 (by decide)))).trans t376
          try rw [t453]
          have t454 : I444 102 22 = (X 102 22) := ((congrFun (congrFun e445 102) 22).trans (yU_ne _ _ (fun q => absurd q.1 (by decide)))).trans t377
          try rw [t454]
          have t455 : I444 102 23 = (X 102 23) := ((congrFun (congrFun e445 102) 23).trans (yU_ne _ _ (fun q => absurd q.1 (by decide)))).trans t378
          try rw [t455]
          have t456 : I444 105 0 = (X 105 0) := ((congrFun (congrFun e445 105) 0).trans (yU_ne _ _ (by omega))).trans t379
          try rw [t456]
          have t457 : I444 105 1 = (X 105 1) := ((congrFun (congrFun e445 105) 1).trans (yU_ne _ _ (by omega))).trans t380
          try rw [t457]
          have t458 : I444 105 2 = (X 105 2) := ((congrFun (congrFun e445 105) 2).trans (yU_ne _ _ (by omega))).trans t381
          try rw [t458]
          have t459 : I444 105 6 = (X 105 6) := ((congrFun (congrFun e445 105) 6).trans (yU_ne _ _ (by omega))).trans t382
          try rw [t459]
          have t460 : I444 102 19 = (X 102 19) := ((congrFun (congrFun e445 102) 19).trans (yU_ne _ _ (fun q => absurd q.1 (by decide)))).trans t383
          try rw [t460]
          have t461 : I444 102 20 = (X 102 20) := ((congrFun (congrFun e445 102) 20).trans (yU_ne _ _ (fun q => absurd q.1 (by decide)))).trans t384
          try rw [t461]
          have t462 : I444 102 21 = (X 102 21) := ((congrFun (congrFun e445 102) 21).trans (yU_ne _ _ (fun q => absurd q.1 (by decide)))).trans t385
          try rw [t462]
          exact hk _ _ k447 ⟨(by omega), p448⟩
      · intro X kX hm iv
        obtain ⟨iv, pX_0⟩ := iv
        have hd := pX_0.1
        have t463 : X 102 3 = (I 102 3) := (kX 102 3 (by decide))
        refine Bx_211_418 hT hR ?_
        try rw [t463]
        refine w_199 (d := d + 4) hT hR   (fun r464 q465 => ⟨_, _, rfl, rfl, ?_⟩)
        refine ⟨fun c467 => ?_, fun c467 => ?_⟩
        · refine ⟨fun c468 => ?_, fun c468 => ?_⟩
          · intro I469 e470
            have k471 : ∀ k j, ¬ ((k = 102 ∧ (j = 4 ∨ (11 ≤ j ∧ j ≤ 23))) ∨ k = 105 ∨ k = 107) → I469 k j = I k j := fun k j h => ((congrFun (congrFun e470 k) j).trans (yU_ne _ _ (v102_23 k j h))).trans (kX k j h)
            have p472 : mH I469 := mH_eq pX_0 (fun k j h => (congrFun (congrFun e470 k) j).trans (yU_ne _ _ (xmH102_23 k j h)))
            have t473 : I469 102 3 = (I 102 3) := ((congrFun (congrFun e470 102) 3).trans (yU_ne _ _ (fun q => absurd q.2 (by decide)))).trans t463
            try rw [t473]
            have t474 : I469 102 4 = (X 102 4) := (congrFun (congrFun e470 102) 4).trans (yU_ne _ _ (fun q => absurd q.2 (by decide)))
            try rw [t474]
            have t475 : I469 102 11 = (X 102 11) := (congrFun (congrFun e470 102) 11).trans (yU_ne _ _ (fun q => absurd q.2 (by decide)))
            try rw [t475]
            have t476 : I469 102 14 = (X 102 14) := (congrFun (congrFun e470 102) 14).trans (yU_ne _ _ (fun q => absurd q.2 (by decide)))
            try rw [t476]
            have t477 : I469 102 18 = (X 102 18) := (congrFun (congrFun e470 102) 18).trans (yU_ne _ _ (fun q => absurd q.2 (by decide)))
            try rw [t477]
            have t478 : I469 102 22 = (X 102 22) := (congrFun (congrFun e470 102) 22).trans (yU_ne _ _ (fun q => absurd q.2 (by decide)))
            try rw [t478]
            have t479 : I469 102 23 = 1 := (congrFun (congrFun e470 102) 23).trans (yU_eq _ _ _ _)
            try rw [t479]
            have t480 : I469 105 0 = (X 105 0) := (congrFun (congrFun e470 105) 0).trans (yU_ne _ _ (fun q => absurd q.1 (by decide)))
            try rw [t480]
            have t481 : I469 105 1 = (X 105 1) := (congrFun (congrFun e470 105) 1).trans (yU_ne _ _ (fun q => absurd q.1 (by decide)))
            try rw [t481]
            have t482 : I469 105 2 = (X 105 2) := (congrFun (congrFun e470 105) 2).trans (yU_ne _ _ (fun q => absurd q.1 (by decide)))
            try rw [t482]
            have t483 : I469 105 6 = (X 105 6) := (congrFun (congrFun e470 105) 6).trans (yU_ne _ _ (fun q => absurd q.1 (by decide)))
            try rw [t483]
            have t484 : I469 102 19 = (X 102 19) := (congrFun (congrFun e470 102) 19).trans (yU_ne _ _ (fun q => absurd q.2 (by decide)))
            try rw [t484]
            have t485 : I469 102 20 = (X 102 20) := (congrFun (congrFun e470 102) 20).trans (yU_ne _ _ (fun q => absurd q.2 (by decide)))
            try rw [t485]
            have t486 : I469 102 21 = (X 102 21) := (congrFun (congrFun e470 102) 21).trans (yU_ne _ _ (fun q => absurd q.2 (by decide)))
            try rw [t486]
            refine w_182 (d := d + 3) hT hR  (by omega) (fun I487 f489 q488 => ⟨_, rfl, rfl, ?_⟩)
            have k490 : ∀ k j, ¬ ((k = 102 ∧ (j = 4 ∨ (11 ≤ j ∧ j ≤ 23))) ∨ k = 105 ∨ k = 107) → I487 k j = I k j := fun k j h => (f489 k j (u182 k j h)).trans (k471 k j h)
            have t491 : I487 102 3 = (I 102 3) := (f489 102 3 (by decide)).trans t473
            try rw [t491]
            try rw [t491] at q488
            have t492 : I487 102 18 = (X 102 18) := (f489 102 18 (by decide)).trans t477
            try rw [t492]
            try rw [t492] at q488
            have t493 : I487 102 22 = (X 102 22) := (f489 102 22 (by decide)).trans t478
            try rw [t493]
            try rw [t493] at q488
            have t494 : I487 102 23 = 1 := (f489 102 23 (by decide)).trans t479
            try rw [t494]
            try rw [t494] at q488
            have t495 : I487 105 0 = (X 105 0) := (f489 105 0 (by decide)).trans t480
            try rw [t495]
            try rw [t495] at q488
            have t496 : I487 105 1 = (X 105 1) := (f489 105 1 (by decide)).trans t481
            try rw [t496]
            try rw [t496] at q488
            have t497 : I487 105 2 = (X 105 2) := (f489 105 2 (by decide)).trans t482
            try rw [t497]
            try rw [t497] at q488
            have t498 : I487 105 6 = (X 105 6) := (f489 105 6 (by decide)).trans t483
            try rw [t498]
            try rw [t498] at q488
            have t499 : I487 102 19 = (X 102 19) := (f489 102 19 (by decide)).trans t484
            try rw [t499]
            try rw [t499] at q488
            have t500 : I487 102 20 = (X 102 20) := (f489 102 20 (by decide)).trans t485
            try rw [t500]
            try rw [t500] at q488
            have t501 : I487 102 21 = (X 102 21) := (f489 102 21 (by decide)).trans t486
            try rw [t501]
            try rw [t501] at q488
            have p502 : mH I487 := mH_eq p472 (fun k j h => f489 k j (ymH182 k j h))
            exact ih.2.2.2.2.2.2.2.2.2.2.2.2.2.2.2.2.2.1 _ _ k490 (by omega) ⟨(by omega), p502, (by first | exact zX_0 | (unfold mLx; omega) | (rw [show I487 105 6 = X 105 6 + 1 by omega]; exact hm))⟩
          · refine w_159 (d := d + 4) hT hR  (by omega) (fun r503 I504 f506 q505 => ⟨_, _, rfl, rfl, ?_⟩)
            have k507 : ∀ k j, ¬ ((k = 102 ∧ (j = 4 ∨ (11 ≤ j ∧ j ≤ 23))) ∨ k = 105 ∨ k = 107) → I504 k j = I k j := fun k j h => (f506 k j (u159 k j h)).trans (kX k j h)
            have t508 : I504 102 3 = (I 102 3) := (f506 102 3 (by decide)).trans t463
            try rw [t508]
            try rw [t508] at q505
            have t509 : I504 102 4 = (X 102 4) := (f506 102 4 (by decide))
            try rw [t509]
            try rw [t509] at q505
            have t510 : I504 102 11 = (X 102 11) := (f506 102 11 (by decide))
            try rw [t510]
            try rw [t510] at q505
            have t511 : I504 102 14 = (X 102 14) := (f506 102 14 (by decide))
            try rw [t511]
            try rw [t511] at q505
            have t512 : I504 102 18 = (X 102 18) := (f506 102 18 (by decide))
            try rw [t512]
            try rw [t512] at q505
            have t513 : I504 102 22 = (X 102 22) := (f506 102 22 (by decide))
            try rw [t513]
            try rw [t513] at q505
            have t514 : I504 102 23 = (X 102 23) := (f506 102 23 (by decide))
            try rw [t514]
            try rw [t514] at q505
            have t515 : I504 105 0 = (X 105 0) := (f506 105 0 (by decide))
            try rw [t515]
            try rw [t515] at q505
            have t516 : I504 105 1 = (X 105 1) := (f506 105 1 (by decide))
            try rw [t516]
            try rw [t516] at q505
            have t517 : I504 105 2 = (X 105 2) := (f506 105 2 (by decide))
            try rw [t517]
            try rw [t517] at q505
            have t518 : I504 105 6 = (X 105 6) := (f506 105 6 (by decide))
            try rw [t518]
            try rw [t518] at q505
            have t519 : I504 102 19 = (X 102 19) := (f506 102 19 (by decide))
            try rw [t519]
            try rw [t519] at q505
            have t520 : I504 102 20 = (X 102 20) := (f506 102 20 (by decide))
            try rw [t520]
            try rw [t520] at q505
            have t521 : I504 102 21 = (X 102 21) := (f506 102 21 (by decide))
            try rw [t521]
            try rw [t521] at q505
            have p522 : mH I504 := mH_eq pX_0 (fun k j h => f506 k j (ymH159 k j h))
            refine ⟨by omega, ?_⟩
            exact hk _ _ k507 ⟨(by omega), p522⟩
        · refine w_159 (d := d + 4) hT hR  (by omega) (fun r523 I524 f526 q525 => ⟨_, _, rfl, rfl, ?_⟩)
          have k527 : ∀ k j, ¬ ((k = 102 ∧ (j = 4 ∨ (11 ≤ j ∧ j ≤ 23))) ∨ k = 105 ∨ k = 107) → I524 k j = I k j := fun k j h => (f526 k j (u159 k j h)).trans (kX k j h)
          have t528 : I524 102 3 = (I 102 3) := (f526 102 3 (by decide)).trans t463
          try rw [t528]
          try rw [t528] at q525
          have t529 : I524 102 4 = (X 102 4) := (f526 102 4 (by decide))
          try rw [t529]
          try rw [t529] at q525
          have t530 : I524 102 11 = (X 102 11) := (f526 102 11 (by decide))
          try rw [t530]
          try rw [t530] at q525
          have t531 : I524 102 14 = (X 102 14) := (f526 102 14 (by decide))
          try rw [t531]
          try rw [t531] at q525
          have t532 : I524 102 18 = (X 102 18) := (f526 102 18 (by decide))
          try rw [t532]
          try rw [t532] at q525
          have t533 : I524 102 22 = (X 102 22) := (f526 102 22 (by decide))
          try rw [t533]
          try rw [t533] at q525
          have t534 : I524 102 23 = (X 102 23) := (f526 102 23 (by decide))
          try rw [t534]
          try rw [t534] at q525
          have t535 : I524 105 0 = (X 105 0) := (f526 105 0 (by decide))
          try rw [t535]
          try rw [t535] at q525
          have t536 : I524 105 1 = (X 105 1) := (f526 105 1 (by decide))
          try rw [t536]
          try rw [t536] at q525
          have t537 : I524 105 2 = (X 105 2) := (f526 105 2 (by decide))
          try rw [t537]
          try rw [t537] at q525
          have t538 : I524 105 6 = (X 105 6) := (f526 105 6 (by decide))
          try rw [t538]
          try rw [t538] at q525
          have t539 : I524 102 19 = (X 102 19) := (f526 102 19 (by decide))
          try rw [t539]
          try rw [t539] at q525
          have t540 : I524 102 20 = (X 102 20) := (f526 102 20 (by decide))
          try rw [t540]
          try rw [t540] at q525
          have t541 : I524 102 21 = (X 102 21) := (f526 102 21 (by decide))
          try rw [t541]
          try rw [t541] at q525
          have p542 : mH I524 := mH_eq pX_0 (fun k j h => f526 k j (ymH159 k j h))
          refine ⟨by omega, ?_⟩
          exact hk _ _ k527 ⟨(by omega), p542⟩
      · intro x1 X kX hm iv
        obtain ⟨iv, pX_0, zX_0⟩ := iv
        refine e_li (i := 1) (x := x1) rfl fun _ _ => ?_
        have hd := pX_0.1
        have t543 : X 102 3 = (I 102 3) := (kX 102 3 (by decide))
        refine Bx_211_458 hT hR ?_
        try rw [t543]
        refine ⟨fun c544 => ?_, fun c544 => ?_⟩
        · exact ih.2.2.2.2.2.2.2.2.2.2.2.2.2.2.2.2.2.2 _ _ kX (by omega) ⟨(by omega), pX_0, (by first | exact zX_0 | (unfold mLx; omega) | (rw [show X 105 6 = X 105 6 + 1 by omega]; exact hm))⟩
        · refine w_196 (d := d + 4) hT hR   (fun r545 q546 => ⟨_, _, rfl, rfl, ?_⟩)
          refine ⟨fun c548 => ?_, fun c548 => ?_⟩
          · exact hk _ _ kX ⟨(by omega), pX_0⟩
          · exact ih.2.2.2.2.2.2.2.2.2.2.2.2.2.2.2.2.2.2 _ _ kX (by omega) ⟨(by omega), pX_0, (by first | exact zX_0 | (unfold mLx; omega) | (rw [show X 105 6 = X 105 6 + 1 by omega]; exact hm))⟩
      · intro x1 X kX hm iv
        obtain ⟨iv, pX_0, zX_0⟩ := iv
        refine e_li (i := 1) (x := x1) rfl fun _ _ => ?_
        have hd := pX_0.1
        have t549 : X 102 3 = (I 102 3) := (kX 102 3 (by decide))
        refine Bx_211_471 hT hR ?_
        try rw [t549]
        refine w_199 (d := d + 4) hT hR   (fun r550 q551 => ⟨_, _, rfl, rfl, ?_⟩)
        refine ⟨fun c553 => ?_, fun c553 => ?_⟩
        · refine w_199 (d := d + 4) hT hR   (fun r554 q555 => ⟨_, _, rfl, rfl, ?_⟩)
          refine ⟨fun c557 => ?_, fun c557 => ?_⟩
          · refine w_199 (d := d + 4) hT hR   (fun r558 q559 => ⟨_, _, rfl, rfl, ?_⟩)
            refine ⟨fun c561 => ?_, fun c561 => ?_⟩
            · refine w_159 (d := d + 4) hT hR  (by omega) (fun r562 I563 f565 q564 => ⟨_, _, rfl, rfl, ?_⟩)
              have k566 : ∀ k j, ¬ ((k = 102 ∧ (j = 4 ∨ (11 ≤ j ∧ j ≤ 23))) ∨ k = 105 ∨ k = 107) → I563 k j = I k j := fun k j h => (f565 k j (u159 k j h)).trans (kX k j h)
              have t567 : I563 102 3 = (I 102 3) := (f565 102 3 (by decide)).trans t549
              try rw [t567]
              try rw [t567] at q564
              have t568 : I563 102 4 = (X 102 4) := (f565 102 4 (by decide))
              try rw [t568]
              try rw [t568] at q564
              have t569 : I563 102 11 = (X 102 11) := (f565 102 11 (by decide))
              try rw [t569]
              try rw [t569] at q564
              have t570 : I563 102 14 = (X 102 14) := (f565 102 14 (by decide))
              try rw [t570]
              try rw [t570] at q564
              have t571 : I563 102 18 = (X 102 18) := (f565 102 18 (by decide))
              try rw [t571]
              try rw [t571] at q564
              have t572 : I563 102 22 = (X 102 22) := (f565 102 22 (by decide))
              try rw [t572]
              try rw [t572] at q564
              have t573 : I563 102 23 = (X 102 23) := (f565 102 23 (by decide))
              try rw [t573]
              try rw [t573] at q564
              have t574 : I563 105 0 = (X 105 0) := (f565 105 0 (by decide))
              try rw [t574]
              try rw [t574] at q564
              have t575 : I563 105 1 = (X 105 1) := (f565 105 1 (by decide))
              try rw [t575]
              try rw [t575] at q564
              have t576 : I563 105 2 = (X 105 2) := (f565 105 2 (by decide))
              try rw [t576]
              try rw [t576] at q564
              have t577 : I563 105 6 = (X 105 6) := (f565 105 6 (by decide))
              try rw [t577]
              try rw [t577] at q564
              have t578 : I563 102 19 = (X 102 19) := (f565 102 19 (by decide))
              try rw [t578]
              try rw [t578] at q564
              have t579 : I563 102 20 = (X 102 20) := (f565 102 20 (by decide))
              try rw [t579]
              try rw [t579] at q564
              have t580 : I563 102 21 = (X 102 21) := (f565 102 21 (by decide))
              try rw [t580]
              try rw [t580] at q564
              have p581 : mH I563 := mH_eq pX_0 (fun k j h => f565 k j (ymH159 k j h))
              refine ⟨by omega, ?_⟩
              exact hk _ _ k566 ⟨(by omega), p581⟩
            · refine w_164 (d := d + 4) hT hR   (fun r582 q583 => ⟨_, _, rfl, rfl, ?_⟩)
              refine ⟨fun c585 => ?_, fun c585 => ?_⟩
              · first | (have hm := mLx_or (had := x1) (laws := X 105 6) (way := 0) zX_0 (by omega) (by omega)) | (have hm := mLx_or (had := x1) (laws := X 105 6) (way := 1) zX_0 (by omega) (by omega)) | (have hm := mLx_or (had := x1) (laws := X 105 6) (way := 2) zX_0 (by omega) (by omega))
                obtain ⟨hm1, hm⟩ := hm
                have a586 : yadd 7 (X 105 6) = (7 + (X 105 6)) := yadd_eq (by omega) (by omega)
                try rw [a586]
                refine ⟨by omega, by omega, ?_⟩
                intro I587 e588
                first | have n589 : ynar 1 2 = 2 := ynar1_eq (by omega) (by omega) | skip
                try rw [n589] at e588
                have k590 : ∀ k j, ¬ ((k = 102 ∧ (j = 4 ∨ (11 ≤ j ∧ j ≤ 23))) ∨ k = 105 ∨ k = 107) → I587 k j = I k j := fun k j h => ((congrFun (congrFun e588 k) j).trans (yU_ne _ _ (v105 k j _ h))).trans (kX k j h)
                have p591 : mH I587 := by rw [e588]; exact mH_set pX_0 (by omega)
                have t592 : I587 102 3 = (I 102 3) := ((congrFun (congrFun e588 102) 3).trans (yU_ne _ _ (fun q => absurd q.1 (by decide)))).trans t549
                try rw [t592]
                have t593 : I587 102 4 = (X 102 4) := (congrFun (congrFun e588 102) 4).trans (yU_ne _ _ (fun q => absurd q.1 (by decide)))
                try rw [t593]
                have t594 : I587 102 11 = (X 102 11) := (congrFun (congrFun e588 102) 11).trans (yU_ne _ _ (fun q => absurd q.1 (by decide)))
                try rw [t594]
                have t595 : I587 102 14 = (X 102 14) := (congrFun (congrFun e588 102) 14).trans (yU_ne _ _ (fun q => absurd q.1 (by decide)))
                try rw [t595]
                have t596 : I587 102 18 = (X 102 18) := (congrFun (congrFun e588 102) 18).trans (yU_ne _ _ (fun q => absurd q.1 (by decide)))
                try rw [t596]
                have t597 : I587 102 22 = (X 102 22) := (congrFun (congrFun e588 102) 22).trans (yU_ne _ _ (fun q => absurd q.1 (by decide)))
                try rw [t597]
                have t598 : I587 102 23 = (X 102 23) := (congrFun (congrFun e588 102) 23).trans (yU_ne _ _ (fun q => absurd q.1 (by decide)))
                try rw [t598]
                have t599 : I587 105 0 = (X 105 0) := (congrFun (congrFun e588 105) 0).trans (yU_ne _ _ (by omega))
                try rw [t599]
                have t600 : I587 105 1 = (X 105 1) := (congrFun (congrFun e588 105) 1).trans (yU_ne _ _ (by omega))
                try rw [t600]
                have t601 : I587 105 2 = (X 105 2) := (congrFun (congrFun e588 105) 2).trans (yU_ne _ _ (by omega))
                try rw [t601]
                have t602 : I587 105 6 = (X 105 6) := (congrFun (congrFun e588 105) 6).trans (yU_ne _ _ (by omega))
                try rw [t602]
                have t603 : I587 102 19 = (X 102 19) := (congrFun (congrFun e588 102) 19).trans (yU_ne _ _ (fun q => absurd q.1 (by decide)))
                try rw [t603]
                have t604 : I587 102 20 = (X 102 20) := (congrFun (congrFun e588 102) 20).trans (yU_ne _ _ (fun q => absurd q.1 (by decide)))
                try rw [t604]
                have t605 : I587 102 21 = (X 102 21) := (congrFun (congrFun e588 102) 21).trans (yU_ne _ _ (fun q => absurd q.1 (by decide)))
                try rw [t605]
                have a606 : yadd (X 105 6) 1 = ((X 105 6) + 1) := yadd_eq (by omega) (by omega)
                try rw [a606]
                intro I607 e608
                first | have n609 : ynar 1 ((X 105 6) + 1) = ((X 105 6) + 1) := ynar1_eq (by omega) (by omega) | skip
                try rw [n609] at e608
                have k610 : ∀ k j, ¬ ((k = 102 ∧ (j = 4 ∨ (11 ≤ j ∧ j ≤ 23))) ∨ k = 105 ∨ k = 107) → I607 k j = I k j := fun k j h => ((congrFun (congrFun e608 k) j).trans (yU_ne _ _ (v105_6 k j h))).trans (k590 k j h)
                have p611 : mH I607 := by rw [e608]; exact mH_set p591 (by omega)
                have t612 : I607 102 3 = (I 102 3) := ((congrFun (congrFun e608 102) 3).trans (yU_ne _ _ (fun q => absurd q.1 (by decide)))).trans t592
                try rw [t612]
                have t613 : I607 102 4 = (X 102 4) := ((congrFun (congrFun e608 102) 4).trans (yU_ne _ _ (fun q => absurd q.1 (by decide)))).trans t593
                try rw [t613]
                have t614 : I607 102 11 = (X 102 11) := ((congrFun (congrFun e608 102) 11).trans (yU_ne _ _ (fun q => absurd q.1 (by decide)))).trans t594
                try rw [t614]
                have t615 : I607 102 14 = (X 102 14) := ((congrFun (congrFun e608 102) 14).trans (yU_ne _ _ (fun q => absurd q.1 (by decide)))).trans t595
                try rw [t615]
                have t616 : I607 102 18 = (X 102 18) := ((congrFun (congrFun e608 102) 18).trans (yU_ne _ _ (fun q => absurd q.1 (by decide)))).trans t596
                try rw [t616]
                have t617 : I607 102 22 = (X 102 22) := ((congrFun (congrFun e608 102) 22).trans (yU_ne _ _ (fun q => absurd q.1 (by decide)))).trans t597
                try rw [t617]
                have t618 : I607 102 23 = (X 102 23) := ((congrFun (congrFun e608 102) 23).trans (yU_ne _ _ (fun q => absurd q.1 (by decide)))).trans t598
                try rw [t618]
                have t619 : I607 105 0 = (X 105 0) := ((congrFun (congrFun e608 105) 0).trans (yU_ne _ _ (fun q => absurd q.2 (by decide)))).trans t599
                try rw [t619]
                have t620 : I607 105 1 = (X 105 1) := ((congrFun (congrFun e608 105) 1).trans (yU_ne _ _ (fun q => absurd q.2 (by decide)))).trans t600
                try rw [t620]
                have t621 : I607 105 2 = (X 105 2) := ((congrFun (congrFun e608 105) 2).trans (yU_ne _ _ (fun q => absurd q.2 (by decide)))).trans t601
                try rw [t621]
                have t622 : I607 105 6 = ((X 105 6) + 1) := (congrFun (congrFun e608 105) 6).trans (yU_eq _ _ _ _)
                try rw [t622]
                have t623 : I607 102 19 = (X 102 19) := ((congrFun (congrFun e608 102) 19).trans (yU_ne _ _ (fun q => absurd q.1 (by decide)))).trans t603
                try rw [t623]
                have t624 : I607 102 20 = (X 102 20) := ((congrFun (congrFun e608 102) 20).trans (yU_ne _ _ (fun q => absurd q.1 (by decide)))).trans t604
                try rw [t624]
                have t625 : I607 102 21 = (X 102 21) := ((congrFun (congrFun e608 102) 21).trans (yU_ne _ _ (fun q => absurd q.1 (by decide)))).trans t605
                try rw [t625]
                refine w_182 (d := d + 3) hT hR  (by omega) (fun I626 f628 q627 => ⟨_, rfl, rfl, ?_⟩)
                have k629 : ∀ k j, ¬ ((k = 102 ∧ (j = 4 ∨ (11 ≤ j ∧ j ≤ 23))) ∨ k = 105 ∨ k = 107) → I626 k j = I k j := fun k j h => (f628 k j (u182 k j h)).trans (k610 k j h)
                have t630 : I626 102 3 = (I 102 3) := (f628 102 3 (by decide)).trans t612
                try rw [t630]
                try rw [t630] at q627
                have t631 : I626 102 18 = (X 102 18) := (f628 102 18 (by decide)).trans t616
                try rw [t631]
                try rw [t631] at q627
                have t632 : I626 102 22 = (X 102 22) := (f628 102 22 (by decide)).trans t617
                try rw [t632]
                try rw [t632] at q627
                have t633 : I626 102 23 = (X 102 23) := (f628 102 23 (by decide)).trans t618
                try rw [t633]
                try rw [t633] at q627
                have t634 : I626 105 0 = (X 105 0) := (f628 105 0 (by decide)).trans t619
                try rw [t634]
                try rw [t634] at q627
                have t635 : I626 105 1 = (X 105 1) := (f628 105 1 (by decide)).trans t620
                try rw [t635]
                try rw [t635] at q627
                have t636 : I626 105 2 = (X 105 2) := (f628 105 2 (by decide)).trans t621
                try rw [t636]
                try rw [t636] at q627
                have t637 : I626 105 6 = ((X 105 6) + 1) := (f628 105 6 (by decide)).trans t622
                try rw [t637]
                try rw [t637] at q627
                have t638 : I626 102 19 = (X 102 19) := (f628 102 19 (by decide)).trans t623
                try rw [t638]
                try rw [t638] at q627
                have t639 : I626 102 20 = (X 102 20) := (f628 102 20 (by decide)).trans t624
                try rw [t639]
                try rw [t639] at q627
                have t640 : I626 102 21 = (X 102 21) := (f628 102 21 (by decide)).trans t625
                try rw [t640]
                try rw [t640] at q627
                have p641 : mH I626 := mH_eq p611 (fun k j h => f628 k j (ymH182 k j h))
                exact ih.2.2.2.2.2.2.2.2.2.2.2.2.2.2.2.2.2.1 _ _ k629 (by omega) ⟨(by omega), p641, (by first | exact zX_0 | (unfold mLx; omega) | (rw [show I626 105 6 = X 105 6 + 1 by omega]; exact hm))⟩
              · refine w_159 (d := d + 4) hT hR  (by omega) (fun r642 I643 f645 q644 => ⟨_, _, rfl, rfl, ?_⟩)
                have k646 : ∀ k j, ¬ ((k = 102 ∧ (j = 4 ∨ (11 ≤ j ∧ j ≤ 23))) ∨ k = 105 ∨ k = 107) → I643 k j = I k j := fun k j h => (f645 k j (u159 k j h)).trans (kX k j h)
                have t647 : I643 102 3 = (I 102 3) := (f645 102 3 (by decide)).trans t549
                try rw [t647]
                try rw [t647] at q644
                have t648 : I643 102 4 = (X 102 4) := (f645 102 4 (by decide))
                try rw [t648]
                try rw [t648] at q644
                have t649 : I643 102 11 = (X 102 11) := (f645 102 11 (by decide))
                try rw [t649]
                try rw [t649] at q644
                have t650 : I643 102 14 = (X 102 14) := (f645 102 14 (by decide))
                try rw [t650]
                try rw [t650] at q644
                have t651 : I643 102 18 = (X 102 18) := (f645 102 18 (by decide))
                try rw [t651]
                try rw [t651] at q644
                have t652 : I643 102 22 = (X 102 22) := (f645 102 22 (by decide))
                try rw [t652]
                try rw [t652] at q644
                have t653 : I643 102 23 = (X 102 23) := (f645 102 23 (by decide))
                try rw [t653]
                try rw [t653] at q644
                have t654 : I643 105 0 = (X 105 0) := (f645 105 0 (by decide))
                try rw [t654]
                try rw [t654] at q644
                have t655 : I643 105 1 = (X 105 1) := (f645 105 1 (by decide))
                try rw [t655]
                try rw [t655] at q644
                have t656 : I643 105 2 = (X 105 2) := (f645 105 2 (by decide))
                try rw [t656]
                try rw [t656] at q644
                have t657 : I643 105 6 = (X 105 6) := (f645 105 6 (by decide))
                try rw [t657]
                try rw [t657] at q644
                have t658 : I643 102 19 = (X 102 19) := (f645 102 19 (by decide))
                try rw [t658]
                try rw [t658] at q644
                have t659 : I643 102 20 = (X 102 20) := (f645 102 20 (by decide))
                try rw [t659]
                try rw [t659] at q644
                have t660 : I643 102 21 = (X 102 21) := (f645 102 21 (by decide))
                try rw [t660]
                try rw [t660] at q644
                have p661 : mH I643 := mH_eq pX_0 (fun k j h => f645 k j (ymH159 k j h))
                refine ⟨by omega, ?_⟩
                exact hk _ _ k646 ⟨(by omega), p661⟩
          · refine w_164 (d := d + 4) hT hR   (fun r662 q663 => ⟨_, _, rfl, rfl, ?_⟩)
            refine ⟨fun c665 => ?_, fun c665 => ?_⟩
            · first | (have hm := mLx_or (had := x1) (laws := X 105 6) (way := 0) zX_0 (by omega) (by omega)) | (have hm := mLx_or (had := x1) (laws := X 105 6) (way := 1) zX_0 (by omega) (by omega)) | (have hm := mLx_or (had := x1) (laws := X 105 6) (way := 2) zX_0 (by omega) (by omega))
              obtain ⟨hm1, hm⟩ := hm
              have a666 : yadd 7 (X 105 6) = (7 + (X 105 6)) := yadd_eq (by omega) (by omega)
              try rw [a666]
              refine ⟨by omega, by omega, ?_⟩
              intro I667 e668
              first | have n669 : ynar 1 1 = 1 := ynar1_eq (by omega) (by omega) | skip
              try rw [n669] at e668
              have k670 : ∀ k j, ¬ ((k = 102 ∧ (j = 4 ∨ (11 ≤ j ∧ j ≤ 23))) ∨ k = 105 ∨ k = 107) → I667 k j = I k j := fun k j h => ((congrFun (congrFun e668 k) j).trans (yU_ne _ _ (v105 k j _ h))).trans (kX k j h)
              have p671 : mH I667 := by rw [e668]; exact mH_set pX_0 (by omega)
              have t672 : I667 102 3 = (I 102 3) := ((congrFun (congrFun e668 102) 3).trans (yU_ne _ _ (fun q => absurd q.1 (by decide)))).trans t549
              try rw [t672]
              have t673 : I667 102 4 = (X 102 4) := (congrFun (congrFun e668 102) 4).trans (yU_ne _ _ (fun q => absurd q.1 (by decide)))
              try rw [t673]
              have t674 : I667 102 11 = (X 102 11) := (congrFun (congrFun e668 102) 11).trans (yU_ne _ _ (fun q => absurd q.1 (by decide)))
              try rw [t674]
              have t675 : I667 102 14 = (X 102 14) := (congrFun (congrFun e668 102) 14).trans (yU_ne _ _ (fun q => absurd q.1 (by decide)))
              try rw [t675]
              have t676 : I667 102 18 = (X 102 18) := (congrFun (congrFun e668 102) 18).trans (yU_ne _ _ (fun q => absurd q.1 (by decide)))
              try rw [t676]
              have t677 : I667 102 22 = (X 102 22) := (congrFun (congrFun e668 102) 22).trans (yU_ne _ _ (fun q => absurd q.1 (by decide)))
              try rw [t677]
              have t678 : I667 102 23 = (X 102 23) := (congrFun (congrFun e668 102) 23).trans (yU_ne _ _ (fun q => absurd q.1 (by decide)))
              try rw [t678]
              have t679 : I667 105 0 = (X 105 0) := (congrFun (congrFun e668 105) 0).trans (yU_ne _ _ (by omega))
              try rw [t679]
              have t680 : I667 105 1 = (X 105 1) := (congrFun (congrFun e668 105) 1).trans (yU_ne _ _ (by omega))
              try rw [t680]
              have t681 : I667 105 2 = (X 105 2) := (congrFun (congrFun e668 105) 2).trans (yU_ne _ _ (by omega))
              try rw [t681]
              have t682 : I667 105 6 = (X 105 6) := (congrFun (congrFun e668 105) 6).trans (yU_ne _ _ (by omega))
              try rw [t682]
              have t683 : I667 102 19 = (X 102 19) := (congrFun (congrFun e668 102) 19).trans (yU_ne _ _ (fun q => absurd q.1 (by decide)))
              try rw [t683]
              have t684 : I667 102 20 = (X 102 20) := (congrFun (congrFun e668 102) 20).trans (yU_ne _ _ (fun q => absurd q.1 (by decide)))
              try rw [t684]
              have t685 : I667 102 21 = (X 102 21) := (congrFun (congrFun e668 102) 21).trans (yU_ne _ _ (fun q => absurd q.1 (by decide)))
              try rw [t685]
              have a686 : yadd (X 105 6) 1 = ((X 105 6) + 1) := yadd_eq (by omega) (by omega)
              try rw [a686]
              intro I687 e688
              first | have n689 : ynar 1 ((X 105 6) + 1) = ((X 105 6) + 1) := ynar1_eq (by omega) (by omega) | skip
              try rw [n689] at e688
              have k690 : ∀ k j, ¬ ((k = 102 ∧ (j = 4 ∨ (11 ≤ j ∧ j ≤ 23))) ∨ k = 105 ∨ k = 107) → I687 k j = I k j := fun k j h => ((congrFun (congrFun e688 k) j).trans (yU_ne _ _ (v105_6 k j h))).trans (k670 k j h)
              have p691 : mH I687 := by rw [e688]; exact mH_set p671 (by omega)
              have t692 : I687 102 3 = (I 102 3) := ((congrFun (congrFun e688 102) 3).trans (yU_ne _ _ (fun q => absurd q.1 (by decide)))).trans t672
              try rw [t692]
              have t693 : I687 102 4 = (X 102 4) := ((congrFun (congrFun e688 102) 4).trans (yU_ne _ _ (fun q => absurd q.1 (by decide)))).trans t673
              try rw [t693]
              have t694 : I687 102 11 = (X 102 11) := ((congrFun (congrFun e688 102) 11).trans (yU_ne _ _ (fun q => absurd q.1 (by decide)))).trans t674
              try rw [t694]
              have t695 : I687 102 14 = (X 102 14) := ((congrFun (congrFun e688 102) 14).trans (yU_ne _ _ (fun q => absurd q.1 (by decide)))).trans t675
              try rw [t695]
              have t696 : I687 102 18 = (X 102 18) := ((congrFun (congrFun e688 102) 18).trans (yU_ne _ _ (fun q => absurd q.1 (by decide)))).trans t676
              try rw [t696]
              have t697 : I687 102 22 = (X 102 22) := ((congrFun (congrFun e688 102) 22).trans (yU_ne _ _ (fun q => absurd q.1 (by decide)))).trans t677
              try rw [t697]
              have t698 : I687 102 23 = (X 102 23) := ((congrFun (congrFun e688 102) 23).trans (yU_ne _ _ (fun q => absurd q.1 (by decide)))).trans t678
              try rw [t698]
              have t699 : I687 105 0 = (X 105 0) := ((congrFun (congrFun e688 105) 0).trans (yU_ne _ _ (fun q => absurd q.2 (by decide)))).trans t679
              try rw [t699]
              have t700 : I687 105 1 = (X 105 1) := ((congrFun (congrFun e688 105) 1).trans (yU_ne _ _ (fun q => absurd q.2 (by decide)))).trans t680
              try rw [t700]
              have t701 : I687 105 2 = (X 105 2) := ((congrFun (congrFun e688 105) 2).trans (yU_ne _ _ (fun q => absurd q.2 (by decide)))).trans t681
              try rw [t701]
              have t702 : I687 105 6 = ((X 105 6) + 1) := (congrFun (congrFun e688 105) 6).trans (yU_eq _ _ _ _)
              try rw [t702]
              have t703 : I687 102 19 = (X 102 19) := ((congrFun (congrFun e688 102) 19).trans (yU_ne _ _ (fun q => absurd q.1 (by decide)))).trans t683
              try rw [t703]
              have t704 : I687 102 20 = (X 102 20) := ((congrFun (congrFun e688 102) 20).trans (yU_ne _ _ (fun q => absurd q.1 (by decide)))).trans t684
              try rw [t704]
              have t705 : I687 102 21 = (X 102 21) := ((congrFun (congrFun e688 102) 21).trans (yU_ne _ _ (fun q => absurd q.1 (by decide)))).trans t685
              try rw [t705]
              refine w_182 (d := d + 3) hT hR  (by omega) (fun I706 f708 q707 => ⟨_, rfl, rfl, ?_⟩)
              have k709 : ∀ k j, ¬ ((k = 102 ∧ (j = 4 ∨ (11 ≤ j ∧ j ≤ 23))) ∨ k = 105 ∨ k = 107) → I706 k j = I k j := fun k j h => (f708 k j (u182 k j h)).trans (k690 k j h)
              have t710 : I706 102 3 = (I 102 3) := (f708 102 3 (by decide)).trans t692
              try rw [t710]
              try rw [t710] at q707
              have t711 : I706 102 18 = (X 102 18) := (f708 102 18 (by decide)).trans t696
              try rw [t711]
              try rw [t711] at q707
              have t712 : I706 102 22 = (X 102 22) := (f708 102 22 (by decide)).trans t697
              try rw [t712]
              try rw [t712] at q707
              have t713 : I706 102 23 = (X 102 23) := (f708 102 23 (by decide)).trans t698
              try rw [t713]
              try rw [t713] at q707
              have t714 : I706 105 0 = (X 105 0) := (f708 105 0 (by decide)).trans t699
              try rw [t714]
              try rw [t714] at q707
              have t715 : I706 105 1 = (X 105 1) := (f708 105 1 (by decide)).trans t700
              try rw [t715]
              try rw [t715] at q707
              have t716 : I706 105 2 = (X 105 2) := (f708 105 2 (by decide)).trans t701
              try rw [t716]
              try rw [t716] at q707
              have t717 : I706 105 6 = ((X 105 6) + 1) := (f708 105 6 (by decide)).trans t702
              try rw [t717]
              try rw [t717] at q707
              have t718 : I706 102 19 = (X 102 19) := (f708 102 19 (by decide)).trans t703
              try rw [t718]
              try rw [t718] at q707
              have t719 : I706 102 20 = (X 102 20) := (f708 102 20 (by decide)).trans t704
              try rw [t719]
              try rw [t719] at q707
              have t720 : I706 102 21 = (X 102 21) := (f708 102 21 (by decide)).trans t705
              try rw [t720]
              try rw [t720] at q707
              have p721 : mH I706 := mH_eq p691 (fun k j h => f708 k j (ymH182 k j h))
              exact ih.2.2.2.2.2.2.2.2.2.2.2.2.2.2.2.2.2.1 _ _ k709 (by omega) ⟨(by omega), p721, (by first | exact zX_0 | (unfold mLx; omega) | (rw [show I706 105 6 = X 105 6 + 1 by omega]; exact hm))⟩
            · refine w_159 (d := d + 4) hT hR  (by omega) (fun r722 I723 f725 q724 => ⟨_, _, rfl, rfl, ?_⟩)
              have k726 : ∀ k j, ¬ ((k = 102 ∧ (j = 4 ∨ (11 ≤ j ∧ j ≤ 23))) ∨ k = 105 ∨ k = 107) → I723 k j = I k j := fun k j h => (f725 k j (u159 k j h)).trans (kX k j h)
              have t727 : I723 102 3 = (I 102 3) := (f725 102 3 (by decide)).trans t549
              try rw [t727]
              try rw [t727] at q724
              have t728 : I723 102 4 = (X 102 4) := (f725 102 4 (by decide))
              try rw [t728]
              try rw [t728] at q724
              have t729 : I723 102 11 = (X 102 11) := (f725 102 11 (by decide))
              try rw [t729]
              try rw [t729] at q724
              have t730 : I723 102 14 = (X 102 14) := (f725 102 14 (by decide))
              try rw [t730]
              try rw [t730] at q724
              have t731 : I723 102 18 = (X 102 18) := (f725 102 18 (by decide))
              try rw [t731]
              try rw [t731] at q724
              have t732 : I723 102 22 = (X 102 22) := (f725 102 22 (by decide))
              try rw [t732]
              try rw [t732] at q724
              have t733 : I723 102 23 = (X 102 23) := (f725 102 23 (by decide))
              try rw [t733]
              try rw [t733] at q724
              have t734 : I723 105 0 = (X 105 0) := (f725 105 0 (by decide))
              try rw [t734]
              try rw [t734] at q724
              have t735 : I723 105 1 = (X 105 1) := (f725 105 1 (by decide))
              try rw [t735]
              try rw [t735] at q724
              have t736 : I723 105 2 = (X 105 2) := (f725 105 2 (by decide))
              try rw [t736]
              try rw [t736] at q724
              have t737 : I723 105 6 = (X 105 6) := (f725 105 6 (by decide))
              try rw [t737]
              try rw [t737] at q724
              have t738 : I723 102 19 = (X 102 19) := (f725 102 19 (by decide))
              try rw [t738]
              try rw [t738] at q724
              have t739 : I723 102 20 = (X 102 20) := (f725 102 20 (by decide))
              try rw [t739]
              try rw [t739] at q724
              have t740 : I723 102 21 = (X 102 21) := (f725 102 21 (by decide))
              try rw [t740]
              try rw [t740] at q724
              have p741 : mH I723 := mH_eq pX_0 (fun k j h => f725 k j (ymH159 k j h))
              refine ⟨by omega, ?_⟩
              exact hk _ _ k726 ⟨(by omega), p741⟩
        · refine w_164 (d := d + 4) hT hR   (fun r742 q743 => ⟨_, _, rfl, rfl, ?_⟩)
          refine ⟨fun c745 => ?_, fun c745 => ?_⟩
          · first | (have hm := mLx_or (had := x1) (laws := X 105 6) (way := 0) zX_0 (by omega) (by omega)) | (have hm := mLx_or (had := x1) (laws := X 105 6) (way := 1) zX_0 (by omega) (by omega)) | (have hm := mLx_or (had := x1) (laws := X 105 6) (way := 2) zX_0 (by omega) (by omega))
            obtain ⟨hm1, hm⟩ := hm
            have a746 : yadd 7 (X 105 6) = (7 + (X 105 6)) := yadd_eq (by omega) (by omega)
            try rw [a746]
            refine ⟨by omega, by omega, ?_⟩
            intro I747 e748
            first | have n749 : ynar 1 0 = 0 := ynar1_eq (by omega) (by omega) | skip
            try rw [n749] at e748
            have k750 : ∀ k j, ¬ ((k = 102 ∧ (j = 4 ∨ (11 ≤ j ∧ j ≤ 23))) ∨ k = 105 ∨ k = 107) → I747 k j = I k j := fun k j h => ((congrFun (congrFun e748 k) j).trans (yU_ne _ _ (v105 k j _ h))).trans (kX k j h)
            have p751 : mH I747 := by rw [e748]; exact mH_set pX_0 (by omega)
            have t752 : I747 102 3 = (I 102 3) := ((congrFun (congrFun e748 102) 3).trans (yU_ne _ _ (fun q => absurd q.1 (by decide)))).trans t549
            try rw [t752]
            have t753 : I747 102 4 = (X 102 4) := (congrFun (congrFun e748 102) 4).trans (yU_ne _ _ (fun q => absurd q.1 (by decide)))
            try rw [t753]
            have t754 : I747 102 11 = (X 102 11) := (congrFun (congrFun e748 102) 11).trans (yU_ne _ _ (fun q => absurd q.1 (by decide)))
            try rw [t754]
            have t755 : I747 102 14 = (X 102 14) := (congrFun (congrFun e748 102) 14).trans (yU_ne _ _ (fun q => absurd q.1 (by decide)))
            try rw [t755]
            have t756 : I747 102 18 = (X 102 18) := (congrFun (congrFun e748 102) 18).trans (yU_ne _ _ (fun q => absurd q.1 (by decide)))
            try rw [t756]
            have t757 : I747 102 22 = (X 102 22) := (congrFun (congrFun e748 102) 22).trans (yU_ne _ _ (fun q => absurd q.1 (by decide)))
            try rw [t757]
            have t758 : I747 102 23 = (X 102 23) := (congrFun (congrFun e748 102) 23).trans (yU_ne _ _ (fun q => absurd q.1 (by decide)))
            try rw [t758]
            have t759 : I747 105 0 = (X 105 0) := (congrFun (congrFun e748 105) 0).trans (yU_ne _ _ (by omega))
            try rw [t759]
            have t760 : I747 105 1 = (X 105 1) := (congrFun (congrFun e748 105) 1).trans (yU_ne _ _ (by omega))
            try rw [t760]
            have t761 : I747 105 2 = (X 105 2) := (congrFun (congrFun e748 105) 2).trans (yU_ne _ _ (by omega))
            try rw [t761]
            have t762 : I747 105 6 = (X 105 6) := (congrFun (congrFun e748 105) 6).trans (yU_ne _ _ (by omega))
            try rw [t762]
            have t763 : I747 102 19 = (X 102 19) := (congrFun (congrFun e748 102) 19).trans (yU_ne _ _ (fun q => absurd q.1 (by decide)))
            try rw [t763]
            have t764 : I747 102 20 = (X 102 20) := (congrFun (congrFun e748 102) 20).trans (yU_ne _ _ (fun q => absurd q.1 (by decide)))
            try rw [t764]
            have t765 : I747 102 21 = (X 102 21) := (congrFun (congrFun e748 102) 21).trans (yU_ne _ _ (fun q => absurd q.1 (by decide)))
            try rw [t765]
            have a766 : yadd (X 105 6) 1 = ((X 105 6) + 1) := yadd_eq (by omega) (by omega)
            try rw [a766]
            intro I767 e768
            first | have n769 : ynar 1 ((X 105 6) + 1) = ((X 105 6) + 1) := ynar1_eq (by omega) (by omega) | skip
            try rw [n769] at e768
            have k770 : ∀ k j, ¬ ((k = 102 ∧ (j = 4 ∨ (11 ≤ j ∧ j ≤ 23))) ∨ k = 105 ∨ k = 107) → I767 k j = I k j := fun k j h => ((congrFun (congrFun e768 k) j).trans (yU_ne _ _ (v105_6 k j h))).trans (k750 k j h)
            have p771 : mH I767 := by rw [e768]; exact mH_set p751 (by omega)
            have t772 : I767 102 3 = (I 102 3) := ((congrFun (congrFun e768 102) 3).trans (yU_ne _ _ (fun q => absurd q.1 (by decide)))).trans t752
            try rw [t772]
            have t773 : I767 102 4 = (X 102 4) := ((congrFun (congrFun e768 102) 4).trans (yU_ne _ _ (fun q => absurd q.1 (by decide)))).trans t753
            try rw [t773]
            have t774 : I767 102 11 = (X 102 11) := ((congrFun (congrFun e768 102) 11).trans (yU_ne _ _ (fun q => absurd q.1 (by decide)))).trans t754
            try rw [t774]
            have t775 : I767 102 14 = (X 102 14) := ((congrFun (congrFun e768 102) 14).trans (yU_ne _ _ (fun q => absurd q.1 (by decide)))).trans t755
            try rw [t775]
            have t776 : I767 102 18 = (X 102 18) := ((congrFun (congrFun e768 102) 18).trans (yU_ne _ _ (fun q => absurd q.1 (by decide)))).trans t756
            try rw [t776]
            have t777 : I767 102 22 = (X 102 22) := ((congrFun (congrFun e768 102) 22).trans (yU_ne _ _ (fun q => absurd q.1 (by decide)))).trans t757
            try rw [t777]
            have t778 : I767 102 23 = (X 102 23) := ((congrFun (congrFun e768 102) 23).trans (yU_ne _ _ (fun q => absurd q.1 (by decide)))).trans t758
            try rw [t778]
            have t779 : I767 105 0 = (X 105 0) := ((congrFun (congrFun e768 105) 0).trans (yU_ne _ _ (fun q => absurd q.2 (by decide)))).trans t759
            try rw [t779]
            have t780 : I767 105 1 = (X 105 1) := ((congrFun (congrFun e768 105) 1).trans (yU_ne _ _ (fun q => absurd q.2 (by decide)))).trans t760
            try rw [t780]
            have t781 : I767 105 2 = (X 105 2) := ((congrFun (congrFun e768 105) 2).trans (yU_ne _ _ (fun q => absurd q.2 (by decide)))).trans t761
            try rw [t781]
            have t782 : I767 105 6 = ((X 105 6) + 1) := (congrFun (congrFun e768 105) 6).trans (yU_eq _ _ _ _)
            try rw [t782]
            have t783 : I767 102 19 = (X 102 19) := ((congrFun (congrFun e768 102) 19).trans (yU_ne _ _ (fun q => absurd q.1 (by decide)))).trans t763
            try rw [t783]
            have t784 : I767 102 20 = (X 102 20) := ((congrFun (congrFun e768 102) 20).trans (yU_ne _ _ (fun q => absurd q.1 (by decide)))).trans t764
            try rw [t784]
            have t785 : I767 102 21 = (X 102 21) := ((congrFun (congrFun e768 102) 21).trans (yU_ne _ _ (fun q => absurd q.1 (by decide)))).trans t765
            try rw [t785]
            refine w_182 (d := d + 3) hT hR  (by omega) (fun I786 f788 q787 => ⟨_, rfl, rfl, ?_⟩)
            have k789 : ∀ k j, ¬ ((k = 102 ∧ (j = 4 ∨ (11 ≤ j ∧ j ≤ 23))) ∨ k = 105 ∨ k = 107) → I786 k j = I k j := fun k j h => (f788 k j (u182 k j h)).trans (k770 k j h)
            have t790 : I786 102 3 = (I 102 3) := (f788 102 3 (by decide)).trans t772
            try rw [t790]
            try rw [t790] at q787
            have t791 : I786 102 18 = (X 102 18) := (f788 102 18 (by decide)).trans t776
            try rw [t791]
            try rw [t791] at q787
            have t792 : I786 102 22 = (X 102 22) := (f788 102 22 (by decide)).trans t777
            try rw [t792]
            try rw [t792] at q787
            have t793 : I786 102 23 = (X 102 23) := (f788 102 23 (by decide)).trans t778
            try rw [t793]
            try rw [t793] at q787
            have t794 : I786 105 0 = (X 105 0) := (f788 105 0 (by decide)).trans t779
            try rw [t794]
            try rw [t794] at q787
            have t795 : I786 105 1 = (X 105 1) := (f788 105 1 (by decide)).trans t780
            try rw [t795]
            try rw [t795] at q787
            have t796 : I786 105 2 = (X 105 2) := (f788 105 2 (by decide)).trans t781
            try rw [t796]
            try rw [t796] at q787
            have t797 : I786 105 6 = ((X 105 6) + 1) := (f788 105 6 (by decide)).trans t782
            try rw [t797]
            try rw [t797] at q787
            have t798 : I786 102 19 = (X 102 19) := (f788 102 19 (by decide)).trans t783
            try rw [t798]
            try rw [t798] at q787
            have t799 : I786 102 20 = (X 102 20) := (f788 102 20 (by decide)).trans t784
            try rw [t799]
            try rw [t799] at q787
            have t800 : I786 102 21 = (X 102 21) := (f788 102 21 (by decide)).trans t785
            try rw [t800]
            try rw [t800] at q787
            have p801 : mH I786 := mH_eq p771 (fun k j h => f788 k j (ymH182 k j h))
            exact ih.2.2.2.2.2.2.2.2.2.2.2.2.2.2.2.2.2.1 _ _ k789 (by omega) ⟨(by omega), p801, (by first | exact zX_0 | (unfold mLx; omega) | (rw [show I786 105 6 = X 105 6 + 1 by omega]; exact hm))⟩
          · refine w_159 (d := d + 4) hT hR  (by omega) (fun r802 I803 f805 q804 => ⟨_, _, rfl, rfl, ?_⟩)
            have k806 : ∀ k j, ¬ ((k = 102 ∧ (j = 4 ∨ (11 ≤ j ∧ j ≤ 23))) ∨ k = 105 ∨ k = 107) → I803 k j = I k j := fun k j h => (f805 k j (u159 k j h)).trans (kX k j h)
            have t807 : I803 102 3 = (I 102 3) := (f805 102 3 (by decide)).trans t549
            try rw [t807]
            try rw [t807] at q804
            have t808 : I803 102 4 = (X 102 4) := (f805 102 4 (by decide))
            try rw [t808]
            try rw [t808] at q804
            have t809 : I803 102 11 = (X 102 11) := (f805 102 11 (by decide))
            try rw [t809]
            try rw [t809] at q804
            have t810 : I803 102 14 = (X 102 14) := (f805 102 14 (by decide))
            try rw [t810]
            try rw [t810] at q804
            have t811 : I803 102 18 = (X 102 18) := (f805 102 18 (by decide))
            try rw [t811]
            try rw [t811] at q804
            have t812 : I803 102 22 = (X 102 22) := (f805 102 22 (by decide))
            try rw [t812]
            try rw [t812] at q804
            have t813 : I803 102 23 = (X 102 23) := (f805 102 23 (by decide))
            try rw [t813]
            try rw [t813] at q804
            have t814 : I803 105 0 = (X 105 0) := (f805 105 0 (by decide))
            try rw [t814]
            try rw [t814] at q804
            have t815 : I803 105 1 = (X 105 1) := (f805 105 1 (by decide))
            try rw [t815]
            try rw [t815] at q804
            have t816 : I803 105 2 = (X 105 2) := (f805 105 2 (by decide))
            try rw [t816]
            try rw [t816] at q804
            have t817 : I803 105 6 = (X 105 6) := (f805 105 6 (by decide))
            try rw [t817]
            try rw [t817] at q804
            have t818 : I803 102 19 = (X 102 19) := (f805 102 19 (by decide))
            try rw [t818]
            try rw [t818] at q804
            have t819 : I803 102 20 = (X 102 20) := (f805 102 20 (by decide))
            try rw [t819]
            try rw [t819] at q804
            have t820 : I803 102 21 = (X 102 21) := (f805 102 21 (by decide))
            try rw [t820]
            try rw [t820] at q804
            have p821 : mH I803 := mH_eq pX_0 (fun k j h => f805 k j (ymH159 k j h))
            refine ⟨by omega, ?_⟩
            exact hk _ _ k806 ⟨(by omega), p821⟩
  refine Bx_211_0 hT hR ?_
  refine w_199 (d := d + 4) hT hR   (fun r822 q823 => ⟨_, _, rfl, rfl, ?_⟩)
  refine ⟨fun c825 => ?_, fun c825 => ?_⟩
  · exact (L _).2.1  _ k0 (Nat.lt_succ_self _) ⟨(by omega), hP0⟩
  · refine ⟨fun c826 => ?_, fun c826 => ?_⟩
    · have h20 : I 105 2 = 0 := mH_0 hP0 (by omega)
      intro I827 e828
      have k829 : ∀ k j, ¬ ((k = 102 ∧ (j = 4 ∨ (11 ≤ j ∧ j ≤ 23))) ∨ k = 105 ∨ k = 107) → I827 k j = I k j := fun k j h => ((congrFun (congrFun e828 k) j).trans (yU_ne _ _ (v102_22 k j h))).trans (k0 k j h)
      have p830 : mH I827 := mH_eq hP0 (fun k j h => (congrFun (congrFun e828 k) j).trans (yU_ne _ _ (xmH102_22 k j h)))
      have t831 : I827 102 3 = (I 102 3) := (congrFun (congrFun e828 102) 3).trans (yU_ne _ _ (fun q => absurd q.2 (by decide)))
      try rw [t831]
      have t832 : I827 102 4 = (I 102 4) := (congrFun (congrFun e828 102) 4).trans (yU_ne _ _ (fun q => absurd q.2 (by decide)))
      try rw [t832]
      have t833 : I827 102 11 = (I 102 11) := (congrFun (congrFun e828 102) 11).trans (yU_ne _ _ (fun q => absurd q.2 (by decide)))
      try rw [t833]
      have t834 : I827 102 14 = (I 102 14) := (congrFun (congrFun e828 102) 14).trans (yU_ne _ _ (fun q => absurd q.2 (by decide)))
      try rw [t834]
      have t835 : I827 102 18 = (I 102 18) := (congrFun (congrFun e828 102) 18).trans (yU_ne _ _ (fun q => absurd q.2 (by decide)))
      try rw [t835]
      have t836 : I827 102 22 = 1 := (congrFun (congrFun e828 102) 22).trans (yU_eq _ _ _ _)
      try rw [t836]
      have t837 : I827 102 23 = (I 102 23) := (congrFun (congrFun e828 102) 23).trans (yU_ne _ _ (fun q => absurd q.2 (by decide)))
      try rw [t837]
      have t838 : I827 105 0 = (I 105 0) := (congrFun (congrFun e828 105) 0).trans (yU_ne _ _ (fun q => absurd q.1 (by decide)))
      try rw [t838]
      have t839 : I827 105 1 = (I 105 1) := (congrFun (congrFun e828 105) 1).trans (yU_ne _ _ (fun q => absurd q.1 (by decide)))
      try rw [t839]
      have t840 : I827 105 2 = (I 105 2) := (congrFun (congrFun e828 105) 2).trans (yU_ne _ _ (fun q => absurd q.1 (by decide)))
      try rw [t840]
      have t841 : I827 105 6 = (I 105 6) := (congrFun (congrFun e828 105) 6).trans (yU_ne _ _ (fun q => absurd q.1 (by decide)))
      try rw [t841]
      have t842 : I827 102 19 = (I 102 19) := (congrFun (congrFun e828 102) 19).trans (yU_ne _ _ (fun q => absurd q.2 (by decide)))
      try rw [t842]
      have t843 : I827 102 20 = (I 102 20) := (congrFun (congrFun e828 102) 20).trans (yU_ne _ _ (fun q => absurd q.2 (by decide)))
      try rw [t843]
      have t844 : I827 102 21 = (I 102 21) := (congrFun (congrFun e828 102) 21).trans (yU_ne _ _ (fun q => absurd q.2 (by decide)))
      try rw [t844]
      refine w_182 (d := d + 3) hT hR  (by omega) (fun I845 f847 q846 => ⟨_, rfl, rfl, ?_⟩)
      have k848 : ∀ k j, ¬ ((k = 102 ∧ (j = 4 ∨ (11 ≤ j ∧ j ≤ 23))) ∨ k = 105 ∨ k = 107) → I845 k j = I k j := fun k j h => (f847 k j (u182 k j h)).trans (k829 k j h)
      have t849 : I845 102 3 = (I 102 3) := (f847 102 3 (by decide)).trans t831
      try rw [t849]
      try rw [t849] at q846
      have t850 : I845 102 18 = (I 102 18) := (f847 102 18 (by decide)).trans t835
      try rw [t850]
      try rw [t850] at q846
      have t851 : I845 102 22 = 1 := (f847 102 22 (by decide)).trans t836
      try rw [t851]
      try rw [t851] at q846
      have t852 : I845 102 23 = (I 102 23) := (f847 102 23 (by decide)).trans t837
      try rw [t852]
      try rw [t852] at q846
      have t853 : I845 105 0 = (I 105 0) := (f847 105 0 (by decide)).trans t838
      try rw [t853]
      try rw [t853] at q846
      have t854 : I845 105 1 = (I 105 1) := (f847 105 1 (by decide)).trans t839
      try rw [t854]
      try rw [t854] at q846
      have t855 : I845 105 2 = (I 105 2) := (f847 105 2 (by decide)).trans t840
      try rw [t855]
      try rw [t855] at q846
      have t856 : I845 105 6 = (I 105 6) := (f847 105 6 (by decide)).trans t841
      try rw [t856]
      try rw [t856] at q846
      have t857 : I845 102 19 = (I 102 19) := (f847 102 19 (by decide)).trans t842
      try rw [t857]
      try rw [t857] at q846
      have t858 : I845 102 20 = (I 102 20) := (f847 102 20 (by decide)).trans t843
      try rw [t858]
      try rw [t858] at q846
      have t859 : I845 102 21 = (I 102 21) := (f847 102 21 (by decide)).trans t844
      try rw [t859]
      try rw [t859] at q846
      have p860 : mH I845 := mH_eq p830 (fun k j h => f847 k j (ymH182 k j h))
      exact (L _).1 _ _ k848 (Nat.lt_succ_self _) ⟨(by omega), p860⟩
    · refine w_159 (d := d + 4) hT hR  (by omega) (fun r861 I862 f864 q863 => ⟨_, _, rfl, rfl, ?_⟩)
      have k865 : ∀ k j, ¬ ((k = 102 ∧ (j = 4 ∨ (11 ≤ j ∧ j ≤ 23))) ∨ k = 105 ∨ k = 107) → I862 k j = I k j := fun k j h => (f864 k j (u159 k j h)).trans (k0 k j h)
      have t866 : I862 102 3 = (I 102 3) := (f864 102 3 (by decide))
      try rw [t866]
      try rw [t866] at q863
      have t867 : I862 102 4 = (I 102 4) := (f864 102 4 (by decide))
      try rw [t867]
      try rw [t867] at q863
      have t868 : I862 102 11 = (I 102 11) := (f864 102 11 (by decide))
      try rw [t868]
      try rw [t868] at q863
      have t869 : I862 102 14 = (I 102 14) := (f864 102 14 (by decide))
      try rw [t869]
      try rw [t869] at q863
      have t870 : I862 102 18 = (I 102 18) := (f864 102 18 (by decide))
      try rw [t870]
      try rw [t870] at q863
      have t871 : I862 102 22 = (I 102 22) := (f864 102 22 (by decide))
      try rw [t871]
      try rw [t871] at q863
      have t872 : I862 102 23 = (I 102 23) := (f864 102 23 (by decide))
      try rw [t872]
      try rw [t872] at q863
      have t873 : I862 105 0 = (I 105 0) := (f864 105 0 (by decide))
      try rw [t873]
      try rw [t873] at q863
      have t874 : I862 105 1 = (I 105 1) := (f864 105 1 (by decide))
      try rw [t874]
      try rw [t874] at q863
      have t875 : I862 105 2 = (I 105 2) := (f864 105 2 (by decide))
      try rw [t875]
      try rw [t875] at q863
      have t876 : I862 105 6 = (I 105 6) := (f864 105 6 (by decide))
      try rw [t876]
      try rw [t876] at q863
      have t877 : I862 102 19 = (I 102 19) := (f864 102 19 (by decide))
      try rw [t877]
      try rw [t877] at q863
      have t878 : I862 102 20 = (I 102 20) := (f864 102 20 (by decide))
      try rw [t878]
      try rw [t878] at q863
      have t879 : I862 102 21 = (I 102 21) := (f864 102 21 (by decide))
      try rw [t879]
      try rw [t879] at q863
      have p880 : mH I862 := mH_eq hP0 (fun k j h => f864 k j (ymH159 k j h))
      refine ⟨by omega, ?_⟩
      exact hk _ _ k865 ⟨(by omega), p880⟩
end Sw
