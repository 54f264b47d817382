/-! FEED of the reference, to the letter -/
section Sf
variable {l : Launch} {D : va_G} {cy : Nat → ClassId} {z d bc bs N : Nat} {T : Nat → Nat × Nat} {R : Nat → Nat → Option Nat} {I : Nat → Nat → Int} {K : yKo}
theorem x_181 (hT : yLT T) (hR : yLR R) {x : Int} {p : Nat} (h : I 102 2 = (p : Int)) (hp : p + 4 ≤ 940) (hk : ∀ I', (∀ k j, ¬ ((k = 102 ∧ j = 2) ∨ (k = 103 ∧ p ≤ j ∧ j < p + 4)) → I' k j = I k j) → I' 102 2 = ((p + 4 : Nat) : Int) → (∀ k, k < 4 → I' 103 (p + k) = yFb x k) → K none (N, T, R, I')) :
    yW l zSS D cy zFk z d 181 bc bs K 0 0 0 [(0, yr (some 102)), (1, yi x)] [] (N, T, R, I) := by
  have step : ∀ (m k : Nat) (X : Nat → Nat → Int), k + m = 4 → (∀ a b, ¬ ((a = 102 ∧ b = 2) ∨ (a = 103 ∧ p ≤ b ∧ b < p + 4)) → X a b = I a b) → X 102 2 = ((p + k : Nat) : Int) → (∀ i, i < k → X 103 (p + i) = yFb x i) → yW l zSS D cy zFk z d 181 bc bs K 0 0 3 [(0, yr (some 102)), (1, yi x), (2, yi (24 - 8 * (k : Int)))] [] (N, T, R, X) := by
    intro m
    induction m with
    | zero =>
      intro k X hm fX x1 xs
      have e : k = 4 := by omega
      subst e
      exact B_181_3 hT hR ⟨fun _ => hk X fX x1 xs, fun c => absurd (by omega) c⟩
    | succ m ih =>
      intro k X hm fX x1 xs
      refine B_181_3 hT hR ⟨fun c => absurd c (by omega), fun _ => ⟨by rw [x1]; omega, by rw [x1]; omega, fun I5 e5 I6 e6 => ?_⟩⟩
      rw [x1, show (((p + k : Nat) : Int)).toNat = p + k by omega] at e5
      have fr : ∀ a b, ¬ (a = 102 ∧ b = 2) → ¬ (a = 103 ∧ b = p + k) → I6 a b = X a b := fun a b g1 g2 => by rw [e6, yU_ne _ _ g1, e5, yU_ne _ _ g2]
      have := ih (k + 1) I6 (by omega) (fun a b g => by rw [fr a b (by omega) (by omega)]; exact fX a b g) (by rw [e6, yU_eq, e5, yU_ne _ _ (by omega), x1, yadd_eq (by omega) (by omega)]; rfl) (fun i hi => by
        by_cases g : i = k
        · subst g
          rw [e6, yU_ne _ _ (by omega), e5, yU_eq]
          rfl
        · rw [fr 103 (p + i) (by omega) (by omega)]
          exact xs i (by omega))
      rw [show (24 : Int) - 8 * ((k + 1 : Nat) : Int) = yadd (24 - 8 * (k : Int)) (-8) by rw [yadd_eq (by omega) (by omega)]; omega] at this
      exact this
  have := step 4 0 I rfl (fun _ _ _ => rfl) h (fun i hi => absurd hi (Nat.not_lt_zero _))
  rw [show (24 : Int) - 8 * ((0 : Nat) : Int) = 24 by omega] at this
  exact B_181_0 hT hR this
theorem x_179 (hT : yLT T) (hR : yLR R) {x1 x2 x3 x4 x5 : Int} {n : Nat} (h : I 102 2 = (n : Int)) (hn : n ≤ 940) (hk : ∀ r I', (∀ k j, ¬ ((k = 102 ∧ (j = 0 ∨ j = 2)) ∨ (k = 103 ∧ n ≤ j)) → I' k j = I k j) → ((r = -1 ∧ 940 < I 102 2 + 20 ∧ I' 102 2 = I 102 2) ∨ (r = I 102 2 + 20 ∧ I 102 2 + 20 ≤ 940 ∧ I' 102 2 = I 102 2 + 20)) → (I' 102 2 = I 102 2 + 20 → ∀ i, i < 20 → I' 103 (n + i) = yFbs x1 x2 x3 x4 x5 i) → K (some (yi r)) (N, T, R, I')) :
    yW l zSS D cy zFk z (d + 1) 179 bc bs K 0 0 0 [(0, yr (some 102)), (1, yi x1), (2, yi x2), (3, yi x3), (4, yi x4), (5, yi x5)] [] (N, T, R, I) := by
  refine B_179_0 hT hR (fun I1 e1 => ⟨fun c => ?_, fun c => ?_⟩)
  · have f1 : ∀ k j, ¬ (k = 102 ∧ j = 0) → I1 k j = I k j := fun k j g => by rw [e1, yU_ne _ _ g]
    have h1 : I1 102 2 = (n : Int) := by rw [f1 102 2 (by omega)]; exact h
    rw [h1, yadd_eq (by omega) (by omega)] at c
    refine x_181 hT hR h1 (by omega) (fun I2 f2 g2 v2 => ⟨_, rfl, rfl, x_181 hT hR g2 (by omega) (fun I3 f3 g3 v3 => ⟨_, rfl, rfl, x_181 hT hR g3 (by omega) (fun I4 f4 g4 v4 => ⟨_, rfl, rfl, x_181 hT hR g4 (by omega) (fun I5 f5 g5 v5 => ⟨_, rfl, rfl, x_181 hT hR g5 (by omega) (fun I6 f6 g6 v6 => ⟨_, rfl, rfl, ?_⟩)⟩)⟩)⟩)⟩)
    refine hk _ I6 (fun k j g => by rw [f6 k j (by omega), f5 k j (by omega), f4 k j (by omega), f3 k j (by omega), f2 k j (by omega), f1 k j (by omega)]) (.inr ⟨by rw [g6, h]; omega, by rw [h]; omega, by rw [g6, h]; omega⟩) (fun _ => yFbs_of (f := I6 103) (fun k hk4 => ?_) (fun k hk4 => ?_) (fun k hk4 => ?_) (fun k hk4 => ?_) (fun k hk4 => ?_))
    · rw [f6 _ _ (by omega), f5 _ _ (by omega), f4 _ _ (by omega), f3 _ _ (by omega)]; exact v2 k hk4
    · rw [f6 _ _ (by omega), f5 _ _ (by omega), f4 _ _ (by omega)]; exact v3 k hk4
    · rw [f6 _ _ (by omega), f5 _ _ (by omega), show n + 8 + k = n + 4 + 4 + k by omega]; exact v4 k hk4
    · rw [f6 _ _ (by omega), show n + 12 + k = n + 4 + 4 + 4 + k by omega]; exact v5 k hk4
    · rw [show n + 16 + k = n + 4 + 4 + 4 + 4 + k by omega]; exact v6 k hk4
  · have f1 : ∀ k j, ¬ (k = 102 ∧ j = 0) → I1 k j = I k j := fun k j g => by rw [e1, yU_ne _ _ g]
    rw [f1 102 2 (by omega), h, yadd_eq (by omega) (by omega)] at c
    exact hk _ I1 (fun k j g => f1 k j (by omega)) (.inl ⟨rfl, by rw [h]; omega, f1 102 2 (by omega)⟩) (fun q => by rw [f1 102 2 (by omega)] at q; omega)
end Sf
