/-! FEED, to the letter: what the tape holds; the WORDS' codes by bytes -/
/-- the WORDS' codes by bytes, in their order -/
def rCd (i : Nat) : Int := ([1818324580, 2002873452, 126943687701107, 2003395685, 1818324581, 426952976754, 495873782388, 1936286571, 7102839, 1918987883, 1819238756, 1668246885, 110, 101, 115, 119, 28530, 6385252, 7237492, 499967685221, 418363302244, 422540700531, 512735409267, 482854658917] : List Int).getD i 0
/-- the k-th byte of an int -/
def yFb (x : Int) (k : Nat) : Int := ynar 0 (yi2b (yshr x (24 - 8 * (k : Int))))
def yFbs (x1 x2 x3 x4 x5 : Int) (i : Nat) : Int := if i < 4 then yFb x1 i else if i < 8 then yFb x2 (i - 4) else if i < 12 then yFb x3 (i - 8) else if i < 16 then yFb x4 (i - 12) else yFb x5 (i - 16)
theorem ynar0_rng (x : Int) : -128 ≤ ynar 0 x ∧ ynar 0 x < 128 := by
  have e : ynar 0 x = (y32 x).toInt8.toInt := by
    show ((y32 x).toInt8.toInt32).toInt = (y32 x).toInt8.toInt
    exact Int8.toInt_toInt32 _
  rw [e]
  exact ⟨Int8.le_toInt _, Int8.toInt_lt _⟩
theorem yFb_rng (x : Int) (k : Nat) : -128 ≤ yFb x k ∧ yFb x k < 128 := ynar0_rng _
theorem yFbs_rng (x1 x2 x3 x4 x5 : Int) (i : Nat) : -128 ≤ yFbs x1 x2 x3 x4 x5 i ∧ yFbs x1 x2 x3 x4 x5 i < 128 := by
  unfold yFbs
  split
  · exact yFb_rng _ _
  · split
    · exact yFb_rng _ _
    · split
      · exact yFb_rng _ _
      · split <;> exact yFb_rng _ _
/-- five fours make twenty -/
theorem yFbs_of {x1 x2 x3 x4 x5 : Int} {n : Nat} {f : Nat → Int} (h1 : ∀ k, k < 4 → f (n + k) = yFb x1 k) (h2 : ∀ k, k < 4 → f (n + 4 + k) = yFb x2 k) (h3 : ∀ k, k < 4 → f (n + 8 + k) = yFb x3 k) (h4 : ∀ k, k < 4 → f (n + 12 + k) = yFb x4 k) (h5 : ∀ k, k < 4 → f (n + 16 + k) = yFb x5 k) (i : Nat) (hi : i < 20) : f (n + i) = yFbs x1 x2 x3 x4 x5 i := by
  unfold yFbs
  by_cases c1 : i < 4
  · rw [if_pos c1]; exact h1 i c1
  · rw [if_neg c1]
    by_cases c2 : i < 8
    · rw [if_pos c2, show n + i = n + 4 + (i - 4) by omega]; exact h2 _ (by omega)
    · rw [if_neg c2]
      by_cases c3 : i < 12
      · rw [if_pos c3, show n + i = n + 8 + (i - 8) by omega]; exact h3 _ (by omega)
      · rw [if_neg c3]
        by_cases c4 : i < 16
        · rw [if_pos c4, show n + i = n + 12 + (i - 12) by omega]; exact h4 _ (by omega)
        · rw [if_neg c4, show n + i = n + 16 + (i - 16) by omega]; exact h5 _ (by omega)
section Sf
variable {l : Launch} {D : va_G} {cy : Nat → ClassId} {z d bc bs N : Nat} {T : Nat → Nat × Nat} {R : Nat → Nat → Option Nat} {I : Nat → Nat → Int} {K : yKo}
/-- Reader.append: four bytes more -/
theorem x_32 (hT : yLT T) (hR : yLR R) {x : Int} {p : Nat} (h : I 1 1 = (p : Int)) (hp : p + 4 ≤ 940) (hk : ∀ I', (∀ k j, ¬ ((k = 1 ∧ j = 1) ∨ (k = 2 ∧ p ≤ j ∧ j < p + 4)) → I' k j = I k j) → I' 1 1 = ((p + 4 : Nat) : Int) → (∀ k, k < 4 → I' 2 (p + k) = yFb x k) → K none (N, T, R, I')) :
    yW l zSS D cy zFk z d 32 bc bs K 0 0 0 [(0, yr (some 1)), (1, yi x)] [] (N, T, R, I) := by
  have step : ∀ (m k : Nat) (X : Nat → Nat → Int), k + m = 4 → (∀ a b, ¬ ((a = 1 ∧ b = 1) ∨ (a = 2 ∧ p ≤ b ∧ b < p + 4)) → X a b = I a b) → X 1 1 = ((p + k : Nat) : Int) → (∀ i, i < k → X 2 (p + i) = yFb x i) → yW l zSS D cy zFk z d 32 bc bs K 0 0 3 [(0, yr (some 1)), (1, yi x), (2, yi (24 - 8 * (k : Int)))] [] (N, T, R, X) := by
    intro m
    induction m with
    | zero =>
      intro k X hm fX x1 xs
      have e : k = 4 := by omega
      subst e
      exact B_32_3 hT hR ⟨fun _ => hk X fX x1 xs, fun c => absurd (by omega) c⟩
    | succ m ih =>
      intro k X hm fX x1 xs
      refine B_32_3 hT hR ⟨fun c => absurd c (by omega), fun _ => ⟨fun c => absurd c (by rw [x1]; omega), fun _ => ⟨by rw [x1]; omega, by rw [x1]; omega, fun I5 e5 I6 e6 => ?_⟩⟩⟩
      rw [x1, show (((p + k : Nat) : Int)).toNat = p + k by omega] at e5
      have fr : ∀ a b, ¬ (a = 1 ∧ b = 1) → ¬ (a = 2 ∧ b = p + k) → I6 a b = X a b := fun a b g1 g2 => by rw [e6, yU_ne _ _ g1, e5, yU_ne _ _ g2]
      have := ih (k + 1) I6 (by omega) (fun a b g => by rw [fr a b (by omega) (by omega)]; exact fX a b g) (by rw [e6, yU_eq, e5, yU_ne _ _ (by omega), x1, yadd_eq (by omega) (by omega)]; rfl) (fun i hi => by
        by_cases g : i = k
        · subst g
          rw [e6, yU_ne _ _ (by omega), e5, yU_eq]
          rfl
        · rw [fr 2 (p + i) (by omega) (by omega)]
          exact xs i (by omega))
      rw [show (24 : Int) - 8 * ((k + 1 : Nat) : Int) = yadd (24 - 8 * (k : Int)) (-8) by rw [yadd_eq (by omega) (by omega)]; omega] at this
      exact this
  have := step 4 0 I rfl (fun _ _ _ => rfl) h (fun i hi => absurd hi (Nat.not_lt_zero _))
  rw [show (24 : Int) - 8 * ((0 : Nat) : Int) = 24 by omega] at this
  exact B_32_0 hT hR this
/-- feed -/
theorem x_122 (hT : yLT T) (hR : yLR R) {x1 x2 x3 x4 x5 : Int} {n : Nat} (h : I 1 1 = (n : Int)) (hn : n ≤ 940) (hk : ∀ r I', (∀ k j, ¬ ((k = 1 ∧ j = 1) ∨ (k = 2 ∧ n ≤ j)) → I' k j = I k j) → ((r = -1 ∧ 940 < I 1 1 + 20 ∧ I' 1 1 = I 1 1) ∨ (r = I 1 1 + 20 ∧ I 1 1 + 20 ≤ 940 ∧ I' 1 1 = I 1 1 + 20)) → (I' 1 1 = I 1 1 + 20 → ∀ i, i < 20 → I' 2 (n + i) = yFbs x1 x2 x3 x4 x5 i) → K (some (yi r)) (N, T, R, I')) :
    yW l zSS D cy zFk z (d + 1) 122 bc bs K 0 0 0 [(0, yr (some 0)), (1, yi x1), (2, yi x2), (3, yi x3), (4, yi x4), (5, yi x5)] [] (N, T, R, I) := by
  refine B_122_0 hT hR ⟨fun c => ?_, fun c => ?_⟩
  · rw [h, yadd_eq (by omega) (by omega)] at c
    refine x_32 hT hR h (by omega) (fun I2 f2 g2 v2 => ⟨_, rfl, rfl, x_32 hT hR g2 (by omega) (fun I3 f3 g3 v3 => ⟨_, rfl, rfl, x_32 hT hR g3 (by omega) (fun I4 f4 g4 v4 => ⟨_, rfl, rfl, x_32 hT hR g4 (by omega) (fun I5 f5 g5 v5 => ⟨_, rfl, rfl, x_32 hT hR g5 (by omega) (fun I6 f6 g6 v6 => ⟨_, rfl, rfl, ?_⟩)⟩)⟩)⟩)⟩)
    refine hk _ I6 (fun k j g => by rw [f6 k j (by omega), f5 k j (by omega), f4 k j (by omega), f3 k j (by omega), f2 k j (by omega)]) (.inr ⟨by rw [g6, h]; omega, by rw [h]; omega, by rw [g6, h]; omega⟩) (fun _ => yFbs_of (f := I6 2) (fun k hk4 => ?_) (fun k hk4 => ?_) (fun k hk4 => ?_) (fun k hk4 => ?_) (fun k hk4 => ?_))
    · rw [f6 _ _ (by omega), f5 _ _ (by omega), f4 _ _ (by omega), f3 _ _ (by omega)]; exact v2 k hk4
    · rw [f6 _ _ (by omega), f5 _ _ (by omega), f4 _ _ (by omega)]; exact v3 k hk4
    · rw [f6 _ _ (by omega), f5 _ _ (by omega), show n + 8 + k = n + 4 + 4 + k by omega]; exact v4 k hk4
    · rw [f6 _ _ (by omega), show n + 12 + k = n + 4 + 4 + 4 + k by omega]; exact v5 k hk4
    · rw [show n + 16 + k = n + 4 + 4 + 4 + 4 + k by omega]; exact v6 k hk4
  · rw [h, yadd_eq (by omega) (by omega)] at c
    exact hk _ I (fun _ _ _ => rfl) (.inl ⟨rfl, by rw [h]; omega, rfl⟩) (fun q => by omega)
end Sf
