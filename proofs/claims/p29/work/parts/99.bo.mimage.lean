/-! image and restore of the reference, with what becomes of the NAMES (printed by wip/whole/y/gen205.py) -/
section Xh
variable {l : Launch} {D : va_G} {cy : Nat → ClassId} {z d bc bs N : Nat} {T : Nat → Nat × Nat} {R : Nat → Nat → Option Nat} {I : Nat → Nat → Int} {K : yKo}
theorem x_184 (hT : yLT T) (hR : yLR R) (hN : 126 ≤ N) {x1 : Int} (hA : mAllR I) (hK : mKeR I) (hk : ∀ r I', mKeR I' → (∀ k j, k ≠ 123 → k ≠ 124 → k ≠ 125 → (k ≠ 102 ∨ j ≠ 0) → I' k j = I k j) → ((r = 1 ∧ 0 ≤ x1 ∧ x1 ≤ 1 ∧ ∀ j, I' 125 j = if j = x1.toNat then 1 else I 125 j) ∨ (r = 0 ∧ ¬ (0 ≤ x1 ∧ x1 ≤ 1) ∧ ∀ j, I' 125 j = I 125 j)) → (∀ i : Nat, i < 2 → (r = 1 ∧ (i : Int) = x1 ∧ (∀ j, j < 1188 → I' 123 (1188 * i + j) = I 104 j) ∧ ∀ j, j < 8 → I' 124 (8 * i + j) = I 107 j) ∨ (¬ (r = 1 ∧ (i : Int) = x1) ∧ (∀ j, j < 1188 → I' 123 (1188 * i + j) = I 123 (1188 * i + j)) ∧ ∀ j, j < 8 → I' 124 (8 * i + j) = I 124 (8 * i + j))) → K (some (yi r)) (N, T, R, I')) : yW l zSS D cy zFk z (d + 1) 184 bc bs K 0 0 0 [(0, yr (some 102)), (1, yi x1)] [] (N, T, R, I) := by
  refine B_184_0 hT hR ?_
  intro I1 e1
  have n1 : ∀ k j, (k ≠ 102 ∨ j ≠ 0) → I1 k j = I k j := fun k j h => by rw [e1, yU_ne _ _ (by omega)]
  have K1 : mKeR I1 := fun k hk => by
    rcases hK k hk with e | e
    · left; rw [n1 125 k (by omega)]; exact e
    · right; exact mKeR_cg e (fun j _ => n1 123 _ (by omega))
  refine w_191 hT hR (fun r3 q3 => ⟨_, _, rfl, rfl, fun c3 => ?_, fun c3 => hk _ I1 K1 (fun k j _ _ _ h => n1 k j h) (.inr ⟨rfl, by omega, fun j => n1 125 j (by omega)⟩) (fun q _ => .inr ⟨fun g => absurd g.1 (by decide), fun j _ => n1 123 _ (by omega), fun j _ => n1 124 _ (by omega)⟩)⟩)
  obtain ⟨u, rfl⟩ : ∃ u : Nat, x1 = (u : Int) := ⟨x1.toNat, by omega⟩
  have hu : u < 2 := by omega
  have l51 : ∀ (m : Nat) (X : Nat → Nat → Int) (i : Nat), i + m = 8 → (∀ j, j < 1188 → X 123 (1188 * u + j) = I 104 j) → (∀ j, (j < 1188 * u ∨ 1188 * u + 1188 ≤ j) → X 123 j = I 123 j) → (∀ j, j < i → X 124 (8 * u + j) = I 107 j) → (∀ j, (j < 8 * u ∨ 8 * u + 8 ≤ j) → X 124 j = I 124 j) → (∀ k j, k ≠ 123 → k ≠ 124 → X k j = I1 k j) → yW l zSS D cy zFk z (d + 1) 184 bc bs K 0 0 51 [(0, yr (some 102)), (1, yi (u : Int)), (2, yi (i : Int))] [] (N, T, R, X) := by
    intro m
    induction m with
    | zero =>
      intro X i h1 h2 h3 h5 h6 h4
      refine B_184_51 hT hR ⟨fun _ => ⟨by omega, by omega, ?_⟩, fun q => absurd q (by omega)⟩
      intro I4 e4
      rw [ynar3_1] at e4
      rw [show ((u : Int)).toNat = u by omega] at e4
      have n4 : ∀ k j, (k ≠ 125 ∨ j ≠ u) → I4 k j = X k j := fun k j h => by rw [e4, yU_ne _ _ (by omega)]
      refine hk 1 I4 (fun k hk => ?_) (fun k j a b c e => by rw [n4 k j (by omega), h4 k j a b]; exact n1 k j e) (.inl ⟨rfl, by omega, by omega, fun j => ?_⟩) (fun q hq => ?_)
      · by_cases e : k = u
        · subst e
          right
          refine mAllR_lt hA (fun j hj => ?_) (mHg_or _)
          rw [mHg_row, n4 123 _ (by omega)]; exact h2 j hj
        · rcases hK k hk with g | g
          · left; rw [n4 125 k (by omega), h4 125 k (by omega) (by omega), n1 125 k (by omega)]; exact g
          · right; refine mKeR_cg g (fun j hj => ?_)
            rw [n4 123 _ (by omega)]; exact h3 _ (by omega)
      · rw [show ((u : Int)).toNat = u by omega]
        by_cases e : j = u
        · subst e; rw [e4, yU_eq, if_pos rfl]
        · rw [if_neg e, n4 125 j (by omega), h4 125 j (by omega) (by omega)]; exact n1 125 j (by omega)
      · by_cases e : q = u
        · subst e
          exact .inl ⟨rfl, rfl, fun j hj => by rw [n4 123 _ (by omega)]; exact h2 j hj, fun j hj => by rw [n4 124 _ (by omega)]; exact h5 j (by omega)⟩
        · exact .inr ⟨fun g => e (by omega), fun j hj => by rw [n4 123 _ (by omega)]; exact h3 _ (by omega), fun j hj => by rw [n4 124 _ (by omega)]; exact h6 _ (by omega)⟩
    | succ m ih =>
      intro X i h1 h2 h3 h5 h6 h4
      refine B_184_51 hT hR ⟨fun q => absurd q (by omega), fun _ => ?_⟩
      rw [ymul_eq (x := 8) (by omega) (by omega), yadd_eq (x := 8 * (u : Int)) (by omega) (by omega), yadd_eq (x := (i : Int)) (by omega) (by omega), show ((i : Int)).toNat = i by omega, show (8 * (u : Int) + (i : Int)).toNat = 8 * u + i by omega]
      refine ⟨by omega, by omega, by omega, by omega, ?_⟩
      intro I9 e9
      have n9 : ∀ k j, k ≠ 124 → I9 k j = X k j := fun k j h => by rw [e9, yU_ne _ _ (by omega)]
      exact ih I9 (i + 1) (by omega) (fun j hj => by rw [n9 123 _ (by omega)]; exact h2 j hj) (fun j hj => by rw [n9 123 _ (by omega)]; exact h3 j hj) (fun j hj => by
        rw [e9]
        by_cases e : j = i
        · subst e; rw [yU_eq, h4 107 _ (by omega) (by omega)]; exact n1 107 _ (by omega)
        · rw [yU_ne _ _ (by omega)]; exact h5 j (by omega)) (fun j hj => by rw [e9, yU_ne _ _ (by omega)]; exact h6 j hj) (fun k j a b => by rw [n9 k j b]; exact h4 k j a b)
  have l18 : ∀ (m : Nat) (X : Nat → Nat → Int) (i : Nat), i + m = 1188 → (∀ j, j < i → X 123 (1188 * u + j) = I 104 j) → (∀ j, (j < 1188 * u ∨ 1188 * u + 1188 ≤ j) → X 123 j = I 123 j) → (∀ k j, k ≠ 123 → X k j = I1 k j) → yW l zSS D cy zFk z (d + 1) 184 bc bs K 0 0 18 [(0, yr (some 102)), (1, yi (u : Int)), (2, yi (i : Int))] [] (N, T, R, X) := by
    intro m
    induction m with
    | zero => intro X i h1 h2 h3 h4; exact B_184_18 hT hR ⟨fun _ => l51 8 X 0 rfl (fun j hj => h2 j (by omega)) h3 (fun j hj => absurd hj (Nat.not_lt_zero _)) (fun j _ => by rw [h4 124 j (by omega)]; exact n1 124 j (by omega)) (fun k j a _ => h4 k j a), fun q => absurd q (by omega)⟩
    | succ m ih =>
      intro X i h1 h2 h3 h4
      refine e_ri (k := 104) (n := 1188) (j := i) (c0 := 1) (hT 104 rfl) (.inr (.inl rfl)) (by omega) (show 104 < N by omega) (fun q1 q2 => ?_)
      have q1 : -2147483648 ≤ X 104 i := q1
      have q2 : X 104 i < 2147483648 := q2
      refine B_184_18 hT hR ⟨fun q => absurd q (by omega), fun _ => ?_⟩
      rw [ymul_eq (x := 1188) (by omega) (by omega), yadd_eq (x := 1188 * (u : Int)) (by omega) (by omega), yadd_eq (x := (i : Int)) (by omega) (by omega), show ((i : Int)).toNat = i by omega, show (1188 * (u : Int) + (i : Int)).toNat = 1188 * u + i by omega]
      refine ⟨by omega, by omega, by omega, by omega, ?_⟩
      intro I6 e6
      rw [ynar1_eq q1 q2, h4 104 i (by omega), n1 104 i (by omega)] at e6
      refine ih I6 (i + 1) (by omega) (fun j hj => ?_) (fun j hj => ?_) (fun k j a => ?_)
      · rw [e6]
        by_cases e : j = i
        · subst e; rw [yU_eq]
        · rw [yU_ne _ _ (by omega)]; exact h2 j (by omega)
      · rw [e6, yU_ne _ _ (by omega)]; exact h3 j hj
      · rw [e6, yU_ne _ _ (by omega)]; exact h4 k j a
  exact l18 1188 I1 0 rfl (fun j hj => absurd hj (by omega)) (fun j _ => n1 123 j (by omega)) (fun _ _ _ => rfl)
theorem x_231 (hT : yLT T) (hR : yLR R) (hN : 126 ≤ N) {x1 : Int} (hK : mKeR I) (hO : mOr I) (hk : ∀ r I', ((r = 0 ∧ ¬ (0 ≤ x1 ∧ x1 ≤ 1 ∧ I 125 x1.toNat ≠ 0) ∧ ∀ k j, (k ≠ 102 ∨ j ≠ 0) → I' k j = I k j) ∨ (r = 1 ∧ (0 ≤ x1 ∧ x1 ≤ 1 ∧ I 125 x1.toNat ≠ 0) ∧ mAllR I' ∧ I' 102 35 = 0 ∧ (∀ k j, k ≠ 104 → k ≠ 107 → (k ≠ 102 ∨ (j ≠ 0 ∧ j ≠ 35)) → I' k j = I k j) ∧ (∀ j, j < 1188 → I' 104 j = I 123 (1188 * x1.toNat + j)) ∧ ∀ j, j < 8 → I' 107 j = I 124 (8 * x1.toNat + j))) → K (some (yi r)) (N, T, R, I')) : yW l zSS D cy zFk z (d + 1) 231 bc bs K 0 0 0 [(0, yr (some 102)), (1, yi x1)] [] (N, T, R, I) := by
  refine B_231_0 hT hR ?_
  intro I1 e1
  have n1 : ∀ k j, (k ≠ 102 ∨ j ≠ 0) → I1 k j = I k j := fun k j h => by rw [e1, yU_ne _ _ (by omega)]
  refine w_191 hT hR (fun r3 q3 => ⟨_, _, rfl, rfl, fun c3 => hk _ I1 (.inl ⟨rfl, by omega, n1⟩), fun c3 => ?_⟩)
  obtain ⟨u, rfl⟩ : ∃ u : Nat, x1 = (u : Int) := ⟨x1.toNat, by omega⟩
  have hu : u < 2 := by omega
  have c125 : I1 125 ((u : Int)).toNat = I 125 ((u : Int)).toNat := n1 125 _ (by omega)
  refine ⟨by omega, by omega, fun c => ?_, fun c => hk _ I1 (.inl ⟨rfl, by omega, n1⟩)⟩
  have hA : mAllR (mHg (fun j => I 123 (1188 * u + j))) := by
    rcases hK u hu with g | g
    · rw [show ((u : Int)).toNat = u by omega] at c125 c; omega
    · exact g
  have l60 : ∀ (m : Nat) (X : Nat → Nat → Int) (i : Nat), i + m = 8 → (∀ j, j < 1188 → X 104 j = I 123 (1188 * u + j)) → (∀ j, j < i → X 107 j = I 124 (8 * u + j)) → (∀ k j, k ≠ 104 → k ≠ 107 → X k j = I1 k j) → yW l zSS D cy zFk z (d + 1) 231 bc bs K 0 0 60 [(0, yr (some 102)), (1, yi (u : Int)), (2, yi (i : Int))] [] (N, T, R, X) := by
    intro m
    induction m with
    | zero =>
      intro X i h1 h2 h5 h4
      refine B_231_60 hT hR ⟨fun _ => ?_, fun q => absurd q (by omega)⟩
      intro I2 e2
      have n2 : ∀ k j, (k ≠ 102 ∨ j ≠ 35) → I2 k j = X k j := fun k j h => by rw [e2, yU_ne _ _ (by omega)]
      refine hk 1 I2 (.inr ⟨rfl, ⟨by omega, by omega, by omega⟩, mAllR_lt hA (fun j hj => by rw [n2 104 j (by omega), mHg_row]; exact h2 j hj) (fun i hi => ?_), by rw [e2, yU_eq], fun k j a b c' => ?_, fun j hj => by rw [show ((u : Int)).toNat = u by omega, n2 104 j (by omega)]; exact h2 j hj, fun j hj => by rw [show ((u : Int)).toNat = u by omega, n2 107 j (by omega)]; exact h5 j (by omega)⟩)
      · rw [n2 111 i (by omega), n2 112 i (by omega), h4 111 i (by omega) (by omega), h4 112 i (by omega) (by omega), n1 111 i (by omega), n1 112 i (by omega)]; exact hO i hi
      · rw [n2 k j (by omega), h4 k j a b]; exact n1 k j (by omega)
    | succ m ih =>
      intro X i h1 h2 h5 h4
      refine B_231_60 hT hR ⟨fun q => absurd q (by omega), fun _ => ?_⟩
      rw [ymul_eq (x := 8) (by omega) (by omega), yadd_eq (x := 8 * (u : Int)) (by omega) (by omega), yadd_eq (x := (i : Int)) (by omega) (by omega), show ((i : Int)).toNat = i by omega, show (8 * (u : Int) + (i : Int)).toNat = 8 * u + i by omega]
      refine ⟨by omega, by omega, by omega, by omega, ?_⟩
      intro I7 e7
      have n7 : ∀ k j, k ≠ 107 → I7 k j = X k j := fun k j h => by rw [e7, yU_ne _ _ (by omega)]
      exact ih I7 (i + 1) (by omega) (fun j hj => by rw [n7 104 j (by omega)]; exact h2 j hj) (fun j hj => by
        rw [e7]
        by_cases e : j = i
        · subst e; rw [yU_eq, h4 124 _ (by omega) (by omega)]; exact n1 124 _ (by omega)
        · rw [yU_ne _ _ (by omega)]; exact h5 j (by omega)) (fun k j a b => by rw [n7 k j b]; exact h4 k j a b)
  have l27 : ∀ (m : Nat) (X : Nat → Nat → Int) (i : Nat), i + m = 1188 → (∀ j, j < i → X 104 j = I 123 (1188 * u + j)) → (∀ k j, k ≠ 104 → X k j = I1 k j) → yW l zSS D cy zFk z (d + 1) 231 bc bs K 0 0 27 [(0, yr (some 102)), (1, yi (u : Int)), (2, yi (i : Int))] [] (N, T, R, X) := by
    intro m
    induction m with
    | zero => intro X i h1 h2 h4; exact B_231_27 hT hR ⟨fun _ => l60 8 X 0 rfl (fun j hj => h2 j (by omega)) (fun j hj => absurd hj (Nat.not_lt_zero _)) (fun k j a _ => h4 k j a), fun q => absurd q (by omega)⟩
    | succ m ih =>
      intro X i h1 h2 h4
      refine e_ri (k := 123) (n := 2376) (j := 1188 * u + i) (c0 := 1) (hT 123 rfl) (.inr (.inl rfl)) (by omega) (show 123 < N by omega) (fun q1 q2 => ?_)
      have q1 : -2147483648 ≤ X 123 (1188 * u + i) := q1
      have q2 : X 123 (1188 * u + i) < 2147483648 := q2
      refine B_231_27 hT hR ⟨fun q => absurd q (by omega), fun _ => ?_⟩
      rw [ymul_eq (x := 1188) (by omega) (by omega), yadd_eq (x := 1188 * (u : Int)) (by omega) (by omega), yadd_eq (x := (i : Int)) (by omega) (by omega), show ((i : Int)).toNat = i by omega, show (1188 * (u : Int) + (i : Int)).toNat = 1188 * u + i by omega]
      refine ⟨by omega, by omega, by omega, by omega, ?_⟩
      intro I6 e6
      rw [ynar1_eq q1 q2, h4 123 _ (by omega), n1 123 _ (by omega)] at e6
      refine ih I6 (i + 1) (by omega) (fun j hj => ?_) (fun k j a => ?_)
      · rw [e6]
        by_cases e : j = i
        · subst e; rw [yU_eq]
        · rw [yU_ne _ _ (by omega)]; exact h2 j (by omega)
      · rw [e6, yU_ne _ _ (by omega)]; exact h4 k j a
  exact l27 1188 I1 0 rfl (fun j hj => absurd hj (by omega)) (fun _ _ _ => rfl)
end Xh
