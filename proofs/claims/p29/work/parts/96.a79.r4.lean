/-! THE REFERENCE's CONTRACTS, 4: what is tried is kept and brought back. -/
section Sm
variable {l : Launch} {D : va_G} {cy : Nat → ClassId} {z d bc bs N : Nat} {T : Nat → Nat × Nat} {R : Nat → Nat → Option Nat} {I : Nat → Nat → Int} {K : yKo}
theorem r_tries (hT : yLT T) (hR : yLR R) (hN : 126 ≤ N) (hk : ∀ I', (∀ j, j < 468 → I' 114 j = I 104 (458 + j)) → (∀ k j, k ≠ 114 → I' k j = I k j) → K none (N, T, R, I')) : yW l zSS D cy zFk z d 249 bc bs K 0 0 0 [(0, yr (some 102))] [] (N, T, R, I) := by
  have loop : ∀ (m : Nat) (I' : Nat → Nat → Int) (i : Nat), i + m = 468 → (∀ j, j < i → I' 114 j = I 104 (458 + j)) → (∀ k j, k ≠ 114 → I' k j = I k j) → yW l zSS D cy zFk z d 249 bc bs K 0 0 2 [(0, yr (some 102)), (1, yi (i : Int))] [] (N, T, R, I') := by
    intro m
    induction m with
    | zero =>
      intro I' i h1 h2 h3
      exact B_249_2 hT hR ⟨fun _ => hk I' (fun j hj => h2 j (by omega)) h3, fun c => absurd c (by omega)⟩
    | succ m ih =>
      intro I' i h1 h2 h3
      refine e_ri (k := 104) (n := 1188) (j := 458 + i) (c0 := 1) (hT 104 rfl) (.inr (.inl rfl)) (by omega) (show 104 < N by omega) (fun q1 q2 => ?_)
      have q1 : -2147483648 ≤ I' 104 (458 + i) := q1
      have q2 : I' 104 (458 + i) < 2147483648 := q2
      refine B_249_2 hT hR ⟨fun c => absurd c (by omega), fun _ => ?_⟩
      rw [yadd_eq (x := 458) (by omega) (by omega), yadd_eq (x := (i : Int)) (by omega) (by omega)]
      have e1 : ((458 : Int) + (i : Int)).toNat = 458 + i := by omega
      have e2 : ((i : Int)).toNat = i := by omega
      rw [e1, e2]
      refine ⟨by omega, by omega, by omega, by omega, ?_⟩
      intro I6 e6
      rw [ynar1_eq q1 q2] at e6
      refine ih I6 (i + 1) (by omega) (fun j hj => ?_) (fun k j hk2 => ?_)
      · rw [e6]
        by_cases e : j = i
        · rw [e, yU_eq]; exact h3 104 _ (by decide)
        · rw [yU_ne _ _ (by omega)]; exact h2 j (by omega)
      · rw [e6, yU_ne _ _ (by omega)]; exact h3 k j hk2
  exact B_249_0 hT hR (loop 468 I 0 rfl (fun j hj => absurd hj (by omega)) (fun _ _ _ => rfl))
theorem r_back (hT : yLT T) (hR : yLR R) (hN : 126 ≤ N) (hk : ∀ I', (∀ j, j < 468 → I' 104 (458 + j) = I 114 j) → I' 102 28 = 0 → I' 102 29 = 0 → (∀ k j, (k ≠ 104 ∨ j < 458 ∨ 926 ≤ j) → (k ≠ 102 ∨ (j ≠ 28 ∧ j ≠ 29)) → I' k j = I k j) → K none (N, T, R, I')) : yW l zSS D cy zFk z d 158 bc bs K 0 0 0 [(0, yr (some 102))] [] (N, T, R, I) := by
  have loop : ∀ (m : Nat) (I' : Nat → Nat → Int) (i : Nat), i + m = 468 → (∀ j, j < i → I' 104 (458 + j) = I 114 j) → (∀ k j, (k ≠ 104 ∨ j < 458 ∨ 926 ≤ j) → I' k j = I k j) → yW l zSS D cy zFk z d 158 bc bs K 0 0 2 [(0, yr (some 102)), (1, yi (i : Int))] [] (N, T, R, I') := by
    intro m
    induction m with
    | zero =>
      intro I' i h1 h2 h3
      refine B_158_2 hT hR ⟨fun _ => ?_, fun c => absurd c (by omega)⟩
      intro I2 e2 I3 e3
      refine hk I3 (fun j hj => ?_) ?_ ?_ (fun k j a b => ?_)
      · rw [e3, yU_ne _ _ (by omega), e2, yU_ne _ _ (by omega)]; exact h2 j (by omega)
      · rw [e3, yU_ne _ _ (by omega), e2, yU_eq]
      · rw [e3, yU_eq]
      · rw [e3, yU_ne _ _ (by omega), e2, yU_ne _ _ (by omega)]; exact h3 k j a
    | succ m ih =>
      intro I' i h1 h2 h3
      refine e_ri (k := 114) (n := 468) (j := i) (c0 := 1) (hT 114 rfl) (.inr (.inl rfl)) (by omega) (show 114 < N by omega) (fun q1 q2 => ?_)
      have q1 : -2147483648 ≤ I' 114 i := q1
      have q2 : I' 114 i < 2147483648 := q2
      refine B_158_2 hT hR ⟨fun c => absurd c (by omega), fun _ => ?_⟩
      rw [yadd_eq (x := 458) (by omega) (by omega), yadd_eq (x := (i : Int)) (by omega) (by omega)]
      have e1 : ((458 : Int) + (i : Int)).toNat = 458 + i := by omega
      have e2 : ((i : Int)).toNat = i := by omega
      rw [e1, e2]
      refine ⟨by omega, by omega, by omega, by omega, ?_⟩
      intro I8 e8
      rw [ynar1_eq q1 q2] at e8
      refine ih I8 (i + 1) (by omega) (fun j hj => ?_) (fun k j a => ?_)
      · rw [e8]
        by_cases e : j = i
        · rw [e, yU_eq]; exact h3 114 _ (.inl (by decide))
        · rw [yU_ne _ _ (by omega)]; exact h2 j (by omega)
      · rw [e8, yU_ne _ _ (by omega)]; exact h3 k j a
  exact B_158_0 hT hR (loop 468 I 0 rfl (fun j hj => absurd hj (by omega)) (fun _ _ _ => rfl))
end Sm
