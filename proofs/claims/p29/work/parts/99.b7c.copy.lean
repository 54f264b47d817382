/-! Land.copyFrom, to the letter -/
section Xc
variable {l : Launch} {D : va_G} {cy : Nat → ClassId} {z d bc bs N : Nat} {T : Nat → Nat × Nat} {R : Nat → Nat → Option Nat} {I : Nat → Nat → Int} {K : yKo} {S : Ld}
theorem yC_eq {I : Nat → Nat → Int} {q q' n j : Nat} (h : j < n) : yC I q q' n q' j = I q j := if_pos ⟨rfl, h⟩
/-- what the copy is -/
def cCy (I X : Nat → Nat → Int) (p q : Nat) : Prop :=
  (X p 0 = I q 0 ∧ X p 1 = I q 1 ∧ X p 5 = I q 5 ∧ X p 14 = I q 14) ∧ (∀ a, a < 100 → X (p + 1) a = I (q + 1) a ∧ X (p + 2) a = I (q + 2) a) ∧ (∀ s, s < 5 → X (p + 3) s = I (q + 3) s) ∧ (∀ i, i < 3 → X (p + 11) i = I (q + 11) i) ∧
  (∀ i, i < 8 → (X (p + 4) i = I (q + 4) i ∧ X (p + 5) i = I (q + 5) i ∧ X (p + 6) i = I (q + 6) i ∧ X (p + 7) i = I (q + 7) i ∧ X (p + 8) i = I (q + 8) i) ∧ X (p + 9) i = I (q + 9) i ∧ X (p + 10) i = ynar 3 (I (q + 10) i))
theorem cCy_lr {X : Nat → Nat → Int} {p q : Nat} (L : cLr I q S) (c : cCy I X p q) : cLr X p S := by
  obtain ⟨A, B, C, D4, E, F, G, H⟩ := L
  obtain ⟨x0, x1, x3, x11, xc⟩ := c
  have c8 := E.2
  refine ⟨by rw [x0.1, x0.2.1]; exact A, fun a ha => by rw [(x1 a ha).1]; exact B a ha, fun a ha => by rw [(x1 a ha).2]; exact C a ha, fun s a b => by rw [x3 s (by omega)]; exact D4 s a b, by rw [x0.2.2.1]; exact E, fun i hi => ?_, fun i hi => ?_, by rw [x0.2.2.2]; exact ⟨H.1, H.2.1, fun i hi => by have := H.2.1; rw [x11 i (by omega)]; exact H.2.2 i hi⟩⟩
  · obtain ⟨⟨a4, a5, a6, a7, a8⟩, _⟩ := xc i (by omega)
    rw [a4, a5, a6, a7, a8]
    exact F i hi
  · rw [(xc i (by omega)).2.1, (xc i (by omega)).2.2, (G i hi).2]
    refine ⟨(G i hi).1, ?_⟩
    cases S.sk i <;> decide
theorem x_8 (hT : yLT T) (hR : yLR R) {p : Nat} (hp : yAtLand T R p) {q : Nat} (hq : yAtLand T R q) (h1 : p + 12 ≤ q ∨ q + 12 ≤ p) (hN : q + 12 ≤ N) (hk : ∀ I', (∀ k j, ¬ (p ≤ k ∧ k < p + 12) → I' k j = I k j) → cCy I I' p q → K none (N, T, R, I')) :
    yW l zSS D cy zFk z (d + 1) 8 bc bs K 0 0 0 [(0, yr (some p)), (1, yr (some q))] [] (N, T, R, I) := by
  have loop : ∀ (m c : Nat) (X : Nat → Nat → Int), c + m = 8 → (∀ k j, ¬ (p ≤ k ∧ k < p + 12) → X k j = I k j) → (X p 0 = I q 0 ∧ X p 1 = I q 1 ∧ X p 5 = I q 5 ∧ X p 14 = I q 14) → (∀ a, a < 100 → X (p + 1) a = I (q + 1) a ∧ X (p + 2) a = I (q + 2) a) → (∀ s, s < 5 → X (p + 3) s = I (q + 3) s) → (∀ i, i < 3 → X (p + 11) i = I (q + 11) i) →
      (∀ i, i < c → (X (p + 4) i = I (q + 4) i ∧ X (p + 5) i = I (q + 5) i ∧ X (p + 6) i = I (q + 6) i ∧ X (p + 7) i = I (q + 7) i ∧ X (p + 8) i = I (q + 8) i) ∧ X (p + 9) i = I (q + 9) i ∧ X (p + 10) i = ynar 3 (I (q + 10) i)) → yW l zSS D cy zFk z (d + 1) 8 bc bs K 0 0 92 [(0, yr (some p)), (1, yr (some q)), (2, yi (c : Int))] [] (N, T, R, X) := by
    intro m
    induction m with
    | zero =>
      intro c X hm fX x0 x1 x3 x11 xc
      exact B_8_92 hT hR hp hq ⟨fun _ => hk X fX ⟨x0, x1, x3, x11, fun i hi => xc i (by omega)⟩, fun c1 => absurd (by omega) c1⟩
    | succ m ih =>
      intro c X hm fX x0 x1 x3 x11 xc
      have c8 : c < 8 := by omega
      have cn : ((c : Int)).toNat = c := by omega
      have rg : ∀ (k : Nat), (k = 5 ∨ k = 6 ∨ k = 7 ∨ k = 8 ∨ k = 9) → T (q + k) = (1, 8) := fun k hk => by
        rcases hk with rfl | rfl | rfl | rfl | rfl
        · exact hq.1 5 rfl
        · exact hq.1 6 rfl
        · exact hq.1 7 rfl
        · exact hq.1 8 rfl
        · exact hq.1 9 rfl
      refine e_ri (k := q + 5) (n := 8) (j := c) (c0 := 1) (rg 5 (by omega)) (.inr (.inl rfl)) c8 (show q + 5 < N by omega) (fun a5 b5 => ?_)
      refine e_ri (k := q + 6) (n := 8) (j := c) (c0 := 1) (rg 6 (by omega)) (.inr (.inl rfl)) c8 (show q + 6 < N by omega) (fun a6 b6 => ?_)
      refine e_ri (k := q + 7) (n := 8) (j := c) (c0 := 1) (rg 7 (by omega)) (.inr (.inl rfl)) c8 (show q + 7 < N by omega) (fun a7 b7 => ?_)
      refine e_ri (k := q + 8) (n := 8) (j := c) (c0 := 1) (rg 8 (by omega)) (.inr (.inl rfl)) c8 (show q + 8 < N by omega) (fun a8 b8 => ?_)
      refine e_ri (k := q + 9) (n := 8) (j := c) (c0 := 1) (rg 9 (by omega)) (.inr (.inl rfl)) c8 (show q + 9 < N by omega) (fun a9 b9 => ?_)
      have a5 : -2147483648 ≤ X (q + 5) c := a5
      have b5 : X (q + 5) c < 2147483648 := b5
      have a6 : -2147483648 ≤ X (q + 6) c := a6
      have b6 : X (q + 6) c < 2147483648 := b6
      have a7 : -2147483648 ≤ X (q + 7) c := a7
      have b7 : X (q + 7) c < 2147483648 := b7
      have a8 : -2147483648 ≤ X (q + 8) c := a8
      have b8 : X (q + 8) c < 2147483648 := b8
      have a9 : -2147483648 ≤ X (q + 9) c := a9
      have b9 : X (q + 9) c < 2147483648 := b9
      refine B_8_92 hT hR hp hq ⟨fun c1 => absurd c1 (by omega), fun _ => ?_⟩
      rw [cn]
      refine ⟨by omega, by omega, by omega, by omega, fun I1 e1 => ⟨by omega, by omega, by omega, by omega, fun I2 e2 => ⟨by omega, by omega, by omega, by omega, fun I3 e3 => ⟨by omega, by omega, by omega, by omega, fun I4 e4 => ⟨by omega, by omega, by omega, by omega, fun I5 e5 => ⟨by omega, by omega, by omega, by omega, fun I6 e6 => ⟨by omega, by omega, by omega, by omega, fun I7 e7 => ?_⟩⟩⟩⟩⟩⟩⟩
      have g1 : ∀ x y, ¬ (x = p + 4 ∧ y = c) → I1 x y = X x y := fun x y g => by rw [e1, yU_ne _ _ g]
      have g2 : ∀ x y, ¬ (x = p + 5 ∧ y = c) → I2 x y = I1 x y := fun x y g => by rw [e2, yU_ne _ _ g]
      have g3 : ∀ x y, ¬ (x = p + 6 ∧ y = c) → I3 x y = I2 x y := fun x y g => by rw [e3, yU_ne _ _ g]
      have g4 : ∀ x y, ¬ (x = p + 7 ∧ y = c) → I4 x y = I3 x y := fun x y g => by rw [e4, yU_ne _ _ g]
      have g5 : ∀ x y, ¬ (x = p + 8 ∧ y = c) → I5 x y = I4 x y := fun x y g => by rw [e5, yU_ne _ _ g]
      have g6 : ∀ x y, ¬ (x = p + 9 ∧ y = c) → I6 x y = I5 x y := fun x y g => by rw [e6, yU_ne _ _ g]
      have g7 : ∀ x y, ¬ (x = p + 10 ∧ y = c) → I7 x y = I6 x y := fun x y g => by rw [e7, yU_ne _ _ g]
      have gX : ∀ x y, ¬ (p + 4 ≤ x ∧ x ≤ p + 10 ∧ y = c) → I7 x y = X x y := fun x y g => by rw [g7 x y (by omega), g6 x y (by omega), g5 x y (by omega), g4 x y (by omega), g3 x y (by omega), g2 x y (by omega), g1 x y (by omega)]
      have v4 : I7 (p + 4) c = X (q + 4) c := by rw [g7 _ _ (by omega), g6 _ _ (by omega), g5 _ _ (by omega), g4 _ _ (by omega), g3 _ _ (by omega), g2 _ _ (by omega), e1, yU_eq]
      have v5 : I7 (p + 5) c = X (q + 5) c := by rw [g7 _ _ (by omega), g6 _ _ (by omega), g5 _ _ (by omega), g4 _ _ (by omega), g3 _ _ (by omega), e2, yU_eq, g1 _ _ (by omega), ynar1_eq a5 b5]
      have v6 : I7 (p + 6) c = X (q + 6) c := by rw [g7 _ _ (by omega), g6 _ _ (by omega), g5 _ _ (by omega), g4 _ _ (by omega), e3, yU_eq, g2 _ _ (by omega), g1 _ _ (by omega), ynar1_eq a6 b6]
      have v7 : I7 (p + 7) c = X (q + 7) c := by rw [g7 _ _ (by omega), g6 _ _ (by omega), g5 _ _ (by omega), e4, yU_eq, g3 _ _ (by omega), g2 _ _ (by omega), g1 _ _ (by omega), ynar1_eq a7 b7]
      have v8 : I7 (p + 8) c = X (q + 8) c := by rw [g7 _ _ (by omega), g6 _ _ (by omega), e5, yU_eq, g4 _ _ (by omega), g3 _ _ (by omega), g2 _ _ (by omega), g1 _ _ (by omega), ynar1_eq a8 b8]
      have v9 : I7 (p + 9) c = X (q + 9) c := by rw [g7 _ _ (by omega), e6, yU_eq, g5 _ _ (by omega), g4 _ _ (by omega), g3 _ _ (by omega), g2 _ _ (by omega), g1 _ _ (by omega), ynar1_eq a9 b9]
      have v10 : I7 (p + 10) c = ynar 3 (X (q + 10) c) := by rw [e7, yU_eq, g6 _ _ (by omega), g5 _ _ (by omega), g4 _ _ (by omega), g3 _ _ (by omega), g2 _ _ (by omega), g1 _ _ (by omega)]
      have := ih (c + 1) I7 (by omega) (fun x y g => by rw [gX x y (by omega)]; exact fX x y g) (by rw [gX p 0 (by omega), gX p 1 (by omega), gX p 5 (by omega), gX p 14 (by omega)]; exact x0) (fun a ha => by rw [gX (p + 1) a (by omega), gX (p + 2) a (by omega)]; exact x1 a ha) (fun s hs => by rw [gX (p + 3) s (by omega)]; exact x3 s hs) (fun i hi => by rw [gX (p + 11) i (by omega)]; exact x11 i hi) (fun i hi => by
        by_cases g : i = c
        · subst g
          rw [v4, v5, v6, v7, v8, v9, v10, fX (q + 4) i (by omega), fX (q + 5) i (by omega), fX (q + 6) i (by omega), fX (q + 7) i (by omega), fX (q + 8) i (by omega), fX (q + 9) i (by omega), fX (q + 10) i (by omega)]
          exact ⟨⟨rfl, rfl, rfl, rfl, rfl⟩, rfl, rfl⟩
        · rw [gX (p + 4) i (by omega), gX (p + 5) i (by omega), gX (p + 6) i (by omega), gX (p + 7) i (by omega), gX (p + 8) i (by omega), gX (p + 9) i (by omega), gX (p + 10) i (by omega)]
          exact xc i (by omega))
      rw [yadd_eq (by omega) (by omega)]
      exact this
  refine B_8_0 hT hR hp hq (fun I1 e1 I2 e2 I3 e3 I4 e4 I5 e5 I6 e6 I7 e7 I8 e8 => ?_)
  have g1 : ∀ x y, ¬ (x = p ∧ y = 0) → I1 x y = I x y := fun x y g => by rw [e1, yU_ne _ _ g]
  have g2 : ∀ x y, ¬ (x = p ∧ y = 1) → I2 x y = I1 x y := fun x y g => by rw [e2, yU_ne _ _ g]
  have g3 : ∀ x y, ¬ (x = p ∧ y = 5) → I3 x y = I2 x y := fun x y g => by rw [e3, yU_ne _ _ g]
  have g4 : ∀ x y, ¬ (x = p ∧ y = 14) → I4 x y = I3 x y := fun x y g => by rw [e4, yU_ne _ _ g]
  have g5 : ∀ x y, ¬ (x = p + 1 ∧ y < 100) → I5 x y = I4 x y := fun x y g => by rw [e5, yC_ne g]
  have g6 : ∀ x y, ¬ (x = p + 2 ∧ y < 100) → I6 x y = I5 x y := fun x y g => by rw [e6, yC_ne g]
  have g7 : ∀ x y, ¬ (x = p + 3 ∧ y < 5) → I7 x y = I6 x y := fun x y g => by rw [e7, yC_ne g]
  have g8 : ∀ x y, ¬ (x = p + 11 ∧ y < 3) → I8 x y = I7 x y := fun x y g => by rw [e8, yC_ne g]
  have lo : ∀ x y, ¬ (p ≤ x ∧ x < p + 12) → I4 x y = I x y := fun x y g => by rw [g4 x y (by omega), g3 x y (by omega), g2 x y (by omega), g1 x y (by omega)]
  have v0 : I8 p 0 = I q 0 ∧ I8 p 1 = I q 1 ∧ I8 p 5 = I q 5 ∧ I8 p 14 = I q 14 := by
    have b : ∀ y, I8 p y = I4 p y := fun y => by rw [g8 p y (by omega), g7 p y (by omega), g6 p y (by omega), g5 p y (by omega)]
    rw [b 0, b 1, b 5, b 14]
    exact ⟨by rw [g4 p 0 (by omega), g3 p 0 (by omega), g2 p 0 (by omega), e1, yU_eq], by rw [g4 p 1 (by omega), g3 p 1 (by omega), e2, yU_eq, g1 q 1 (by omega)], by rw [g4 p 5 (by omega), e3, yU_eq, g2 q 5 (by omega), g1 q 5 (by omega)], by rw [e4, yU_eq, g3 q 14 (by omega), g2 q 14 (by omega), g1 q 14 (by omega)]⟩
  exact loop 8 0 I8 rfl (fun x y g => by rw [g8 x y (by omega), g7 x y (by omega), g6 x y (by omega), g5 x y (by omega)]; exact lo x y g) v0 (fun a ha => ⟨by rw [g8 (p + 1) a (by omega), g7 (p + 1) a (by omega), g6 (p + 1) a (by omega), e5, yC_eq ha]; exact lo (q + 1) a (by omega), by rw [g8 (p + 2) a (by omega), g7 (p + 2) a (by omega), e6, yC_eq ha, g5 (q + 2) a (by omega)]; exact lo (q + 2) a (by omega)⟩) (fun s hs => by rw [g8 (p + 3) s (by omega), e7, yC_eq hs, g6 (q + 3) s (by omega), g5 (q + 3) s (by omega)]; exact lo (q + 3) s (by omega)) (fun i hi => by rw [e8, yC_eq hi, g7 (q + 11) i (by omega), g6 (q + 11) i (by omega), g5 (q + 11) i (by omega)]; exact lo (q + 11) i (by omega)) (fun i hi => absurd hi (Nat.not_lt_zero _))
end Xc
