/-! THE REFERENCE's CONTRACTS: PLAN. -/
/-- the PLAN is one -/
def mPl (X : Nat → Nat → Int) : Prop := 0 ≤ X 104 926 ∧ X 104 926 ≤ 40 ∧ ∀ i : Nat, (i : Int) < X 104 926 → (0 ≤ X 104 (927 + 2 * i) ∧ X 104 (927 + 2 * i) < 8) ∧ (0 ≤ X 104 (928 + 2 * i) ∧ X 104 (928 + 2 * i) ≤ 3)
def mPw (k j : Nat) : Prop := (k = 102 ∧ (j = 0 ∨ (2 ≤ j ∧ j ≤ 5) ∨ (11 ≤ j ∧ j ≤ 18))) ∨ k = 106
section Sm
variable {l : Launch} {D : va_G} {cy : Nat → ClassId} {z d bc bs N : Nat} {T : Nat → Nat × Nat} {R : Nat → Nat → Option Nat} {I : Nat → Nat → Int} {K : yKo}
theorem r_plan (hT : yLT T) (hR : yLR R) (hN : 126 ≤ N) (h0 : 0 ≤ I 102 2 ∧ I 102 2 ≤ 940 ∧ 0 ≤ I 102 14 ∧ I 102 14 ≤ 10000) (hC : 0 ≤ I 104 2 ∧ I 104 2 ≤ 8)
    (hk : ∀ r I', (I' 102 2 = 0 ∧ 0 ≤ I' 102 14 ∧ I' 102 14 ≤ 10000) → ((∀ k j, ¬ mPw k j → I' k j = I k j) ∨ ((∀ k j, ¬ mPw k j → (k ≠ 104 ∨ j < 926 ∨ 1007 ≤ j) → I' k j = I k j) ∧ mPl I')) → K (some (yi r)) (N, T, R, I')) :
    yW l zSS D cy zFk z (d + 3) 227 bc bs K 0 0 0 [(0, yr (some 102))] [] (N, T, R, I) := by
  -- it is taken over
  have l153 : ∀ (n : Nat) (Y : Nat → Nat → Int), n ≤ 40 → (∀ i, i < n → (0 ≤ Y 106 (2 * i) ∧ Y 106 (2 * i) < 8) ∧ (0 ≤ Y 106 (2 * i + 1) ∧ Y 106 (2 * i + 1) ≤ 3)) → (∀ k j, ¬ mPw k j → (k ≠ 104 ∨ j ≠ 926) → Y k j = I k j) → Y 104 926 = (n : Int) → (Y 102 2 = 0 ∧ 0 ≤ Y 102 14 ∧ Y 102 14 ≤ 10000) →
      ∀ (m : Nat) (X : Nat → Nat → Int) (i : Nat), i + m = 2 * n → (∀ j, j < i → X 104 (927 + j) = Y 106 j) → (∀ k j, (k ≠ 104 ∨ j < 927 ∨ 1007 ≤ j) → X k j = Y k j) → yW l zSS D cy zFk z (d + 3) 227 bc bs K 0 0 153 [(0, yr (some 102)), (1, yi (n : Int)), (2, yi (i : Int))] [] (N, T, R, X) := by
    intro n Y hn hY fY y926 vY m
    induction m with
    | zero =>
      intro X i h1 h2 h3
      refine B_227_153 hT hR ⟨fun _ => ?_, fun c => absurd c (by rw [ymul_eq (by omega) (by omega)]; omega)⟩
      have x926 : X 104 926 = (n : Int) := by rw [h3 104 926 (by omega)]; exact y926
      refine hk _ X ?_ (.inr ⟨fun k j a b => ?_, by omega, by omega, fun q hq => ?_⟩)
      · rw [h3 102 2 (by omega), h3 102 14 (by omega)]; exact vY
      · rw [h3 k j (by omega)]; exact fY k j a (by omega)
      · rw [x926] at hq
        rw [h2 (2 * q) (by omega), show 928 + 2 * q = 927 + (2 * q + 1) by omega, h2 (2 * q + 1) (by omega)]
        exact hY q (by omega)
    | succ m ih =>
      intro X i h1 h2 h3
      refine e_ri (k := 106) (n := 135) (j := i) (c0 := 1) (hT 106 rfl) (.inr (.inl rfl)) (by omega) (show 106 < N by omega) (fun q1 q2 => ?_)
      have q1 : -2147483648 ≤ X 106 i := q1
      have q2 : X 106 i < 2147483648 := q2
      refine B_227_153 hT hR ⟨fun c => absurd c (by rw [ymul_eq (by omega) (by omega)]; omega), fun _ => ?_⟩
      rw [yadd_eq (x := 927) (by omega) (by omega), yadd_eq (x := (i : Int)) (by omega) (by omega), show ((i : Int)).toNat = i by omega, show ((927 : Int) + (i : Int)).toNat = 927 + i by omega]
      refine ⟨by omega, by omega, by omega, by omega, ?_⟩
      intro I6 e6
      rw [ynar1_eq q1 q2, h3 106 i (by omega)] at e6
      refine ih I6 (i + 1) (by omega) (fun j hj => ?_) (fun k j a => ?_)
      · rw [e6]
        by_cases e : j = i
        · subst e; rw [yU_eq]
        · rw [yU_ne _ _ (by omega)]; exact h2 j (by omega)
      · rw [e6, yU_ne _ _ (by omega)]; exact h3 k j a
  have l23 : ∀ (m : Nat) (X : Nat → Nat → Int) (n : Nat), n + m = 40 → (0 ≤ X 102 3 ∧ X 102 3 ≤ 940 ∧ 0 ≤ X 102 4 ∧ X 102 4 ≤ 940 ∧ 0 ≤ X 102 14 ∧ X 102 14 ≤ 10000) → X 102 2 = 0 → (∀ k j, ¬ mPw k j → X k j = I k j) → (∀ i, i < n → (0 ≤ X 106 (2 * i) ∧ X 106 (2 * i) < 8) ∧ (0 ≤ X 106 (2 * i + 1) ∧ X 106 (2 * i + 1) ≤ 3)) → yW l zSS D cy zFk z (d + 3) 227 bc bs K 0 0 23 [(0, yr (some 102)), (1, yi (n : Int))] [] (N, T, R, X) := by
    intro m
    induction m with
    | zero =>
      intro X n h1 hr h2 fX hX
      have hn : n = 40 := by omega
      subst hn
      have c104 : X 104 2 = I 104 2 := fX 104 2 (by unfold mPw; omega)
      refine B_227_23 hT hR ⟨fun _ => ?_, fun _ => ?_⟩
      · intro I2 e2
        rw [ynar1_eq (by omega) (by omega)] at e2
        have n2 : ∀ k j, (k ≠ 104 ∨ j ≠ 926) → I2 k j = X k j := fun k j h => by rw [e2, yU_ne _ _ (by omega)]
        refine l153 40 I2 (by omega) (fun i hi => ?_) (fun k j a b => by rw [n2 k j b]; exact fX k j a) (by rw [e2, yU_eq]) ?_ (2 * 40) I2 0 rfl (fun j hj => absurd hj (by omega)) (fun _ _ _ => rfl)
        · rw [n2 106 _ (by omega), n2 106 _ (by omega)]; exact hX i hi
        · rw [n2 102 2 (by omega), n2 102 14 (by omega)]; exact ⟨h2, hr.2.2.2.2⟩
      · refine w_194 (d := d + 2) hT hR (fun r4 q4 => ⟨_, _, rfl, rfl, fun _ => ?_, fun _ => ?_⟩)
        · refine w_180 (d := d + 2) hT hR (by omega) (fun r7 q7 => ⟨_, _, rfl, rfl, fun c7 => ⟨fun c => absurd rfl c, fun _ => ?_⟩, fun _ => ?_⟩)
          · exact w_177 (d := d + 1) hT hR hr (fun r I2 f2 q2 => ⟨_, _, rfl, rfl, hk _ I2 ⟨by rw [f2 102 2 (by omega)]; exact h2, by omega, by omega⟩ (.inl (fun k j h => by rw [f2 k j (by unfold mPw at h; omega)]; exact fX k j h))⟩)
          · exact w_177 (d := d + 1) hT hR hr (fun r I2 f2 q2 => ⟨_, _, rfl, rfl, hk _ I2 ⟨by rw [f2 102 2 (by omega)]; exact h2, by omega, by omega⟩ (.inl (fun k j h => by rw [f2 k j (by unfold mPw at h; omega)]; exact fX k j h))⟩)
        · exact w_177 (d := d + 1) hT hR hr (fun r I2 f2 q2 => ⟨_, _, rfl, rfl, hk _ I2 ⟨by rw [f2 102 2 (by omega)]; exact h2, by omega, by omega⟩ (.inl (fun k j h => by rw [f2 k j (by unfold mPw at h; omega)]; exact fX k j h))⟩)
    | succ m ih =>
      intro X n h1 hr h2 fX hX
      have c104 : X 104 2 = I 104 2 := fX 104 2 (by unfold mPw; omega)
      refine B_227_23 hT hR ⟨fun _ => ?_, fun _ => ?_⟩
      · intro I2 e2
        rw [ynar1_eq (by omega) (by omega)] at e2
        have n2 : ∀ k j, (k ≠ 104 ∨ j ≠ 926) → I2 k j = X k j := fun k j h => by rw [e2, yU_ne _ _ (by omega)]
        refine l153 n I2 (by omega) (fun i hi => ?_) (fun k j a b => by rw [n2 k j b]; exact fX k j a) (by rw [e2, yU_eq]) ?_ (2 * n) I2 0 (by omega) (fun j hj => absurd hj (by omega)) (fun _ _ _ => rfl)
        · rw [n2 106 _ (by omega), n2 106 _ (by omega)]; exact hX i hi
        · rw [n2 102 2 (by omega), n2 102 14 (by omega)]; exact ⟨h2, hr.2.2.2.2⟩
      · refine w_194 (d := d + 2) hT hR (fun r4 q4 => ⟨_, _, rfl, rfl, fun _ => ?_, fun _ => ?_⟩)
        · refine w_180 (d := d + 2) hT hR (by omega) (fun r7 q7 => ⟨_, _, rfl, rfl, fun c7 => ⟨fun _ => ?_, fun _ => ?_⟩, fun _ => ?_⟩)
          · refine w_182 (d := d + 1) hT hR hr (fun I10 f10 q10 => ⟨_, rfl, rfl, ?_⟩)
            refine w_172 (d := d + 1) hT hR (fun r12 q12 => ⟨_, _, rfl, rfl, fun c12 => ?_, fun _ => ?_⟩)
            · rw [ymul_eq (x := 2) (by omega) (by omega), yadd_eq (x := 2 * (n : Int)) (by omega) (by omega), yadd_eq (x := (n : Int)) (by omega) (by omega), show (2 * (n : Int)).toNat = 2 * n by omega, show (2 * (n : Int) + 1).toNat = 2 * n + 1 by omega, ynar1_eq (x := r7) (by omega) (by omega), ynar1_eq (x := r12) (by omega) (by omega)]
              refine ⟨by omega, by omega, fun I16 e16 => ⟨by omega, by omega, fun I19 e19 => ?_⟩⟩
              have n19 : ∀ k j, k ≠ 106 → I19 k j = I10 k j := fun k j h => by rw [e19, yU_ne _ _ (by omega), e16, yU_ne _ _ (by omega)]
              have m3 := n19 102 3 (by omega)
              have m4 := n19 102 4 (by omega)
              have m14 := n19 102 14 (by omega)
              have m2 := n19 102 2 (by omega)
              have g2 := f10 102 2 (by omega)
              refine w_182 (d := d + 1) hT hR (by omega) (fun I20 f20 q20 => ⟨_, rfl, rfl, ?_⟩)
              have h20 := f20 102 2 (by omega)
              refine w_236 (d := d) hT hR (by omega) (fun r22 I21 f21 q21 => ⟨_, _, rfl, rfl, ?_⟩)
              have h21 := f21 102 2 (by omega)
              have fr : ∀ k j, ¬ mPw k j → I21 k j = I k j := fun k j h => by
                unfold mPw at h
                rw [f21 k j (by omega), f20 k j (by omega), n19 k j (by omega), f10 k j (by omega)]
                exact fX k j (by unfold mPw; omega)
              refine ⟨fun _ => ?_, fun _ => hk _ I21 ⟨by omega, by omega, by omega⟩ (.inl fr)⟩
              refine ih I21 (n + 1) (by omega) (by omega) (by omega) fr (fun i hi => ?_)
              rw [f21 106 _ (by omega), f20 106 _ (by omega), f21 106 _ (by omega), f20 106 _ (by omega), e19]
              by_cases e : i = n
              · subst e
                rw [yU_ne _ _ (by omega), e16, yU_eq, yU_eq]; omega
              · rw [yU_ne _ _ (by omega), yU_ne _ _ (by omega), e16, yU_ne _ _ (by omega), yU_ne _ _ (by omega), f10 106 _ (by omega), f10 106 _ (by omega)]
                exact hX i (by omega)
            · refine w_177 (d := d + 1) hT hR (by omega) (fun r I2 f2 q2 => ⟨_, _, rfl, rfl, hk _ I2 ⟨by rw [f2 102 2 (by omega), f10 102 2 (by omega)]; exact h2, by omega, by omega⟩ (.inl (fun k j h => ?_))⟩)
              rw [f2 k j (by unfold mPw at h; omega), f10 k j (by unfold mPw at h; omega)]; exact fX k j h
          · exact w_177 (d := d + 1) hT hR hr (fun r I2 f2 q2 => ⟨_, _, rfl, rfl, hk _ I2 ⟨by rw [f2 102 2 (by omega)]; exact h2, by omega, by omega⟩ (.inl (fun k j h => by rw [f2 k j (by unfold mPw at h; omega)]; exact fX k j h))⟩)
          · exact w_177 (d := d + 1) hT hR hr (fun r I2 f2 q2 => ⟨_, _, rfl, rfl, hk _ I2 ⟨by rw [f2 102 2 (by omega)]; exact h2, by omega, by omega⟩ (.inl (fun k j h => by rw [f2 k j (by unfold mPw at h; omega)]; exact fX k j h))⟩)
        · exact w_177 (d := d + 1) hT hR hr (fun r I2 f2 q2 => ⟨_, _, rfl, rfl, hk _ I2 ⟨by rw [f2 102 2 (by omega)]; exact h2, by omega, by omega⟩ (.inl (fun k j h => by rw [f2 k j (by unfold mPw at h; omega)]; exact fX k j h))⟩)
  refine B_227_0 hT hR ?_
  intro I1 e1
  have a1 : ∀ k j, ¬ (k = 102 ∧ j = 0) → I1 k j = I k j := fun k j h => by rw [e1, yU_ne _ _ h]
  have b2 := a1 102 2 (by omega)
  have b14 := a1 102 14 (by omega)
  refine w_244 (d := d + 2) hT hR (fun I2 f2 q2 => ⟨_, rfl, rfl, ?_⟩)
  have c14 := f2 102 14 (by omega)
  intro I3 e3
  have a3 : ∀ k j, ¬ (k = 102 ∧ j = 15) → I3 k j = I2 k j := fun k j h => by rw [e3, yU_ne _ _ h]
  have d2 := a3 102 2 (by omega)
  have d3 := a3 102 3 (by omega)
  have d4 := a3 102 4 (by omega)
  have d14 := a3 102 14 (by omega)
  refine w_182 (d := d + 1) hT hR (by omega) (fun I4 f4 q4 => ⟨_, rfl, rfl, ?_⟩)
  have g2 := f4 102 2 (by omega)
  refine l23 40 I4 0 rfl (by omega) (by omega) (fun k j h => ?_) (fun i hi => absurd hi (by omega))
  unfold mPw at h
  rw [f4 k j (by omega), a3 k j (by omega), f2 k j (by omega), a1 k j (by omega)]
end Sm
