/-! THE REFERENCE's CONTRACTS: begins, exactly; ALLEYS. -/
/-- a row as begins leaves it, k CHAIRS done -/
def mBg (g : Nat → Int) (k : Nat) (j : Nat) : Int := if 458 ≤ j ∧ j < 462 then 0 else if 470 ≤ j ∧ j < 470 + k then -1 else if 478 ≤ j ∧ j < 478 + k then 0 else if 486 ≤ j ∧ j < 486 + k then -1 else if 494 ≤ j ∧ j < 494 + k then 0 else if 502 ≤ j ∧ j < 502 + k then 0 else if 510 ≤ j ∧ j < 510 + k then -1 else if 518 ≤ j ∧ j < 518 + k then 0 else g j
theorem mBg_cg {g g' : Nat → Int} {k j : Nat} (h : g j = g' j) : mBg g k j = mBg g' k j := by unfold mBg; rw [h]
theorem mBg_st {g : Nat → Int} {k j : Nat} (h1 : ¬ j = 470 + k) (h2 : ¬ j = 478 + k) (h3 : ¬ j = 486 + k) (h4 : ¬ j = 494 + k) (h5 : ¬ j = 502 + k) (h6 : ¬ j = 510 + k) (h7 : ¬ j = 518 + k) : mBg g k j = mBg g (k + 1) j := by
  have e1 : (470 ≤ j ∧ j < 470 + (k + 1)) = (470 ≤ j ∧ j < 470 + k) := propext ⟨fun q => by omega, fun q => by omega⟩
  have e2 : (478 ≤ j ∧ j < 478 + (k + 1)) = (478 ≤ j ∧ j < 478 + k) := propext ⟨fun q => by omega, fun q => by omega⟩
  have e3 : (486 ≤ j ∧ j < 486 + (k + 1)) = (486 ≤ j ∧ j < 486 + k) := propext ⟨fun q => by omega, fun q => by omega⟩
  have e4 : (494 ≤ j ∧ j < 494 + (k + 1)) = (494 ≤ j ∧ j < 494 + k) := propext ⟨fun q => by omega, fun q => by omega⟩
  have e5 : (502 ≤ j ∧ j < 502 + (k + 1)) = (502 ≤ j ∧ j < 502 + k) := propext ⟨fun q => by omega, fun q => by omega⟩
  have e6 : (510 ≤ j ∧ j < 510 + (k + 1)) = (510 ≤ j ∧ j < 510 + k) := propext ⟨fun q => by omega, fun q => by omega⟩
  have e7 : (518 ≤ j ∧ j < 518 + (k + 1)) = (518 ≤ j ∧ j < 518 + k) := propext ⟨fun q => by omega, fun q => by omega⟩
  unfold mBg
  simp only [e1, e2, e3, e4, e5, e6, e7]
theorem mH_zero {I : Nat → Nat → Int} (h : ∀ j, j < 458 → I 105 j = 0) : mH I := by
  refine ⟨?_, fun c hc => ?_, fun k hk hlt => ?_⟩
  · rw [h 0 (by omega), h 1 (by omega), h 2 (by omega), h 6 (by omega)]; omega
  · rw [h _ (by omega)]; omega
  · rw [h 2 (by omega)] at hlt; omega
section Sm
variable {l : Launch} {D : va_G} {cy : Nat → ClassId} {z d bc bs N : Nat} {T : Nat → Nat × Nat} {R : Nat → Nat → Option Nat} {I : Nat → Nat → Int} {K : yKo}
theorem r_begins2 (hT : yLT T) (hR : yLR R) (hk : ∀ I', (∀ j, I' 104 j = mBg (fun j => I 104 j) 8 j) → (∀ k j, k ≠ 104 → I' k j = I k j) → K none (N, T, R, I')) : yW l zSS D cy zFk z d 161 bc bs K 0 0 0 [(0, yr (some 102))] [] (N, T, R, I) := by
  have loop : ∀ (m : Nat) (X : Nat → Nat → Int) (k : Nat), k + m = 8 → (∀ j, X 104 j = mBg (fun j => I 104 j) k j) → (∀ q j, q ≠ 104 → X q j = I q j) → yW l zSS D cy zFk z d 161 bc bs K 0 0 38 [(0, yr (some 102)), (1, yi (k : Int))] [] (N, T, R, X) := by
    intro m
    induction m with
    | zero =>
      intro X k h1 h2 h3
      have : k = 8 := by omega
      subst this
      exact B_161_38 hT hR ⟨fun _ => hk X h2 h3, fun c => absurd c (by omega)⟩
    | succ m ih =>
      intro X k h1 h2 h3
      refine B_161_38 hT hR ⟨fun c => absurd c (by omega), fun _ => ?_⟩
      rw [yadd_eq (x := 470) (by omega) (by omega), yadd_eq (x := 478) (by omega) (by omega), yadd_eq (x := 486) (by omega) (by omega), yadd_eq (x := 494) (by omega) (by omega), yadd_eq (x := 502) (by omega) (by omega), yadd_eq (x := 510) (by omega) (by omega), yadd_eq (x := 518) (by omega) (by omega), yadd_eq (x := (k : Int)) (by omega) (by omega)]
      have e1 : ((470 : Int) + (k : Int)).toNat = 470 + k := by omega
      have e2 : ((478 : Int) + (k : Int)).toNat = 478 + k := by omega
      have e3 : ((486 : Int) + (k : Int)).toNat = 486 + k := by omega
      have e4 : ((494 : Int) + (k : Int)).toNat = 494 + k := by omega
      have e5 : ((502 : Int) + (k : Int)).toNat = 502 + k := by omega
      have e6 : ((510 : Int) + (k : Int)).toNat = 510 + k := by omega
      have e7 : ((518 : Int) + (k : Int)).toNat = 518 + k := by omega
      rw [e1, e2, e3, e4, e5, e6, e7, ynar1_eq (x := -1) (by omega) (by omega), ynar1_eq (x := 0) (by omega) (by omega)]
      refine ⟨by omega, by omega, fun I4 g4 => ⟨by omega, by omega, fun I7 g7 => ⟨by omega, by omega, fun I10 g10 => ⟨by omega, by omega, fun I13 g13 => ⟨by omega, by omega, fun I16 g16 => ⟨by omega, by omega, fun I19 g19 => ⟨by omega, by omega, fun I22 g22 => ?_⟩⟩⟩⟩⟩⟩⟩
      refine ih I22 (k + 1) (by omega) (fun j => ?_) (fun q j hq => ?_)
      · have h := h2 j
        by_cases e470 : j = 470 + k
        · subst e470
          rw [g22, yU_ne _ _ (by omega), g19, yU_ne _ _ (by omega), g16, yU_ne _ _ (by omega), g13, yU_ne _ _ (by omega), g10, yU_ne _ _ (by omega), g7, yU_ne _ _ (by omega), g4, yU_eq]
          unfold mBg
          rw [if_neg (by omega), if_pos (by omega)]
        by_cases e478 : j = 478 + k
        · subst e478
          rw [g22, yU_ne _ _ (by omega), g19, yU_ne _ _ (by omega), g16, yU_ne _ _ (by omega), g13, yU_ne _ _ (by omega), g10, yU_ne _ _ (by omega), g7, yU_eq]
          unfold mBg
          rw [if_neg (by omega), if_neg (by omega), if_pos (by omega)]
        by_cases e486 : j = 486 + k
        · subst e486
          rw [g22, yU_ne _ _ (by omega), g19, yU_ne _ _ (by omega), g16, yU_ne _ _ (by omega), g13, yU_ne _ _ (by omega), g10, yU_eq]
          unfold mBg
          rw [if_neg (by omega), if_neg (by omega), if_neg (by omega), if_pos (by omega)]
        by_cases e494 : j = 494 + k
        · subst e494
          rw [g22, yU_ne _ _ (by omega), g19, yU_ne _ _ (by omega), g16, yU_ne _ _ (by omega), g13, yU_eq]
          unfold mBg
          rw [if_neg (by omega), if_neg (by omega), if_neg (by omega), if_neg (by omega), if_pos (by omega)]
        by_cases e502 : j = 502 + k
        · subst e502
          rw [g22, yU_ne _ _ (by omega), g19, yU_ne _ _ (by omega), g16, yU_eq]
          unfold mBg
          rw [if_neg (by omega), if_neg (by omega), if_neg (by omega), if_neg (by omega), if_neg (by omega), if_pos (by omega)]
        by_cases e510 : j = 510 + k
        · subst e510
          rw [g22, yU_ne _ _ (by omega), g19, yU_eq]
          unfold mBg
          rw [if_neg (by omega), if_neg (by omega), if_neg (by omega), if_neg (by omega), if_neg (by omega), if_neg (by omega), if_pos (by omega)]
        by_cases e518 : j = 518 + k
        · subst e518
          rw [g22, yU_eq]
          unfold mBg
          rw [if_neg (by omega), if_neg (by omega), if_neg (by omega), if_neg (by omega), if_neg (by omega), if_neg (by omega), if_neg (by omega), if_pos (by omega)]
        rw [g22, yU_ne _ _ (by omega), g19, yU_ne _ _ (by omega), g16, yU_ne _ _ (by omega), g13, yU_ne _ _ (by omega), g10, yU_ne _ _ (by omega), g7, yU_ne _ _ (by omega), g4, yU_ne _ _ (by omega),  h]
        exact mBg_st e470 e478 e486 e494 e502 e510 e518
      · rw [g22, yU_ne _ _ (by omega), g19, yU_ne _ _ (by omega), g16, yU_ne _ _ (by omega), g13, yU_ne _ _ (by omega), g10, yU_ne _ _ (by omega), g7, yU_ne _ _ (by omega), g4, yU_ne _ _ (by omega)]
        exact h3 q j hq
  refine B_161_0 hT hR ?_
  rw [ynar1_eq (x := 0) (by omega) (by omega)]
  intro I1 g1 I2 g2 I3 g3 I4 g4
  refine loop 8 I4 0 rfl (fun j => ?_) (fun q j hq => ?_)
  · rw [g4, g3, g2, g1]
    unfold yU mBg
    repeat' split
    all_goals first | rfl | (exfalso; omega)
  · rw [g4, yU_ne _ _ (by omega), g3, yU_ne _ _ (by omega), g2, yU_ne _ _ (by omega), g1, yU_ne _ _ (by omega)]
/-- the row that ALLEYS well read leave, out of the land that is read -/
def mAl (h : Nat → Int) (j : Nat) : Int := mBg (fun j => if j < 458 then h j else if 462 ≤ j ∧ j < 470 then h (350 + (j - 462)) else if 526 ≤ j ∧ j < 626 then h (358 + (j - 526)) else 0) 8 j
theorem mAl_inv {I H : Nat → Nat → Int} (hH : mH H) (hO : mOr I) (h : ∀ j, j < 1188 → I 104 j = mAl (fun j => H 105 j) j) : mInv I := by
  obtain ⟨⟨a0, a1, a2, a3, a4, a5, a6, a7⟩, b, c⟩ := hH
  have low : ∀ j, j < 458 → I 104 j = H 105 j := fun j hj => by
    rw [h j (by omega)]; unfold mAl mBg
    rw [if_neg (by omega), if_neg (by omega), if_neg (by omega), if_neg (by omega), if_neg (by omega), if_neg (by omega), if_neg (by omega), if_neg (by omega)]
    exact if_pos hj
  refine ⟨?_, ?_, fun q hq => ?_, fun k hk hlt => ?_, ?_, fun k hk => ?_, hO⟩
  · unfold mDim; rw [low 0 (by omega), low 1 (by omega), low 2 (by omega)]; omega
  · rw [low 6 (by omega)]; omega
  · rw [low _ (by omega)]; exact b q hq
  · rw [low 2 (by omega)] at hlt
    rw [low 0 (by omega), low 1 (by omega), low _ (by omega), low _ (by omega)]; exact c k hk hlt
  · rw [h 461 (by omega)]; unfold mAl mBg; rw [if_pos (by omega)]; omega
  · rw [h (470 + k) (by omega), h (486 + k) (by omega)]
    constructor
    · left; unfold mAl mBg; rw [if_neg (by omega), if_pos (by omega)]
    · left; unfold mAl mBg; rw [if_neg (by omega), if_neg (by omega), if_neg (by omega), if_pos (by omega)]
/-- what ALLEYS may change ahead of the land itself -/
def mAw (k j : Nat) : Prop := (k = 102 ∧ (j = 0 ∨ (2 ≤ j ∧ j ≤ 5) ∨ (11 ≤ j ∧ j ≤ 23))) ∨ k = 105 ∨ k = 107
theorem r_alleys (hT : yLT T) (hR : yLR R) (hN : 126 ≤ N) (h0 : 0 ≤ I 102 2 ∧ I 102 2 ≤ 940 ∧ 0 ≤ I 102 14 ∧ I 102 14 ≤ 10000) (hO : mOr I)
    (hk : ∀ r I', (I' 102 2 = 0 ∧ 0 ≤ I' 102 14 ∧ I' 102 14 ≤ 10000) → ((∀ k j, ¬ mAw k j → I' k j = I k j) ∨ ((∀ k j, ¬ mAw k j → k ≠ 104 → (k ≠ 102 ∨ j ≠ 35) → I' k j = I k j) ∧ mInv I' ∧ I' 102 35 = 0 ∧ ∃ H, mH H ∧ ∀ j, j < 1188 → I' 104 j = mAl (fun j => H 105 j) j)) → K (some (yi r)) (N, T, R, I')) :
    yW l zSS D cy zFk z (d + 6) 156 bc bs K 0 0 0 [(0, yr (some 102))] [] (N, T, R, I) := by
  -- the land is taken over
  have l113 : ∀ Y : Nat → Nat → Int, mH Y → (∀ k j, ¬ mAw k j → Y k j = I k j) → (Y 102 2 = 0 ∧ 0 ≤ Y 102 14 ∧ Y 102 14 ≤ 10000) → yW l zSS D cy zFk z (d + 6) 156 bc bs K 0 0 113 [(0, yr (some 102)), (1, yi 0)] [] (N, T, R, Y) := by
    intro Y hY fY vY
    -- starts
    have l214 : ∀ (m : Nat) (X : Nat → Nat → Int) (i : Nat), i + m = 8 → (∀ j, j < 1188 → X 104 j = (if j < 458 then Y 105 j else if 462 ≤ j ∧ j < 462 + i then Y 105 (350 + (j - 462)) else if 526 ≤ j ∧ j < 626 then Y 105 (358 + (j - 526)) else 0)) → (∀ k j, k ≠ 104 → k ≠ 107 → X k j = Y k j) → yW l zSS D cy zFk z (d + 6) 156 bc bs K 0 0 214 [(0, yr (some 102)), (1, yi (i : Int))] [] (N, T, R, X) := by
      intro m
      induction m with
      | zero =>
        intro X i h1 h2 h3
        have hi : i = 8 := by omega
        subst hi
        refine B_156_214 hT hR ⟨fun _ => ?_, fun c => absurd c (by omega)⟩
        refine r_begins2 hT hR (fun I2 b2 s2 => ⟨_, rfl, rfl, ?_⟩)
        intro I3 e3
        have s3 : ∀ k j, k ≠ 104 → k ≠ 107 → (k ≠ 102 ∨ j ≠ 35) → I3 k j = Y k j := fun k j a b c => by
          rw [e3, yU_ne _ _ (by omega), s2 k j a]; exact h3 k j a b
        have r3 : ∀ j, j < 1188 → I3 104 j = mAl (fun j => Y 105 j) j := fun j hj => by
          rw [e3, yU_ne _ _ (by omega), b2 j]
          exact mBg_cg (h2 j hj)
        have v35 : I3 102 35 = 0 := by rw [e3, yU_eq]
        have hO3 : mOr I3 := fun i hi => by
          rw [s3 111 i (by decide) (by decide) (.inl (by decide)), s3 112 i (by decide) (by decide) (.inl (by decide)), fY 111 i (by unfold mAw; omega), fY 112 i (by unfold mAw; omega)]; exact hO i hi
        refine hk _ I3 ?_ (.inr ⟨fun k j a b c => ?_, mAl_inv hY hO3 r3, v35, Y, hY, r3⟩)
        · rw [s3 102 2 (by decide) (by decide) (.inr (by decide)), s3 102 14 (by decide) (by decide) (.inr (by decide))]; exact vY
        · rw [s3 k j b (fun q => a (by unfold mAw; omega)) c]; exact fY k j a
      | succ m ih =>
        intro X i h1 h2 h3
        refine e_ri (k := 104) (n := 1188) (j := 350 + i) (c0 := 1) (hT 104 rfl) (.inr (.inl rfl)) (by omega) (show 104 < N by omega) (fun q1 q2 => ?_)
        have q1 : -2147483648 ≤ X 104 (350 + i) := q1
        have q2 : X 104 (350 + i) < 2147483648 := q2
        refine B_156_214 hT hR ⟨fun c => absurd c (by omega), fun _ => ?_⟩
        rw [yadd_eq (x := 350) (by omega) (by omega), yadd_eq (x := 462) (by omega) (by omega), yadd_eq (x := (i : Int)) (by omega) (by omega)]
        have x1 : ((350 : Int) + (i : Int)).toNat = 350 + i := by omega
        have x2 : ((462 : Int) + (i : Int)).toNat = 462 + i := by omega
        rw [x1, x2]
        refine ⟨by omega, by omega, by omega, by omega, ?_⟩
        intro I8 e8
        rw [ynar1_eq q1 q2, h2 (350 + i) (by omega), if_pos (by omega)] at e8
        refine ih I8 (i + 1) (by omega) (fun j hj => ?_) (fun k j a b => ?_)
        · rw [e8]
          by_cases e : j = 462 + i
          · subst e
            rw [yU_eq, if_neg (by omega), if_pos (by omega), show 350 + (462 + i - 462) = 350 + i by omega]
          · rw [yU_ne _ _ (by omega), h2 j hj]
            by_cases c1 : j < 458
            · rw [if_pos c1, if_pos c1]
            · rw [if_neg c1, if_neg c1]
              by_cases c2 : 462 ≤ j ∧ j < 462 + i
              · rw [if_pos c2, if_pos (by omega)]
              · rw [if_neg c2, if_neg (c := 462 ≤ j ∧ j < 462 + (i + 1)) (by omega)]
        · rw [e8, yU_ne _ _ (by omega)]; exact h3 k j a b
    -- lanes
    have l180 : ∀ (m : Nat) (X : Nat → Nat → Int) (i : Nat), i + m = 100 → (∀ j, j < 1188 → X 104 j = (if j < 458 then Y 105 j else if 526 ≤ j ∧ j < 526 + i then Y 105 (358 + (j - 526)) else 0)) → (∀ k j, k ≠ 104 → k ≠ 107 → X k j = Y k j) → yW l zSS D cy zFk z (d + 6) 156 bc bs K 0 0 180 [(0, yr (some 102)), (1, yi (i : Int))] [] (N, T, R, X) := by
      intro m
      induction m with
      | zero =>
        intro X i h1 h2 h3
        refine B_156_180 hT hR ⟨fun _ => ?_, fun c => absurd c (by omega)⟩
        refine l214 8 X 0 rfl (fun j hj => ?_) h3
        rw [h2 j hj]
        by_cases c1 : j < 458
        · rw [if_pos c1, if_pos c1]
        · rw [if_neg c1, if_neg c1, if_neg (c := 462 ≤ j ∧ j < 462 + 0) (by omega)]
          by_cases c2 : 526 ≤ j ∧ j < 626
          · rw [if_pos (by omega), if_pos c2]
          · rw [if_neg (by omega), if_neg c2]
      | succ m ih =>
        intro X i h1 h2 h3
        refine e_ri (k := 104) (n := 1188) (j := 358 + i) (c0 := 1) (hT 104 rfl) (.inr (.inl rfl)) (by omega) (show 104 < N by omega) (fun q1 q2 => ?_)
        have q1 : -2147483648 ≤ X 104 (358 + i) := q1
        have q2 : X 104 (358 + i) < 2147483648 := q2
        refine B_156_180 hT hR ⟨fun c => absurd c (by omega), fun _ => ?_⟩
        rw [yadd_eq (x := 358) (by omega) (by omega), yadd_eq (x := 526) (by omega) (by omega), yadd_eq (x := (i : Int)) (by omega) (by omega)]
        have x1 : ((358 : Int) + (i : Int)).toNat = 358 + i := by omega
        have x2 : ((526 : Int) + (i : Int)).toNat = 526 + i := by omega
        rw [x1, x2]
        refine ⟨by omega, by omega, by omega, by omega, ?_⟩
        intro I6 e6
        rw [ynar1_eq q1 q2, h2 (358 + i) (by omega), if_pos (by omega)] at e6
        refine ih I6 (i + 1) (by omega) (fun j hj => ?_) (fun k j a b => ?_)
        · rw [e6]
          by_cases e : j = 526 + i
          · subst e
            rw [yU_eq, if_neg (by omega), if_pos (by omega), show 358 + (526 + i - 526) = 358 + i by omega]
          · rw [yU_ne _ _ (by omega), h2 j hj]
            by_cases c1 : j < 458
            · rw [if_pos c1, if_pos c1]
            · rw [if_neg c1, if_neg c1]
              by_cases c2 : 526 ≤ j ∧ j < 526 + i
              · rw [if_pos c2, if_pos (by omega)]
              · rw [if_neg c2, if_neg (by omega)]
        · rw [e6, yU_ne _ _ (by omega)]; exact h3 k j a b
    -- names
    have l151 : ∀ (m : Nat) (X : Nat → Nat → Int) (i : Nat), i + m = 8 → (∀ j, j < 1188 → X 104 j = (if j < 458 then Y 105 j else 0)) → (∀ k j, k ≠ 104 → k ≠ 107 → X k j = Y k j) → yW l zSS D cy zFk z (d + 6) 156 bc bs K 0 0 151 [(0, yr (some 102)), (1, yi (i : Int))] [] (N, T, R, X) := by
      intro m
      induction m with
      | zero =>
        intro X i h1 h2 h3
        refine B_156_151 hT hR ⟨fun _ => ?_, fun c => absurd c (by omega)⟩
        refine l180 100 X 0 rfl (fun j hj => ?_) h3
        rw [h2 j hj]
        by_cases c1 : j < 458
        · rw [if_pos c1, if_pos c1]
        · rw [if_neg c1, if_neg c1, if_neg (by omega)]
      | succ m ih =>
        intro X i h1 h2 h3
        refine B_156_151 hT hR ⟨fun c => absurd c (by omega), fun _ => ?_⟩
        rw [yadd_eq (x := 8) (by omega) (by omega), yadd_eq (x := (i : Int)) (by omega) (by omega)]
        refine ⟨by omega, by omega, by omega, by omega, ?_⟩
        intro I6 e6
        refine ih I6 (i + 1) (by omega) (fun j hj => ?_) (fun k j a b => ?_)
        · rw [e6, yU_ne _ _ (by omega)]; exact h2 j hj
        · rw [e6, yU_ne _ _ (by omega)]; exact h3 k j a b
    have l113 : ∀ (m : Nat) (X : Nat → Nat → Int) (i : Nat), i + m = 1188 → (∀ j, j < i → X 104 j = (if j < 458 then Y 105 j else 0)) → (∀ k j, k ≠ 104 → X k j = Y k j) → yW l zSS D cy zFk z (d + 6) 156 bc bs K 0 0 113 [(0, yr (some 102)), (1, yi (i : Int))] [] (N, T, R, X) := by
      intro m
      induction m with
      | zero =>
        intro X i h1 h2 h3
        exact B_156_113 hT hR ⟨fun _ => l151 8 X 0 rfl (fun j hj => h2 j (by omega)) (fun k j a _ => h3 k j a), fun c => absurd c (by omega)⟩
      | succ m ih =>
        intro X i h1 h2 h3
        have next : ∀ v : Int, v = (if i < 458 then Y 105 i else 0) → yW l zSS D cy zFk z (d + 6) 156 bc bs K 0 0 113 [(0, yr (some 102)), (1, yi ((i + 1 : Nat) : Int))] [] (N, T, R, yU X 104 i v) := by
          intro v hv
          refine ih _ (i + 1) (by omega) (fun j hj => ?_) (fun k j a => ?_)
          · by_cases e : j = i
            · subst e; rw [yU_eq]; exact hv
            · rw [yU_ne _ _ (by omega)]; exact h2 j (by omega)
          · rw [yU_ne _ _ (by omega)]; exact h3 k j a
        by_cases ci : i < 458
        · refine e_ri (k := 105) (n := 458) (j := i) (c0 := 1) (hT 105 rfl) (.inr (.inl rfl)) (by omega) (show 105 < N by omega) (fun q1 q2 => ?_)
          have q1 : -2147483648 ≤ X 105 i := q1
          have q2 : X 105 i < 2147483648 := q2
          refine B_156_113 hT hR ⟨fun c => absurd c (by omega), fun _ => ⟨fun c => absurd c (by omega), fun _ => ?_⟩⟩
          rw [yadd_eq (x := (i : Int)) (by omega) (by omega), show ((i : Int)).toNat = i by omega]
          refine ⟨by omega, by omega, by omega, by omega, ?_⟩
          intro I10 e10
          rw [ynar1_eq q1 q2, h3 105 i (by decide)] at e10
          rw [e10]
          exact next _ (by rw [if_pos ci])
        · refine B_156_113 hT hR ⟨fun c => absurd c (by omega), fun _ => ⟨fun _ => ?_, fun c => absurd c (by omega)⟩⟩
          rw [yadd_eq (x := (i : Int)) (by omega) (by omega), show ((i : Int)).toNat = i by omega]
          refine ⟨by omega, by omega, ?_⟩
          intro I5 e5
          rw [ynar1_eq (x := 0) (by omega) (by omega)] at e5
          rw [e5]
          exact next _ (by rw [if_neg ci])
    exact l113 1188 Y 0 rfl (fun j hj => absurd hj (by omega)) (fun _ _ _ => rfl)
  -- LINE by LINE
  have l68 : ∀ (m : Nat) (X : Nat → Nat → Int), (940 - X 102 4).toNat < m → (0 ≤ X 102 3 ∧ X 102 3 ≤ 940 ∧ 0 ≤ X 102 4 ∧ X 102 4 ≤ 940 ∧ 0 ≤ X 102 14 ∧ X 102 14 ≤ 10000) → ((X 102 22 = 0 → X 105 0 = 0) ∧ (X 102 23 = 0 → X 105 6 = 0)) → mH X → X 102 2 = 0 → (∀ k j, ¬ mAw k j → X k j = I k j) → yW l zSS D cy zFk z (d + 6) 156 bc bs K 0 0 68 [(0, yr (some 102))] [] (N, T, R, X) := by
    intro m
    induction m with
    | zero => intro X h; exact absurd h (Nat.not_lt_zero _)
    | succ m ih =>
      intro X hm hr hl hX h2 fX
      refine B_156_68 hT hR ⟨fun _ => l113 X hX fX ⟨h2, hr.2.2.2.2.1, hr.2.2.2.2.2⟩, fun _ => ?_⟩
      refine w_211 (d := d) hT hR hr hl hX (fun r3 I2 f2 q2 => ⟨_, _, rfl, rfl, ?_⟩)
      obtain ⟨q2, hX2⟩ := q2
      have f2' : ∀ k j, ¬ mAw k j → I2 k j = I k j := fun k j h => by
        unfold mAw at h
        rw [f2 k j (by omega)]; exact fX k j (by unfold mAw; omega)
      have v2 : I2 102 2 = 0 := by rw [f2 102 2 (by omega)]; exact h2
      refine ⟨fun _ => hk _ I2 ⟨v2, by omega, by omega⟩ (.inl f2'), fun c3 => ?_⟩
      refine w_236 (d := d + 3) hT hR (by omega) (fun r6 I5 f5 q5 => ⟨_, _, rfl, rfl, ?_⟩)
      have f5' : ∀ k j, ¬ mAw k j → I5 k j = I k j := fun k j h => by
        rw [f5 k j (by unfold mAw at h; omega)]; exact f2' k j h
      have v5 : I5 102 2 = 0 := by rw [f5 102 2 (by omega)]; exact v2
      have w22 := f5 102 22 (by omega)
      have w23 := f5 102 23 (by omega)
      have wa := f5 105 0 (by omega)
      have wb := f5 105 6 (by omega)
      refine ⟨fun c6 => ?_, fun _ => hk _ I5 ⟨v5, by omega, by omega⟩ (.inl f5')⟩
      intro I8 e8
      have n8 : ∀ k j, ¬ (k = 102 ∧ j = 19) → I8 k j = I5 k j := fun k j h => by rw [e8, yU_ne _ _ h]
      have m3 := n8 102 3 (by omega)
      have m4 := n8 102 4 (by omega)
      have m14 := n8 102 14 (by omega)
      have m22 := n8 102 22 (by omega)
      have m23 := n8 102 23 (by omega)
      have ma := n8 105 0 (by omega)
      have mb := n8 105 6 (by omega)
      have w3 := f5 102 3 (by omega)
      refine ih I8 (by omega) (by omega) (by omega) (mH_eq hX2 (fun k j h => by rw [n8 k j (by omega), f5 k j (by omega)])) (by rw [n8 102 2 (by omega)]; exact v5) (fun k j h => by rw [n8 k j (by unfold mAw at h; omega)]; exact f5' k j h)
  refine B_156_0 hT hR ?_
  intro I1 e1
  refine w_244 (d := d + 5) hT hR (fun I2 f2 q2 => ⟨_, rfl, rfl, ?_⟩)
  intro I3 e3 I4 e4 I5 e5 I6 e6 I7 e7 I8 e8
  have a1 : ∀ k j, ¬ (k = 102 ∧ j = 0) → I1 k j = I k j := fun k j h => by rw [e1, yU_ne _ _ h]
  have n8 : ∀ k j, ¬ (k = 102 ∧ (j = 15 ∨ (19 ≤ j ∧ j ≤ 23))) → I8 k j = I2 k j := fun k j h => by
    rw [e8, yU_ne _ _ (by omega), e7, yU_ne _ _ (by omega), e6, yU_ne _ _ (by omega), e5, yU_ne _ _ (by omega), e4, yU_ne _ _ (by omega), e3, yU_ne _ _ (by omega)]
  have v23 : I8 102 23 = 0 := by rw [e8, yU_eq]
  have v22 : I8 102 22 = 0 := by rw [e8, yU_ne _ _ (by omega), e7, yU_eq]
  have g2 := n8 102 2 (by omega)
  have g3 := n8 102 3 (by omega)
  have g4 := n8 102 4 (by omega)
  have g14 := n8 102 14 (by omega)
  have p14 := f2 102 14 (by omega)
  have b2 := a1 102 2 (by omega)
  have b14 := a1 102 14 (by omega)
  have f8 : ∀ k j, ¬ mAw k j → I8 k j = I k j := fun k j h => by
    unfold mAw at h
    rw [n8 k j (by omega), f2 k j (by omega), a1 k j (by omega)]
  have l44 : ∀ (m : Nat) (X : Nat → Nat → Int) (i : Nat), i + m = 458 → (∀ j, j < i → X 105 j = 0) → (∀ k j, k ≠ 105 → X k j = I8 k j) → yW l zSS D cy zFk z (d + 6) 156 bc bs K 0 0 44 [(0, yr (some 102)), (1, yi (i : Int))] [] (N, T, R, X) := by
    intro m
    induction m with
    | zero =>
      intro X i h1 h2 h3
      refine B_156_44 hT hR ⟨fun _ => ?_, fun c => absurd c (by omega)⟩
      have y2 := h3 102 2 (by decide)
      have y3 := h3 102 3 (by decide)
      have y4 := h3 102 4 (by decide)
      have y14 := h3 102 14 (by decide)
      have y22 := h3 102 22 (by decide)
      have y23 := h3 102 23 (by decide)
      refine w_182 (d := d + 4) hT hR (by omega) (fun I9 f9 q9 => ⟨_, rfl, rfl, ?_⟩)
      have x2 := f9 102 2 (by omega)
      have x22 := f9 102 22 (by omega)
      have x23 := f9 102 23 (by omega)
      have xa := f9 105 0 (by omega)
      have xb := f9 105 6 (by omega)
      have za := h2 0 (by omega)
      have zb := h2 6 (by omega)
      refine l68 _ I9 (Nat.lt_succ_self _) (by omega) (by omega) (mH_eq (mH_zero (fun j hj => h2 j (by omega))) (fun k j h => f9 k j (by omega))) (by omega) (fun k j h => ?_)
      rw [f9 k j (by unfold mAw at h; omega), h3 k j (by unfold mAw at h; omega)]
      exact f8 k j h
    | succ m ih =>
      intro X i h1 h2 h3
      refine B_156_44 hT hR ⟨fun c => absurd c (by omega), fun _ => ?_⟩
      rw [yadd_eq (x := (i : Int)) (by omega) (by omega), show ((i : Int)).toNat = i by omega, ynar1_eq (x := 0) (by omega) (by omega)]
      refine ⟨by omega, by omega, ?_⟩
      intro I5 e5
      refine ih I5 (i + 1) (by omega) (fun j hj => ?_) (fun k j a => ?_)
      · rw [e5]
        by_cases e : j = i
        · subst e; rw [yU_eq]
        · rw [yU_ne _ _ (by omega)]; exact h2 j (by omega)
      · rw [e5, yU_ne _ _ (by omega)]; exact h3 k j a
  exact l44 458 I8 0 rfl (fun j hj => absurd hj (by omega)) (fun _ _ _ => rfl)
end Sm
