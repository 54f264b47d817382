/-! CONTRACTS of the class, printed by wip/whole/y/t3.py (93.w1) -/
section Sw
variable {l : Launch} {D : va_G} {cy : Nat → ClassId} {z d bc bs N : Nat} {T : Nat → Nat × Nat} {R : Nat → Nat → Option Nat} {I : Nat → Nat → Int} {K : yKo}
/-- ChairAlley$Land.passOpen(LChairAlley$Reader;I)Z -/
theorem w_13 (hT : yLT T) (hR : yLR R) {p : Nat} (hp : yAtLand T R p) (gp : (1 < p ∧ p + 12 ≤ 102) ∨ 126 ≤ p) {x2 : Int} (h0 : 0 ≤ I 1 1 ∧ I 1 1 ≤ 940 ∧ 0 ≤ I 1 3 ∧ I 1 3 ≤ 940) (hk : ∀ r I', (∀ k j, ¬ (k = 1 ∧ 2 ≤ j) → I' k j = I k j) → ((0 ≤ I' 1 1 ∧ I' 1 1 ≤ 940 ∧ 0 ≤ I' 1 3 ∧ I' 1 3 ≤ 940) ∧ (r = 0 ∨ r = 1)) → K (some (yi r)) (N, T, R, I')) : yW l zSS D cy zFk z (d + 6) 13 bc bs K 0 0 0 [(0, yr (some p)), (1, yr (some 1)), (2, yi x2)] [] (N, T, R, I) := by
  have k0 : ∀ k j, ¬ (k = 1 ∧ 2 ≤ j) → I k j = I k j := fun _ _ _ => rfl
  refine e_li (i := 2) (x := x2) rfl fun _ _ => ?_
  refine B_13_0 hT hR hp ?_
  refine ⟨fun c1 => ?_, fun c1 => ?_⟩
  · refine w_12 (d := d + 5) hT hR hp  (fun r2 q3 => ⟨_, _, rfl, rfl, ?_⟩)
    refine ⟨fun c5 => ?_, fun c5 => ?_⟩
    · refine w_31 (d := d) hT hR  (by omega) (fun I6 f8 q7 => ⟨_, rfl, rfl, ?_⟩)
      have k9 : ∀ k j, ¬ (k = 1 ∧ 2 ≤ j) → I6 k j = I k j := fun k j h => (f8 k j (by omega)).trans (k0 k j h)
      first | have tI6_1_1 := f8 1 1 (by omega) | skip
      first | have tI6_1_3 := f8 1 3 (by omega) | skip
      exact hk _ _ k9 (by omega)
    · refine w_34 (d := d + 5) hT hR  (by omega) (fun r10 I11 f13 q12 => ⟨_, _, rfl, rfl, ?_⟩)
      have k14 : ∀ k j, ¬ (k = 1 ∧ 2 ≤ j) → I11 k j = I k j := fun k j h => (f13 k j (by omega)).trans (k0 k j h)
      first | have tI11_1_1 := f13 1 1 (by omega) | skip
      first | have tI11_1_3 := f13 1 3 (by omega) | skip
      refine ⟨by omega, ?_⟩
      exact hk _ _ k14 (by omega)
  · exact hk _ _ k0 (by omega)
/-- ChairAlley$Land.readCell(LChairAlley$Reader;)I -/
theorem w_15 (hT : yLT T) (hR : yLR R) {p : Nat} (hp : yAtLand T R p) (gp : (1 < p ∧ p + 12 ≤ 102) ∨ 126 ≤ p) (h0 : 0 ≤ I 1 1 ∧ I 1 1 ≤ 940 ∧ 0 ≤ I 1 3 ∧ I 1 3 ≤ 940) (h1 : 0 ≤ I p 0 ∧ I p 0 ≤ 10 ∧ 0 ≤ I p 1 ∧ I p 1 ≤ 10) (hk : ∀ r I', (∀ k j, ¬ (k = 1 ∧ 2 ≤ j) → I' k j = I k j) → ((0 ≤ I' 1 1 ∧ I' 1 1 ≤ 940 ∧ 0 ≤ I' 1 3 ∧ I' 1 3 ≤ 940) ∧ (0 ≤ I' p 0 ∧ I' p 0 ≤ 10 ∧ 0 ≤ I' p 1 ∧ I' p 1 ≤ 10) ∧ (r = -1 ∨ (0 ≤ r ∧ r < 100))) → K (some (yi r)) (N, T, R, I')) : yW l zSS D cy zFk z (d + 7) 15 bc bs K 0 0 0 [(0, yr (some p)), (1, yr (some 1))] [] (N, T, R, I) := by
  have k0 : ∀ k j, ¬ (k = 1 ∧ 2 ≤ j) → I k j = I k j := fun _ _ _ => rfl
  refine B_15_0 hT hR hp ?_
  refine w_42 (d := d) hT hR  (by omega) (fun r1 I2 f4 q3 => ⟨_, _, rfl, rfl, ?_⟩)
  have k5 : ∀ k j, ¬ (k = 1 ∧ 2 ≤ j) → I2 k j = I k j := fun k j h => (f4 k j (by omega)).trans (k0 k j h)
  first | have tI2_1_1 := f4 1 1 (by omega) | skip
  first | have tI2_1_3 := f4 1 3 (by omega) | skip
  first | have tI2_p_0 := f4 p 0 (by omega) | skip
  first | have tI2_p_1 := f4 p 1 (by omega) | skip
  refine ⟨fun c6 => ?_, fun c6 => ?_⟩
  · exact hk _ _ k5 (by omega)
  · refine w_37 (d := d + 5) hT hR  (by omega) (fun r7 I8 f10 q9 => ⟨_, _, rfl, rfl, ?_⟩)
    have k11 : ∀ k j, ¬ (k = 1 ∧ 2 ≤ j) → I8 k j = I k j := fun k j h => (f10 k j (by omega)).trans (k5 k j h)
    first | have tI8_1_1 := f10 1 1 (by omega) | skip
    first | have tI8_1_3 := f10 1 3 (by omega) | skip
    first | have tI8_p_0 := f10 p 0 (by omega) | skip
    first | have tI8_p_1 := f10 p 1 (by omega) | skip
    refine ⟨fun c12 => ?_, fun c12 => ?_⟩
    · refine w_10 (d := d + 6) hT hR hp  (fun r13 q14 => ⟨_, _, rfl, rfl, ?_⟩)
      refine ⟨fun c16 => ?_, fun c16 => ?_⟩
      · exact hk _ _ k11 (by omega)
      · exact hk _ _ k11 (by omega)
    · exact hk _ _ k11 (by omega)
/-- ChairAlley$Land.readName(LChairAlley$Reader;)I -/
theorem w_21 (hT : yLT T) (hR : yLR R) {p : Nat} (hp : yAtLand T R p) (gp : (1 < p ∧ p + 12 ≤ 102) ∨ 126 ≤ p) (h0 : 0 ≤ I 1 1 ∧ I 1 1 ≤ 940 ∧ 0 ≤ I 1 3 ∧ I 1 3 ≤ 940) (hk : ∀ r I', (∀ k j, ¬ (k = 1 ∧ 2 ≤ j) → I' k j = I k j) → ((0 ≤ I' 1 1 ∧ I' 1 1 ≤ 940 ∧ 0 ≤ I' 1 3 ∧ I' 1 3 ≤ 940)) → K (some (yi r)) (N, T, R, I')) : yW l zSS D cy zFk z (d + 2) 21 bc bs K 0 0 0 [(0, yr (some p)), (1, yr (some 1))] [] (N, T, R, I) := by
  have k0 : ∀ k j, ¬ (k = 1 ∧ 2 ≤ j) → I k j = I k j := fun _ _ _ => rfl
  refine B_21_0 hT hR hp ?_
  refine w_36 (d := d) hT hR  (by omega) (fun r1 I2 f4 q3 => ⟨_, _, rfl, rfl, ?_⟩)
  have k5 : ∀ k j, ¬ (k = 1 ∧ 2 ≤ j) → I2 k j = I k j := fun k j h => (f4 k j (by omega)).trans (k0 k j h)
  first | have tI2_1_1 := f4 1 1 (by omega) | skip
  first | have tI2_1_3 := f4 1 3 (by omega) | skip
  refine ⟨fun c6 => ?_, fun c6 => ?_⟩
  · refine w_6 (d := d + 1) hT hR hp  (fun r7 q8 => ⟨_, _, rfl, rfl, ?_⟩)
    refine ⟨fun c10 => ?_, fun c10 => ?_⟩
    · exact hk _ _ k5 (by omega)
    · refine w_34 (d := d + 1) hT hR  (by omega) (fun r11 I12 f14 q13 => ⟨_, _, rfl, rfl, ?_⟩)
      have k15 : ∀ k j, ¬ (k = 1 ∧ 2 ≤ j) → I12 k j = I k j := fun k j h => (f14 k j (by omega)).trans (k5 k j h)
      first | have tI12_1_1 := f14 1 1 (by omega) | skip
      first | have tI12_1_3 := f14 1 3 (by omega) | skip
      exact hk _ _ k15 (by omega)
  · exact hk _ _ k5 (by omega)
/-- ChairAlley$Land.readChair(LChairAlley$Reader;)Z -/
theorem w_16 (hT : yLT T) (hR : yLR R) {p : Nat} (hp : yAtLand T R p) (gp : (1 < p ∧ p + 12 ≤ 102) ∨ 126 ≤ p) (h0 : 0 ≤ I 1 1 ∧ I 1 1 ≤ 940 ∧ 0 ≤ I 1 3 ∧ I 1 3 ≤ 940) (h1 : 0 ≤ I p 0 ∧ I p 0 ≤ 10 ∧ 0 ≤ I p 1 ∧ I p 1 ≤ 10) (hk : ∀ r I', (∀ k j, ¬ ((k = 1 ∧ 2 ≤ j) ∨ (p ≤ k ∧ k < p + 12)) → I' k j = I k j) → ((0 ≤ I' 1 1 ∧ I' 1 1 ≤ 940 ∧ 0 ≤ I' 1 3 ∧ I' 1 3 ≤ 940) ∧ (0 ≤ I' p 0 ∧ I' p 0 ≤ 10 ∧ 0 ≤ I' p 1 ∧ I' p 1 ≤ 10) ∧ (r = 0 ∨ r = 1)) → K (some (yi r)) (N, T, R, I')) : yW l zSS D cy zFk z (d + 8) 16 bc bs K 0 0 0 [(0, yr (some p)), (1, yr (some 1))] [] (N, T, R, I) := by
  have k0 : ∀ k j, ¬ ((k = 1 ∧ 2 ≤ j) ∨ (p ≤ k ∧ k < p + 12)) → I k j = I k j := fun _ _ _ => rfl
  have L : ∀ m : Nat, (∀ X : Nat → Nat → Int, (∀ k j, ¬ ((k = 1 ∧ 2 ≤ j) ∨ (p ≤ k ∧ k < p + 12)) → X k j = I k j) → (1 : Int).toNat < m → ((0 ≤ X 1 1 ∧ X 1 1 ≤ 940 ∧ 0 ≤ X 1 3 ∧ X 1 3 ≤ 940) ∧ 0 ≤ X p 0 ∧ X p 0 ≤ 10 ∧ 0 ≤ X p 1 ∧ X p 1 ≤ 10) → yW l zSS D cy zFk z (d + 8) 16 bc bs K 0 0 15 [(1, yr (some 1))] [] (N, T, R, X)) ∧ (∀ x2 t0 t1 : Int, ∀ X : Nat → Nat → Int, (∀ k j, ¬ ((k = 1 ∧ 2 ≤ j) ∨ (p ≤ k ∧ k < p + 12)) → X k j = I k j) → (3 : Int).toNat < m → (0 ≤ x2 ∧ x2 < 8 ∧ 0 ≤ t1 ∧ t1 < 8 ∧ (0 ≤ X 1 1 ∧ X 1 1 ≤ 940 ∧ 0 ≤ X 1 3 ∧ X 1 3 ≤ 940) ∧ 0 ≤ X p 0 ∧ X p 0 ≤ 10 ∧ 0 ≤ X p 1 ∧ X p 1 ≤ 10) → yW l zSS D cy zFk z (d + 8) 16 bc bs K 0 0 132 [(0, yr (some p)), (1, yr (some 1)), (2, yi x2)] [yi t0, yi t1, yr (some (p + 8))] (N, T, R, X)) ∧ (∀ x2 t0 t1 : Int, ∀ X : Nat → Nat → Int, (∀ k j, ¬ ((k = 1 ∧ 2 ≤ j) ∨ (p ≤ k ∧ k < p + 12)) → X k j = I k j) → (2 : Int).toNat < m → (0 ≤ x2 ∧ x2 < 8 ∧ 0 ≤ t1 ∧ t1 < 8 ∧ (0 ≤ X 1 1 ∧ X 1 1 ≤ 940 ∧ 0 ≤ X 1 3 ∧ X 1 3 ≤ 940) ∧ 0 ≤ X p 0 ∧ X p 0 ≤ 10 ∧ 0 ≤ X p 1 ∧ X p 1 ≤ 10) → yW l zSS D cy zFk z (d + 8) 16 bc bs K 0 0 157 [(0, yr (some p)), (1, yr (some 1)), (2, yi x2)] [yi t0, yi t1, yr (some (p + 6))] (N, T, R, X)) := by
    intro m
    induction m with
    | zero => exact ⟨fun _ _ h => absurd h (Nat.not_lt_zero _), fun _ _ _ _ _ h => absurd h (Nat.not_lt_zero _), fun _ _ _ _ _ h => absurd h (Nat.not_lt_zero _)⟩
    | succ m ih =>
      refine ⟨?_, ?_, ?_⟩
      · intro X kX hm iv
        first | have tX_1_1 := kX 1 1 (by omega) | skip
        first | have tX_1_3 := kX 1 3 (by omega) | skip
        first | have tX_p_0 := kX p 0 (by omega) | skip
        first | have tX_p_1 := kX p 1 (by omega) | skip
        refine B_16_15 hT hR hp ?_
        refine w_34 (d := d + 7) hT hR  (by omega) (fun r1 I2 f4 q3 => ⟨_, _, rfl, rfl, ?_⟩)
        have k5 : ∀ k j, ¬ ((k = 1 ∧ 2 ≤ j) ∨ (p ≤ k ∧ k < p + 12)) → I2 k j = I k j := fun k j h => (f4 k j (by omega)).trans (kX k j h)
        first | have tI2_1_1 := f4 1 1 (by omega) | skip
        first | have tI2_1_3 := f4 1 3 (by omega) | skip
        first | have tI2_p_0 := f4 p 0 (by omega) | skip
        first | have tI2_p_1 := f4 p 1 (by omega) | skip
        refine ⟨by omega, ?_⟩
        exact hk _ _ k5 (by omega)
      · intro x2 t0 t1 X kX hm iv
        first | have tX_1_1 := kX 1 1 (by omega) | skip
        first | have tX_1_3 := kX 1 3 (by omega) | skip
        first | have tX_p_0 := kX p 0 (by omega) | skip
        first | have tX_p_1 := kX p 1 (by omega) | skip
        refine e_li (i := 2) (x := x2) rfl fun _ _ => ?_
        refine B_16_132 hT hR hp ?_
        refine ⟨by omega, by omega, ?_⟩
        intro I6 e7
        have k8 : ∀ k j, ¬ ((k = 1 ∧ 2 ≤ j) ∨ (p ≤ k ∧ k < p + 12)) → I6 k j = I k j := fun k j h => ((congrFun (congrFun e7 k) j).trans (yU_ne _ _ (by omega))).trans (kX k j h)
        first | have tI6_1_1 : I6 1 1 = X 1 1 := (congrFun (congrFun e7 1) 1).trans (yU_ne _ _ (by omega)) | skip
        first | have tI6_1_3 : I6 1 3 = X 1 3 := (congrFun (congrFun e7 1) 3).trans (yU_ne _ _ (by omega)) | skip
        first | have tI6_p_0 : I6 p 0 = X p 0 := (congrFun (congrFun e7 p) 0).trans (yU_ne _ _ (by omega)) | skip
        first | have tI6_p_1 : I6 p 1 = X p 1 := (congrFun (congrFun e7 p) 1).trans (yU_ne _ _ (by omega)) | skip
        refine ⟨by omega, by omega, ?_⟩
        refine ⟨fun c9 => ?_, fun c9 => ?_⟩
        · refine w_15 (d := d) hT hR hp (by omega) (by omega) (by omega) (fun r10 I11 f13 q12 => ⟨_, _, rfl, rfl, ?_⟩)
          have k14 : ∀ k j, ¬ ((k = 1 ∧ 2 ≤ j) ∨ (p ≤ k ∧ k < p + 12)) → I11 k j = I k j := fun k j h => (f13 k j (by omega)).trans (k8 k j h)
          first | have tI11_1_1 := f13 1 1 (by omega) | skip
          first | have tI11_1_3 := f13 1 3 (by omega) | skip
          first | have tI11_p_0 := f13 p 0 (by omega) | skip
          first | have tI11_p_1 := f13 p 1 (by omega) | skip
          exact ih.2.2 _ _ _ _ k14 (by omega) (by omega)
        · exact ih.2.2 _ _ _ _ k8 (by omega) (by omega)
      · intro x2 t0 t1 X kX hm iv
        first | have tX_1_1 := kX 1 1 (by omega) | skip
        first | have tX_1_3 := kX 1 3 (by omega) | skip
        first | have tX_p_0 := kX p 0 (by omega) | skip
        first | have tX_p_1 := kX p 1 (by omega) | skip
        refine e_li (i := 2) (x := x2) rfl fun _ _ => ?_
        refine B_16_157 hT hR hp ?_
        refine ⟨by omega, by omega, ?_⟩
        intro I15 e16
        have k17 : ∀ k j, ¬ ((k = 1 ∧ 2 ≤ j) ∨ (p ≤ k ∧ k < p + 12)) → I15 k j = I k j := fun k j h => ((congrFun (congrFun e16 k) j).trans (yU_ne _ _ (by omega))).trans (kX k j h)
        first | have tI15_1_1 : I15 1 1 = X 1 1 := (congrFun (congrFun e16 1) 1).trans (yU_ne _ _ (by omega)) | skip
        first | have tI15_1_3 : I15 1 3 = X 1 3 := (congrFun (congrFun e16 1) 3).trans (yU_ne _ _ (by omega)) | skip
        first | have tI15_p_0 : I15 p 0 = X p 0 := (congrFun (congrFun e16 p) 0).trans (yU_ne _ _ (by omega)) | skip
        first | have tI15_p_1 : I15 p 1 = X p 1 := (congrFun (congrFun e16 p) 1).trans (yU_ne _ _ (by omega)) | skip
        have a18 : yadd x2 1 = (x2 + 1) := yadd_eq (by omega) (by omega)
        try rw [a18]
        intro I19 e20
        have k21 : ∀ k j, ¬ ((k = 1 ∧ 2 ≤ j) ∨ (p ≤ k ∧ k < p + 12)) → I19 k j = I k j := fun k j h => ((congrFun (congrFun e20 k) j).trans (yU_ne _ _ (by omega))).trans (k17 k j h)
        first | have tI19_1_1 : I19 1 1 = I15 1 1 := (congrFun (congrFun e20 1) 1).trans (yU_ne _ _ (by omega)) | skip
        first | have tI19_1_3 : I19 1 3 = I15 1 3 := (congrFun (congrFun e20 1) 3).trans (yU_ne _ _ (by omega)) | skip
        first | have tI19_p_0 : I19 p 0 = I15 p 0 := (congrFun (congrFun e20 p) 0).trans (yU_ne _ _ (by omega)) | skip
        first | have tI19_p_1 : I19 p 1 = I15 p 1 := (congrFun (congrFun e20 p) 1).trans (yU_ne _ _ (by omega)) | skip
        refine ⟨by omega, by omega, ?_⟩
        refine w_13 (d := d + 1) hT hR hp (by omega) (by omega) (fun r22 I23 f25 q24 => ⟨_, _, rfl, rfl, ?_⟩)
        have k26 : ∀ k j, ¬ ((k = 1 ∧ 2 ≤ j) ∨ (p ≤ k ∧ k < p + 12)) → I23 k j = I k j := fun k j h => (f25 k j (by omega)).trans (k21 k j h)
        first | have tI23_1_1 := f25 1 1 (by omega) | skip
        first | have tI23_1_3 := f25 1 3 (by omega) | skip
        first | have tI23_p_0 := f25 p 0 (by omega) | skip
        first | have tI23_p_1 := f25 p 1 (by omega) | skip
        refine ⟨by omega, ?_⟩
        exact hk _ _ k26 (by omega)
  refine B_16_0 hT hR hp ?_
  refine ⟨fun c27 => ?_, fun c27 => ?_⟩
  · exact (L _).1  _ k0 (Nat.lt_succ_self _) (by omega)
  · refine ⟨fun c28 => ?_, fun c28 => ?_⟩
    · refine w_31 (d := d + 2) hT hR  (by omega) (fun I29 f31 q30 => ⟨_, rfl, rfl, ?_⟩)
      have k32 : ∀ k j, ¬ ((k = 1 ∧ 2 ≤ j) ∨ (p ≤ k ∧ k < p + 12)) → I29 k j = I k j := fun k j h => (f31 k j (by omega)).trans (k0 k j h)
      first | have tI29_1_1 := f31 1 1 (by omega) | skip
      first | have tI29_1_3 := f31 1 3 (by omega) | skip
      first | have tI29_p_0 := f31 p 0 (by omega) | skip
      first | have tI29_p_1 := f31 p 1 (by omega) | skip
      refine w_36 (d := d + 6) hT hR  (by omega) (fun r33 I34 f36 q35 => ⟨_, _, rfl, rfl, ?_⟩)
      have k37 : ∀ k j, ¬ ((k = 1 ∧ 2 ≤ j) ∨ (p ≤ k ∧ k < p + 12)) → I34 k j = I k j := fun k j h => (f36 k j (by omega)).trans (k32 k j h)
      first | have tI34_1_1 := f36 1 1 (by omega) | skip
      first | have tI34_1_3 := f36 1 3 (by omega) | skip
      first | have tI34_p_0 := f36 p 0 (by omega) | skip
      first | have tI34_p_1 := f36 p 1 (by omega) | skip
      refine ⟨fun c38 => ?_, fun c38 => ?_⟩
      · refine w_6 (d := d + 7) hT hR hp  (fun r39 q40 => ⟨_, _, rfl, rfl, ?_⟩)
        refine ⟨fun c42 => ?_, fun c42 => ?_⟩
        · refine ⟨by omega, by omega, ?_⟩
          intro I43 e44
          have k45 : ∀ k j, ¬ ((k = 1 ∧ 2 ≤ j) ∨ (p ≤ k ∧ k < p + 12)) → I43 k j = I k j := fun k j h => ((congrFun (congrFun e44 k) j).trans (yU_ne _ _ (by omega))).trans (k37 k j h)
          first | have tI43_1_1 : I43 1 1 = I34 1 1 := (congrFun (congrFun e44 1) 1).trans (yU_ne _ _ (by omega)) | skip
          first | have tI43_1_3 : I43 1 3 = I34 1 3 := (congrFun (congrFun e44 1) 3).trans (yU_ne _ _ (by omega)) | skip
          first | have tI43_p_0 : I43 p 0 = I34 p 0 := (congrFun (congrFun e44 p) 0).trans (yU_ne _ _ (by omega)) | skip
          first | have tI43_p_1 : I43 p 1 = I34 p 1 := (congrFun (congrFun e44 p) 1).trans (yU_ne _ _ (by omega)) | skip
          refine w_31 (d := d + 2) hT hR  (by omega) (fun I46 f48 q47 => ⟨_, rfl, rfl, ?_⟩)
          have k49 : ∀ k j, ¬ ((k = 1 ∧ 2 ≤ j) ∨ (p ≤ k ∧ k < p + 12)) → I46 k j = I k j := fun k j h => (f48 k j (by omega)).trans (k45 k j h)
          first | have tI46_1_1 := f48 1 1 (by omega) | skip
          first | have tI46_1_3 := f48 1 3 (by omega) | skip
          first | have tI46_p_0 := f48 p 0 (by omega) | skip
          first | have tI46_p_1 := f48 p 1 (by omega) | skip
          refine w_15 (d := d) hT hR hp (by omega) (by omega) (by omega) (fun r50 I51 f53 q52 => ⟨_, _, rfl, rfl, ?_⟩)
          have k54 : ∀ k j, ¬ ((k = 1 ∧ 2 ≤ j) ∨ (p ≤ k ∧ k < p + 12)) → I51 k j = I k j := fun k j h => (f53 k j (by omega)).trans (k49 k j h)
          first | have tI51_1_1 := f53 1 1 (by omega) | skip
          first | have tI51_1_3 := f53 1 3 (by omega) | skip
          first | have tI51_p_0 := f53 p 0 (by omega) | skip
          first | have tI51_p_1 := f53 p 1 (by omega) | skip
          refine ⟨by omega, by omega, ?_⟩
          intro I55 e56
          have k57 : ∀ k j, ¬ ((k = 1 ∧ 2 ≤ j) ∨ (p ≤ k ∧ k < p + 12)) → I55 k j = I k j := fun k j h => ((congrFun (congrFun e56 k) j).trans (yU_ne _ _ (by omega))).trans (k54 k j h)
          first | have tI55_1_1 : I55 1 1 = I51 1 1 := (congrFun (congrFun e56 1) 1).trans (yU_ne _ _ (by omega)) | skip
          first | have tI55_1_3 : I55 1 3 = I51 1 3 := (congrFun (congrFun e56 1) 3).trans (yU_ne _ _ (by omega)) | skip
          first | have tI55_p_0 : I55 p 0 = I51 p 0 := (congrFun (congrFun e56 p) 0).trans (yU_ne _ _ (by omega)) | skip
          first | have tI55_p_1 : I55 p 1 = I51 p 1 := (congrFun (congrFun e56 p) 1).trans (yU_ne _ _ (by omega)) | skip
          refine ⟨by omega, by omega, ?_⟩
          refine w_13 (d := d + 1) hT hR hp (by omega) (by omega) (fun r58 I59 f61 q60 => ⟨_, _, rfl, rfl, ?_⟩)
          have k62 : ∀ k j, ¬ ((k = 1 ∧ 2 ≤ j) ∨ (p ≤ k ∧ k < p + 12)) → I59 k j = I k j := fun k j h => (f61 k j (by omega)).trans (k57 k j h)
          first | have tI59_1_1 := f61 1 1 (by omega) | skip
          first | have tI59_1_3 := f61 1 3 (by omega) | skip
          first | have tI59_p_0 := f61 p 0 (by omega) | skip
          first | have tI59_p_1 := f61 p 1 (by omega) | skip
          refine ⟨fun c63 => ?_, fun c63 => ?_⟩
          · refine w_42 (d := d + 1) hT hR  (by omega) (fun r64 I65 f67 q66 => ⟨_, _, rfl, rfl, ?_⟩)
            have k68 : ∀ k j, ¬ ((k = 1 ∧ 2 ≤ j) ∨ (p ≤ k ∧ k < p + 12)) → I65 k j = I k j := fun k j h => (f67 k j (by omega)).trans (k62 k j h)
            first | have tI65_1_1 := f67 1 1 (by omega) | skip
            first | have tI65_1_3 := f67 1 3 (by omega) | skip
            first | have tI65_p_0 := f67 p 0 (by omega) | skip
            first | have tI65_p_1 := f67 p 1 (by omega) | skip
            refine ⟨by omega, by omega, ?_⟩
            intro I69 e70
            have k71 : ∀ k j, ¬ ((k = 1 ∧ 2 ≤ j) ∨ (p ≤ k ∧ k < p + 12)) → I69 k j = I k j := fun k j h => ((congrFun (congrFun e70 k) j).trans (yU_ne _ _ (by omega))).trans (k68 k j h)
            first | have tI69_1_1 : I69 1 1 = I65 1 1 := (congrFun (congrFun e70 1) 1).trans (yU_ne _ _ (by omega)) | skip
            first | have tI69_1_3 : I69 1 3 = I65 1 3 := (congrFun (congrFun e70 1) 3).trans (yU_ne _ _ (by omega)) | skip
            first | have tI69_p_0 : I69 p 0 = I65 p 0 := (congrFun (congrFun e70 p) 0).trans (yU_ne _ _ (by omega)) | skip
            first | have tI69_p_1 : I69 p 1 = I65 p 1 := (congrFun (congrFun e70 p) 1).trans (yU_ne _ _ (by omega)) | skip
            refine ⟨by omega, by omega, ?_⟩
            refine ⟨fun c72 => ?_, fun c72 => ?_⟩
            · refine w_42 (d := d + 1) hT hR  (by omega) (fun r73 I74 f76 q75 => ⟨_, _, rfl, rfl, ?_⟩)
              have k77 : ∀ k j, ¬ ((k = 1 ∧ 2 ≤ j) ∨ (p ≤ k ∧ k < p + 12)) → I74 k j = I k j := fun k j h => (f76 k j (by omega)).trans (k71 k j h)
              first | have tI74_1_1 := f76 1 1 (by omega) | skip
              first | have tI74_1_3 := f76 1 3 (by omega) | skip
              first | have tI74_p_0 := f76 p 0 (by omega) | skip
              first | have tI74_p_1 := f76 p 1 (by omega) | skip
              exact (L _).2.1 _ _ _ _ k77 (Nat.lt_succ_self _) (by omega)
            · exact (L _).2.1 _ _ _ _ k71 (Nat.lt_succ_self _) (by omega)
          · exact hk _ _ k62 (by omega)
        · refine w_34 (d := d + 7) hT hR  (by omega) (fun r78 I79 f81 q80 => ⟨_, _, rfl, rfl, ?_⟩)
          have k82 : ∀ k j, ¬ ((k = 1 ∧ 2 ≤ j) ∨ (p ≤ k ∧ k < p + 12)) → I79 k j = I k j := fun k j h => (f81 k j (by omega)).trans (k37 k j h)
          first | have tI79_1_1 := f81 1 1 (by omega) | skip
          first | have tI79_1_3 := f81 1 3 (by omega) | skip
          first | have tI79_p_0 := f81 p 0 (by omega) | skip
          first | have tI79_p_1 := f81 p 1 (by omega) | skip
          refine ⟨by omega, ?_⟩
          exact hk _ _ k82 (by omega)
      · exact hk _ _ k37 (by omega)
    · exact (L _).1  _ k0 (Nat.lt_succ_self _) (by omega)
/-- ChairAlley$Land.readLane(LChairAlley$Reader;)Z -/
theorem w_17 (hT : yLT T) (hR : yLR R) {p : Nat} (hp : yAtLand T R p) (gp : (1 < p ∧ p + 12 ≤ 102) ∨ 126 ≤ p) (h0 : 0 ≤ I 1 1 ∧ I 1 1 ≤ 940 ∧ 0 ≤ I 1 3 ∧ I 1 3 ≤ 940) (h1 : 0 ≤ I p 0 ∧ I p 0 ≤ 10 ∧ 0 ≤ I p 1 ∧ I p 1 ≤ 10) (hk : ∀ r I', (∀ k j, ¬ ((k = 1 ∧ 2 ≤ j) ∨ (p ≤ k ∧ k < p + 12)) → I' k j = I k j) → ((0 ≤ I' 1 1 ∧ I' 1 1 ≤ 940 ∧ 0 ≤ I' 1 3 ∧ I' 1 3 ≤ 940) ∧ (0 ≤ I' p 0 ∧ I' p 0 ≤ 10 ∧ 0 ≤ I' p 1 ∧ I' p 1 ≤ 10) ∧ (r = 0 ∨ r = 1)) → K (some (yi r)) (N, T, R, I')) : yW l zSS D cy zFk z (d + 8) 17 bc bs K 0 0 0 [(0, yr (some p)), (1, yr (some 1))] [] (N, T, R, I) := by
  have k0 : ∀ k j, ¬ ((k = 1 ∧ 2 ≤ j) ∨ (p ≤ k ∧ k < p + 12)) → I k j = I k j := fun _ _ _ => rfl
  refine B_17_0 hT hR hp ?_
  refine ⟨fun c1 => ?_, fun c1 => ?_⟩
  · refine w_31 (d := d + 2) hT hR  (by omega) (fun I2 f4 q3 => ⟨_, rfl, rfl, ?_⟩)
    have k5 : ∀ k j, ¬ ((k = 1 ∧ 2 ≤ j) ∨ (p ≤ k ∧ k < p + 12)) → I2 k j = I k j := fun k j h => (f4 k j (by omega)).trans (k0 k j h)
    first | have tI2_1_1 := f4 1 1 (by omega) | skip
    first | have tI2_1_3 := f4 1 3 (by omega) | skip
    first | have tI2_p_0 := f4 p 0 (by omega) | skip
    first | have tI2_p_1 := f4 p 1 (by omega) | skip
    refine w_15 (d := d) hT hR hp (by omega) (by omega) (by omega) (fun r6 I7 f9 q8 => ⟨_, _, rfl, rfl, ?_⟩)
    have k10 : ∀ k j, ¬ ((k = 1 ∧ 2 ≤ j) ∨ (p ≤ k ∧ k < p + 12)) → I7 k j = I k j := fun k j h => (f9 k j (by omega)).trans (k5 k j h)
    first | have tI7_1_1 := f9 1 1 (by omega) | skip
    first | have tI7_1_3 := f9 1 3 (by omega) | skip
    first | have tI7_p_0 := f9 p 0 (by omega) | skip
    first | have tI7_p_1 := f9 p 1 (by omega) | skip
    refine w_10 (d := d + 7) hT hR hp  (fun r11 q12 => ⟨_, _, rfl, rfl, ?_⟩)
    refine ⟨fun c14 => ?_, fun c14 => ?_⟩
    · refine ⟨by omega, by omega, ?_⟩
      refine ⟨fun c15 => ?_, fun c15 => ?_⟩
      · refine w_31 (d := d + 2) hT hR  (by omega) (fun I16 f18 q17 => ⟨_, rfl, rfl, ?_⟩)
        have k19 : ∀ k j, ¬ ((k = 1 ∧ 2 ≤ j) ∨ (p ≤ k ∧ k < p + 12)) → I16 k j = I k j := fun k j h => (f18 k j (by omega)).trans (k10 k j h)
        first | have tI16_1_1 := f18 1 1 (by omega) | skip
        first | have tI16_1_3 := f18 1 3 (by omega) | skip
        first | have tI16_p_0 := f18 p 0 (by omega) | skip
        first | have tI16_p_1 := f18 p 1 (by omega) | skip
        refine w_41 (d := d + 1) hT hR  (by omega) (fun r20 I21 f23 q22 => ⟨_, _, rfl, rfl, ?_⟩)
        have k24 : ∀ k j, ¬ ((k = 1 ∧ 2 ≤ j) ∨ (p ≤ k ∧ k < p + 12)) → I21 k j = I k j := fun k j h => (f23 k j (by omega)).trans (k19 k j h)
        first | have tI21_1_1 := f23 1 1 (by omega) | skip
        first | have tI21_1_3 := f23 1 3 (by omega) | skip
        first | have tI21_p_0 := f23 p 0 (by omega) | skip
        first | have tI21_p_1 := f23 p 1 (by omega) | skip
        refine ⟨by omega, by omega, ?_⟩
        intro I25 e26
        have k27 : ∀ k j, ¬ ((k = 1 ∧ 2 ≤ j) ∨ (p ≤ k ∧ k < p + 12)) → I25 k j = I k j := fun k j h => ((congrFun (congrFun e26 k) j).trans (yU_ne _ _ (by omega))).trans (k24 k j h)
        first | have tI25_1_1 : I25 1 1 = I21 1 1 := (congrFun (congrFun e26 1) 1).trans (yU_ne _ _ (by omega)) | skip
        first | have tI25_1_3 : I25 1 3 = I21 1 3 := (congrFun (congrFun e26 1) 3).trans (yU_ne _ _ (by omega)) | skip
        first | have tI25_p_0 : I25 p 0 = I21 p 0 := (congrFun (congrFun e26 p) 0).trans (yU_ne _ _ (by omega)) | skip
        first | have tI25_p_1 : I25 p 1 = I21 p 1 := (congrFun (congrFun e26 p) 1).trans (yU_ne _ _ (by omega)) | skip
        intro I28 e29
        have k30 : ∀ k j, ¬ ((k = 1 ∧ 2 ≤ j) ∨ (p ≤ k ∧ k < p + 12)) → I28 k j = I k j := fun k j h => ((congrFun (congrFun e29 k) j).trans (yU_ne _ _ (by omega))).trans (k27 k j h)
        first | have tI28_1_1 : I28 1 1 = I25 1 1 := (congrFun (congrFun e29 1) 1).trans (yU_ne _ _ (by omega)) | skip
        first | have tI28_1_3 : I28 1 3 = I25 1 3 := (congrFun (congrFun e29 1) 3).trans (yU_ne _ _ (by omega)) | skip
        first | have tI28_p_0 : I28 p 0 = I25 p 0 := (congrFun (congrFun e29 p) 0).trans (yU_ne _ _ (by omega)) | skip
        first | have tI28_p_1 : I28 p 1 = I25 p 1 := (congrFun (congrFun e29 p) 1).trans (yU_ne _ _ (by omega)) | skip
        refine ⟨by omega, by omega, ?_⟩
        refine ⟨fun c31 => ?_, fun c31 => ?_⟩
        · exact hk _ _ k30 (by omega)
        · exact hk _ _ k30 (by omega)
      · refine w_34 (d := d + 7) hT hR  (by omega) (fun r32 I33 f35 q34 => ⟨_, _, rfl, rfl, ?_⟩)
        have k36 : ∀ k j, ¬ ((k = 1 ∧ 2 ≤ j) ∨ (p ≤ k ∧ k < p + 12)) → I33 k j = I k j := fun k j h => (f35 k j (by omega)).trans (k10 k j h)
        first | have tI33_1_1 := f35 1 1 (by omega) | skip
        first | have tI33_1_3 := f35 1 3 (by omega) | skip
        first | have tI33_p_0 := f35 p 0 (by omega) | skip
        first | have tI33_p_1 := f35 p 1 (by omega) | skip
        refine ⟨by omega, ?_⟩
        exact hk _ _ k36 (by omega)
    · exact hk _ _ k10 (by omega)
  · refine w_34 (d := d + 7) hT hR  (by omega) (fun r37 I38 f40 q39 => ⟨_, _, rfl, rfl, ?_⟩)
    have k41 : ∀ k j, ¬ ((k = 1 ∧ 2 ≤ j) ∨ (p ≤ k ∧ k < p + 12)) → I38 k j = I k j := fun k j h => (f40 k j (by omega)).trans (k0 k j h)
    first | have tI38_1_1 := f40 1 1 (by omega) | skip
    first | have tI38_1_3 := f40 1 3 (by omega) | skip
    first | have tI38_p_0 := f40 p 0 (by omega) | skip
    first | have tI38_p_1 := f40 p 1 (by omega) | skip
    refine ⟨by omega, ?_⟩
    exact hk _ _ k41 (by omega)
/-- ChairAlley$Land.readLaw(LChairAlley$Reader;)Z -/
theorem w_18 (hT : yLT T) (hR : yLR R) {p : Nat} (hp : yAtLand T R p) (gp : (1 < p ∧ p + 12 ≤ 102) ∨ 126 ≤ p) (h0 : 0 ≤ I 1 1 ∧ I 1 1 ≤ 940 ∧ 0 ≤ I 1 3 ∧ I 1 3 ≤ 940) (h1 : 0 ≤ I p 0 ∧ I p 0 ≤ 10 ∧ 0 ≤ I p 1 ∧ I p 1 ≤ 10) (hk : ∀ r I', (∀ k j, ¬ ((k = 1 ∧ 2 ≤ j) ∨ (p ≤ k ∧ k < p + 12)) → I' k j = I k j) → ((0 ≤ I' 1 1 ∧ I' 1 1 ≤ 940 ∧ 0 ≤ I' 1 3 ∧ I' 1 3 ≤ 940) ∧ (0 ≤ I' p 0 ∧ I' p 0 ≤ 10 ∧ 0 ≤ I' p 1 ∧ I' p 1 ≤ 10) ∧ (r = 0 ∨ r = 1)) → K (some (yi r)) (N, T, R, I')) : yW l zSS D cy zFk z (d + 6) 18 bc bs K 0 0 0 [(0, yr (some p)), (1, yr (some 1))] [] (N, T, R, I) := by
  have k0 : ∀ k j, ¬ ((k = 1 ∧ 2 ≤ j) ∨ (p ≤ k ∧ k < p + 12)) → I k j = I k j := fun _ _ _ => rfl
  have L : ∀ m : Nat, (∀ x2 : Int, ∀ X : Nat → Nat → Int, (∀ k j, ¬ ((k = 1 ∧ 2 ≤ j) ∨ (p ≤ k ∧ k < p + 12)) → X k j = I k j) → (2 * (4 - x2) + 4 : Int).toNat < m → (0 ≤ x2 ∧ x2 ≤ 4 ∧ (0 ≤ X 1 1 ∧ X 1 1 ≤ 940 ∧ 0 ≤ X 1 3 ∧ X 1 3 ≤ 940) ∧ 0 ≤ X p 0 ∧ X p 0 ≤ 10 ∧ 0 ≤ X p 1 ∧ X p 1 ≤ 10) → yW l zSS D cy zFk z (d + 6) 18 bc bs K 0 0 19 [(0, yr (some p)), (1, yr (some 1)), (2, yi x2)] [] (N, T, R, X)) ∧ (∀ x2 : Int, ∀ X : Nat → Nat → Int, (∀ k j, ¬ ((k = 1 ∧ 2 ≤ j) ∨ (p ≤ k ∧ k < p + 12)) → X k j = I k j) → (2 * (4 - x2) + 3 : Int).toNat < m → (0 ≤ x2 ∧ x2 ≤ 3 ∧ (0 ≤ X 1 1 ∧ X 1 1 ≤ 940 ∧ 0 ≤ X 1 3 ∧ X 1 3 ≤ 940) ∧ 0 ≤ X p 0 ∧ X p 0 ≤ 10 ∧ 0 ≤ X p 1 ∧ X p 1 ≤ 10) → yW l zSS D cy zFk z (d + 6) 18 bc bs K 0 0 39 [(0, yr (some p)), (1, yr (some 1)), (2, yi x2)] [] (N, T, R, X)) ∧ (∀ X : Nat → Nat → Int, (∀ k j, ¬ ((k = 1 ∧ 2 ≤ j) ∨ (p ≤ k ∧ k < p + 12)) → X k j = I k j) → (1 : Int).toNat < m → ((0 ≤ X 1 1 ∧ X 1 1 ≤ 940 ∧ 0 ≤ X 1 3 ∧ X 1 3 ≤ 940) ∧ 0 ≤ X p 0 ∧ X p 0 ≤ 10 ∧ 0 ≤ X p 1 ∧ X p 1 ≤ 10) → yW l zSS D cy zFk z (d + 6) 18 bc bs K 0 0 72 [(1, yr (some 1))] [] (N, T, R, X)) := by
    intro m
    induction m with
    | zero => exact ⟨fun _ _ _ h => absurd h (Nat.not_lt_zero _), fun _ _ _ h => absurd h (Nat.not_lt_zero _), fun _ _ h => absurd h (Nat.not_lt_zero _)⟩
    | succ m ih =>
      refine ⟨?_, ?_, ?_⟩
      · intro x2 X kX hm iv
        first | have tX_1_1 := kX 1 1 (by omega) | skip
        first | have tX_1_3 := kX 1 3 (by omega) | skip
        first | have tX_p_0 := kX p 0 (by omega) | skip
        first | have tX_p_1 := kX p 1 (by omega) | skip
        refine e_li (i := 2) (x := x2) rfl fun _ _ => ?_
        refine B_18_19 hT hR hp ?_
        refine ⟨fun c1 => ?_, fun c1 => ?_⟩
        · exact hk _ _ kX (by omega)
        · refine ⟨fun c2 => ?_, fun c2 => ?_⟩
          · exact ih.2.1 _ _ kX (by omega) (by omega)
          · refine w_38 (d := d + 5) hT hR   (fun r3 q4 => ⟨_, _, rfl, rfl, ?_⟩)
            refine ⟨fun c6 => ?_, fun c6 => ?_⟩
            · exact ih.2.1 _ _ kX (by omega) (by omega)
            · exact hk _ _ kX (by omega)
      · intro x2 X kX hm iv
        first | have tX_1_1 := kX 1 1 (by omega) | skip
        first | have tX_1_3 := kX 1 3 (by omega) | skip
        first | have tX_p_0 := kX p 0 (by omega) | skip
        first | have tX_p_1 := kX p 1 (by omega) | skip
        refine e_li (i := 2) (x := x2) rfl fun _ _ => ?_
        refine B_18_39 hT hR hp ?_
        refine w_39 (d := d + 5) hT hR   (fun r7 q8 => ⟨_, _, rfl, rfl, ?_⟩)
        refine ⟨fun c10 => ?_, fun c10 => ?_⟩
        · refine ⟨fun c11 => ?_, fun c11 => ?_⟩
          · exact ih.2.2  _ kX (by omega) (by omega)
          · refine w_9 (d := d + 5) hT hR hp  (fun r12 q13 => ⟨_, _, rfl, rfl, ?_⟩)
            refine ⟨fun c15 => ?_, fun c15 => ?_⟩
            · refine ⟨by omega, by omega, ?_⟩
              intro I16 e17
              have k18 : ∀ k j, ¬ ((k = 1 ∧ 2 ≤ j) ∨ (p ≤ k ∧ k < p + 12)) → I16 k j = I k j := fun k j h => ((congrFun (congrFun e17 k) j).trans (yU_ne _ _ (by omega))).trans (kX k j h)
              first | have tI16_1_1 : I16 1 1 = X 1 1 := (congrFun (congrFun e17 1) 1).trans (yU_ne _ _ (by omega)) | skip
              first | have tI16_1_3 : I16 1 3 = X 1 3 := (congrFun (congrFun e17 1) 3).trans (yU_ne _ _ (by omega)) | skip
              first | have tI16_p_0 : I16 p 0 = X p 0 := (congrFun (congrFun e17 p) 0).trans (yU_ne _ _ (by omega)) | skip
              first | have tI16_p_1 : I16 p 1 = X p 1 := (congrFun (congrFun e17 p) 1).trans (yU_ne _ _ (by omega)) | skip
              have a19 : yadd x2 1 = (x2 + 1) := yadd_eq (by omega) (by omega)
              try rw [a19]
              intro I20 e21
              have k22 : ∀ k j, ¬ ((k = 1 ∧ 2 ≤ j) ∨ (p ≤ k ∧ k < p + 12)) → I20 k j = I k j := fun k j h => ((congrFun (congrFun e21 k) j).trans (yU_ne _ _ (by omega))).trans (k18 k j h)
              first | have tI20_1_1 : I20 1 1 = I16 1 1 := (congrFun (congrFun e21 1) 1).trans (yU_ne _ _ (by omega)) | skip
              first | have tI20_1_3 : I20 1 3 = I16 1 3 := (congrFun (congrFun e21 1) 3).trans (yU_ne _ _ (by omega)) | skip
              first | have tI20_p_0 : I20 p 0 = I16 p 0 := (congrFun (congrFun e21 p) 0).trans (yU_ne _ _ (by omega)) | skip
              first | have tI20_p_1 : I20 p 1 = I16 p 1 := (congrFun (congrFun e21 p) 1).trans (yU_ne _ _ (by omega)) | skip
              refine w_31 (d := d) hT hR  (by omega) (fun I23 f25 q24 => ⟨_, rfl, rfl, ?_⟩)
              have k26 : ∀ k j, ¬ ((k = 1 ∧ 2 ≤ j) ∨ (p ≤ k ∧ k < p + 12)) → I23 k j = I k j := fun k j h => (f25 k j (by omega)).trans (k22 k j h)
              first | have tI23_1_1 := f25 1 1 (by omega) | skip
              first | have tI23_1_3 := f25 1 3 (by omega) | skip
              first | have tI23_p_0 := f25 p 0 (by omega) | skip
              first | have tI23_p_1 := f25 p 1 (by omega) | skip
              have a27 : yadd x2 1 = (x2 + 1) := yadd_eq (by omega) (by omega)
              try rw [a27]
              exact ih.1 _ _ k26 (by omega) (by omega)
            · exact ih.2.2  _ kX (by omega) (by omega)
        · refine w_34 (d := d + 5) hT hR  (by omega) (fun r28 I29 f31 q30 => ⟨_, _, rfl, rfl, ?_⟩)
          have k32 : ∀ k j, ¬ ((k = 1 ∧ 2 ≤ j) ∨ (p ≤ k ∧ k < p + 12)) → I29 k j = I k j := fun k j h => (f31 k j (by omega)).trans (kX k j h)
          first | have tI29_1_1 := f31 1 1 (by omega) | skip
          first | have tI29_1_3 := f31 1 3 (by omega) | skip
          first | have tI29_p_0 := f31 p 0 (by omega) | skip
          first | have tI29_p_1 := f31 p 1 (by omega) | skip
          refine ⟨by omega, ?_⟩
          exact hk _ _ k32 (by omega)
      · intro X kX hm iv
        first | have tX_1_1 := kX 1 1 (by omega) | skip
        first | have tX_1_3 := kX 1 3 (by omega) | skip
        first | have tX_p_0 := kX p 0 (by omega) | skip
        first | have tX_p_1 := kX p 1 (by omega) | skip
        refine B_18_72 hT hR hp ?_
        refine w_34 (d := d + 5) hT hR  (by omega) (fun r33 I34 f36 q35 => ⟨_, _, rfl, rfl, ?_⟩)
        have k37 : ∀ k j, ¬ ((k = 1 ∧ 2 ≤ j) ∨ (p ≤ k ∧ k < p + 12)) → I34 k j = I k j := fun k j h => (f36 k j (by omega)).trans (kX k j h)
        first | have tI34_1_1 := f36 1 1 (by omega) | skip
        first | have tI34_1_3 := f36 1 3 (by omega) | skip
        first | have tI34_p_0 := f36 p 0 (by omega) | skip
        first | have tI34_p_1 := f36 p 1 (by omega) | skip
        refine ⟨by omega, ?_⟩
        exact hk _ _ k37 (by omega)
  refine B_18_0 hT hR hp ?_
  refine ⟨fun c38 => ?_, fun c38 => ?_⟩
  · refine w_31 (d := d) hT hR  (by omega) (fun I39 f41 q40 => ⟨_, rfl, rfl, ?_⟩)
    have k42 : ∀ k j, ¬ ((k = 1 ∧ 2 ≤ j) ∨ (p ≤ k ∧ k < p + 12)) → I39 k j = I k j := fun k j h => (f41 k j (by omega)).trans (k0 k j h)
    first | have tI39_1_1 := f41 1 1 (by omega) | skip
    first | have tI39_1_3 := f41 1 3 (by omega) | skip
    first | have tI39_p_0 := f41 p 0 (by omega) | skip
    first | have tI39_p_1 := f41 p 1 (by omega) | skip
    exact (L _).1 _ _ k42 (Nat.lt_succ_self _) (by omega)
  · refine w_34 (d := d + 5) hT hR  (by omega) (fun r43 I44 f46 q45 => ⟨_, _, rfl, rfl, ?_⟩)
    have k47 : ∀ k j, ¬ ((k = 1 ∧ 2 ≤ j) ∨ (p ≤ k ∧ k < p + 12)) → I44 k j = I k j := fun k j h => (f46 k j (by omega)).trans (k0 k j h)
    first | have tI44_1_1 := f46 1 1 (by omega) | skip
    first | have tI44_1_3 := f46 1 3 (by omega) | skip
    first | have tI44_p_0 := f46 p 0 (by omega) | skip
    first | have tI44_p_1 := f46 p 1 (by omega) | skip
    refine ⟨by omega, ?_⟩
    exact hk _ _ k47 (by omega)
/-- ChairAlley$Land.readMark(LChairAlley$Reader;II)Z -/
theorem w_20 (hT : yLT T) (hR : yLR R) {p : Nat} (hp : yAtLand T R p) (gp : (1 < p ∧ p + 12 ≤ 102) ∨ 126 ≤ p) {x2 x3 : Int} (h0 : 0 ≤ I 1 1 ∧ I 1 1 ≤ 940 ∧ 0 ≤ I 1 3 ∧ I 1 3 ≤ 940) (h1 : 0 ≤ I p 0 ∧ I p 0 ≤ 10 ∧ 0 ≤ I p 1 ∧ I p 1 ≤ 10) (hk : ∀ r I', (∀ k j, ¬ ((k = 1 ∧ 2 ≤ j) ∨ (p ≤ k ∧ k < p + 12)) → I' k j = I k j) → ((0 ≤ I' 1 1 ∧ I' 1 1 ≤ 940 ∧ 0 ≤ I' 1 3 ∧ I' 1 3 ≤ 940) ∧ (0 ≤ I' p 0 ∧ I' p 0 ≤ 10 ∧ 0 ≤ I' p 1 ∧ I' p 1 ≤ 10) ∧ (r = 0 ∨ r = 1)) → K (some (yi r)) (N, T, R, I')) : yW l zSS D cy zFk z (d + 8) 20 bc bs K 0 0 0 [(0, yr (some p)), (1, yr (some 1)), (2, yi x2), (3, yi x3)] [] (N, T, R, I) := by
  have k0 : ∀ k j, ¬ ((k = 1 ∧ 2 ≤ j) ∨ (p ≤ k ∧ k < p + 12)) → I k j = I k j := fun _ _ _ => rfl
  refine e_li (i := 2) (x := x2) rfl fun _ _ => ?_
  refine e_li (i := 3) (x := x3) rfl fun _ _ => ?_
  refine B_20_0 hT hR hp ?_
  refine ⟨fun c1 => ?_, fun c1 => ?_⟩
  · refine w_34 (d := d + 7) hT hR  (by omega) (fun r2 I3 f5 q4 => ⟨_, _, rfl, rfl, ?_⟩)
    have k6 : ∀ k j, ¬ ((k = 1 ∧ 2 ≤ j) ∨ (p ≤ k ∧ k < p + 12)) → I3 k j = I k j := fun k j h => (f5 k j (by omega)).trans (k0 k j h)
    first | have tI3_1_1 := f5 1 1 (by omega) | skip
    first | have tI3_1_3 := f5 1 3 (by omega) | skip
    first | have tI3_p_0 := f5 p 0 (by omega) | skip
    first | have tI3_p_1 := f5 p 1 (by omega) | skip
    refine ⟨by omega, ?_⟩
    exact hk _ _ k6 (by omega)
  · refine ⟨fun c7 => ?_, fun c7 => ?_⟩
    · refine w_34 (d := d + 7) hT hR  (by omega) (fun r8 I9 f11 q10 => ⟨_, _, rfl, rfl, ?_⟩)
      have k12 : ∀ k j, ¬ ((k = 1 ∧ 2 ≤ j) ∨ (p ≤ k ∧ k < p + 12)) → I9 k j = I k j := fun k j h => (f11 k j (by omega)).trans (k0 k j h)
      first | have tI9_1_1 := f11 1 1 (by omega) | skip
      first | have tI9_1_3 := f11 1 3 (by omega) | skip
      first | have tI9_p_0 := f11 p 0 (by omega) | skip
      first | have tI9_p_1 := f11 p 1 (by omega) | skip
      refine ⟨by omega, ?_⟩
      exact hk _ _ k12 (by omega)
    · refine ⟨by omega, by omega, ?_⟩
      refine ⟨fun c13 => ?_, fun c13 => ?_⟩
      · refine w_31 (d := d + 2) hT hR  (by omega) (fun I14 f16 q15 => ⟨_, rfl, rfl, ?_⟩)
        have k17 : ∀ k j, ¬ ((k = 1 ∧ 2 ≤ j) ∨ (p ≤ k ∧ k < p + 12)) → I14 k j = I k j := fun k j h => (f16 k j (by omega)).trans (k0 k j h)
        first | have tI14_1_1 := f16 1 1 (by omega) | skip
        first | have tI14_1_3 := f16 1 3 (by omega) | skip
        first | have tI14_p_0 := f16 p 0 (by omega) | skip
        first | have tI14_p_1 := f16 p 1 (by omega) | skip
        refine w_15 (d := d) hT hR hp (by omega) (by omega) (by omega) (fun r18 I19 f21 q20 => ⟨_, _, rfl, rfl, ?_⟩)
        have k22 : ∀ k j, ¬ ((k = 1 ∧ 2 ≤ j) ∨ (p ≤ k ∧ k < p + 12)) → I19 k j = I k j := fun k j h => (f21 k j (by omega)).trans (k17 k j h)
        first | have tI19_1_1 := f21 1 1 (by omega) | skip
        first | have tI19_1_3 := f21 1 3 (by omega) | skip
        first | have tI19_p_0 := f21 p 0 (by omega) | skip
        first | have tI19_p_1 := f21 p 1 (by omega) | skip
        refine w_10 (d := d + 7) hT hR hp  (fun r23 q24 => ⟨_, _, rfl, rfl, ?_⟩)
        refine ⟨fun c26 => ?_, fun c26 => ?_⟩
        · refine w_12 (d := d + 7) hT hR hp  (fun r27 q28 => ⟨_, _, rfl, rfl, ?_⟩)
          refine ⟨fun c30 => ?_, fun c30 => ?_⟩
          · refine w_31 (d := d + 2) hT hR  (by omega) (fun I31 f33 q32 => ⟨_, rfl, rfl, ?_⟩)
            have k34 : ∀ k j, ¬ ((k = 1 ∧ 2 ≤ j) ∨ (p ≤ k ∧ k < p + 12)) → I31 k j = I k j := fun k j h => (f33 k j (by omega)).trans (k22 k j h)
            first | have tI31_1_1 := f33 1 1 (by omega) | skip
            first | have tI31_1_3 := f33 1 3 (by omega) | skip
            first | have tI31_p_0 := f33 p 0 (by omega) | skip
            first | have tI31_p_1 := f33 p 1 (by omega) | skip
            refine ⟨by omega, by omega, ?_⟩
            refine ⟨by omega, by omega, ?_⟩
            intro I35 e36
            have k37 : ∀ k j, ¬ ((k = 1 ∧ 2 ≤ j) ∨ (p ≤ k ∧ k < p + 12)) → I35 k j = I k j := fun k j h => ((congrFun (congrFun e36 k) j).trans (yU_ne _ _ (by omega))).trans (k34 k j h)
            first | have tI35_1_1 : I35 1 1 = I31 1 1 := (congrFun (congrFun e36 1) 1).trans (yU_ne _ _ (by omega)) | skip
            first | have tI35_1_3 : I35 1 3 = I31 1 3 := (congrFun (congrFun e36 1) 3).trans (yU_ne _ _ (by omega)) | skip
            first | have tI35_p_0 : I35 p 0 = I31 p 0 := (congrFun (congrFun e36 p) 0).trans (yU_ne _ _ (by omega)) | skip
            first | have tI35_p_1 : I35 p 1 = I31 p 1 := (congrFun (congrFun e36 p) 1).trans (yU_ne _ _ (by omega)) | skip
            refine ⟨by omega, by omega, ?_⟩
            refine ⟨by omega, by omega, ?_⟩
            intro I38 e39
            have k40 : ∀ k j, ¬ ((k = 1 ∧ 2 ≤ j) ∨ (p ≤ k ∧ k < p + 12)) → I38 k j = I k j := fun k j h => ((congrFun (congrFun e39 k) j).trans (yU_ne _ _ (by omega))).trans (k37 k j h)
            first | have tI38_1_1 : I38 1 1 = I35 1 1 := (congrFun (congrFun e39 1) 1).trans (yU_ne _ _ (by omega)) | skip
            first | have tI38_1_3 : I38 1 3 = I35 1 3 := (congrFun (congrFun e39 1) 3).trans (yU_ne _ _ (by omega)) | skip
            first | have tI38_p_0 : I38 p 0 = I35 p 0 := (congrFun (congrFun e39 p) 0).trans (yU_ne _ _ (by omega)) | skip
            first | have tI38_p_1 : I38 p 1 = I35 p 1 := (congrFun (congrFun e39 p) 1).trans (yU_ne _ _ (by omega)) | skip
            exact hk _ _ k40 (by omega)
          · refine w_34 (d := d + 7) hT hR  (by omega) (fun r41 I42 f44 q43 => ⟨_, _, rfl, rfl, ?_⟩)
            have k45 : ∀ k j, ¬ ((k = 1 ∧ 2 ≤ j) ∨ (p ≤ k ∧ k < p + 12)) → I42 k j = I k j := fun k j h => (f44 k j (by omega)).trans (k22 k j h)
            first | have tI42_1_1 := f44 1 1 (by omega) | skip
            first | have tI42_1_3 := f44 1 3 (by omega) | skip
            first | have tI42_p_0 := f44 p 0 (by omega) | skip
            first | have tI42_p_1 := f44 p 1 (by omega) | skip
            refine ⟨by omega, ?_⟩
            exact hk _ _ k45 (by omega)
        · exact hk _ _ k22 (by omega)
      · refine w_34 (d := d + 7) hT hR  (by omega) (fun r46 I47 f49 q48 => ⟨_, _, rfl, rfl, ?_⟩)
        have k50 : ∀ k j, ¬ ((k = 1 ∧ 2 ≤ j) ∨ (p ≤ k ∧ k < p + 12)) → I47 k j = I k j := fun k j h => (f49 k j (by omega)).trans (k0 k j h)
        first | have tI47_1_1 := f49 1 1 (by omega) | skip
        first | have tI47_1_3 := f49 1 3 (by omega) | skip
        first | have tI47_p_0 := f49 p 0 (by omega) | skip
        first | have tI47_p_1 := f49 p 1 (by omega) | skip
        refine ⟨by omega, ?_⟩
        exact hk _ _ k50 (by omega)
/-- ChairAlley$Land.readSick(LChairAlley$Reader;)Z -/
theorem w_22 (hT : yLT T) (hR : yLR R) {p : Nat} (hp : yAtLand T R p) (gp : (1 < p ∧ p + 12 ≤ 102) ∨ 126 ≤ p) (h0 : 0 ≤ I 1 1 ∧ I 1 1 ≤ 940 ∧ 0 ≤ I 1 3 ∧ I 1 3 ≤ 940) (h1 : 0 ≤ I p 0 ∧ I p 0 ≤ 10 ∧ 0 ≤ I p 1 ∧ I p 1 ≤ 10) (hk : ∀ r I', (∀ k j, ¬ ((k = 1 ∧ 2 ≤ j) ∨ (p ≤ k ∧ k < p + 12)) → I' k j = I k j) → ((0 ≤ I' 1 1 ∧ I' 1 1 ≤ 940 ∧ 0 ≤ I' 1 3 ∧ I' 1 3 ≤ 940) ∧ (0 ≤ I' p 0 ∧ I' p 0 ≤ 10 ∧ 0 ≤ I' p 1 ∧ I' p 1 ≤ 10) ∧ (r = 0 ∨ r = 1)) → K (some (yi r)) (N, T, R, I')) : yW l zSS D cy zFk z (d + 6) 22 bc bs K 0 0 0 [(0, yr (some p)), (1, yr (some 1))] [] (N, T, R, I) := by
  have k0 : ∀ k j, ¬ ((k = 1 ∧ 2 ≤ j) ∨ (p ≤ k ∧ k < p + 12)) → I k j = I k j := fun _ _ _ => rfl
  refine B_22_0 hT hR hp ?_
  refine w_31 (d := d) hT hR  (by omega) (fun I1 f3 q2 => ⟨_, rfl, rfl, ?_⟩)
  have k4 : ∀ k j, ¬ ((k = 1 ∧ 2 ≤ j) ∨ (p ≤ k ∧ k < p + 12)) → I1 k j = I k j := fun k j h => (f3 k j (by omega)).trans (k0 k j h)
  first | have tI1_1_1 := f3 1 1 (by omega) | skip
  first | have tI1_1_3 := f3 1 3 (by omega) | skip
  first | have tI1_p_0 := f3 p 0 (by omega) | skip
  first | have tI1_p_1 := f3 p 1 (by omega) | skip
  refine w_21 (d := d + 3) hT hR hp (by omega) (by omega) (fun r5 I6 f8 q7 => ⟨_, _, rfl, rfl, ?_⟩)
  have k9 : ∀ k j, ¬ ((k = 1 ∧ 2 ≤ j) ∨ (p ≤ k ∧ k < p + 12)) → I6 k j = I k j := fun k j h => (f8 k j (by omega)).trans (k4 k j h)
  first | have tI6_1_1 := f8 1 1 (by omega) | skip
  first | have tI6_1_3 := f8 1 3 (by omega) | skip
  first | have tI6_p_0 := f8 p 0 (by omega) | skip
  first | have tI6_p_1 := f8 p 1 (by omega) | skip
  refine w_11 (d := d + 5) hT hR hp  (fun r10 q11 => ⟨_, _, rfl, rfl, ?_⟩)
  refine ⟨fun c13 => ?_, fun c13 => ?_⟩
  · refine ⟨by omega, by omega, ?_⟩
    refine ⟨fun c14 => ?_, fun c14 => ?_⟩
    · refine w_31 (d := d) hT hR  (by omega) (fun I15 f17 q16 => ⟨_, rfl, rfl, ?_⟩)
      have k18 : ∀ k j, ¬ ((k = 1 ∧ 2 ≤ j) ∨ (p ≤ k ∧ k < p + 12)) → I15 k j = I k j := fun k j h => (f17 k j (by omega)).trans (k9 k j h)
      first | have tI15_1_1 := f17 1 1 (by omega) | skip
      first | have tI15_1_3 := f17 1 3 (by omega) | skip
      first | have tI15_p_0 := f17 p 0 (by omega) | skip
      first | have tI15_p_1 := f17 p 1 (by omega) | skip
      refine ⟨by omega, by omega, ?_⟩
      intro I19 e20
      have k21 : ∀ k j, ¬ ((k = 1 ∧ 2 ≤ j) ∨ (p ≤ k ∧ k < p + 12)) → I19 k j = I k j := fun k j h => ((congrFun (congrFun e20 k) j).trans (yU_ne _ _ (by omega))).trans (k18 k j h)
      first | have tI19_1_1 : I19 1 1 = I15 1 1 := (congrFun (congrFun e20 1) 1).trans (yU_ne _ _ (by omega)) | skip
      first | have tI19_1_3 : I19 1 3 = I15 1 3 := (congrFun (congrFun e20 1) 3).trans (yU_ne _ _ (by omega)) | skip
      first | have tI19_p_0 : I19 p 0 = I15 p 0 := (congrFun (congrFun e20 p) 0).trans (yU_ne _ _ (by omega)) | skip
      first | have tI19_p_1 : I19 p 1 = I15 p 1 := (congrFun (congrFun e20 p) 1).trans (yU_ne _ _ (by omega)) | skip
      exact hk _ _ k21 (by omega)
    · refine w_34 (d := d + 5) hT hR  (by omega) (fun r22 I23 f25 q24 => ⟨_, _, rfl, rfl, ?_⟩)
      have k26 : ∀ k j, ¬ ((k = 1 ∧ 2 ≤ j) ∨ (p ≤ k ∧ k < p + 12)) → I23 k j = I k j := fun k j h => (f25 k j (by omega)).trans (k9 k j h)
      first | have tI23_1_1 := f25 1 1 (by omega) | skip
      first | have tI23_1_3 := f25 1 3 (by omega) | skip
      first | have tI23_p_0 := f25 p 0 (by omega) | skip
      first | have tI23_p_1 := f25 p 1 (by omega) | skip
      refine ⟨by omega, ?_⟩
      exact hk _ _ k26 (by omega)
  · exact hk _ _ k9 (by omega)
/-- ChairAlley$Land.readSize(LChairAlley$Reader;)Z -/
theorem w_23 (hT : yLT T) (hR : yLR R) {p : Nat} (hp : yAtLand T R p) (gp : (1 < p ∧ p + 12 ≤ 102) ∨ 126 ≤ p) (h0 : 0 ≤ I 1 1 ∧ I 1 1 ≤ 940 ∧ 0 ≤ I 1 3 ∧ I 1 3 ≤ 940) (h1 : 0 ≤ I p 0 ∧ I p 0 ≤ 10 ∧ 0 ≤ I p 1 ∧ I p 1 ≤ 10) (hk : ∀ r I', (∀ k j, ¬ ((k = 1 ∧ 2 ≤ j) ∨ (p ≤ k ∧ k < p + 12)) → I' k j = I k j) → ((0 ≤ I' 1 1 ∧ I' 1 1 ≤ 940 ∧ 0 ≤ I' 1 3 ∧ I' 1 3 ≤ 940) ∧ (0 ≤ I' p 0 ∧ I' p 0 ≤ 10 ∧ 0 ≤ I' p 1 ∧ I' p 1 ≤ 10) ∧ (r = 0 ∨ r = 1)) → K (some (yi r)) (N, T, R, I')) : yW l zSS D cy zFk z (d + 7) 23 bc bs K 0 0 0 [(0, yr (some p)), (1, yr (some 1))] [] (N, T, R, I) := by
  have k0 : ∀ k j, ¬ ((k = 1 ∧ 2 ≤ j) ∨ (p ≤ k ∧ k < p + 12)) → I k j = I k j := fun _ _ _ => rfl
  refine B_23_0 hT hR hp ?_
  refine ⟨fun c1 => ?_, fun c1 => ?_⟩
  · refine w_31 (d := d + 1) hT hR  (by omega) (fun I2 f4 q3 => ⟨_, rfl, rfl, ?_⟩)
    have k5 : ∀ k j, ¬ ((k = 1 ∧ 2 ≤ j) ∨ (p ≤ k ∧ k < p + 12)) → I2 k j = I k j := fun k j h => (f4 k j (by omega)).trans (k0 k j h)
    first | have tI2_1_1 := f4 1 1 (by omega) | skip
    first | have tI2_1_3 := f4 1 3 (by omega) | skip
    first | have tI2_p_0 := f4 p 0 (by omega) | skip
    first | have tI2_p_1 := f4 p 1 (by omega) | skip
    refine w_42 (d := d) hT hR  (by omega) (fun r6 I7 f9 q8 => ⟨_, _, rfl, rfl, ?_⟩)
    have k10 : ∀ k j, ¬ ((k = 1 ∧ 2 ≤ j) ∨ (p ≤ k ∧ k < p + 12)) → I7 k j = I k j := fun k j h => (f9 k j (by omega)).trans (k5 k j h)
    first | have tI7_1_1 := f9 1 1 (by omega) | skip
    first | have tI7_1_3 := f9 1 3 (by omega) | skip
    first | have tI7_p_0 := f9 p 0 (by omega) | skip
    first | have tI7_p_1 := f9 p 1 (by omega) | skip
    refine ⟨fun c11 => ?_, fun c11 => ?_⟩
    · refine w_42 (d := d) hT hR  (by omega) (fun r12 I13 f15 q14 => ⟨_, _, rfl, rfl, ?_⟩)
      have k16 : ∀ k j, ¬ ((k = 1 ∧ 2 ≤ j) ∨ (p ≤ k ∧ k < p + 12)) → I13 k j = I k j := fun k j h => (f15 k j (by omega)).trans (k10 k j h)
      first | have tI13_1_1 := f15 1 1 (by omega) | skip
      first | have tI13_1_3 := f15 1 3 (by omega) | skip
      first | have tI13_p_0 := f15 p 0 (by omega) | skip
      first | have tI13_p_1 := f15 p 1 (by omega) | skip
      refine ⟨fun c17 => ?_, fun c17 => ?_⟩
      · intro I18 e19
        have k20 : ∀ k j, ¬ ((k = 1 ∧ 2 ≤ j) ∨ (p ≤ k ∧ k < p + 12)) → I18 k j = I k j := fun k j h => ((congrFun (congrFun e19 k) j).trans (yU_ne _ _ (by omega))).trans (k16 k j h)
        first | have tI18_1_1 : I18 1 1 = I13 1 1 := (congrFun (congrFun e19 1) 1).trans (yU_ne _ _ (by omega)) | skip
        first | have tI18_1_3 : I18 1 3 = I13 1 3 := (congrFun (congrFun e19 1) 3).trans (yU_ne _ _ (by omega)) | skip
        have tI18_p_0 := (congrFun (congrFun e19 p) 0).trans (yU_eq _ _ _ _)
        first | have tI18_p_1 : I18 p 1 = I13 p 1 := (congrFun (congrFun e19 p) 1).trans (yU_ne _ _ (by omega)) | skip
        intro I21 e22
        have k23 : ∀ k j, ¬ ((k = 1 ∧ 2 ≤ j) ∨ (p ≤ k ∧ k < p + 12)) → I21 k j = I k j := fun k j h => ((congrFun (congrFun e22 k) j).trans (yU_ne _ _ (by omega))).trans (k20 k j h)
        first | have tI21_1_1 : I21 1 1 = I18 1 1 := (congrFun (congrFun e22 1) 1).trans (yU_ne _ _ (by omega)) | skip
        first | have tI21_1_3 : I21 1 3 = I18 1 3 := (congrFun (congrFun e22 1) 3).trans (yU_ne _ _ (by omega)) | skip
        first | have tI21_p_0 : I21 p 0 = I18 p 0 := (congrFun (congrFun e22 p) 0).trans (yU_ne _ _ (by omega)) | skip
        have tI21_p_1 := (congrFun (congrFun e22 p) 1).trans (yU_eq _ _ _ _)
        exact hk _ _ k23 (by omega)
      · exact hk _ _ k16 (by omega)
    · exact hk _ _ k10 (by omega)
  · refine w_34 (d := d + 6) hT hR  (by omega) (fun r24 I25 f27 q26 => ⟨_, _, rfl, rfl, ?_⟩)
    have k28 : ∀ k j, ¬ ((k = 1 ∧ 2 ≤ j) ∨ (p ≤ k ∧ k < p + 12)) → I25 k j = I k j := fun k j h => (f27 k j (by omega)).trans (k0 k j h)
    first | have tI25_1_1 := f27 1 1 (by omega) | skip
    first | have tI25_1_3 := f27 1 3 (by omega) | skip
    first | have tI25_p_0 := f27 p 0 (by omega) | skip
    first | have tI25_p_1 := f27 p 1 (by omega) | skip
    refine ⟨by omega, ?_⟩
    exact hk _ _ k28 (by omega)
/-- ChairAlley$Land.readStart(LChairAlley$Reader;)Z -/
theorem w_24 (hT : yLT T) (hR : yLR R) {p : Nat} (hp : yAtLand T R p) (gp : (1 < p ∧ p + 12 ≤ 102) ∨ 126 ≤ p) (h0 : 0 ≤ I 1 1 ∧ I 1 1 ≤ 940 ∧ 0 ≤ I 1 3 ∧ I 1 3 ≤ 940) (h1 : 0 ≤ I p 0 ∧ I p 0 ≤ 10 ∧ 0 ≤ I p 1 ∧ I p 1 ≤ 10) (hk : ∀ r I', (∀ k j, ¬ ((k = 1 ∧ 2 ≤ j) ∨ (p ≤ k ∧ k < p + 12)) → I' k j = I k j) → ((0 ≤ I' 1 1 ∧ I' 1 1 ≤ 940 ∧ 0 ≤ I' 1 3 ∧ I' 1 3 ≤ 940) ∧ (0 ≤ I' p 0 ∧ I' p 0 ≤ 10 ∧ 0 ≤ I' p 1 ∧ I' p 1 ≤ 10) ∧ (r = 0 ∨ r = 1)) → K (some (yi r)) (N, T, R, I')) : yW l zSS D cy zFk z (d + 7) 24 bc bs K 0 0 0 [(0, yr (some p)), (1, yr (some 1))] [] (N, T, R, I) := by
  have k0 : ∀ k j, ¬ ((k = 1 ∧ 2 ≤ j) ∨ (p ≤ k ∧ k < p + 12)) → I k j = I k j := fun _ _ _ => rfl
  refine B_24_0 hT hR hp ?_
  refine w_31 (d := d + 1) hT hR  (by omega) (fun I1 f3 q2 => ⟨_, rfl, rfl, ?_⟩)
  have k4 : ∀ k j, ¬ ((k = 1 ∧ 2 ≤ j) ∨ (p ≤ k ∧ k < p + 12)) → I1 k j = I k j := fun k j h => (f3 k j (by omega)).trans (k0 k j h)
  first | have tI1_1_1 := f3 1 1 (by omega) | skip
  first | have tI1_1_3 := f3 1 3 (by omega) | skip
  first | have tI1_p_0 := f3 p 0 (by omega) | skip
  first | have tI1_p_1 := f3 p 1 (by omega) | skip
  refine w_21 (d := d + 4) hT hR hp (by omega) (by omega) (fun r5 I6 f8 q7 => ⟨_, _, rfl, rfl, ?_⟩)
  have k9 : ∀ k j, ¬ ((k = 1 ∧ 2 ≤ j) ∨ (p ≤ k ∧ k < p + 12)) → I6 k j = I k j := fun k j h => (f8 k j (by omega)).trans (k4 k j h)
  first | have tI6_1_1 := f8 1 1 (by omega) | skip
  first | have tI6_1_3 := f8 1 3 (by omega) | skip
  first | have tI6_p_0 := f8 p 0 (by omega) | skip
  first | have tI6_p_1 := f8 p 1 (by omega) | skip
  refine w_11 (d := d + 6) hT hR hp  (fun r10 q11 => ⟨_, _, rfl, rfl, ?_⟩)
  refine ⟨fun c13 => ?_, fun c13 => ?_⟩
  · refine ⟨by omega, by omega, ?_⟩
    refine ⟨fun c14 => ?_, fun c14 => ?_⟩
    · refine w_31 (d := d + 1) hT hR  (by omega) (fun I15 f17 q16 => ⟨_, rfl, rfl, ?_⟩)
      have k18 : ∀ k j, ¬ ((k = 1 ∧ 2 ≤ j) ∨ (p ≤ k ∧ k < p + 12)) → I15 k j = I k j := fun k j h => (f17 k j (by omega)).trans (k9 k j h)
      first | have tI15_1_1 := f17 1 1 (by omega) | skip
      first | have tI15_1_3 := f17 1 3 (by omega) | skip
      first | have tI15_p_0 := f17 p 0 (by omega) | skip
      first | have tI15_p_1 := f17 p 1 (by omega) | skip
      refine w_42 (d := d) hT hR  (by omega) (fun r19 I20 f22 q21 => ⟨_, _, rfl, rfl, ?_⟩)
      have k23 : ∀ k j, ¬ ((k = 1 ∧ 2 ≤ j) ∨ (p ≤ k ∧ k < p + 12)) → I20 k j = I k j := fun k j h => (f22 k j (by omega)).trans (k18 k j h)
      first | have tI20_1_1 := f22 1 1 (by omega) | skip
      first | have tI20_1_3 := f22 1 3 (by omega) | skip
      first | have tI20_p_0 := f22 p 0 (by omega) | skip
      first | have tI20_p_1 := f22 p 1 (by omega) | skip
      refine ⟨by omega, by omega, ?_⟩
      intro I24 e25
      have k26 : ∀ k j, ¬ ((k = 1 ∧ 2 ≤ j) ∨ (p ≤ k ∧ k < p + 12)) → I24 k j = I k j := fun k j h => ((congrFun (congrFun e25 k) j).trans (yU_ne _ _ (by omega))).trans (k23 k j h)
      first | have tI24_1_1 : I24 1 1 = I20 1 1 := (congrFun (congrFun e25 1) 1).trans (yU_ne _ _ (by omega)) | skip
      first | have tI24_1_3 : I24 1 3 = I20 1 3 := (congrFun (congrFun e25 1) 3).trans (yU_ne _ _ (by omega)) | skip
      first | have tI24_p_0 : I24 p 0 = I20 p 0 := (congrFun (congrFun e25 p) 0).trans (yU_ne _ _ (by omega)) | skip
      first | have tI24_p_1 : I24 p 1 = I20 p 1 := (congrFun (congrFun e25 p) 1).trans (yU_ne _ _ (by omega)) | skip
      refine ⟨by omega, by omega, ?_⟩
      refine ⟨fun c27 => ?_, fun c27 => ?_⟩
      · exact hk _ _ k26 (by omega)
      · exact hk _ _ k26 (by omega)
    · refine w_34 (d := d + 6) hT hR  (by omega) (fun r28 I29 f31 q30 => ⟨_, _, rfl, rfl, ?_⟩)
      have k32 : ∀ k j, ¬ ((k = 1 ∧ 2 ≤ j) ∨ (p ≤ k ∧ k < p + 12)) → I29 k j = I k j := fun k j h => (f31 k j (by omega)).trans (k9 k j h)
      first | have tI29_1_1 := f31 1 1 (by omega) | skip
      first | have tI29_1_3 := f31 1 3 (by omega) | skip
      first | have tI29_p_0 := f31 p 0 (by omega) | skip
      first | have tI29_p_1 := f31 p 1 (by omega) | skip
      refine ⟨by omega, ?_⟩
      exact hk _ _ k32 (by omega)
  · exact hk _ _ k9 (by omega)
/-- ChairAlley$Land.readLine(LChairAlley$Reader;)Z -/
theorem w_19 (hT : yLT T) (hR : yLR R) {p : Nat} (hp : yAtLand T R p) (gp : (1 < p ∧ p + 12 ≤ 102) ∨ 126 ≤ p) (h0 : 0 ≤ I 1 1 ∧ I 1 1 ≤ 940 ∧ 0 ≤ I 1 3 ∧ I 1 3 ≤ 940) (h1 : 0 ≤ I p 0 ∧ I p 0 ≤ 10 ∧ 0 ≤ I p 1 ∧ I p 1 ≤ 10) (hk : ∀ r I', (∀ k j, ¬ ((k = 1 ∧ 2 ≤ j) ∨ (p ≤ k ∧ k < p + 12)) → I' k j = I k j) → ((0 ≤ I' 1 1 ∧ I' 1 1 ≤ 940 ∧ 0 ≤ I' 1 3 ∧ I' 1 3 ≤ 940) ∧ (0 ≤ I' p 0 ∧ I' p 0 ≤ 10 ∧ 0 ≤ I' p 1 ∧ I' p 1 ≤ 10) ∧ (r = 0 ∨ r = 1)) → K (some (yi r)) (N, T, R, I')) : yW l zSS D cy zFk z (d + 9) 19 bc bs K 0 0 0 [(0, yr (some p)), (1, yr (some 1))] [] (N, T, R, I) := by
  have k0 : ∀ k j, ¬ ((k = 1 ∧ 2 ≤ j) ∨ (p ≤ k ∧ k < p + 12)) → I k j = I k j := fun _ _ _ => rfl
  refine B_19_0 hT hR hp ?_
  refine ⟨fun c1 => ?_, fun c1 => ?_⟩
  · refine ⟨fun c2 => ?_, fun c2 => ?_⟩
    · refine w_23 (d := d + 1) hT hR hp (by omega) (by omega) (by omega) (fun r3 I4 f6 q5 => ⟨_, _, rfl, rfl, ?_⟩)
      have k7 : ∀ k j, ¬ ((k = 1 ∧ 2 ≤ j) ∨ (p ≤ k ∧ k < p + 12)) → I4 k j = I k j := fun k j h => (f6 k j (by omega)).trans (k0 k j h)
      first | have tI4_1_1 := f6 1 1 (by omega) | skip
      first | have tI4_1_3 := f6 1 3 (by omega) | skip
      first | have tI4_p_0 := f6 p 0 (by omega) | skip
      first | have tI4_p_1 := f6 p 1 (by omega) | skip
      refine ⟨by omega, ?_⟩
      exact hk _ _ k7 (by omega)
    refine ⟨fun c8 => ?_, fun c8 => ?_⟩
    · refine w_20 (d := d) hT hR hp (by omega) (by omega) (by omega) (fun r9 I10 f12 q11 => ⟨_, _, rfl, rfl, ?_⟩)
      have k13 : ∀ k j, ¬ ((k = 1 ∧ 2 ≤ j) ∨ (p ≤ k ∧ k < p + 12)) → I10 k j = I k j := fun k j h => (f12 k j (by omega)).trans (k0 k j h)
      first | have tI10_1_1 := f12 1 1 (by omega) | skip
      first | have tI10_1_3 := f12 1 3 (by omega) | skip
      first | have tI10_p_0 := f12 p 0 (by omega) | skip
      first | have tI10_p_1 := f12 p 1 (by omega) | skip
      refine ⟨by omega, ?_⟩
      exact hk _ _ k13 (by omega)
    refine ⟨fun c14 => ?_, fun c14 => ?_⟩
    · refine w_20 (d := d) hT hR hp (by omega) (by omega) (by omega) (fun r15 I16 f18 q17 => ⟨_, _, rfl, rfl, ?_⟩)
      have k19 : ∀ k j, ¬ ((k = 1 ∧ 2 ≤ j) ∨ (p ≤ k ∧ k < p + 12)) → I16 k j = I k j := fun k j h => (f18 k j (by omega)).trans (k0 k j h)
      first | have tI16_1_1 := f18 1 1 (by omega) | skip
      first | have tI16_1_3 := f18 1 3 (by omega) | skip
      first | have tI16_p_0 := f18 p 0 (by omega) | skip
      first | have tI16_p_1 := f18 p 1 (by omega) | skip
      refine ⟨by omega, ?_⟩
      exact hk _ _ k19 (by omega)
    refine ⟨fun c20 => ?_, fun c20 => ?_⟩
    · refine w_20 (d := d) hT hR hp (by omega) (by omega) (by omega) (fun r21 I22 f24 q23 => ⟨_, _, rfl, rfl, ?_⟩)
      have k25 : ∀ k j, ¬ ((k = 1 ∧ 2 ≤ j) ∨ (p ≤ k ∧ k < p + 12)) → I22 k j = I k j := fun k j h => (f24 k j (by omega)).trans (k0 k j h)
      first | have tI22_1_1 := f24 1 1 (by omega) | skip
      first | have tI22_1_3 := f24 1 3 (by omega) | skip
      first | have tI22_p_0 := f24 p 0 (by omega) | skip
      first | have tI22_p_1 := f24 p 1 (by omega) | skip
      refine ⟨by omega, ?_⟩
      exact hk _ _ k25 (by omega)
    refine ⟨fun c26 => ?_, fun c26 => ?_⟩
    · refine w_17 (d := d) hT hR hp (by omega) (by omega) (by omega) (fun r27 I28 f30 q29 => ⟨_, _, rfl, rfl, ?_⟩)
      have k31 : ∀ k j, ¬ ((k = 1 ∧ 2 ≤ j) ∨ (p ≤ k ∧ k < p + 12)) → I28 k j = I k j := fun k j h => (f30 k j (by omega)).trans (k0 k j h)
      first | have tI28_1_1 := f30 1 1 (by omega) | skip
      first | have tI28_1_3 := f30 1 3 (by omega) | skip
      first | have tI28_p_0 := f30 p 0 (by omega) | skip
      first | have tI28_p_1 := f30 p 1 (by omega) | skip
      refine ⟨by omega, ?_⟩
      exact hk _ _ k31 (by omega)
    refine ⟨fun c32 => ?_, fun c32 => ?_⟩
    · refine w_16 (d := d) hT hR hp (by omega) (by omega) (by omega) (fun r33 I34 f36 q35 => ⟨_, _, rfl, rfl, ?_⟩)
      have k37 : ∀ k j, ¬ ((k = 1 ∧ 2 ≤ j) ∨ (p ≤ k ∧ k < p + 12)) → I34 k j = I k j := fun k j h => (f36 k j (by omega)).trans (k0 k j h)
      first | have tI34_1_1 := f36 1 1 (by omega) | skip
      first | have tI34_1_3 := f36 1 3 (by omega) | skip
      first | have tI34_p_0 := f36 p 0 (by omega) | skip
      first | have tI34_p_1 := f36 p 1 (by omega) | skip
      refine ⟨by omega, ?_⟩
      exact hk _ _ k37 (by omega)
    refine ⟨fun c38 => ?_, fun c38 => ?_⟩
    · refine w_24 (d := d + 1) hT hR hp (by omega) (by omega) (by omega) (fun r39 I40 f42 q41 => ⟨_, _, rfl, rfl, ?_⟩)
      have k43 : ∀ k j, ¬ ((k = 1 ∧ 2 ≤ j) ∨ (p ≤ k ∧ k < p + 12)) → I40 k j = I k j := fun k j h => (f42 k j (by omega)).trans (k0 k j h)
      first | have tI40_1_1 := f42 1 1 (by omega) | skip
      first | have tI40_1_3 := f42 1 3 (by omega) | skip
      first | have tI40_p_0 := f42 p 0 (by omega) | skip
      first | have tI40_p_1 := f42 p 1 (by omega) | skip
      refine ⟨by omega, ?_⟩
      exact hk _ _ k43 (by omega)
    refine ⟨fun c44 => ?_, fun c44 => ?_⟩
    · refine w_22 (d := d + 2) hT hR hp (by omega) (by omega) (by omega) (fun r45 I46 f48 q47 => ⟨_, _, rfl, rfl, ?_⟩)
      have k49 : ∀ k j, ¬ ((k = 1 ∧ 2 ≤ j) ∨ (p ≤ k ∧ k < p + 12)) → I46 k j = I k j := fun k j h => (f48 k j (by omega)).trans (k0 k j h)
      first | have tI46_1_1 := f48 1 1 (by omega) | skip
      first | have tI46_1_3 := f48 1 3 (by omega) | skip
      first | have tI46_p_0 := f48 p 0 (by omega) | skip
      first | have tI46_p_1 := f48 p 1 (by omega) | skip
      refine ⟨by omega, ?_⟩
      exact hk _ _ k49 (by omega)
    refine ⟨fun c50 => ?_, fun c50 => ?_⟩
    · refine w_18 (d := d + 2) hT hR hp (by omega) (by omega) (by omega) (fun r51 I52 f54 q53 => ⟨_, _, rfl, rfl, ?_⟩)
      have k55 : ∀ k j, ¬ ((k = 1 ∧ 2 ≤ j) ∨ (p ≤ k ∧ k < p + 12)) → I52 k j = I k j := fun k j h => (f54 k j (by omega)).trans (k0 k j h)
      first | have tI52_1_1 := f54 1 1 (by omega) | skip
      first | have tI52_1_3 := f54 1 3 (by omega) | skip
      first | have tI52_p_0 := f54 p 0 (by omega) | skip
      first | have tI52_p_1 := f54 p 1 (by omega) | skip
      refine ⟨by omega, ?_⟩
      exact hk _ _ k55 (by omega)
    refine w_34 (d := d + 8) hT hR  (by omega) (fun r56 I57 f59 q58 => ⟨_, _, rfl, rfl, ?_⟩)
    have k60 : ∀ k j, ¬ ((k = 1 ∧ 2 ≤ j) ∨ (p ≤ k ∧ k < p + 12)) → I57 k j = I k j := fun k j h => (f59 k j (by omega)).trans (k0 k j h)
    first | have tI57_1_1 := f59 1 1 (by omega) | skip
    first | have tI57_1_3 := f59 1 3 (by omega) | skip
    first | have tI57_p_0 := f59 p 0 (by omega) | skip
    first | have tI57_p_1 := f59 p 1 (by omega) | skip
    refine ⟨by omega, ?_⟩
    exact hk _ _ k60 (by omega)
  · refine w_34 (d := d + 8) hT hR  (by omega) (fun r61 I62 f64 q63 => ⟨_, _, rfl, rfl, ?_⟩)
    have k65 : ∀ k j, ¬ ((k = 1 ∧ 2 ≤ j) ∨ (p ≤ k ∧ k < p + 12)) → I62 k j = I k j := fun k j h => (f64 k j (by omega)).trans (k0 k j h)
    first | have tI62_1_1 := f64 1 1 (by omega) | skip
    first | have tI62_1_3 := f64 1 3 (by omega) | skip
    first | have tI62_p_0 := f64 p 0 (by omega) | skip
    first | have tI62_p_1 := f64 p 1 (by omega) | skip
    refine ⟨by omega, ?_⟩
    exact hk _ _ k65 (by omega)
/-- ChairAlley$Land.read(LChairAlley$Reader;)I -/
theorem w_14 (hT : yLT T) (hR : yLR R) {p : Nat} (hp : yAtLand T R p) (gp : (1 < p ∧ p + 12 ≤ 102) ∨ 126 ≤ p) (h0 : 0 ≤ I 1 1 ∧ I 1 1 ≤ 940 ∧ 0 ≤ I 1 3 ∧ I 1 3 ≤ 940) (hk : ∀ r I', (∀ k j, ¬ ((k = 1 ∧ 2 ≤ j) ∨ (p ≤ k ∧ k < p + 12)) → I' k j = I k j) → ((0 ≤ I' 1 1 ∧ I' 1 1 ≤ 940 ∧ 0 ≤ I' 1 3 ∧ I' 1 3 ≤ 940) ∧ (0 ≤ I' p 0 ∧ I' p 0 ≤ 10 ∧ 0 ≤ I' p 1 ∧ I' p 1 ≤ 10)) → K (some (yi r)) (N, T, R, I')) : yW l zSS D cy zFk z (d + 10) 14 bc bs K 0 0 0 [(0, yr (some p)), (1, yr (some 1))] [] (N, T, R, I) := by
  have k0 : ∀ k j, ¬ ((k = 1 ∧ 2 ≤ j) ∨ (p ≤ k ∧ k < p + 12)) → I k j = I k j := fun _ _ _ => rfl
  have L : ∀ m : Nat, (∀ x2 : Int, ∀ X : Nat → Nat → Int, (∀ k j, ¬ ((k = 1 ∧ 2 ≤ j) ∨ (p ≤ k ∧ k < p + 12)) → X k j = I k j) → (940 - x2 : Int).toNat < m → (0 ≤ x2 ∧ x2 ≤ 940 ∧ 0 ≤ X 1 1 ∧ X 1 1 ≤ 940 ∧ 0 ≤ X 1 3 ∧ X 1 3 ≤ 940 ∧ 0 ≤ X p 0 ∧ X p 0 ≤ 10 ∧ 0 ≤ X p 1 ∧ X p 1 ≤ 10) → yW l zSS D cy zFk z (d + 10) 14 bc bs K 0 0 6 [(0, yr (some p)), (1, yr (some 1)), (2, yi x2)] [] (N, T, R, X)) := by
    intro m
    induction m with
    | zero => exact fun _ _ _ h => absurd h (Nat.not_lt_zero _)
    | succ m ih =>
      intro x2 X kX hm iv
      first | have tX_1_1 := kX 1 1 (by omega) | skip
      first | have tX_1_3 := kX 1 3 (by omega) | skip
      first | have tX_p_0 := kX p 0 (by omega) | skip
      first | have tX_p_1 := kX p 1 (by omega) | skip
      refine e_li (i := 2) (x := x2) rfl fun _ _ => ?_
      refine B_14_6 hT hR hp ?_
      refine ⟨fun c1 => ?_, fun c1 => ?_⟩
      · refine w_33 (d := d + 8) hT hR  (by omega) (fun r2 I3 f5 q4 => ⟨_, _, rfl, rfl, ?_⟩)
        have k6 : ∀ k j, ¬ ((k = 1 ∧ 2 ≤ j) ∨ (p ≤ k ∧ k < p + 12)) → I3 k j = I k j := fun k j h => (f5 k j (by omega)).trans (kX k j h)
        first | have tI3_1_1 := f5 1 1 (by omega) | skip
        first | have tI3_1_3 := f5 1 3 (by omega) | skip
        first | have tI3_p_0 := f5 p 0 (by omega) | skip
        first | have tI3_p_1 := f5 p 1 (by omega) | skip
        refine ⟨fun c7 => ?_, fun c7 => ?_⟩
        · exact hk _ _ k6 (by omega)
        · exact hk _ _ k6 (by omega)
      · refine ⟨fun c8 => ?_, fun c8 => ?_⟩
        · refine w_33 (d := d + 8) hT hR  (by omega) (fun r9 I10 f12 q11 => ⟨_, _, rfl, rfl, ?_⟩)
          have k13 : ∀ k j, ¬ ((k = 1 ∧ 2 ≤ j) ∨ (p ≤ k ∧ k < p + 12)) → I10 k j = I k j := fun k j h => (f12 k j (by omega)).trans (kX k j h)
          first | have tI10_1_1 := f12 1 1 (by omega) | skip
          first | have tI10_1_3 := f12 1 3 (by omega) | skip
          first | have tI10_p_0 := f12 p 0 (by omega) | skip
          first | have tI10_p_1 := f12 p 1 (by omega) | skip
          refine ⟨fun c14 => ?_, fun c14 => ?_⟩
          · exact hk _ _ k13 (by omega)
          · exact hk _ _ k13 (by omega)
        · refine w_19 (d := d) hT hR hp (by omega) (by omega) (by omega) (fun r15 I16 f18 q17 => ⟨_, _, rfl, rfl, ?_⟩)
          have k19 : ∀ k j, ¬ ((k = 1 ∧ 2 ≤ j) ∨ (p ≤ k ∧ k < p + 12)) → I16 k j = I k j := fun k j h => (f18 k j (by omega)).trans (kX k j h)
          first | have tI16_1_1 := f18 1 1 (by omega) | skip
          first | have tI16_1_3 := f18 1 3 (by omega) | skip
          first | have tI16_p_0 := f18 p 0 (by omega) | skip
          first | have tI16_p_1 := f18 p 1 (by omega) | skip
          refine ⟨fun c20 => ?_, fun c20 => ?_⟩
          · exact hk _ _ k19 (by omega)
          · refine w_43 (d := d + 3) hT hR  (by omega) (fun r21 I22 f24 q23 => ⟨_, _, rfl, rfl, ?_⟩)
            have k25 : ∀ k j, ¬ ((k = 1 ∧ 2 ≤ j) ∨ (p ≤ k ∧ k < p + 12)) → I22 k j = I k j := fun k j h => (f24 k j (by omega)).trans (k19 k j h)
            first | have tI22_1_1 := f24 1 1 (by omega) | skip
            first | have tI22_1_3 := f24 1 3 (by omega) | skip
            first | have tI22_p_0 := f24 p 0 (by omega) | skip
            first | have tI22_p_1 := f24 p 1 (by omega) | skip
            refine ⟨fun c26 => ?_, fun c26 => ?_⟩
            · have a27 : yadd x2 1 = (x2 + 1) := yadd_eq (by omega) (by omega)
              try rw [a27]
              exact ih _ _ k25 (by omega) (by omega)
            · exact hk _ _ k25 (by omega)
  refine B_14_0 hT hR hp ?_
  refine w_7 (d := d + 9) hT hR hp (by omega)  (fun I28 f30 q29 => ⟨_, rfl, rfl, ?_⟩)
  have k31 : ∀ k j, ¬ ((k = 1 ∧ 2 ≤ j) ∨ (p ≤ k ∧ k < p + 12)) → I28 k j = I k j := fun k j h => (f30 k j (by omega)).trans (k0 k j h)
  first | have tI28_1_1 := f30 1 1 (by omega) | skip
  first | have tI28_1_3 := f30 1 3 (by omega) | skip
  first | have tI28_p_0 := f30 p 0 (by omega) | skip
  first | have tI28_p_1 := f30 p 1 (by omega) | skip
  exact (L _) _ _ k31 (Nat.lt_succ_self _) (by omega)
/-- ChairAlley$Plan.copyFrom(LChairAlley$Plan;)V -/
theorem w_27 (hT : yLT T) (hR : yLR R) {p : Nat} (hp : yAtPlan T R p) (gp : (1 < p ∧ p + 2 ≤ 102) ∨ 126 ≤ p) {q : Nat} (hq : yAtPlan T R q) (gq : (1 < q ∧ q + 2 ≤ 102) ∨ 126 ≤ q) (hk : ∀ I', (∀ k j, ¬ (p ≤ k ∧ k < p + 2) → I' k j = I k j) → (True) → K none (N, T, R, I')) : yW l zSS D cy zFk z (d + 1) 27 bc bs K 0 0 0 [(0, yr (some p)), (1, yr (some q))] [] (N, T, R, I) := by
  have k0 : ∀ k j, ¬ (p ≤ k ∧ k < p + 2) → I k j = I k j := fun _ _ _ => rfl
  refine B_27_0 hT hR hp hq ?_
  intro I1 e2
  have k3 : ∀ k j, ¬ (p ≤ k ∧ k < p + 2) → I1 k j = I k j := fun k j h => ((congrFun (congrFun e2 k) j).trans (yU_ne _ _ (by omega))).trans (k0 k j h)
  intro I4 e5
  have k6 : ∀ k j, ¬ (p ≤ k ∧ k < p + 2) → I4 k j = I k j := fun k j h => ((congrFun (congrFun e5 k) j).trans (yC_ne (by omega))).trans (k3 k j h)
  exact hk _ k6 trivial
/-- ChairAlley$Plan.readStep(LChairAlley$Reader;LChairAlley$Land;)Z -/
theorem w_29 (hT : yLT T) (hR : yLR R) {p : Nat} (hp : yAtPlan T R p) (gp : (1 < p ∧ p + 2 ≤ 102) ∨ 126 ≤ p) (h0 : 0 ≤ I 1 1 ∧ I 1 1 ≤ 940 ∧ 0 ≤ I 1 3 ∧ I 1 3 ≤ 940) (hk : ∀ r I', (∀ k j, ¬ ((k = 1 ∧ 2 ≤ j) ∨ (p ≤ k ∧ k < p + 2)) → I' k j = I k j) → ((0 ≤ I' 1 1 ∧ I' 1 1 ≤ 940 ∧ 0 ≤ I' 1 3 ∧ I' 1 3 ≤ 940) ∧ (r = 0 ∨ r = 1)) → K (some (yi r)) (N, T, R, I')) : yW l zSS D cy zFk z (d + 7) 29 bc bs K 0 0 0 [(0, yr (some p)), (1, yr (some 1)), (2, yr (some 4))] [] (N, T, R, I) := by
  have k0 : ∀ k j, ¬ ((k = 1 ∧ 2 ≤ j) ∨ (p ≤ k ∧ k < p + 2)) → I k j = I k j := fun _ _ _ => rfl
  refine B_29_0 hT hR hp ?_
  refine w_21 (d := d + 4) hT hR (a_Land4 hT hR) (by omega) (by omega) (fun r1 I2 f4 q3 => ⟨_, _, rfl, rfl, ?_⟩)
  have k5 : ∀ k j, ¬ ((k = 1 ∧ 2 ≤ j) ∨ (p ≤ k ∧ k < p + 2)) → I2 k j = I k j := fun k j h => (f4 k j (by omega)).trans (k0 k j h)
  first | have tI2_1_1 := f4 1 1 (by omega) | skip
  first | have tI2_1_3 := f4 1 3 (by omega) | skip
  first | have tI2_p_0 := f4 p 0 (by omega) | skip
  refine ⟨fun c6 => ?_, fun c6 => ?_⟩
  · refine ⟨fun c7 => ?_, fun c7 => ?_⟩
    · refine w_34 (d := d + 6) hT hR  (by omega) (fun r8 I9 f11 q10 => ⟨_, _, rfl, rfl, ?_⟩)
      have k12 : ∀ k j, ¬ ((k = 1 ∧ 2 ≤ j) ∨ (p ≤ k ∧ k < p + 2)) → I9 k j = I k j := fun k j h => (f11 k j (by omega)).trans (k5 k j h)
      first | have tI9_1_1 := f11 1 1 (by omega) | skip
      first | have tI9_1_3 := f11 1 3 (by omega) | skip
      first | have tI9_p_0 := f11 p 0 (by omega) | skip
      refine ⟨by omega, ?_⟩
      exact hk _ _ k12 (by omega)
    · refine ⟨fun c13 => ?_, fun c13 => ?_⟩
      · refine w_31 (d := d + 1) hT hR  (by omega) (fun I14 f16 q15 => ⟨_, rfl, rfl, ?_⟩)
        have k17 : ∀ k j, ¬ ((k = 1 ∧ 2 ≤ j) ∨ (p ≤ k ∧ k < p + 2)) → I14 k j = I k j := fun k j h => (f16 k j (by omega)).trans (k5 k j h)
        first | have tI14_1_1 := f16 1 1 (by omega) | skip
        first | have tI14_1_3 := f16 1 3 (by omega) | skip
        first | have tI14_p_0 := f16 p 0 (by omega) | skip
        refine w_41 (d := d) hT hR  (by omega) (fun r18 I19 f21 q20 => ⟨_, _, rfl, rfl, ?_⟩)
        have k22 : ∀ k j, ¬ ((k = 1 ∧ 2 ≤ j) ∨ (p ≤ k ∧ k < p + 2)) → I19 k j = I k j := fun k j h => (f21 k j (by omega)).trans (k17 k j h)
        first | have tI19_1_1 := f21 1 1 (by omega) | skip
        first | have tI19_1_3 := f21 1 3 (by omega) | skip
        first | have tI19_p_0 := f21 p 0 (by omega) | skip
        refine ⟨fun c23 => ?_, fun c23 => ?_⟩
        · exact hk _ _ k22 (by omega)
        · refine w_43 (d := d) hT hR  (by omega) (fun r24 I25 f27 q26 => ⟨_, _, rfl, rfl, ?_⟩)
          have k28 : ∀ k j, ¬ ((k = 1 ∧ 2 ≤ j) ∨ (p ≤ k ∧ k < p + 2)) → I25 k j = I k j := fun k j h => (f27 k j (by omega)).trans (k22 k j h)
          first | have tI25_1_1 := f27 1 1 (by omega) | skip
          first | have tI25_1_3 := f27 1 3 (by omega) | skip
          first | have tI25_p_0 := f27 p 0 (by omega) | skip
          refine ⟨fun c29 => ?_, fun c29 => ?_⟩
          · refine ⟨by omega, by omega, ?_⟩
            intro I30 e31
            have k32 : ∀ k j, ¬ ((k = 1 ∧ 2 ≤ j) ∨ (p ≤ k ∧ k < p + 2)) → I30 k j = I k j := fun k j h => ((congrFun (congrFun e31 k) j).trans (yU_ne _ _ (by omega))).trans (k28 k j h)
            first | have tI30_1_1 : I30 1 1 = I25 1 1 := (congrFun (congrFun e31 1) 1).trans (yU_ne _ _ (by omega)) | skip
            first | have tI30_1_3 : I30 1 3 = I25 1 3 := (congrFun (congrFun e31 1) 3).trans (yU_ne _ _ (by omega)) | skip
            first | have tI30_p_0 : I30 p 0 = I25 p 0 := (congrFun (congrFun e31 p) 0).trans (yU_ne _ _ (by omega)) | skip
            intro I33 e34
            have k35 : ∀ k j, ¬ ((k = 1 ∧ 2 ≤ j) ∨ (p ≤ k ∧ k < p + 2)) → I33 k j = I k j := fun k j h => ((congrFun (congrFun e34 k) j).trans (yU_ne _ _ (by omega))).trans (k32 k j h)
            first | have tI33_1_1 : I33 1 1 = I30 1 1 := (congrFun (congrFun e34 1) 1).trans (yU_ne _ _ (by omega)) | skip
            first | have tI33_1_3 : I33 1 3 = I30 1 3 := (congrFun (congrFun e34 1) 3).trans (yU_ne _ _ (by omega)) | skip
            have tI33_p_0 := (congrFun (congrFun e34 p) 0).trans (yU_eq _ _ _ _)
            exact hk _ _ k35 (by omega)
          · exact hk _ _ k28 (by omega)
      · refine w_34 (d := d + 6) hT hR  (by omega) (fun r36 I37 f39 q38 => ⟨_, _, rfl, rfl, ?_⟩)
        have k40 : ∀ k j, ¬ ((k = 1 ∧ 2 ≤ j) ∨ (p ≤ k ∧ k < p + 2)) → I37 k j = I k j := fun k j h => (f39 k j (by omega)).trans (k5 k j h)
        first | have tI37_1_1 := f39 1 1 (by omega) | skip
        first | have tI37_1_3 := f39 1 3 (by omega) | skip
        first | have tI37_p_0 := f39 p 0 (by omega) | skip
        refine ⟨by omega, ?_⟩
        exact hk _ _ k40 (by omega)
  · exact hk _ _ k5 (by omega)
/-- ChairAlley$Plan.read(LChairAlley$Reader;LChairAlley$Land;)Z -/
theorem w_28 (hT : yLT T) (hR : yLR R) {p : Nat} (hp : yAtPlan T R p) (gp : (1 < p ∧ p + 2 ≤ 102) ∨ 126 ≤ p) (h0 : 0 ≤ I 1 1 ∧ I 1 1 ≤ 940 ∧ 0 ≤ I 1 3 ∧ I 1 3 ≤ 940) (hk : ∀ r I', (∀ k j, ¬ ((k = 1 ∧ 2 ≤ j) ∨ (p ≤ k ∧ k < p + 2)) → I' k j = I k j) → ((0 ≤ I' 1 1 ∧ I' 1 1 ≤ 940 ∧ 0 ≤ I' 1 3 ∧ I' 1 3 ≤ 940) ∧ (r = 0 ∨ r = 1)) → K (some (yi r)) (N, T, R, I')) : yW l zSS D cy zFk z (d + 8) 28 bc bs K 0 0 0 [(0, yr (some p)), (1, yr (some 1)), (2, yr (some 4))] [] (N, T, R, I) := by
  have k0 : ∀ k j, ¬ ((k = 1 ∧ 2 ≤ j) ∨ (p ≤ k ∧ k < p + 2)) → I k j = I k j := fun _ _ _ => rfl
  have L : ∀ m : Nat, (∀ x3 : Int, ∀ X : Nat → Nat → Int, (∀ k j, ¬ ((k = 1 ∧ 2 ≤ j) ∨ (p ≤ k ∧ k < p + 2)) → X k j = I k j) → (41 - x3 : Int).toNat < m → (0 ≤ x3 ∧ x3 ≤ 41 ∧ 0 ≤ X 1 1 ∧ X 1 1 ≤ 940 ∧ 0 ≤ X 1 3 ∧ X 1 3 ≤ 940) → yW l zSS D cy zFk z (d + 8) 28 bc bs K 0 0 7 [(0, yr (some p)), (1, yr (some 1)), (2, yr (some 4)), (3, yi x3)] [] (N, T, R, X)) := by
    intro m
    induction m with
    | zero => exact fun _ _ _ h => absurd h (Nat.not_lt_zero _)
    | succ m ih =>
      intro x3 X kX hm iv
      first | have tX_1_1 := kX 1 1 (by omega) | skip
      first | have tX_1_3 := kX 1 3 (by omega) | skip
      refine e_li (i := 3) (x := x3) rfl fun _ _ => ?_
      refine B_28_7 hT hR hp ?_
      refine ⟨fun c1 => ?_, fun c1 => ?_⟩
      · refine w_33 (d := d + 6) hT hR  (by omega) (fun r2 I3 f5 q4 => ⟨_, _, rfl, rfl, ?_⟩)
        have k6 : ∀ k j, ¬ ((k = 1 ∧ 2 ≤ j) ∨ (p ≤ k ∧ k < p + 2)) → I3 k j = I k j := fun k j h => (f5 k j (by omega)).trans (kX k j h)
        first | have tI3_1_1 := f5 1 1 (by omega) | skip
        first | have tI3_1_3 := f5 1 3 (by omega) | skip
        refine ⟨by omega, ?_⟩
        exact hk _ _ k6 (by omega)
      · refine ⟨fun c7 => ?_, fun c7 => ?_⟩
        · refine w_33 (d := d + 6) hT hR  (by omega) (fun r8 I9 f11 q10 => ⟨_, _, rfl, rfl, ?_⟩)
          have k12 : ∀ k j, ¬ ((k = 1 ∧ 2 ≤ j) ∨ (p ≤ k ∧ k < p + 2)) → I9 k j = I k j := fun k j h => (f11 k j (by omega)).trans (kX k j h)
          first | have tI9_1_1 := f11 1 1 (by omega) | skip
          first | have tI9_1_3 := f11 1 3 (by omega) | skip
          refine ⟨by omega, ?_⟩
          exact hk _ _ k12 (by omega)
        · refine w_29 (d := d) hT hR hp (by omega) (by omega) (fun r13 I14 f16 q15 => ⟨_, _, rfl, rfl, ?_⟩)
          have k17 : ∀ k j, ¬ ((k = 1 ∧ 2 ≤ j) ∨ (p ≤ k ∧ k < p + 2)) → I14 k j = I k j := fun k j h => (f16 k j (by omega)).trans (kX k j h)
          first | have tI14_1_1 := f16 1 1 (by omega) | skip
          first | have tI14_1_3 := f16 1 3 (by omega) | skip
          refine ⟨fun c18 => ?_, fun c18 => ?_⟩
          · have a19 : yadd x3 1 = (x3 + 1) := yadd_eq (by omega) (by omega)
            try rw [a19]
            exact ih _ _ k17 (by omega) (by omega)
          · exact hk _ _ k17 (by omega)
  refine B_28_0 hT hR hp ?_
  intro I20 e21
  have k22 : ∀ k j, ¬ ((k = 1 ∧ 2 ≤ j) ∨ (p ≤ k ∧ k < p + 2)) → I20 k j = I k j := fun k j h => ((congrFun (congrFun e21 k) j).trans (yU_ne _ _ (by omega))).trans (k0 k j h)
  first | have tI20_1_1 : I20 1 1 = I 1 1 := (congrFun (congrFun e21 1) 1).trans (yU_ne _ _ (by omega)) | skip
  first | have tI20_1_3 : I20 1 3 = I 1 3 := (congrFun (congrFun e21 1) 3).trans (yU_ne _ _ (by omega)) | skip
  exact (L _) _ _ k22 (Nat.lt_succ_self _) (by omega)
/-- ChairAlley$Sentence.add(III)V -/
theorem w_46 (hT : yLT T) (hR : yLR R) {p : Nat} (hp : yAtSentence T R p) (gp : (1 < p ∧ p + 4 ≤ 102) ∨ 126 ≤ p) {x1 x2 x3 : Int} (hk : ∀ I', (∀ k j, ¬ (p ≤ k ∧ k < p + 4) → I' k j = I k j) → (True) → K none (N, T, R, I')) : yW l zSS D cy zFk z d 46 bc bs K 0 0 0 [(0, yr (some p)), (1, yi x1), (2, yi x2), (3, yi x3)] [] (N, T, R, I) := by
  have k0 : ∀ k j, ¬ (p ≤ k ∧ k < p + 4) → I k j = I k j := fun _ _ _ => rfl
  refine e_li (i := 1) (x := x1) rfl fun _ _ => ?_
  refine e_li (i := 2) (x := x2) rfl fun _ _ => ?_
  refine e_li (i := 3) (x := x3) rfl fun _ _ => ?_
  refine B_46_0 hT hR hp ?_
  refine ⟨fun c1 => ?_, fun c1 => ?_⟩
  · exact hk _ k0 trivial
  · refine ⟨fun c2 => ?_, fun c2 => ?_⟩
    · exact hk _ k0 trivial
    · refine ⟨by omega, by omega, ?_⟩
      intro I3 e4
      have k5 : ∀ k j, ¬ (p ≤ k ∧ k < p + 4) → I3 k j = I k j := fun k j h => ((congrFun (congrFun e4 k) j).trans (yU_ne _ _ (by omega))).trans (k0 k j h)
      first | have tI3_p_0 : I3 p 0 = I p 0 := (congrFun (congrFun e4 p) 0).trans (yU_ne _ _ (by omega)) | skip
      refine ⟨by omega, by omega, ?_⟩
      intro I6 e7
      have k8 : ∀ k j, ¬ (p ≤ k ∧ k < p + 4) → I6 k j = I k j := fun k j h => ((congrFun (congrFun e7 k) j).trans (yU_ne _ _ (by omega))).trans (k5 k j h)
      first | have tI6_p_0 : I6 p 0 = I3 p 0 := (congrFun (congrFun e7 p) 0).trans (yU_ne _ _ (by omega)) | skip
      refine ⟨by omega, by omega, ?_⟩
      intro I9 e10
      have k11 : ∀ k j, ¬ (p ≤ k ∧ k < p + 4) → I9 k j = I k j := fun k j h => ((congrFun (congrFun e10 k) j).trans (yU_ne _ _ (by omega))).trans (k8 k j h)
      first | have tI9_p_0 : I9 p 0 = I6 p 0 := (congrFun (congrFun e10 p) 0).trans (yU_ne _ _ (by omega)) | skip
      intro I12 e13
      have k14 : ∀ k j, ¬ (p ≤ k ∧ k < p + 4) → I12 k j = I k j := fun k j h => ((congrFun (congrFun e13 k) j).trans (yU_ne _ _ (by omega))).trans (k11 k j h)
      have tI12_p_0 := (congrFun (congrFun e13 p) 0).trans (yU_eq _ _ _ _)
      exact hk _ k14 trivial
/-- ChairAlley$Sentence.copyFrom(LChairAlley$Sentence;)V -/
theorem w_47 (hT : yLT T) (hR : yLR R) {p : Nat} (hp : yAtSentence T R p) (gp : (1 < p ∧ p + 4 ≤ 102) ∨ 126 ≤ p) {q : Nat} (hq : yAtSentence T R q) (gq : (1 < q ∧ q + 4 ≤ 102) ∨ 126 ≤ q) (hk : ∀ I', (∀ k j, ¬ (p ≤ k ∧ k < p + 4) → I' k j = I k j) → (True) → K none (N, T, R, I')) : yW l zSS D cy zFk z (d + 1) 47 bc bs K 0 0 0 [(0, yr (some p)), (1, yr (some q))] [] (N, T, R, I) := by
  have k0 : ∀ k j, ¬ (p ≤ k ∧ k < p + 4) → I k j = I k j := fun _ _ _ => rfl
  refine B_47_0 hT hR hp hq ?_
  intro I1 e2
  have k3 : ∀ k j, ¬ (p ≤ k ∧ k < p + 4) → I1 k j = I k j := fun k j h => ((congrFun (congrFun e2 k) j).trans (yU_ne _ _ (by omega))).trans (k0 k j h)
  intro I4 e5
  have k6 : ∀ k j, ¬ (p ≤ k ∧ k < p + 4) → I4 k j = I k j := fun k j h => ((congrFun (congrFun e5 k) j).trans (yC_ne (by omega))).trans (k3 k j h)
  intro I7 e8
  have k9 : ∀ k j, ¬ (p ≤ k ∧ k < p + 4) → I7 k j = I k j := fun k j h => ((congrFun (congrFun e8 k) j).trans (yC_ne (by omega))).trans (k6 k j h)
  intro I10 e11
  have k12 : ∀ k j, ¬ (p ≤ k ∧ k < p + 4) → I10 k j = I k j := fun k j h => ((congrFun (congrFun e11 k) j).trans (yC_ne (by omega))).trans (k9 k j h)
  exact hk _ k12 trivial
/-- ChairAlley$Sentence.readPlain(LChairAlley$Reader;LChairAlley$Land;I)Z -/
theorem w_54 (hT : yLT T) (hR : yLR R) {p : Nat} (hp : yAtSentence T R p) (gp : (1 < p ∧ p + 4 ≤ 102) ∨ 126 ≤ p) {x3 : Int} (h0 : 0 ≤ I 1 1 ∧ I 1 1 ≤ 940 ∧ 0 ≤ I 1 3 ∧ I 1 3 ≤ 940) (hk : ∀ r I', (∀ k j, ¬ ((k = 1 ∧ 2 ≤ j) ∨ (p ≤ k ∧ k < p + 4)) → I' k j = I k j) → ((0 ≤ I' 1 1 ∧ I' 1 1 ≤ 940 ∧ 0 ≤ I' 1 3 ∧ I' 1 3 ≤ 940) ∧ (r = 0 ∨ r = 1)) → K (some (yi r)) (N, T, R, I')) : yW l zSS D cy zFk z (d + 7) 54 bc bs K 0 0 0 [(0, yr (some p)), (1, yr (some 1)), (2, yr (some 4)), (3, yi x3)] [] (N, T, R, I) := by
  have k0 : ∀ k j, ¬ ((k = 1 ∧ 2 ≤ j) ∨ (p ≤ k ∧ k < p + 4)) → I k j = I k j := fun _ _ _ => rfl
  have L : ∀ m : Nat, (∀ x3 : Int, ∀ X : Nat → Nat → Int, (∀ k j, ¬ ((k = 1 ∧ 2 ≤ j) ∨ (p ≤ k ∧ k < p + 4)) → X k j = I k j) → (1 : Int).toNat < m → (0 ≤ X 1 1 ∧ X 1 1 ≤ 940 ∧ 0 ≤ X 1 3 ∧ X 1 3 ≤ 940) → yW l zSS D cy zFk z (d + 7) 54 bc bs K 0 0 12 [(0, yr (some p)), (3, yi x3)] [] (N, T, R, X)) ∧ (∀ x3 x4 : Int, ∀ X : Nat → Nat → Int, (∀ k j, ¬ ((k = 1 ∧ 2 ≤ j) ∨ (p ≤ k ∧ k < p + 4)) → X k j = I k j) → (2 : Int).toNat < m → (0 ≤ X 1 1 ∧ X 1 1 ≤ 940 ∧ 0 ≤ X 1 3 ∧ X 1 3 ≤ 940) → yW l zSS D cy zFk z (d + 7) 54 bc bs K 0 0 95 [(0, yr (some p)), (1, yr (some 1)), (3, yi x3), (4, yi x4)] [] (N, T, R, X)) := by
    intro m
    induction m with
    | zero => exact ⟨fun _ _ _ h => absurd h (Nat.not_lt_zero _), fun _ _ _ _ h => absurd h (Nat.not_lt_zero _)⟩
    | succ m ih =>
      refine ⟨?_, ?_⟩
      · intro x3 X kX hm iv
        first | have tX_1_1 := kX 1 1 (by omega) | skip
        first | have tX_1_3 := kX 1 3 (by omega) | skip
        refine e_li (i := 3) (x := x3) rfl fun _ _ => ?_
        refine B_54_12 hT hR hp ?_
        refine w_46 (d := d + 6) hT hR hp (by omega)  (fun I1 f3 q2 => ⟨_, rfl, rfl, ?_⟩)
        have k4 : ∀ k j, ¬ ((k = 1 ∧ 2 ≤ j) ∨ (p ≤ k ∧ k < p + 4)) → I1 k j = I k j := fun k j h => (f3 k j (by omega)).trans (kX k j h)
        first | have tI1_1_1 := f3 1 1 (by omega) | skip
        first | have tI1_1_3 := f3 1 3 (by omega) | skip
        exact hk _ _ k4 (by omega)
      · intro x3 x4 X kX hm iv
        first | have tX_1_1 := kX 1 1 (by omega) | skip
        first | have tX_1_3 := kX 1 3 (by omega) | skip
        refine e_li (i := 3) (x := x3) rfl fun _ _ => ?_
        refine e_li (i := 4) (x := x4) rfl fun _ _ => ?_
        refine B_54_95 hT hR hp ?_
        refine w_31 (d := d + 1) hT hR  (by omega) (fun I5 f7 q6 => ⟨_, rfl, rfl, ?_⟩)
        have k8 : ∀ k j, ¬ ((k = 1 ∧ 2 ≤ j) ∨ (p ≤ k ∧ k < p + 4)) → I5 k j = I k j := fun k j h => (f7 k j (by omega)).trans (kX k j h)
        first | have tI5_1_1 := f7 1 1 (by omega) | skip
        first | have tI5_1_3 := f7 1 3 (by omega) | skip
        refine w_42 (d := d) hT hR  (by omega) (fun r9 I10 f12 q11 => ⟨_, _, rfl, rfl, ?_⟩)
        have k13 : ∀ k j, ¬ ((k = 1 ∧ 2 ≤ j) ∨ (p ≤ k ∧ k < p + 4)) → I10 k j = I k j := fun k j h => (f12 k j (by omega)).trans (k8 k j h)
        first | have tI10_1_1 := f12 1 1 (by omega) | skip
        first | have tI10_1_3 := f12 1 3 (by omega) | skip
        refine w_46 (d := d + 6) hT hR hp (by omega)  (fun I14 f16 q15 => ⟨_, rfl, rfl, ?_⟩)
        have k17 : ∀ k j, ¬ ((k = 1 ∧ 2 ≤ j) ∨ (p ≤ k ∧ k < p + 4)) → I14 k j = I k j := fun k j h => (f16 k j (by omega)).trans (k13 k j h)
        first | have tI14_1_1 := f16 1 1 (by omega) | skip
        first | have tI14_1_3 := f16 1 3 (by omega) | skip
        refine ⟨fun c18 => ?_, fun c18 => ?_⟩
        · exact hk _ _ k17 (by omega)
        · exact hk _ _ k17 (by omega)
  refine e_li (i := 3) (x := x3) rfl fun _ _ => ?_
  refine B_54_0 hT hR hp ?_
  refine ⟨fun c19 => ?_, fun c19 => ?_⟩
  · exact (L _).1 _ _ k0 (Nat.lt_succ_self _) (by omega)
  · refine ⟨fun c20 => ?_, fun c20 => ?_⟩
    · refine ⟨fun c21 => ?_, fun c21 => ?_⟩
      · refine w_38 (d := d + 6) hT hR   (fun r22 q23 => ⟨_, _, rfl, rfl, ?_⟩)
        refine ⟨fun c25 => ?_, fun c25 => ?_⟩
        · exact (L _).2 _ _ _ k0 (Nat.lt_succ_self _) (by omega)
        · refine w_38 (d := d + 6) hT hR   (fun r26 q27 => ⟨_, _, rfl, rfl, ?_⟩)
          refine ⟨fun c29 => ?_, fun c29 => ?_⟩
          · exact (L _).2 _ _ _ k0 (Nat.lt_succ_self _) (by omega)
          · refine w_38 (d := d + 6) hT hR   (fun r30 q31 => ⟨_, _, rfl, rfl, ?_⟩)
            refine ⟨fun c33 => ?_, fun c33 => ?_⟩
            · exact (L _).2 _ _ _ k0 (Nat.lt_succ_self _) (by omega)
            · refine w_34 (d := d + 6) hT hR  (by omega) (fun r34 I35 f37 q36 => ⟨_, _, rfl, rfl, ?_⟩)
              have k38 : ∀ k j, ¬ ((k = 1 ∧ 2 ≤ j) ∨ (p ≤ k ∧ k < p + 4)) → I35 k j = I k j := fun k j h => (f37 k j (by omega)).trans (k0 k j h)
              first | have tI35_1_1 := f37 1 1 (by omega) | skip
              first | have tI35_1_3 := f37 1 3 (by omega) | skip
              refine ⟨by omega, ?_⟩
              exact hk _ _ k38 (by omega)
      · refine w_21 (d := d + 4) hT hR (a_Land4 hT hR) (by omega) (by omega) (fun r39 I40 f42 q41 => ⟨_, _, rfl, rfl, ?_⟩)
        have k43 : ∀ k j, ¬ ((k = 1 ∧ 2 ≤ j) ∨ (p ≤ k ∧ k < p + 4)) → I40 k j = I k j := fun k j h => (f42 k j (by omega)).trans (k0 k j h)
        first | have tI40_1_1 := f42 1 1 (by omega) | skip
        first | have tI40_1_3 := f42 1 3 (by omega) | skip
        refine ⟨fun c44 => ?_, fun c44 => ?_⟩
        · refine w_31 (d := d + 1) hT hR  (by omega) (fun I45 f47 q46 => ⟨_, rfl, rfl, ?_⟩)
          have k48 : ∀ k j, ¬ ((k = 1 ∧ 2 ≤ j) ∨ (p ≤ k ∧ k < p + 4)) → I45 k j = I k j := fun k j h => (f47 k j (by omega)).trans (k43 k j h)
          first | have tI45_1_1 := f47 1 1 (by omega) | skip
          first | have tI45_1_3 := f47 1 3 (by omega) | skip
          refine w_46 (d := d + 6) hT hR hp (by omega)  (fun I49 f51 q50 => ⟨_, rfl, rfl, ?_⟩)
          have k52 : ∀ k j, ¬ ((k = 1 ∧ 2 ≤ j) ∨ (p ≤ k ∧ k < p + 4)) → I49 k j = I k j := fun k j h => (f51 k j (by omega)).trans (k48 k j h)
          first | have tI49_1_1 := f51 1 1 (by omega) | skip
          first | have tI49_1_3 := f51 1 3 (by omega) | skip
          exact hk _ _ k52 (by omega)
        · exact hk _ _ k43 (by omega)
    · exact (L _).1 _ _ k0 (Nat.lt_succ_self _) (by omega)
end Sw
