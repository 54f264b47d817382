/-! CONTRACTS of the reference, printed by wip/whole/y/t5.py (96.p1) -/
section Sw
variable {l : Launch} {D : va_G} {cy : Nat → ClassId} {z d bc bs N : Nat} {T : Nat → Nat × Nat} {R : Nat → Nat → Option Nat} {I : Nat → Nat → Int} {K : yKo}
/-- ChairAlleyModel.isSmall(I)Z -/
theorem w_197 (hT : yLT T) (hR : yLR R) {x0 : Int} (hk : ∀ r, ((r = 1 ∧ 97 ≤ x0 ∧ x0 ≤ 122) ∨ (r = 0 ∧ ¬ (97 ≤ x0 ∧ x0 ≤ 122))) → K (some (yi r)) (N, T, R, I)) : yW l zSS D cy zFk z d 197 bc bs K 0 0 0 [(0, yi x0)] [] (N, T, R, I) := by
  refine e_li (i := 0) (x := x0) rfl fun _ _ => ?_
  refine B_197_0 hT hR ?_
  refine ⟨fun c1 => ?_, fun c1 => ?_⟩
  · exact hk _ (by omega)
  · refine ⟨fun c2 => ?_, fun c2 => ?_⟩
    · exact hk _ (by omega)
    · exact hk _ (by omega)
/-- ChairAlleyModel.isDigit(I)Z -/
theorem w_189 (hT : yLT T) (hR : yLR R) {x0 : Int} (hk : ∀ r, ((r = 1 ∧ 48 ≤ x0 ∧ x0 ≤ 57) ∨ (r = 0 ∧ ¬ (48 ≤ x0 ∧ x0 ≤ 57))) → K (some (yi r)) (N, T, R, I)) : yW l zSS D cy zFk z d 189 bc bs K 0 0 0 [(0, yi x0)] [] (N, T, R, I) := by
  refine e_li (i := 0) (x := x0) rfl fun _ _ => ?_
  refine B_189_0 hT hR ?_
  refine ⟨fun c1 => ?_, fun c1 => ?_⟩
  · exact hk _ (by omega)
  · refine ⟨fun c2 => ?_, fun c2 => ?_⟩
    · exact hk _ (by omega)
    · exact hk _ (by omega)
/-- ChairAlleyModel.go()V -/
theorem w_182 (hT : yLT T) (hR : yLR R) (h0 : 0 ≤ I 102 3 ∧ I 102 3 ≤ 940 ∧ 0 ≤ I 102 4 ∧ I 102 4 ≤ 940 ∧ 0 ≤ I 102 14 ∧ I 102 14 ≤ 10000) (hk : ∀ I', (∀ k j, ¬ (k = 102 ∧ (j = 4 ∨ (11 ≤ j ∧ j ≤ 14) ∨ j = 17)) → I' k j = I k j) → ((0 ≤ I' 102 3 ∧ I' 102 3 ≤ 940 ∧ 0 ≤ I' 102 4 ∧ I' 102 4 ≤ 940 ∧ 0 ≤ I' 102 14 ∧ I' 102 14 ≤ 10000)) → K none (N, T, R, I')) : yW l zSS D cy zFk z (d + 1) 182 bc bs K 0 0 0 [(0, yr (some 102))] [] (N, T, R, I) := by
  have k0 : ∀ k j, ¬ (k = 102 ∧ (j = 4 ∨ (11 ≤ j ∧ j ≤ 14) ∨ j = 17)) → I k j = I k j := fun _ _ _ => rfl
  have L : ∀ m : Nat, (∀ X : Nat → Nat → Int, (∀ k j, ¬ (k = 102 ∧ (j = 4 ∨ (11 ≤ j ∧ j ≤ 14) ∨ j = 17)) → X k j = I k j) → (10 * (940 - X 102 4) + 30 : Int).toNat < m → (0 ≤ X 102 3 ∧ X 102 3 ≤ 940 ∧ 0 ≤ X 102 4 ∧ X 102 4 ≤ 940 ∧ 0 ≤ X 102 14 ∧ X 102 14 ≤ 10000) → yW l zSS D cy zFk z (d + 1) 182 bc bs K 0 0 0 [(0, yr (some 102))] [] (N, T, R, X)) ∧ (∀ X : Nat → Nat → Int, (∀ k j, ¬ (k = 102 ∧ (j = 4 ∨ (11 ≤ j ∧ j ≤ 14) ∨ j = 17)) → X k j = I k j) → (10 * (940 - X 102 4) + 28 : Int).toNat < m → (0 ≤ X 102 3 ∧ X 102 3 ≤ 940 ∧ 0 ≤ X 102 4 ∧ X 102 4 ≤ 940 ∧ 0 ≤ X 102 14 ∧ X 102 14 ≤ 10000 ∧ X 102 4 < 940) → yW l zSS D cy zFk z (d + 1) 182 bc bs K 0 0 18 [(0, yr (some 102))] [] (N, T, R, X)) ∧ (∀ X : Nat → Nat → Int, (∀ k j, ¬ (k = 102 ∧ (j = 4 ∨ (11 ≤ j ∧ j ≤ 14) ∨ j = 17)) → X k j = I k j) → (10 * (940 - X 102 4) + 20 : Int).toNat < m → (0 ≤ X 102 3 ∧ X 102 3 ≤ 940 ∧ 0 ≤ X 102 4 ∧ X 102 4 ≤ 940 ∧ 0 ≤ X 102 14 ∧ X 102 14 ≤ 10000 ∧ X 102 13 = 0) → yW l zSS D cy zFk z (d + 1) 182 bc bs K 0 0 80 [(0, yr (some 102))] [] (N, T, R, X)) ∧ (∀ x1 : Int, ∀ X : Nat → Nat → Int, (∀ k j, ¬ (k = 102 ∧ (j = 4 ∨ (11 ≤ j ∧ j ≤ 14) ∨ j = 17)) → X k j = I k j) → (10 * (940 - X 102 4) + 18 : Int).toNat < m → (0 ≤ X 102 3 ∧ X 102 3 ≤ 940 ∧ 0 ≤ X 102 4 ∧ X 102 4 ≤ 940 ∧ 0 ≤ X 102 14 ∧ X 102 14 ≤ 10000 ∧ X 102 13 = 0) → yW l zSS D cy zFk z (d + 1) 182 bc bs K 0 0 164 [(0, yr (some 102)), (1, yi x1)] [] (N, T, R, X)) ∧ (∀ x2 x3 : Int, ∀ X : Nat → Nat → Int, (∀ k j, ¬ (k = 102 ∧ (j = 4 ∨ (11 ≤ j ∧ j ≤ 14) ∨ j = 17)) → X k j = I k j) → (10 * (940 - X 102 4) + 16 : Int).toNat < m → (0 ≤ X 102 3 ∧ X 102 3 ≤ 940 ∧ 0 ≤ X 102 4 ∧ X 102 4 ≤ 940 ∧ 0 ≤ X 102 14 ∧ X 102 14 ≤ 10000 ∧ ((X 102 13 = 0 ∧ X 102 14 = 0) ∨ (X 102 13 = 1 ∧ X 102 14 ≤ 74) ∨ (X 102 13 = 2 ∧ X 102 14 ≤ 814) ∨ (3 ≤ X 102 13 ∧ X 102 14 ≤ 8214)) ∧ X 102 13 ≤ X 102 4) → yW l zSS D cy zFk z (d + 1) 182 bc bs K 0 0 181 [(0, yr (some 102)), (2, yi x2), (3, yi x3)] [] (N, T, R, X)) ∧ (∀ x2 x3 : Int, ∀ X : Nat → Nat → Int, (∀ k j, ¬ (k = 102 ∧ (j = 4 ∨ (11 ≤ j ∧ j ≤ 14) ∨ j = 17)) → X k j = I k j) → (10 * (940 - X 102 4) + 14 : Int).toNat < m → (0 ≤ X 102 3 ∧ X 102 3 ≤ 940 ∧ 0 ≤ X 102 4 ∧ X 102 4 ≤ 940 ∧ 0 ≤ X 102 14 ∧ X 102 14 ≤ 10000 ∧ X 102 4 < X 102 3 ∧ ((48 ≤ mPk X ∧ mPk X ≤ 57) ∨ (97 ≤ mPk X ∧ mPk X ≤ 122)) ∧ ((X 102 13 = 0 ∧ X 102 14 = 0) ∨ (X 102 13 = 1 ∧ X 102 14 ≤ 74) ∨ (X 102 13 = 2 ∧ X 102 14 ≤ 814) ∨ (3 ≤ X 102 13 ∧ X 102 14 ≤ 8214)) ∧ X 102 13 ≤ X 102 4) → yW l zSS D cy zFk z (d + 1) 182 bc bs K 0 0 201 [(0, yr (some 102)), (2, yi x2), (3, yi x3)] [] (N, T, R, X)) ∧ (∀ x2 : Int, ∀ X : Nat → Nat → Int, (∀ k j, ¬ (k = 102 ∧ (j = 4 ∨ (11 ≤ j ∧ j ≤ 14) ∨ j = 17)) → X k j = I k j) → (10 * (940 - X 102 4) + 12 : Int).toNat < m → (0 ≤ X 102 3 ∧ X 102 3 ≤ 940 ∧ 0 ≤ X 102 4 ∧ X 102 4 ≤ 940 ∧ 0 ≤ X 102 14 ∧ X 102 14 ≤ 10000 ∧ X 102 4 < X 102 3 ∧ ((48 ≤ mPk X ∧ mPk X ≤ 57) ∨ (97 ≤ mPk X ∧ mPk X ≤ 122)) ∧ ((X 102 13 = 0 ∧ X 102 14 = 0) ∨ (X 102 13 = 1 ∧ X 102 14 ≤ 74) ∨ (X 102 13 = 2 ∧ X 102 14 ≤ 814) ∨ (3 ≤ X 102 13 ∧ X 102 14 ≤ 8214)) ∧ X 102 13 ≤ X 102 4) → yW l zSS D cy zFk z (d + 1) 182 bc bs K 0 0 220 [(0, yr (some 102)), (2, yi x2)] [] (N, T, R, X)) ∧ (∀ x2 x3 : Int, ∀ X : Nat → Nat → Int, (∀ k j, ¬ (k = 102 ∧ (j = 4 ∨ (11 ≤ j ∧ j ≤ 14) ∨ j = 17)) → X k j = I k j) → (10 * (940 - X 102 4) + 10 : Int).toNat < m → (0 ≤ X 102 3 ∧ X 102 3 ≤ 940 ∧ 0 ≤ X 102 4 ∧ X 102 4 ≤ 940 ∧ 0 ≤ X 102 14 ∧ X 102 14 ≤ 10000 ∧ X 102 4 < X 102 3 ∧ ((48 ≤ mPk X ∧ mPk X ≤ 57) ∨ (97 ≤ mPk X ∧ mPk X ≤ 122)) ∧ ((X 102 13 = 0 ∧ X 102 14 = 0) ∨ (X 102 13 = 1 ∧ X 102 14 ≤ 74) ∨ (X 102 13 = 2 ∧ X 102 14 ≤ 814) ∨ (3 ≤ X 102 13 ∧ X 102 14 ≤ 8214)) ∧ X 102 13 ≤ X 102 4) → yW l zSS D cy zFk z (d + 1) 182 bc bs K 0 0 248 [(0, yr (some 102)), (2, yi x2), (3, yi x3)] [] (N, T, R, X)) ∧ (∀ x2 x3 : Int, ∀ X : Nat → Nat → Int, (∀ k j, ¬ (k = 102 ∧ (j = 4 ∨ (11 ≤ j ∧ j ≤ 14) ∨ j = 17)) → X k j = I k j) → (10 * (940 - X 102 4) + 8 : Int).toNat < m → (0 ≤ X 102 3 ∧ X 102 3 ≤ 940 ∧ 0 ≤ X 102 4 ∧ X 102 4 ≤ 940 ∧ 0 ≤ X 102 14 ∧ X 102 14 ≤ 10000 ∧ X 102 4 < X 102 3 ∧ 0 ≤ X 102 13 ∧ X 102 13 ≤ X 102 4 ∧ ((X 102 13 = 0 ∧ X 102 14 ≤ 74) ∨ (X 102 13 = 1 ∧ X 102 14 ≤ 814) ∨ (2 ≤ X 102 13 ∧ X 102 14 ≤ 8214))) → yW l zSS D cy zFk z (d + 1) 182 bc bs K 0 0 275 [(0, yr (some 102)), (2, yi x2), (3, yi x3)] [] (N, T, R, X)) := by
    intro m
    induction m with
    | zero => exact ⟨fun _ _ h => absurd h (Nat.not_lt_zero _), fun _ _ h => absurd h (Nat.not_lt_zero _), fun _ _ h => absurd h (Nat.not_lt_zero _), fun _ _ _ h => absurd h (Nat.not_lt_zero _), fun _ _ _ _ h => absurd h (Nat.not_lt_zero _), fun _ _ _ _ h => absurd h (Nat.not_lt_zero _), fun _ _ _ h => absurd h (Nat.not_lt_zero _), fun _ _ _ _ h => absurd h (Nat.not_lt_zero _), fun _ _ _ _ h => absurd h (Nat.not_lt_zero _)⟩
    | succ m ih =>
      refine ⟨?_, ?_, ?_, ?_, ?_, ?_, ?_, ?_, ?_⟩
      · intro X kX hm iv
        first | have tX_102_3 := kX 102 3 (by omega) | skip
        first | have tX_102_4 := kX 102 4 (by omega) | skip
        first | have tX_102_14 := kX 102 14 (by omega) | skip
        first | have tX_102_13 := kX 102 13 (by omega) | skip
        refine B_182_0 hT hR ?_
        refine w_225 (d := d) hT hR  (by omega) (fun r1 q2 => ⟨_, _, rfl, rfl, ?_⟩)
        refine ⟨fun c4 => ?_, fun c4 => ?_⟩
        · exact ih.2.1  _ kX (by omega) (by omega)
        · refine w_225 (d := d) hT hR  (by omega) (fun r5 q6 => ⟨_, _, rfl, rfl, ?_⟩)
          refine ⟨fun c8 => ?_, fun c8 => ?_⟩
          · intro I9 e10
            have k11 : ∀ k j, ¬ (k = 102 ∧ (j = 4 ∨ (11 ≤ j ∧ j ≤ 14) ∨ j = 17)) → I9 k j = I k j := fun k j h => ((congrFun (congrFun e10 k) j).trans (yU_ne _ _ (by omega))).trans (kX k j h)
            first | have gI9_mPk : mPk I9 = mPk X := mPk_eq (fun k j h => (congrFun (congrFun e10 k) j).trans (yU_ne _ _ (by omega))) | skip
            first | have tI9_102_3 : I9 102 3 = X 102 3 := (congrFun (congrFun e10 102) 3).trans (yU_ne _ _ (by omega)) | skip
            first | have tI9_102_4 : I9 102 4 = X 102 4 := (congrFun (congrFun e10 102) 4).trans (yU_ne _ _ (by omega)) | skip
            first | have tI9_102_14 : I9 102 14 = X 102 14 := (congrFun (congrFun e10 102) 14).trans (yU_ne _ _ (by omega)) | skip
            first | have tI9_102_13 : I9 102 13 = X 102 13 := (congrFun (congrFun e10 102) 13).trans (yU_ne _ _ (by omega)) | skip
            intro I12 e13
            have k14 : ∀ k j, ¬ (k = 102 ∧ (j = 4 ∨ (11 ≤ j ∧ j ≤ 14) ∨ j = 17)) → I12 k j = I k j := fun k j h => ((congrFun (congrFun e13 k) j).trans (yU_ne _ _ (by omega))).trans (k11 k j h)
            first | have gI12_mPk : mPk I12 = mPk I9 := mPk_eq (fun k j h => (congrFun (congrFun e13 k) j).trans (yU_ne _ _ (by omega))) | skip
            first | have tI12_102_3 : I12 102 3 = I9 102 3 := (congrFun (congrFun e13 102) 3).trans (yU_ne _ _ (by omega)) | skip
            first | have tI12_102_4 : I12 102 4 = I9 102 4 := (congrFun (congrFun e13 102) 4).trans (yU_ne _ _ (by omega)) | skip
            first | have tI12_102_14 : I12 102 14 = I9 102 14 := (congrFun (congrFun e13 102) 14).trans (yU_ne _ _ (by omega)) | skip
            have tI12_102_13 := (congrFun (congrFun e13 102) 13).trans (yU_eq _ _ _ _)
            refine ⟨fun c15 => ?_, fun c15 => ?_⟩
            · exact ih.2.2.1  _ k14 (by omega) (by omega)
            · refine ⟨fun c16 => ?_, fun c16 => ?_⟩
              · exact ih.2.2.1  _ k14 (by omega) (by omega)
              · intro I17 e18
                have k19 : ∀ k j, ¬ (k = 102 ∧ (j = 4 ∨ (11 ≤ j ∧ j ≤ 14) ∨ j = 17)) → I17 k j = I k j := fun k j h => ((congrFun (congrFun e18 k) j).trans (yU_ne _ _ (by omega))).trans (k14 k j h)
                first | have gI17_mPk : mPk I17 = mPk I12 := mPk_eq (fun k j h => (congrFun (congrFun e18 k) j).trans (yU_ne _ _ (by omega))) | skip
                first | have tI17_102_3 : I17 102 3 = I12 102 3 := (congrFun (congrFun e18 102) 3).trans (yU_ne _ _ (by omega)) | skip
                first | have tI17_102_4 : I17 102 4 = I12 102 4 := (congrFun (congrFun e18 102) 4).trans (yU_ne _ _ (by omega)) | skip
                first | have tI17_102_14 : I17 102 14 = I12 102 14 := (congrFun (congrFun e18 102) 14).trans (yU_ne _ _ (by omega)) | skip
                first | have tI17_102_13 : I17 102 13 = I12 102 13 := (congrFun (congrFun e18 102) 13).trans (yU_ne _ _ (by omega)) | skip
                intro I20 e21
                have k22 : ∀ k j, ¬ (k = 102 ∧ (j = 4 ∨ (11 ≤ j ∧ j ≤ 14) ∨ j = 17)) → I20 k j = I k j := fun k j h => ((congrFun (congrFun e21 k) j).trans (yU_ne _ _ (by omega))).trans (k19 k j h)
                first | have gI20_mPk : mPk I20 = mPk I17 := mPk_eq (fun k j h => (congrFun (congrFun e21 k) j).trans (yU_ne _ _ (by omega))) | skip
                first | have tI20_102_3 : I20 102 3 = I17 102 3 := (congrFun (congrFun e21 102) 3).trans (yU_ne _ _ (by omega)) | skip
                first | have tI20_102_4 : I20 102 4 = I17 102 4 := (congrFun (congrFun e21 102) 4).trans (yU_ne _ _ (by omega)) | skip
                first | have tI20_102_14 : I20 102 14 = I17 102 14 := (congrFun (congrFun e21 102) 14).trans (yU_ne _ _ (by omega)) | skip
                first | have tI20_102_13 : I20 102 13 = I17 102 13 := (congrFun (congrFun e21 102) 13).trans (yU_ne _ _ (by omega)) | skip
                exact hk _ k22 (by omega)
          · exact ih.2.1  _ kX (by omega) (by omega)
      · intro X kX hm iv
        first | have tX_102_3 := kX 102 3 (by omega) | skip
        first | have tX_102_4 := kX 102 4 (by omega) | skip
        first | have tX_102_14 := kX 102 14 (by omega) | skip
        first | have tX_102_13 := kX 102 13 (by omega) | skip
        refine B_182_18 hT hR ?_
        have a23 : yadd (X 102 4) 1 = ((X 102 4) + 1) := yadd_eq (by omega) (by omega)
        try rw [a23]
        intro I24 e25
        have k26 : ∀ k j, ¬ (k = 102 ∧ (j = 4 ∨ (11 ≤ j ∧ j ≤ 14) ∨ j = 17)) → I24 k j = I k j := fun k j h => ((congrFun (congrFun e25 k) j).trans (yU_ne _ _ (by omega))).trans (kX k j h)
        first | have gI24_mPk : mPk I24 = mPk X := mPk_eq (fun k j h => (congrFun (congrFun e25 k) j).trans (yU_ne _ _ (by omega))) | skip
        first | have tI24_102_3 : I24 102 3 = X 102 3 := (congrFun (congrFun e25 102) 3).trans (yU_ne _ _ (by omega)) | skip
        have tI24_102_4 := (congrFun (congrFun e25 102) 4).trans (yU_eq _ _ _ _)
        first | have tI24_102_14 : I24 102 14 = X 102 14 := (congrFun (congrFun e25 102) 14).trans (yU_ne _ _ (by omega)) | skip
        first | have tI24_102_13 : I24 102 13 = X 102 13 := (congrFun (congrFun e25 102) 13).trans (yU_ne _ _ (by omega)) | skip
        exact ih.1  _ k26 (by omega) (by omega)
      · intro X kX hm iv
        first | have tX_102_3 := kX 102 3 (by omega) | skip
        first | have tX_102_4 := kX 102 4 (by omega) | skip
        first | have tX_102_14 := kX 102 14 (by omega) | skip
        first | have tX_102_13 := kX 102 13 (by omega) | skip
        refine B_182_80 hT hR ?_
        refine w_225 (d := d) hT hR  (by omega) (fun r27 q28 => ⟨_, _, rfl, rfl, ?_⟩)
        refine ⟨fun c30 => ?_, fun c30 => ?_⟩
        · refine w_197 (d := d) hT hR   (fun r31 q32 => ⟨_, _, rfl, rfl, ?_⟩)
          refine ⟨fun c34 => ?_, fun c34 => ?_⟩
          · exact ih.2.2.2.1 _ _ kX (by omega) (by omega)
          · refine w_189 (d := d) hT hR   (fun r35 q36 => ⟨_, _, rfl, rfl, ?_⟩)
            refine ⟨fun c38 => ?_, fun c38 => ?_⟩
            · exact ih.2.2.2.1 _ _ kX (by omega) (by omega)
            · refine ⟨fun c39 => ?_, fun c39 => ?_⟩
              · intro I40 e41
                have k42 : ∀ k j, ¬ (k = 102 ∧ (j = 4 ∨ (11 ≤ j ∧ j ≤ 14) ∨ j = 17)) → I40 k j = I k j := fun k j h => ((congrFun (congrFun e41 k) j).trans (yU_ne _ _ (by omega))).trans (kX k j h)
                first | have gI40_mPk : mPk I40 = mPk X := mPk_eq (fun k j h => (congrFun (congrFun e41 k) j).trans (yU_ne _ _ (by omega))) | skip
                first | have tI40_102_3 : I40 102 3 = X 102 3 := (congrFun (congrFun e41 102) 3).trans (yU_ne _ _ (by omega)) | skip
                first | have tI40_102_4 : I40 102 4 = X 102 4 := (congrFun (congrFun e41 102) 4).trans (yU_ne _ _ (by omega)) | skip
                first | have tI40_102_14 : I40 102 14 = X 102 14 := (congrFun (congrFun e41 102) 14).trans (yU_ne _ _ (by omega)) | skip
                first | have tI40_102_13 : I40 102 13 = X 102 13 := (congrFun (congrFun e41 102) 13).trans (yU_ne _ _ (by omega)) | skip
                intro I43 e44
                have k45 : ∀ k j, ¬ (k = 102 ∧ (j = 4 ∨ (11 ≤ j ∧ j ≤ 14) ∨ j = 17)) → I43 k j = I k j := fun k j h => ((congrFun (congrFun e44 k) j).trans (yU_ne _ _ (by omega))).trans (k42 k j h)
                first | have gI43_mPk : mPk I43 = mPk I40 := mPk_eq (fun k j h => (congrFun (congrFun e44 k) j).trans (yU_ne _ _ (by omega))) | skip
                first | have tI43_102_3 : I43 102 3 = I40 102 3 := (congrFun (congrFun e44 102) 3).trans (yU_ne _ _ (by omega)) | skip
                first | have tI43_102_4 : I43 102 4 = I40 102 4 := (congrFun (congrFun e44 102) 4).trans (yU_ne _ _ (by omega)) | skip
                have tI43_102_14 := (congrFun (congrFun e44 102) 14).trans (yU_eq _ _ _ _)
                first | have tI43_102_13 : I43 102 13 = I40 102 13 := (congrFun (congrFun e44 102) 13).trans (yU_ne _ _ (by omega)) | skip
                have a46 : yadd (I43 102 4) 1 = ((I43 102 4) + 1) := yadd_eq (by omega) (by omega)
                try rw [a46]
                intro I47 e48
                have k49 : ∀ k j, ¬ (k = 102 ∧ (j = 4 ∨ (11 ≤ j ∧ j ≤ 14) ∨ j = 17)) → I47 k j = I k j := fun k j h => ((congrFun (congrFun e48 k) j).trans (yU_ne _ _ (by omega))).trans (k45 k j h)
                first | have gI47_mPk : mPk I47 = mPk I43 := mPk_eq (fun k j h => (congrFun (congrFun e48 k) j).trans (yU_ne _ _ (by omega))) | skip
                first | have tI47_102_3 : I47 102 3 = I43 102 3 := (congrFun (congrFun e48 102) 3).trans (yU_ne _ _ (by omega)) | skip
                have tI47_102_4 := (congrFun (congrFun e48 102) 4).trans (yU_eq _ _ _ _)
                first | have tI47_102_14 : I47 102 14 = I43 102 14 := (congrFun (congrFun e48 102) 14).trans (yU_ne _ _ (by omega)) | skip
                first | have tI47_102_13 : I47 102 13 = I43 102 13 := (congrFun (congrFun e48 102) 13).trans (yU_ne _ _ (by omega)) | skip
                exact hk _ k49 (by omega)
              · refine ⟨fun c50 => ?_, fun c50 => ?_⟩
                · intro I51 e52
                  have k53 : ∀ k j, ¬ (k = 102 ∧ (j = 4 ∨ (11 ≤ j ∧ j ≤ 14) ∨ j = 17)) → I51 k j = I k j := fun k j h => ((congrFun (congrFun e52 k) j).trans (yU_ne _ _ (by omega))).trans (kX k j h)
                  first | have gI51_mPk : mPk I51 = mPk X := mPk_eq (fun k j h => (congrFun (congrFun e52 k) j).trans (yU_ne _ _ (by omega))) | skip
                  first | have tI51_102_3 : I51 102 3 = X 102 3 := (congrFun (congrFun e52 102) 3).trans (yU_ne _ _ (by omega)) | skip
                  first | have tI51_102_4 : I51 102 4 = X 102 4 := (congrFun (congrFun e52 102) 4).trans (yU_ne _ _ (by omega)) | skip
                  first | have tI51_102_14 : I51 102 14 = X 102 14 := (congrFun (congrFun e52 102) 14).trans (yU_ne _ _ (by omega)) | skip
                  first | have tI51_102_13 : I51 102 13 = X 102 13 := (congrFun (congrFun e52 102) 13).trans (yU_ne _ _ (by omega)) | skip
                  intro I54 e55
                  have k56 : ∀ k j, ¬ (k = 102 ∧ (j = 4 ∨ (11 ≤ j ∧ j ≤ 14) ∨ j = 17)) → I54 k j = I k j := fun k j h => ((congrFun (congrFun e55 k) j).trans (yU_ne _ _ (by omega))).trans (k53 k j h)
                  first | have gI54_mPk : mPk I54 = mPk I51 := mPk_eq (fun k j h => (congrFun (congrFun e55 k) j).trans (yU_ne _ _ (by omega))) | skip
                  first | have tI54_102_3 : I54 102 3 = I51 102 3 := (congrFun (congrFun e55 102) 3).trans (yU_ne _ _ (by omega)) | skip
                  first | have tI54_102_4 : I54 102 4 = I51 102 4 := (congrFun (congrFun e55 102) 4).trans (yU_ne _ _ (by omega)) | skip
                  have tI54_102_14 := (congrFun (congrFun e55 102) 14).trans (yU_eq _ _ _ _)
                  first | have tI54_102_13 : I54 102 13 = I51 102 13 := (congrFun (congrFun e55 102) 13).trans (yU_ne _ _ (by omega)) | skip
                  have a57 : yadd (I54 102 4) 1 = ((I54 102 4) + 1) := yadd_eq (by omega) (by omega)
                  try rw [a57]
                  intro I58 e59
                  have k60 : ∀ k j, ¬ (k = 102 ∧ (j = 4 ∨ (11 ≤ j ∧ j ≤ 14) ∨ j = 17)) → I58 k j = I k j := fun k j h => ((congrFun (congrFun e59 k) j).trans (yU_ne _ _ (by omega))).trans (k56 k j h)
                  first | have gI58_mPk : mPk I58 = mPk I54 := mPk_eq (fun k j h => (congrFun (congrFun e59 k) j).trans (yU_ne _ _ (by omega))) | skip
                  first | have tI58_102_3 : I58 102 3 = I54 102 3 := (congrFun (congrFun e59 102) 3).trans (yU_ne _ _ (by omega)) | skip
                  have tI58_102_4 := (congrFun (congrFun e59 102) 4).trans (yU_eq _ _ _ _)
                  first | have tI58_102_14 : I58 102 14 = I54 102 14 := (congrFun (congrFun e59 102) 14).trans (yU_ne _ _ (by omega)) | skip
                  first | have tI58_102_13 : I58 102 13 = I54 102 13 := (congrFun (congrFun e59 102) 13).trans (yU_ne _ _ (by omega)) | skip
                  exact hk _ k60 (by omega)
                · refine ⟨fun c61 => ?_, fun c61 => ?_⟩
                  · intro I62 e63
                    have k64 : ∀ k j, ¬ (k = 102 ∧ (j = 4 ∨ (11 ≤ j ∧ j ≤ 14) ∨ j = 17)) → I62 k j = I k j := fun k j h => ((congrFun (congrFun e63 k) j).trans (yU_ne _ _ (by omega))).trans (kX k j h)
                    first | have gI62_mPk : mPk I62 = mPk X := mPk_eq (fun k j h => (congrFun (congrFun e63 k) j).trans (yU_ne _ _ (by omega))) | skip
                    first | have tI62_102_3 : I62 102 3 = X 102 3 := (congrFun (congrFun e63 102) 3).trans (yU_ne _ _ (by omega)) | skip
                    first | have tI62_102_4 : I62 102 4 = X 102 4 := (congrFun (congrFun e63 102) 4).trans (yU_ne _ _ (by omega)) | skip
                    first | have tI62_102_14 : I62 102 14 = X 102 14 := (congrFun (congrFun e63 102) 14).trans (yU_ne _ _ (by omega)) | skip
                    first | have tI62_102_13 : I62 102 13 = X 102 13 := (congrFun (congrFun e63 102) 13).trans (yU_ne _ _ (by omega)) | skip
                    intro I65 e66
                    have k67 : ∀ k j, ¬ (k = 102 ∧ (j = 4 ∨ (11 ≤ j ∧ j ≤ 14) ∨ j = 17)) → I65 k j = I k j := fun k j h => ((congrFun (congrFun e66 k) j).trans (yU_ne _ _ (by omega))).trans (k64 k j h)
                    first | have gI65_mPk : mPk I65 = mPk I62 := mPk_eq (fun k j h => (congrFun (congrFun e66 k) j).trans (yU_ne _ _ (by omega))) | skip
                    first | have tI65_102_3 : I65 102 3 = I62 102 3 := (congrFun (congrFun e66 102) 3).trans (yU_ne _ _ (by omega)) | skip
                    first | have tI65_102_4 : I65 102 4 = I62 102 4 := (congrFun (congrFun e66 102) 4).trans (yU_ne _ _ (by omega)) | skip
                    have tI65_102_14 := (congrFun (congrFun e66 102) 14).trans (yU_eq _ _ _ _)
                    first | have tI65_102_13 : I65 102 13 = I62 102 13 := (congrFun (congrFun e66 102) 13).trans (yU_ne _ _ (by omega)) | skip
                    have a68 : yadd (I65 102 4) 1 = ((I65 102 4) + 1) := yadd_eq (by omega) (by omega)
                    try rw [a68]
                    intro I69 e70
                    have k71 : ∀ k j, ¬ (k = 102 ∧ (j = 4 ∨ (11 ≤ j ∧ j ≤ 14) ∨ j = 17)) → I69 k j = I k j := fun k j h => ((congrFun (congrFun e70 k) j).trans (yU_ne _ _ (by omega))).trans (k67 k j h)
                    first | have gI69_mPk : mPk I69 = mPk I65 := mPk_eq (fun k j h => (congrFun (congrFun e70 k) j).trans (yU_ne _ _ (by omega))) | skip
                    first | have tI69_102_3 : I69 102 3 = I65 102 3 := (congrFun (congrFun e70 102) 3).trans (yU_ne _ _ (by omega)) | skip
                    have tI69_102_4 := (congrFun (congrFun e70 102) 4).trans (yU_eq _ _ _ _)
                    first | have tI69_102_14 : I69 102 14 = I65 102 14 := (congrFun (congrFun e70 102) 14).trans (yU_ne _ _ (by omega)) | skip
                    first | have tI69_102_13 : I69 102 13 = I65 102 13 := (congrFun (congrFun e70 102) 13).trans (yU_ne _ _ (by omega)) | skip
                    exact hk _ k71 (by omega)
                  · refine ⟨fun c72 => ?_, fun c72 => ?_⟩
                    · intro I73 e74
                      have k75 : ∀ k j, ¬ (k = 102 ∧ (j = 4 ∨ (11 ≤ j ∧ j ≤ 14) ∨ j = 17)) → I73 k j = I k j := fun k j h => ((congrFun (congrFun e74 k) j).trans (yU_ne _ _ (by omega))).trans (kX k j h)
                      first | have gI73_mPk : mPk I73 = mPk X := mPk_eq (fun k j h => (congrFun (congrFun e74 k) j).trans (yU_ne _ _ (by omega))) | skip
                      first | have tI73_102_3 : I73 102 3 = X 102 3 := (congrFun (congrFun e74 102) 3).trans (yU_ne _ _ (by omega)) | skip
                      first | have tI73_102_4 : I73 102 4 = X 102 4 := (congrFun (congrFun e74 102) 4).trans (yU_ne _ _ (by omega)) | skip
                      first | have tI73_102_14 : I73 102 14 = X 102 14 := (congrFun (congrFun e74 102) 14).trans (yU_ne _ _ (by omega)) | skip
                      first | have tI73_102_13 : I73 102 13 = X 102 13 := (congrFun (congrFun e74 102) 13).trans (yU_ne _ _ (by omega)) | skip
                      intro I76 e77
                      have k78 : ∀ k j, ¬ (k = 102 ∧ (j = 4 ∨ (11 ≤ j ∧ j ≤ 14) ∨ j = 17)) → I76 k j = I k j := fun k j h => ((congrFun (congrFun e77 k) j).trans (yU_ne _ _ (by omega))).trans (k75 k j h)
                      first | have gI76_mPk : mPk I76 = mPk I73 := mPk_eq (fun k j h => (congrFun (congrFun e77 k) j).trans (yU_ne _ _ (by omega))) | skip
                      first | have tI76_102_3 : I76 102 3 = I73 102 3 := (congrFun (congrFun e77 102) 3).trans (yU_ne _ _ (by omega)) | skip
                      first | have tI76_102_4 : I76 102 4 = I73 102 4 := (congrFun (congrFun e77 102) 4).trans (yU_ne _ _ (by omega)) | skip
                      have tI76_102_14 := (congrFun (congrFun e77 102) 14).trans (yU_eq _ _ _ _)
                      first | have tI76_102_13 : I76 102 13 = I73 102 13 := (congrFun (congrFun e77 102) 13).trans (yU_ne _ _ (by omega)) | skip
                      have a79 : yadd (I76 102 4) 1 = ((I76 102 4) + 1) := yadd_eq (by omega) (by omega)
                      try rw [a79]
                      intro I80 e81
                      have k82 : ∀ k j, ¬ (k = 102 ∧ (j = 4 ∨ (11 ≤ j ∧ j ≤ 14) ∨ j = 17)) → I80 k j = I k j := fun k j h => ((congrFun (congrFun e81 k) j).trans (yU_ne _ _ (by omega))).trans (k78 k j h)
                      first | have gI80_mPk : mPk I80 = mPk I76 := mPk_eq (fun k j h => (congrFun (congrFun e81 k) j).trans (yU_ne _ _ (by omega))) | skip
                      first | have tI80_102_3 : I80 102 3 = I76 102 3 := (congrFun (congrFun e81 102) 3).trans (yU_ne _ _ (by omega)) | skip
                      have tI80_102_4 := (congrFun (congrFun e81 102) 4).trans (yU_eq _ _ _ _)
                      first | have tI80_102_14 : I80 102 14 = I76 102 14 := (congrFun (congrFun e81 102) 14).trans (yU_ne _ _ (by omega)) | skip
                      first | have tI80_102_13 : I80 102 13 = I76 102 13 := (congrFun (congrFun e81 102) 13).trans (yU_ne _ _ (by omega)) | skip
                      exact hk _ k82 (by omega)
                    · refine ⟨fun c83 => ?_, fun c83 => ?_⟩
                      · intro I84 e85
                        have k86 : ∀ k j, ¬ (k = 102 ∧ (j = 4 ∨ (11 ≤ j ∧ j ≤ 14) ∨ j = 17)) → I84 k j = I k j := fun k j h => ((congrFun (congrFun e85 k) j).trans (yU_ne _ _ (by omega))).trans (kX k j h)
                        first | have gI84_mPk : mPk I84 = mPk X := mPk_eq (fun k j h => (congrFun (congrFun e85 k) j).trans (yU_ne _ _ (by omega))) | skip
                        first | have tI84_102_3 : I84 102 3 = X 102 3 := (congrFun (congrFun e85 102) 3).trans (yU_ne _ _ (by omega)) | skip
                        first | have tI84_102_4 : I84 102 4 = X 102 4 := (congrFun (congrFun e85 102) 4).trans (yU_ne _ _ (by omega)) | skip
                        first | have tI84_102_14 : I84 102 14 = X 102 14 := (congrFun (congrFun e85 102) 14).trans (yU_ne _ _ (by omega)) | skip
                        first | have tI84_102_13 : I84 102 13 = X 102 13 := (congrFun (congrFun e85 102) 13).trans (yU_ne _ _ (by omega)) | skip
                        intro I87 e88
                        have k89 : ∀ k j, ¬ (k = 102 ∧ (j = 4 ∨ (11 ≤ j ∧ j ≤ 14) ∨ j = 17)) → I87 k j = I k j := fun k j h => ((congrFun (congrFun e88 k) j).trans (yU_ne _ _ (by omega))).trans (k86 k j h)
                        first | have gI87_mPk : mPk I87 = mPk I84 := mPk_eq (fun k j h => (congrFun (congrFun e88 k) j).trans (yU_ne _ _ (by omega))) | skip
                        first | have tI87_102_3 : I87 102 3 = I84 102 3 := (congrFun (congrFun e88 102) 3).trans (yU_ne _ _ (by omega)) | skip
                        first | have tI87_102_4 : I87 102 4 = I84 102 4 := (congrFun (congrFun e88 102) 4).trans (yU_ne _ _ (by omega)) | skip
                        have tI87_102_14 := (congrFun (congrFun e88 102) 14).trans (yU_eq _ _ _ _)
                        first | have tI87_102_13 : I87 102 13 = I84 102 13 := (congrFun (congrFun e88 102) 13).trans (yU_ne _ _ (by omega)) | skip
                        have a90 : yadd (I87 102 4) 1 = ((I87 102 4) + 1) := yadd_eq (by omega) (by omega)
                        try rw [a90]
                        intro I91 e92
                        have k93 : ∀ k j, ¬ (k = 102 ∧ (j = 4 ∨ (11 ≤ j ∧ j ≤ 14) ∨ j = 17)) → I91 k j = I k j := fun k j h => ((congrFun (congrFun e92 k) j).trans (yU_ne _ _ (by omega))).trans (k89 k j h)
                        first | have gI91_mPk : mPk I91 = mPk I87 := mPk_eq (fun k j h => (congrFun (congrFun e92 k) j).trans (yU_ne _ _ (by omega))) | skip
                        first | have tI91_102_3 : I91 102 3 = I87 102 3 := (congrFun (congrFun e92 102) 3).trans (yU_ne _ _ (by omega)) | skip
                        have tI91_102_4 := (congrFun (congrFun e92 102) 4).trans (yU_eq _ _ _ _)
                        first | have tI91_102_14 : I91 102 14 = I87 102 14 := (congrFun (congrFun e92 102) 14).trans (yU_ne _ _ (by omega)) | skip
                        first | have tI91_102_13 : I91 102 13 = I87 102 13 := (congrFun (congrFun e92 102) 13).trans (yU_ne _ _ (by omega)) | skip
                        exact hk _ k93 (by omega)
                      · intro I94 e95
                        have k96 : ∀ k j, ¬ (k = 102 ∧ (j = 4 ∨ (11 ≤ j ∧ j ≤ 14) ∨ j = 17)) → I94 k j = I k j := fun k j h => ((congrFun (congrFun e95 k) j).trans (yU_ne _ _ (by omega))).trans (kX k j h)
                        first | have gI94_mPk : mPk I94 = mPk X := mPk_eq (fun k j h => (congrFun (congrFun e95 k) j).trans (yU_ne _ _ (by omega))) | skip
                        first | have tI94_102_3 : I94 102 3 = X 102 3 := (congrFun (congrFun e95 102) 3).trans (yU_ne _ _ (by omega)) | skip
                        first | have tI94_102_4 : I94 102 4 = X 102 4 := (congrFun (congrFun e95 102) 4).trans (yU_ne _ _ (by omega)) | skip
                        first | have tI94_102_14 : I94 102 14 = X 102 14 := (congrFun (congrFun e95 102) 14).trans (yU_ne _ _ (by omega)) | skip
                        first | have tI94_102_13 : I94 102 13 = X 102 13 := (congrFun (congrFun e95 102) 13).trans (yU_ne _ _ (by omega)) | skip
                        intro I97 e98
                        have k99 : ∀ k j, ¬ (k = 102 ∧ (j = 4 ∨ (11 ≤ j ∧ j ≤ 14) ∨ j = 17)) → I97 k j = I k j := fun k j h => ((congrFun (congrFun e98 k) j).trans (yU_ne _ _ (by omega))).trans (k96 k j h)
                        first | have gI97_mPk : mPk I97 = mPk I94 := mPk_eq (fun k j h => (congrFun (congrFun e98 k) j).trans (yU_ne _ _ (by omega))) | skip
                        first | have tI97_102_3 : I97 102 3 = I94 102 3 := (congrFun (congrFun e98 102) 3).trans (yU_ne _ _ (by omega)) | skip
                        first | have tI97_102_4 : I97 102 4 = I94 102 4 := (congrFun (congrFun e98 102) 4).trans (yU_ne _ _ (by omega)) | skip
                        have tI97_102_14 := (congrFun (congrFun e98 102) 14).trans (yU_eq _ _ _ _)
                        first | have tI97_102_13 : I97 102 13 = I94 102 13 := (congrFun (congrFun e98 102) 13).trans (yU_ne _ _ (by omega)) | skip
                        have a100 : yadd (I97 102 4) 1 = ((I97 102 4) + 1) := yadd_eq (by omega) (by omega)
                        try rw [a100]
                        intro I101 e102
                        have k103 : ∀ k j, ¬ (k = 102 ∧ (j = 4 ∨ (11 ≤ j ∧ j ≤ 14) ∨ j = 17)) → I101 k j = I k j := fun k j h => ((congrFun (congrFun e102 k) j).trans (yU_ne _ _ (by omega))).trans (k99 k j h)
                        first | have gI101_mPk : mPk I101 = mPk I97 := mPk_eq (fun k j h => (congrFun (congrFun e102 k) j).trans (yU_ne _ _ (by omega))) | skip
                        first | have tI101_102_3 : I101 102 3 = I97 102 3 := (congrFun (congrFun e102 102) 3).trans (yU_ne _ _ (by omega)) | skip
                        have tI101_102_4 := (congrFun (congrFun e102 102) 4).trans (yU_eq _ _ _ _)
                        first | have tI101_102_14 : I101 102 14 = I97 102 14 := (congrFun (congrFun e102 102) 14).trans (yU_ne _ _ (by omega)) | skip
                        first | have tI101_102_13 : I101 102 13 = I97 102 13 := (congrFun (congrFun e102 102) 13).trans (yU_ne _ _ (by omega)) | skip
                        exact hk _ k103 (by omega)
        · intro I104 e105
          have k106 : ∀ k j, ¬ (k = 102 ∧ (j = 4 ∨ (11 ≤ j ∧ j ≤ 14) ∨ j = 17)) → I104 k j = I k j := fun k j h => ((congrFun (congrFun e105 k) j).trans (yU_ne _ _ (by omega))).trans (kX k j h)
          first | have gI104_mPk : mPk I104 = mPk X := mPk_eq (fun k j h => (congrFun (congrFun e105 k) j).trans (yU_ne _ _ (by omega))) | skip
          first | have tI104_102_3 : I104 102 3 = X 102 3 := (congrFun (congrFun e105 102) 3).trans (yU_ne _ _ (by omega)) | skip
          first | have tI104_102_4 : I104 102 4 = X 102 4 := (congrFun (congrFun e105 102) 4).trans (yU_ne _ _ (by omega)) | skip
          first | have tI104_102_14 : I104 102 14 = X 102 14 := (congrFun (congrFun e105 102) 14).trans (yU_ne _ _ (by omega)) | skip
          first | have tI104_102_13 : I104 102 13 = X 102 13 := (congrFun (congrFun e105 102) 13).trans (yU_ne _ _ (by omega)) | skip
          exact hk _ k106 (by omega)
      · intro x1 X kX hm iv
        first | have tX_102_3 := kX 102 3 (by omega) | skip
        first | have tX_102_4 := kX 102 4 (by omega) | skip
        first | have tX_102_14 := kX 102 14 (by omega) | skip
        first | have tX_102_13 := kX 102 13 (by omega) | skip
        refine e_li (i := 1) (x := x1) rfl fun _ _ => ?_
        refine B_182_164 hT hR ?_
        refine w_197 (d := d) hT hR   (fun r107 q108 => ⟨_, _, rfl, rfl, ?_⟩)
        intro I110 e111
        have k112 : ∀ k j, ¬ (k = 102 ∧ (j = 4 ∨ (11 ≤ j ∧ j ≤ 14) ∨ j = 17)) → I110 k j = I k j := fun k j h => ((congrFun (congrFun e111 k) j).trans (yU_ne _ _ (by omega))).trans (kX k j h)
        first | have gI110_mPk : mPk I110 = mPk X := mPk_eq (fun k j h => (congrFun (congrFun e111 k) j).trans (yU_ne _ _ (by omega))) | skip
        first | have tI110_102_3 : I110 102 3 = X 102 3 := (congrFun (congrFun e111 102) 3).trans (yU_ne _ _ (by omega)) | skip
        first | have tI110_102_4 : I110 102 4 = X 102 4 := (congrFun (congrFun e111 102) 4).trans (yU_ne _ _ (by omega)) | skip
        first | have tI110_102_14 : I110 102 14 = X 102 14 := (congrFun (congrFun e111 102) 14).trans (yU_ne _ _ (by omega)) | skip
        first | have tI110_102_13 : I110 102 13 = X 102 13 := (congrFun (congrFun e111 102) 13).trans (yU_ne _ _ (by omega)) | skip
        intro I113 e114
        have k115 : ∀ k j, ¬ (k = 102 ∧ (j = 4 ∨ (11 ≤ j ∧ j ≤ 14) ∨ j = 17)) → I113 k j = I k j := fun k j h => ((congrFun (congrFun e114 k) j).trans (yU_ne _ _ (by omega))).trans (k112 k j h)
        first | have gI113_mPk : mPk I113 = mPk I110 := mPk_eq (fun k j h => (congrFun (congrFun e114 k) j).trans (yU_ne _ _ (by omega))) | skip
        first | have tI113_102_3 : I113 102 3 = I110 102 3 := (congrFun (congrFun e114 102) 3).trans (yU_ne _ _ (by omega)) | skip
        first | have tI113_102_4 : I113 102 4 = I110 102 4 := (congrFun (congrFun e114 102) 4).trans (yU_ne _ _ (by omega)) | skip
        have tI113_102_14 := (congrFun (congrFun e114 102) 14).trans (yU_eq _ _ _ _)
        first | have tI113_102_13 : I113 102 13 = I110 102 13 := (congrFun (congrFun e114 102) 13).trans (yU_ne _ _ (by omega)) | skip
        exact ih.2.2.2.2.1 _ _ _ k115 (by omega) (by omega)
      · intro x2 x3 X kX hm iv
        first | have tX_102_3 := kX 102 3 (by omega) | skip
        first | have tX_102_4 := kX 102 4 (by omega) | skip
        first | have tX_102_14 := kX 102 14 (by omega) | skip
        first | have tX_102_13 := kX 102 13 (by omega) | skip
        refine e_li (i := 2) (x := x2) rfl fun _ _ => ?_
        refine e_li (i := 3) (x := x3) rfl fun _ _ => ?_
        refine B_182_181 hT hR ?_
        refine w_225 (d := d) hT hR  (by omega) (fun r116 q117 => ⟨_, _, rfl, rfl, ?_⟩)
        refine w_197 (d := d) hT hR   (fun r119 q120 => ⟨_, _, rfl, rfl, ?_⟩)
        refine ⟨fun c122 => ?_, fun c122 => ?_⟩
        · exact ih.2.2.2.2.2.1 _ _ _ kX (by omega) (by omega)
        · refine w_225 (d := d) hT hR  (by omega) (fun r123 q124 => ⟨_, _, rfl, rfl, ?_⟩)
          refine w_189 (d := d) hT hR   (fun r126 q127 => ⟨_, _, rfl, rfl, ?_⟩)
          refine ⟨fun c129 => ?_, fun c129 => ?_⟩
          · refine ⟨fun c130 => ?_, fun c130 => ?_⟩
            · intro I131 e132
              have k133 : ∀ k j, ¬ (k = 102 ∧ (j = 4 ∨ (11 ≤ j ∧ j ≤ 14) ∨ j = 17)) → I131 k j = I k j := fun k j h => ((congrFun (congrFun e132 k) j).trans (yU_ne _ _ (by omega))).trans (kX k j h)
              first | have gI131_mPk : mPk I131 = mPk X := mPk_eq (fun k j h => (congrFun (congrFun e132 k) j).trans (yU_ne _ _ (by omega))) | skip
              first | have tI131_102_3 : I131 102 3 = X 102 3 := (congrFun (congrFun e132 102) 3).trans (yU_ne _ _ (by omega)) | skip
              first | have tI131_102_4 : I131 102 4 = X 102 4 := (congrFun (congrFun e132 102) 4).trans (yU_ne _ _ (by omega)) | skip
              first | have tI131_102_14 : I131 102 14 = X 102 14 := (congrFun (congrFun e132 102) 14).trans (yU_ne _ _ (by omega)) | skip
              first | have tI131_102_13 : I131 102 13 = X 102 13 := (congrFun (congrFun e132 102) 13).trans (yU_ne _ _ (by omega)) | skip
              exact hk _ k133 (by omega)
            · refine ⟨fun c134 => ?_, fun c134 => ?_⟩
              · refine ⟨fun c135 => ?_, fun c135 => ?_⟩
                · refine ⟨fun c136 => ?_, fun c136 => ?_⟩
                  · intro I137 e138
                    have k139 : ∀ k j, ¬ (k = 102 ∧ (j = 4 ∨ (11 ≤ j ∧ j ≤ 14) ∨ j = 17)) → I137 k j = I k j := fun k j h => ((congrFun (congrFun e138 k) j).trans (yU_ne _ _ (by omega))).trans (kX k j h)
                    first | have gI137_mPk : mPk I137 = mPk X := mPk_eq (fun k j h => (congrFun (congrFun e138 k) j).trans (yU_ne _ _ (by omega))) | skip
                    first | have tI137_102_3 : I137 102 3 = X 102 3 := (congrFun (congrFun e138 102) 3).trans (yU_ne _ _ (by omega)) | skip
                    first | have tI137_102_4 : I137 102 4 = X 102 4 := (congrFun (congrFun e138 102) 4).trans (yU_ne _ _ (by omega)) | skip
                    first | have tI137_102_14 : I137 102 14 = X 102 14 := (congrFun (congrFun e138 102) 14).trans (yU_ne _ _ (by omega)) | skip
                    first | have tI137_102_13 : I137 102 13 = X 102 13 := (congrFun (congrFun e138 102) 13).trans (yU_ne _ _ (by omega)) | skip
                    exact hk _ k139 (by omega)
                  · intro I140 e141
                    have k142 : ∀ k j, ¬ (k = 102 ∧ (j = 4 ∨ (11 ≤ j ∧ j ≤ 14) ∨ j = 17)) → I140 k j = I k j := fun k j h => ((congrFun (congrFun e141 k) j).trans (yU_ne _ _ (by omega))).trans (kX k j h)
                    first | have gI140_mPk : mPk I140 = mPk X := mPk_eq (fun k j h => (congrFun (congrFun e141 k) j).trans (yU_ne _ _ (by omega))) | skip
                    first | have tI140_102_3 : I140 102 3 = X 102 3 := (congrFun (congrFun e141 102) 3).trans (yU_ne _ _ (by omega)) | skip
                    first | have tI140_102_4 : I140 102 4 = X 102 4 := (congrFun (congrFun e141 102) 4).trans (yU_ne _ _ (by omega)) | skip
                    first | have tI140_102_14 : I140 102 14 = X 102 14 := (congrFun (congrFun e141 102) 14).trans (yU_ne _ _ (by omega)) | skip
                    first | have tI140_102_13 : I140 102 13 = X 102 13 := (congrFun (congrFun e141 102) 13).trans (yU_ne _ _ (by omega)) | skip
                    exact hk _ k142 (by omega)
                · intro I143 e144
                  have k145 : ∀ k j, ¬ (k = 102 ∧ (j = 4 ∨ (11 ≤ j ∧ j ≤ 14) ∨ j = 17)) → I143 k j = I k j := fun k j h => ((congrFun (congrFun e144 k) j).trans (yU_ne _ _ (by omega))).trans (kX k j h)
                  first | have gI143_mPk : mPk I143 = mPk X := mPk_eq (fun k j h => (congrFun (congrFun e144 k) j).trans (yU_ne _ _ (by omega))) | skip
                  first | have tI143_102_3 : I143 102 3 = X 102 3 := (congrFun (congrFun e144 102) 3).trans (yU_ne _ _ (by omega)) | skip
                  first | have tI143_102_4 : I143 102 4 = X 102 4 := (congrFun (congrFun e144 102) 4).trans (yU_ne _ _ (by omega)) | skip
                  first | have tI143_102_14 : I143 102 14 = X 102 14 := (congrFun (congrFun e144 102) 14).trans (yU_ne _ _ (by omega)) | skip
                  first | have tI143_102_13 : I143 102 13 = X 102 13 := (congrFun (congrFun e144 102) 13).trans (yU_ne _ _ (by omega)) | skip
                  exact hk _ k145 (by omega)
              · refine ⟨fun c146 => ?_, fun c146 => ?_⟩
                · refine ⟨fun c147 => ?_, fun c147 => ?_⟩
                  · intro I148 e149
                    have k150 : ∀ k j, ¬ (k = 102 ∧ (j = 4 ∨ (11 ≤ j ∧ j ≤ 14) ∨ j = 17)) → I148 k j = I k j := fun k j h => ((congrFun (congrFun e149 k) j).trans (yU_ne _ _ (by omega))).trans (kX k j h)
                    first | have gI148_mPk : mPk I148 = mPk X := mPk_eq (fun k j h => (congrFun (congrFun e149 k) j).trans (yU_ne _ _ (by omega))) | skip
                    first | have tI148_102_3 : I148 102 3 = X 102 3 := (congrFun (congrFun e149 102) 3).trans (yU_ne _ _ (by omega)) | skip
                    first | have tI148_102_4 : I148 102 4 = X 102 4 := (congrFun (congrFun e149 102) 4).trans (yU_ne _ _ (by omega)) | skip
                    first | have tI148_102_14 : I148 102 14 = X 102 14 := (congrFun (congrFun e149 102) 14).trans (yU_ne _ _ (by omega)) | skip
                    first | have tI148_102_13 : I148 102 13 = X 102 13 := (congrFun (congrFun e149 102) 13).trans (yU_ne _ _ (by omega)) | skip
                    exact hk _ k150 (by omega)
                  · intro I151 e152
                    have k153 : ∀ k j, ¬ (k = 102 ∧ (j = 4 ∨ (11 ≤ j ∧ j ≤ 14) ∨ j = 17)) → I151 k j = I k j := fun k j h => ((congrFun (congrFun e152 k) j).trans (yU_ne _ _ (by omega))).trans (kX k j h)
                    first | have gI151_mPk : mPk I151 = mPk X := mPk_eq (fun k j h => (congrFun (congrFun e152 k) j).trans (yU_ne _ _ (by omega))) | skip
                    first | have tI151_102_3 : I151 102 3 = X 102 3 := (congrFun (congrFun e152 102) 3).trans (yU_ne _ _ (by omega)) | skip
                    first | have tI151_102_4 : I151 102 4 = X 102 4 := (congrFun (congrFun e152 102) 4).trans (yU_ne _ _ (by omega)) | skip
                    first | have tI151_102_14 : I151 102 14 = X 102 14 := (congrFun (congrFun e152 102) 14).trans (yU_ne _ _ (by omega)) | skip
                    first | have tI151_102_13 : I151 102 13 = X 102 13 := (congrFun (congrFun e152 102) 13).trans (yU_ne _ _ (by omega)) | skip
                    exact hk _ k153 (by omega)
                · intro I154 e155
                  have k156 : ∀ k j, ¬ (k = 102 ∧ (j = 4 ∨ (11 ≤ j ∧ j ≤ 14) ∨ j = 17)) → I154 k j = I k j := fun k j h => ((congrFun (congrFun e155 k) j).trans (yU_ne _ _ (by omega))).trans (kX k j h)
                  first | have gI154_mPk : mPk I154 = mPk X := mPk_eq (fun k j h => (congrFun (congrFun e155 k) j).trans (yU_ne _ _ (by omega))) | skip
                  first | have tI154_102_3 : I154 102 3 = X 102 3 := (congrFun (congrFun e155 102) 3).trans (yU_ne _ _ (by omega)) | skip
                  first | have tI154_102_4 : I154 102 4 = X 102 4 := (congrFun (congrFun e155 102) 4).trans (yU_ne _ _ (by omega)) | skip
                  first | have tI154_102_14 : I154 102 14 = X 102 14 := (congrFun (congrFun e155 102) 14).trans (yU_ne _ _ (by omega)) | skip
                  first | have tI154_102_13 : I154 102 13 = X 102 13 := (congrFun (congrFun e155 102) 13).trans (yU_ne _ _ (by omega)) | skip
                  exact hk _ k156 (by omega)
          · exact ih.2.2.2.2.2.1 _ _ _ kX (by omega) (by omega)
      · intro x2 x3 X kX hm iv
        first | have tX_102_3 := kX 102 3 (by omega) | skip
        first | have tX_102_4 := kX 102 4 (by omega) | skip
        first | have tX_102_14 := kX 102 14 (by omega) | skip
        first | have tX_102_13 := kX 102 13 (by omega) | skip
        refine e_li (i := 2) (x := x2) rfl fun _ _ => ?_
        refine e_li (i := 3) (x := x3) rfl fun _ _ => ?_
        refine B_182_201 hT hR ?_
        refine ⟨fun c157 => ?_, fun c157 => ?_⟩
        · exact ih.2.2.2.2.2.2.1 _ _ kX (by omega) (by omega)
        · refine w_225 (d := d) hT hR  (by omega) (fun r158 q159 => ⟨_, _, rfl, rfl, ?_⟩)
          refine w_197 (d := d) hT hR   (fun r161 q162 => ⟨_, _, rfl, rfl, ?_⟩)
          refine ⟨fun c164 => ?_, fun c164 => ?_⟩
          · exact ih.2.2.2.2.2.2.1 _ _ kX (by omega) (by omega)
          · refine ⟨fun c165 => ?_, fun c165 => ?_⟩
            · exact ih.2.2.2.2.2.2.2.1 _ _ _ kX (by omega) (by omega)
            · refine w_225 (d := d) hT hR  (by omega) (fun r166 q167 => ⟨_, _, rfl, rfl, ?_⟩)
              intro I169 e170
              have k171 : ∀ k j, ¬ (k = 102 ∧ (j = 4 ∨ (11 ≤ j ∧ j ≤ 14) ∨ j = 17)) → I169 k j = I k j := fun k j h => ((congrFun (congrFun e170 k) j).trans (yU_ne _ _ (by omega))).trans (kX k j h)
              first | have gI169_mPk : mPk I169 = mPk X := mPk_eq (fun k j h => (congrFun (congrFun e170 k) j).trans (yU_ne _ _ (by omega))) | skip
              first | have tI169_102_3 : I169 102 3 = X 102 3 := (congrFun (congrFun e170 102) 3).trans (yU_ne _ _ (by omega)) | skip
              first | have tI169_102_4 : I169 102 4 = X 102 4 := (congrFun (congrFun e170 102) 4).trans (yU_ne _ _ (by omega)) | skip
              first | have tI169_102_14 : I169 102 14 = X 102 14 := (congrFun (congrFun e170 102) 14).trans (yU_ne _ _ (by omega)) | skip
              first | have tI169_102_13 : I169 102 13 = X 102 13 := (congrFun (congrFun e170 102) 13).trans (yU_ne _ _ (by omega)) | skip
              exact ih.2.2.2.2.2.2.2.1 _ _ _ k171 (by omega) (by omega)
      · intro x2 X kX hm iv
        first | have tX_102_3 := kX 102 3 (by omega) | skip
        first | have tX_102_4 := kX 102 4 (by omega) | skip
        first | have tX_102_14 := kX 102 14 (by omega) | skip
        first | have tX_102_13 := kX 102 13 (by omega) | skip
        refine e_li (i := 2) (x := x2) rfl fun _ _ => ?_
        refine B_182_220 hT hR ?_
        refine ⟨fun c172 => ?_, fun c172 => ?_⟩
        · exact ih.2.2.2.2.2.2.2.1 _ _ _ kX (by omega) (by omega)
        · refine w_225 (d := d) hT hR  (by omega) (fun r173 q174 => ⟨_, _, rfl, rfl, ?_⟩)
          intro I176 e177
          have k178 : ∀ k j, ¬ (k = 102 ∧ (j = 4 ∨ (11 ≤ j ∧ j ≤ 14) ∨ j = 17)) → I176 k j = I k j := fun k j h => ((congrFun (congrFun e177 k) j).trans (yU_ne _ _ (by omega))).trans (kX k j h)
          first | have gI176_mPk : mPk I176 = mPk X := mPk_eq (fun k j h => (congrFun (congrFun e177 k) j).trans (yU_ne _ _ (by omega))) | skip
          first | have tI176_102_3 : I176 102 3 = X 102 3 := (congrFun (congrFun e177 102) 3).trans (yU_ne _ _ (by omega)) | skip
          first | have tI176_102_4 : I176 102 4 = X 102 4 := (congrFun (congrFun e177 102) 4).trans (yU_ne _ _ (by omega)) | skip
          first | have tI176_102_14 : I176 102 14 = X 102 14 := (congrFun (congrFun e177 102) 14).trans (yU_ne _ _ (by omega)) | skip
          first | have tI176_102_13 : I176 102 13 = X 102 13 := (congrFun (congrFun e177 102) 13).trans (yU_ne _ _ (by omega)) | skip
          exact ih.2.2.2.2.2.2.2.1 _ _ _ k178 (by omega) (by omega)
      · intro x2 x3 X kX hm iv
        first | have tX_102_3 := kX 102 3 (by omega) | skip
        first | have tX_102_4 := kX 102 4 (by omega) | skip
        first | have tX_102_14 := kX 102 14 (by omega) | skip
        first | have tX_102_13 := kX 102 13 (by omega) | skip
        refine e_li (i := 2) (x := x2) rfl fun _ _ => ?_
        refine e_li (i := 3) (x := x3) rfl fun _ _ => ?_
        refine B_182_248 hT hR ?_
        refine ⟨fun c179 => ?_, fun c179 => ?_⟩
        · exact ih.2.2.2.2.2.2.2.2 _ _ _ kX (by omega) (by omega)
        · have a180 : ymul 10 (X 102 14) = (10 * (X 102 14)) := ymul_eq (by omega) (by omega)
          try rw [a180]
          refine w_225 (d := d) hT hR  (by omega) (fun r181 q182 => ⟨_, _, rfl, rfl, ?_⟩)
          have a184 : yadd (10 * (X 102 14)) r181 = ((10 * (X 102 14)) + r181) := yadd_eq (by omega) (by omega)
          try rw [a184]
          have a185 : ysub ((10 * (X 102 14)) + r181) 48 = (((10 * (X 102 14)) + r181) - 48) := ysub_eq (by omega) (by omega)
          try rw [a185]
          intro I186 e187
          have k188 : ∀ k j, ¬ (k = 102 ∧ (j = 4 ∨ (11 ≤ j ∧ j ≤ 14) ∨ j = 17)) → I186 k j = I k j := fun k j h => ((congrFun (congrFun e187 k) j).trans (yU_ne _ _ (by omega))).trans (kX k j h)
          first | have gI186_mPk : mPk I186 = mPk X := mPk_eq (fun k j h => (congrFun (congrFun e187 k) j).trans (yU_ne _ _ (by omega))) | skip
          first | have tI186_102_3 : I186 102 3 = X 102 3 := (congrFun (congrFun e187 102) 3).trans (yU_ne _ _ (by omega)) | skip
          first | have tI186_102_4 : I186 102 4 = X 102 4 := (congrFun (congrFun e187 102) 4).trans (yU_ne _ _ (by omega)) | skip
          have tI186_102_14 := (congrFun (congrFun e187 102) 14).trans (yU_eq _ _ _ _)
          first | have tI186_102_13 : I186 102 13 = X 102 13 := (congrFun (congrFun e187 102) 13).trans (yU_ne _ _ (by omega)) | skip
          exact ih.2.2.2.2.2.2.2.2 _ _ _ k188 (by omega) (by omega)
      · intro x2 x3 X kX hm iv
        first | have tX_102_3 := kX 102 3 (by omega) | skip
        first | have tX_102_4 := kX 102 4 (by omega) | skip
        first | have tX_102_14 := kX 102 14 (by omega) | skip
        first | have tX_102_13 := kX 102 13 (by omega) | skip
        refine e_li (i := 2) (x := x2) rfl fun _ _ => ?_
        refine e_li (i := 3) (x := x3) rfl fun _ _ => ?_
        refine B_182_275 hT hR ?_
        have a189 : yadd (X 102 13) 1 = ((X 102 13) + 1) := yadd_eq (by omega) (by omega)
        try rw [a189]
        intro I190 e191
        have k192 : ∀ k j, ¬ (k = 102 ∧ (j = 4 ∨ (11 ≤ j ∧ j ≤ 14) ∨ j = 17)) → I190 k j = I k j := fun k j h => ((congrFun (congrFun e191 k) j).trans (yU_ne _ _ (by omega))).trans (kX k j h)
        first | have gI190_mPk : mPk I190 = mPk X := mPk_eq (fun k j h => (congrFun (congrFun e191 k) j).trans (yU_ne _ _ (by omega))) | skip
        first | have tI190_102_3 : I190 102 3 = X 102 3 := (congrFun (congrFun e191 102) 3).trans (yU_ne _ _ (by omega)) | skip
        first | have tI190_102_4 : I190 102 4 = X 102 4 := (congrFun (congrFun e191 102) 4).trans (yU_ne _ _ (by omega)) | skip
        first | have tI190_102_14 : I190 102 14 = X 102 14 := (congrFun (congrFun e191 102) 14).trans (yU_ne _ _ (by omega)) | skip
        have tI190_102_13 := (congrFun (congrFun e191 102) 13).trans (yU_eq _ _ _ _)
        have a193 : yadd (I190 102 4) 1 = ((I190 102 4) + 1) := yadd_eq (by omega) (by omega)
        try rw [a193]
        intro I194 e195
        have k196 : ∀ k j, ¬ (k = 102 ∧ (j = 4 ∨ (11 ≤ j ∧ j ≤ 14) ∨ j = 17)) → I194 k j = I k j := fun k j h => ((congrFun (congrFun e195 k) j).trans (yU_ne _ _ (by omega))).trans (k192 k j h)
        first | have gI194_mPk : mPk I194 = mPk I190 := mPk_eq (fun k j h => (congrFun (congrFun e195 k) j).trans (yU_ne _ _ (by omega))) | skip
        first | have tI194_102_3 : I194 102 3 = I190 102 3 := (congrFun (congrFun e195 102) 3).trans (yU_ne _ _ (by omega)) | skip
        have tI194_102_4 := (congrFun (congrFun e195 102) 4).trans (yU_eq _ _ _ _)
        first | have tI194_102_14 : I194 102 14 = I190 102 14 := (congrFun (congrFun e195 102) 14).trans (yU_ne _ _ (by omega)) | skip
        first | have tI194_102_13 : I194 102 13 = I190 102 13 := (congrFun (congrFun e195 102) 13).trans (yU_ne _ _ (by omega)) | skip
        exact ih.2.2.2.2.1 _ _ _ k196 (by omega) (by omega)
  exact (L _).1  _ k0 (Nat.lt_succ_self _) (by omega)
/-- ChairAlleyModel.bad(I)Z -/
theorem w_159 (hT : yLT T) (hR : yLR R) {x1 : Int} (h0 : 0 ≤ I 102 3 ∧ I 102 3 ≤ 940 ∧ 0 ≤ I 102 4 ∧ I 102 4 ≤ 940 ∧ 0 ≤ I 102 14 ∧ I 102 14 ≤ 10000) (hk : ∀ r I', (∀ k j, ¬ (k = 102 ∧ (j = 15 ∨ j = 16)) → I' k j = I k j) → ((0 ≤ I' 102 3 ∧ I' 102 3 ≤ 940 ∧ 0 ≤ I' 102 4 ∧ I' 102 4 ≤ 940 ∧ 0 ≤ I' 102 14 ∧ I' 102 14 ≤ 10000) ∧ (r = 0)) → K (some (yi r)) (N, T, R, I')) : yW l zSS D cy zFk z d 159 bc bs K 0 0 0 [(0, yr (some 102)), (1, yi x1)] [] (N, T, R, I) := by
  have k0 : ∀ k j, ¬ (k = 102 ∧ (j = 15 ∨ j = 16)) → I k j = I k j := fun _ _ _ => rfl
  refine e_li (i := 1) (x := x1) rfl fun _ _ => ?_
  refine B_159_0 hT hR ?_
  intro I1 e2
  have k3 : ∀ k j, ¬ (k = 102 ∧ (j = 15 ∨ j = 16)) → I1 k j = I k j := fun k j h => ((congrFun (congrFun e2 k) j).trans (yU_ne _ _ (by omega))).trans (k0 k j h)
  first | have tI1_102_3 : I1 102 3 = I 102 3 := (congrFun (congrFun e2 102) 3).trans (yU_ne _ _ (by omega)) | skip
  first | have tI1_102_4 : I1 102 4 = I 102 4 := (congrFun (congrFun e2 102) 4).trans (yU_ne _ _ (by omega)) | skip
  first | have tI1_102_14 : I1 102 14 = I 102 14 := (congrFun (congrFun e2 102) 14).trans (yU_ne _ _ (by omega)) | skip
  intro I4 e5
  have k6 : ∀ k j, ¬ (k = 102 ∧ (j = 15 ∨ j = 16)) → I4 k j = I k j := fun k j h => ((congrFun (congrFun e5 k) j).trans (yU_ne _ _ (by omega))).trans (k3 k j h)
  first | have tI4_102_3 : I4 102 3 = I1 102 3 := (congrFun (congrFun e5 102) 3).trans (yU_ne _ _ (by omega)) | skip
  first | have tI4_102_4 : I4 102 4 = I1 102 4 := (congrFun (congrFun e5 102) 4).trans (yU_ne _ _ (by omega)) | skip
  first | have tI4_102_14 : I4 102 14 = I1 102 14 := (congrFun (congrFun e5 102) 14).trans (yU_ne _ _ (by omega)) | skip
  exact hk _ _ k6 (by omega)
/-- ChairAlleyModel.isWord(J)Z -/
theorem w_199 (hT : yLT T) (hR : yLR R) {x1 : Int} (hk : ∀ r, (r = 0 ∨ r = 1) → K (some (yi r)) (N, T, R, I)) : yW l zSS D cy zFk z d 199 bc bs K 0 0 0 [(0, yr (some 102)), (1, yj x1)] [] (N, T, R, I) := by
  refine B_199_0 hT hR ?_
  refine ⟨fun c1 => ?_, fun c1 => ?_⟩
  · exact hk _ (by omega)
  · refine ⟨fun c2 => ?_, fun c2 => ?_⟩
    · exact hk _ (by omega)
    · exact hk _ (by omega)
/-- ChairAlleyModel.isSign(I)Z -/
theorem w_196 (hT : yLT T) (hR : yLR R) {x1 : Int} (hk : ∀ r, (r = 0 ∨ (r = 1 ∧ I 102 11 = 3 ∧ I 102 14 = x1)) → K (some (yi r)) (N, T, R, I)) : yW l zSS D cy zFk z d 196 bc bs K 0 0 0 [(0, yr (some 102)), (1, yi x1)] [] (N, T, R, I) := by
  refine e_li (i := 1) (x := x1) rfl fun _ _ => ?_
  refine B_196_0 hT hR ?_
  refine ⟨fun c1 => ?_, fun c1 => ?_⟩
  · exact hk _ (by omega)
  · refine ⟨fun c2 => ?_, fun c2 => ?_⟩
    · exact hk _ (by omega)
    · exact hk _ (by omega)
/-- ChairAlleyModel.sign(I)Z -/
theorem w_236 (hT : yLT T) (hR : yLR R) {x1 : Int} (h0 : 0 ≤ I 102 3 ∧ I 102 3 ≤ 940 ∧ 0 ≤ I 102 4 ∧ I 102 4 ≤ 940 ∧ 0 ≤ I 102 14 ∧ I 102 14 ≤ 10000) (hk : ∀ r I', (∀ k j, ¬ (k = 102 ∧ (j = 4 ∨ (11 ≤ j ∧ j ≤ 18))) → I' k j = I k j) → ((0 ≤ I' 102 3 ∧ I' 102 3 ≤ 940 ∧ 0 ≤ I' 102 4 ∧ I' 102 4 ≤ 940 ∧ 0 ≤ I' 102 14 ∧ I' 102 14 ≤ 10000) ∧ (r = 0 ∨ r = 1)) → K (some (yi r)) (N, T, R, I')) : yW l zSS D cy zFk z (d + 2) 236 bc bs K 0 0 0 [(0, yr (some 102)), (1, yi x1)] [] (N, T, R, I) := by
  have k0 : ∀ k j, ¬ (k = 102 ∧ (j = 4 ∨ (11 ≤ j ∧ j ≤ 18))) → I k j = I k j := fun _ _ _ => rfl
  refine e_li (i := 1) (x := x1) rfl fun _ _ => ?_
  refine B_236_0 hT hR ?_
  refine w_196 (d := d + 1) hT hR   (fun r1 q2 => ⟨_, _, rfl, rfl, ?_⟩)
  refine ⟨fun c4 => ?_, fun c4 => ?_⟩
  · refine w_182 (d := d) hT hR  (by omega) (fun I5 f7 q6 => ⟨_, rfl, rfl, ?_⟩)
    have k8 : ∀ k j, ¬ (k = 102 ∧ (j = 4 ∨ (11 ≤ j ∧ j ≤ 18))) → I5 k j = I k j := fun k j h => (f7 k j (by omega)).trans (k0 k j h)
    first | have tI5_102_3 := f7 102 3 (by omega) | skip
    first | have tI5_102_4 := f7 102 4 (by omega) | skip
    first | have tI5_102_14 := f7 102 14 (by omega) | skip
    exact hk _ _ k8 (by omega)
  · refine w_159 (d := d + 1) hT hR  (by omega) (fun r9 I10 f12 q11 => ⟨_, _, rfl, rfl, ?_⟩)
    have k13 : ∀ k j, ¬ (k = 102 ∧ (j = 4 ∨ (11 ≤ j ∧ j ≤ 18))) → I10 k j = I k j := fun k j h => (f12 k j (by omega)).trans (k0 k j h)
    first | have tI10_102_3 := f12 102 3 (by omega) | skip
    first | have tI10_102_4 := f12 102 4 (by omega) | skip
    first | have tI10_102_14 := f12 102 14 (by omega) | skip
    refine ⟨by omega, ?_⟩
    exact hk _ _ k13 (by omega)
/-- ChairAlleyModel.isName()Z -/
theorem w_194 (hT : yLT T) (hR : yLR R) (hk : ∀ r, (r = 0 ∨ r = 1) → K (some (yi r)) (N, T, R, I)) : yW l zSS D cy zFk z d 194 bc bs K 0 0 0 [(0, yr (some 102))] [] (N, T, R, I) := by
  have L : ∀ m : Nat, (∀ x1 x2 : Int, (24 - x2 : Int).toNat < m → ((x1 = 0 ∨ x1 = 1) ∧ 0 ≤ x2 ∧ x2 ≤ 24) → yW l zSS D cy zFk z d 194 bc bs K 0 0 16 [(0, yr (some 102)), (1, yi x1), (2, yi x2)] [] (N, T, R, I)) := by
    intro m
    induction m with
    | zero => exact fun _ _ h => absurd h (Nat.not_lt_zero _)
    | succ m ih =>
      intro x1 x2  hm iv
      refine e_li (i := 1) (x := x1) rfl fun _ _ => ?_
      refine e_li (i := 2) (x := x2) rfl fun _ _ => ?_
      refine B_194_16 hT hR ?_
      refine ⟨fun c1 => ?_, fun c1 => ?_⟩
      · refine ⟨by omega, ?_⟩
        exact hk _ (by omega)
      · refine ⟨fun c2 => ?_, fun c2 => ?_⟩
        · have a3 : yadd x2 1 = (x2 + 1) := yadd_eq (by omega) (by omega)
          try rw [a3]
          exact ih _ _ (by omega) (by omega)
        · refine ⟨by omega, by omega, ?_⟩
          refine ⟨fun c4 => ?_, fun c4 => ?_⟩
          · have a5 : yadd x2 1 = (x2 + 1) := yadd_eq (by omega) (by omega)
            try rw [a5]
            exact ih _ _ (by omega) (by omega)
          · have a6 : yadd x2 1 = (x2 + 1) := yadd_eq (by omega) (by omega)
            try rw [a6]
            exact ih _ _ (by omega) (by omega)
  refine B_194_0 hT hR ?_
  refine ⟨fun c7 => ?_, fun c7 => ?_⟩
  · exact (L _) _ _ (Nat.lt_succ_self _) (by omega)
  · exact (L _) _ _ (Nat.lt_succ_self _) (by omega)
/-- ChairAlleyModel.takes(II)Z -/
theorem w_245 (hT : yLT T) (hR : yLR R) {x1 x2 : Int} (h0 : 0 ≤ I 102 3 ∧ I 102 3 ≤ 940 ∧ 0 ≤ I 102 4 ∧ I 102 4 ≤ 940 ∧ 0 ≤ I 102 14 ∧ I 102 14 ≤ 10000) (hk : ∀ r I', (∀ k j, ¬ (k = 102 ∧ (j = 4 ∨ (11 ≤ j ∧ j ≤ 18))) → I' k j = I k j) → ((0 ≤ I' 102 3 ∧ I' 102 3 ≤ 940 ∧ 0 ≤ I' 102 4 ∧ I' 102 4 ≤ 940 ∧ 0 ≤ I' 102 14 ∧ I' 102 14 ≤ 10000) ∧ (r = 0 ∨ (r = 1 ∧ x1 ≤ I' 102 18 ∧ I' 102 18 ≤ x2))) → K (some (yi r)) (N, T, R, I')) : yW l zSS D cy zFk z (d + 2) 245 bc bs K 0 0 0 [(0, yr (some 102)), (1, yi x1), (2, yi x2)] [] (N, T, R, I) := by
  have k0 : ∀ k j, ¬ (k = 102 ∧ (j = 4 ∨ (11 ≤ j ∧ j ≤ 18))) → I k j = I k j := fun _ _ _ => rfl
  refine e_li (i := 1) (x := x1) rfl fun _ _ => ?_
  refine e_li (i := 2) (x := x2) rfl fun _ _ => ?_
  refine B_245_0 hT hR ?_
  refine ⟨fun c1 => ?_, fun c1 => ?_⟩
  · refine w_191 (d := d + 1) hT hR   (fun r2 q3 => ⟨_, _, rfl, rfl, ?_⟩)
    refine ⟨fun c5 => ?_, fun c5 => ?_⟩
    · intro I6 e7
      have k8 : ∀ k j, ¬ (k = 102 ∧ (j = 4 ∨ (11 ≤ j ∧ j ≤ 18))) → I6 k j = I k j := fun k j h => ((congrFun (congrFun e7 k) j).trans (yU_ne _ _ (by omega))).trans (k0 k j h)
      first | have tI6_102_3 : I6 102 3 = I 102 3 := (congrFun (congrFun e7 102) 3).trans (yU_ne _ _ (by omega)) | skip
      first | have tI6_102_4 : I6 102 4 = I 102 4 := (congrFun (congrFun e7 102) 4).trans (yU_ne _ _ (by omega)) | skip
      first | have tI6_102_14 : I6 102 14 = I 102 14 := (congrFun (congrFun e7 102) 14).trans (yU_ne _ _ (by omega)) | skip
      have tI6_102_18 := (congrFun (congrFun e7 102) 18).trans (yU_eq _ _ _ _)
      refine w_182 (d := d) hT hR  (by omega) (fun I9 f11 q10 => ⟨_, rfl, rfl, ?_⟩)
      have k12 : ∀ k j, ¬ (k = 102 ∧ (j = 4 ∨ (11 ≤ j ∧ j ≤ 18))) → I9 k j = I k j := fun k j h => (f11 k j (by omega)).trans (k8 k j h)
      first | have tI9_102_3 := f11 102 3 (by omega) | skip
      first | have tI9_102_4 := f11 102 4 (by omega) | skip
      first | have tI9_102_14 := f11 102 14 (by omega) | skip
      first | have tI9_102_18 := f11 102 18 (by omega) | skip
      exact hk _ _ k12 (by omega)
    · refine w_159 (d := d + 1) hT hR  (by omega) (fun r13 I14 f16 q15 => ⟨_, _, rfl, rfl, ?_⟩)
      have k17 : ∀ k j, ¬ (k = 102 ∧ (j = 4 ∨ (11 ≤ j ∧ j ≤ 18))) → I14 k j = I k j := fun k j h => (f16 k j (by omega)).trans (k0 k j h)
      first | have tI14_102_3 := f16 102 3 (by omega) | skip
      first | have tI14_102_4 := f16 102 4 (by omega) | skip
      first | have tI14_102_14 := f16 102 14 (by omega) | skip
      first | have tI14_102_18 := f16 102 18 (by omega) | skip
      refine ⟨by omega, ?_⟩
      exact hk _ _ k17 (by omega)
  · refine w_159 (d := d + 1) hT hR  (by omega) (fun r18 I19 f21 q20 => ⟨_, _, rfl, rfl, ?_⟩)
    have k22 : ∀ k j, ¬ (k = 102 ∧ (j = 4 ∨ (11 ≤ j ∧ j ≤ 18))) → I19 k j = I k j := fun k j h => (f21 k j (by omega)).trans (k0 k j h)
    first | have tI19_102_3 := f21 102 3 (by omega) | skip
    first | have tI19_102_4 := f21 102 4 (by omega) | skip
    first | have tI19_102_14 := f21 102 14 (by omega) | skip
    first | have tI19_102_18 := f21 102 18 (by omega) | skip
    refine ⟨by omega, ?_⟩
    exact hk _ _ k22 (by omega)
/-- ChairAlleyModel.find(II)I -/
theorem w_180 (hT : yLT T) (hR : yLR R) {x1 x2 : Int} (h0 : 0 ≤ x1 ∧ x1 ≤ 8 ∧ 0 ≤ x2 ∧ x2 ≤ 8) (hk : ∀ r, (r = -1 ∨ (0 ≤ r ∧ r < x2)) → K (some (yi r)) (N, T, R, I)) : yW l zSS D cy zFk z d 180 bc bs K 0 0 0 [(0, yr (some 102)), (1, yi x1), (2, yi x2)] [] (N, T, R, I) := by
  have L : ∀ m : Nat, (∀ x1 x2 x3 : Int, (8 - x3 : Int).toNat < m → (0 ≤ x1 ∧ x1 ≤ 8 ∧ 0 ≤ x2 ∧ x2 ≤ 8 ∧ 0 ≤ x3 ∧ x3 ≤ x2) → yW l zSS D cy zFk z d 180 bc bs K 0 0 2 [(0, yr (some 102)), (1, yi x1), (2, yi x2), (3, yi x3)] [] (N, T, R, I)) := by
    intro m
    induction m with
    | zero => exact fun _ _ _ h => absurd h (Nat.not_lt_zero _)
    | succ m ih =>
      intro x1 x2 x3  hm iv
      refine e_li (i := 1) (x := x1) rfl fun _ _ => ?_
      refine e_li (i := 2) (x := x2) rfl fun _ _ => ?_
      refine e_li (i := 3) (x := x3) rfl fun _ _ => ?_
      refine B_180_2 hT hR ?_
      refine ⟨fun c1 => ?_, fun c1 => ?_⟩
      · exact hk _ (by omega)
      · have a2 : yadd x1 x3 = (x1 + x3) := yadd_eq (by omega) (by omega)
        try rw [a2]
        refine ⟨by omega, by omega, ?_⟩
        refine ⟨fun c3 => ?_, fun c3 => ?_⟩
        · have a4 : yadd x3 1 = (x3 + 1) := yadd_eq (by omega) (by omega)
          try rw [a4]
          exact ih _ _ _ (by omega) (by omega)
        · exact hk _ (by omega)
  refine e_li (i := 1) (x := x1) rfl fun _ _ => ?_
  refine e_li (i := 2) (x := x2) rfl fun _ _ => ?_
  refine B_180_0 hT hR ?_
  exact (L _) _ _ _ (Nat.lt_succ_self _) (by omega)
/-- ChairAlleyModel.looksAtCell()Z -/
theorem w_212 (hT : yLT T) (hR : yLR R) (h0 : 0 ≤ I 102 3 ∧ I 102 3 ≤ 940 ∧ 0 ≤ I 102 4 ∧ I 102 4 ≤ 940 ∧ 0 ≤ I 102 14 ∧ I 102 14 ≤ 10000) (h1 : 0 ≤ I 105 0 ∧ I 105 0 ≤ 10 ∧ 0 ≤ I 105 1 ∧ I 105 1 ≤ 10) (hk : ∀ r I', (∀ k j, ¬ (k = 102 ∧ (j = 4 ∨ (11 ≤ j ∧ j ≤ 18))) → I' k j = I k j) → ((0 ≤ I' 102 3 ∧ I' 102 3 ≤ 940 ∧ 0 ≤ I' 102 4 ∧ I' 102 4 ≤ 940 ∧ 0 ≤ I' 102 14 ∧ I' 102 14 ≤ 10000) ∧ (r = 0 ∨ (r = 1 ∧ (0 ≤ I' 102 18 ∧ I' 102 18 < 100 ∧ I' 102 18 % 10 < I' 105 0 ∧ I' 102 18 / 10 < I' 105 1)))) → K (some (yi r)) (N, T, R, I')) : yW l zSS D cy zFk z (d + 3) 212 bc bs K 0 0 0 [(0, yr (some 102))] [] (N, T, R, I) := by
  have k0 : ∀ k j, ¬ (k = 102 ∧ (j = 4 ∨ (11 ≤ j ∧ j ≤ 18))) → I k j = I k j := fun _ _ _ => rfl
  refine B_212_0 hT hR ?_
  have a1 : ysub (I 105 0) 1 = ((I 105 0) - 1) := ysub_eq (by omega) (by omega)
  try rw [a1]
  refine w_245 (d := d) hT hR  (by omega) (fun r2 I3 f5 q4 => ⟨_, _, rfl, rfl, ?_⟩)
  have k6 : ∀ k j, ¬ (k = 102 ∧ (j = 4 ∨ (11 ≤ j ∧ j ≤ 18))) → I3 k j = I k j := fun k j h => (f5 k j (by omega)).trans (k0 k j h)
  first | have tI3_102_3 := f5 102 3 (by omega) | skip
  first | have tI3_102_4 := f5 102 4 (by omega) | skip
  first | have tI3_102_14 := f5 102 14 (by omega) | skip
  first | have tI3_102_18 := f5 102 18 (by omega) | skip
  first | have tI3_102_22 := f5 102 22 (by omega) | skip
  first | have tI3_102_23 := f5 102 23 (by omega) | skip
  first | have tI3_105_0 := f5 105 0 (by omega) | skip
  first | have tI3_105_1 := f5 105 1 (by omega) | skip
  first | have tI3_105_2 := f5 105 2 (by omega) | skip
  first | have tI3_105_6 := f5 105 6 (by omega) | skip
  refine ⟨fun c7 => ?_, fun c7 => ?_⟩
  · refine ⟨fun c8 => ?_, fun c8 => ?_⟩
    · refine ⟨fun c9 => ?_, fun c9 => ?_⟩
      · have a10 : ymul 10 (I3 102 14) = (10 * (I3 102 14)) := ymul_eq (by omega) (by omega)
        try rw [a10]
        have a11 : yadd (10 * (I3 102 14)) (I3 102 18) = ((10 * (I3 102 14)) + (I3 102 18)) := yadd_eq (by omega) (by omega)
        try rw [a11]
        intro I12 e13
        have k14 : ∀ k j, ¬ (k = 102 ∧ (j = 4 ∨ (11 ≤ j ∧ j ≤ 18))) → I12 k j = I k j := fun k j h => ((congrFun (congrFun e13 k) j).trans (yU_ne _ _ (by omega))).trans (k6 k j h)
        first | have tI12_102_3 : I12 102 3 = I3 102 3 := (congrFun (congrFun e13 102) 3).trans (yU_ne _ _ (by omega)) | skip
        first | have tI12_102_4 : I12 102 4 = I3 102 4 := (congrFun (congrFun e13 102) 4).trans (yU_ne _ _ (by omega)) | skip
        first | have tI12_102_14 : I12 102 14 = I3 102 14 := (congrFun (congrFun e13 102) 14).trans (yU_ne _ _ (by omega)) | skip
        have tI12_102_18 := (congrFun (congrFun e13 102) 18).trans (yU_eq _ _ _ _)
        first | have tI12_102_22 : I12 102 22 = I3 102 22 := (congrFun (congrFun e13 102) 22).trans (yU_ne _ _ (by omega)) | skip
        first | have tI12_102_23 : I12 102 23 = I3 102 23 := (congrFun (congrFun e13 102) 23).trans (yU_ne _ _ (by omega)) | skip
        first | have tI12_105_0 : I12 105 0 = I3 105 0 := (congrFun (congrFun e13 105) 0).trans (yU_ne _ _ (by omega)) | skip
        first | have tI12_105_1 : I12 105 1 = I3 105 1 := (congrFun (congrFun e13 105) 1).trans (yU_ne _ _ (by omega)) | skip
        first | have tI12_105_2 : I12 105 2 = I3 105 2 := (congrFun (congrFun e13 105) 2).trans (yU_ne _ _ (by omega)) | skip
        first | have tI12_105_6 : I12 105 6 = I3 105 6 := (congrFun (congrFun e13 105) 6).trans (yU_ne _ _ (by omega)) | skip
        exact hk _ _ k14 (by omega)
      · refine w_159 (d := d + 2) hT hR  (by omega) (fun r15 I16 f18 q17 => ⟨_, _, rfl, rfl, ?_⟩)
        have k19 : ∀ k j, ¬ (k = 102 ∧ (j = 4 ∨ (11 ≤ j ∧ j ≤ 18))) → I16 k j = I k j := fun k j h => (f18 k j (by omega)).trans (k6 k j h)
        first | have tI16_102_3 := f18 102 3 (by omega) | skip
        first | have tI16_102_4 := f18 102 4 (by omega) | skip
        first | have tI16_102_14 := f18 102 14 (by omega) | skip
        first | have tI16_102_18 := f18 102 18 (by omega) | skip
        first | have tI16_102_22 := f18 102 22 (by omega) | skip
        first | have tI16_102_23 := f18 102 23 (by omega) | skip
        first | have tI16_105_0 := f18 105 0 (by omega) | skip
        first | have tI16_105_1 := f18 105 1 (by omega) | skip
        first | have tI16_105_2 := f18 105 2 (by omega) | skip
        first | have tI16_105_6 := f18 105 6 (by omega) | skip
        refine ⟨by omega, ?_⟩
        exact hk _ _ k19 (by omega)
    · refine w_159 (d := d + 2) hT hR  (by omega) (fun r20 I21 f23 q22 => ⟨_, _, rfl, rfl, ?_⟩)
      have k24 : ∀ k j, ¬ (k = 102 ∧ (j = 4 ∨ (11 ≤ j ∧ j ≤ 18))) → I21 k j = I k j := fun k j h => (f23 k j (by omega)).trans (k6 k j h)
      first | have tI21_102_3 := f23 102 3 (by omega) | skip
      first | have tI21_102_4 := f23 102 4 (by omega) | skip
      first | have tI21_102_14 := f23 102 14 (by omega) | skip
      first | have tI21_102_18 := f23 102 18 (by omega) | skip
      first | have tI21_102_22 := f23 102 22 (by omega) | skip
      first | have tI21_102_23 := f23 102 23 (by omega) | skip
      first | have tI21_105_0 := f23 105 0 (by omega) | skip
      first | have tI21_105_1 := f23 105 1 (by omega) | skip
      first | have tI21_105_2 := f23 105 2 (by omega) | skip
      first | have tI21_105_6 := f23 105 6 (by omega) | skip
      refine ⟨by omega, ?_⟩
      exact hk _ _ k24 (by omega)
  · exact hk _ _ k6 (by omega)
/-- ChairAlleyModel.dirOfWord()I -/
theorem w_172 (hT : yLT T) (hR : yLR R) (hk : ∀ r, (r = -1 ∨ (0 ≤ r ∧ r ≤ 3)) → K (some (yi r)) (N, T, R, I)) : yW l zSS D cy zFk z (d + 1) 172 bc bs K 0 0 0 [(0, yr (some 102))] [] (N, T, R, I) := by
  refine B_172_0 hT hR ?_
  refine w_199 (d := d) hT hR   (fun r1 q2 => ⟨_, _, rfl, rfl, ?_⟩)
  refine ⟨fun c4 => ?_, fun c4 => ?_⟩
  · refine w_199 (d := d) hT hR   (fun r5 q6 => ⟨_, _, rfl, rfl, ?_⟩)
    refine ⟨fun c8 => ?_, fun c8 => ?_⟩
    · refine w_199 (d := d) hT hR   (fun r9 q10 => ⟨_, _, rfl, rfl, ?_⟩)
      refine ⟨fun c12 => ?_, fun c12 => ?_⟩
      · refine w_199 (d := d) hT hR   (fun r13 q14 => ⟨_, _, rfl, rfl, ?_⟩)
        refine ⟨fun c16 => ?_, fun c16 => ?_⟩
        · exact hk _ (by omega)
        · exact hk _ (by omega)
      · exact hk _ (by omega)
    · exact hk _ (by omega)
  · exact hk _ (by omega)
/-- ChairAlleyModel.leafOf()I -/
theorem w_209 (hT : yLT T) (hR : yLR R) (hk : ∀ r, (-1 ≤ r ∧ r ≤ 8) → K (some (yi r)) (N, T, R, I)) : yW l zSS D cy zFk z (d + 1) 209 bc bs K 0 0 0 [(0, yr (some 102))] [] (N, T, R, I) := by
  refine B_209_0 hT hR ?_
  refine w_199 (d := d) hT hR   (fun r1 q2 => ⟨_, _, rfl, rfl, ?_⟩)
  refine ⟨fun c4 => ?_, fun c4 => ?_⟩
  · refine w_199 (d := d) hT hR   (fun r5 q6 => ⟨_, _, rfl, rfl, ?_⟩)
    refine ⟨fun c8 => ?_, fun c8 => ?_⟩
    · refine w_199 (d := d) hT hR   (fun r9 q10 => ⟨_, _, rfl, rfl, ?_⟩)
      refine ⟨fun c12 => ?_, fun c12 => ?_⟩
      · refine w_199 (d := d) hT hR   (fun r13 q14 => ⟨_, _, rfl, rfl, ?_⟩)
        refine ⟨fun c16 => ?_, fun c16 => ?_⟩
        · refine w_199 (d := d) hT hR   (fun r17 q18 => ⟨_, _, rfl, rfl, ?_⟩)
          refine ⟨fun c20 => ?_, fun c20 => ?_⟩
          · refine w_199 (d := d) hT hR   (fun r21 q22 => ⟨_, _, rfl, rfl, ?_⟩)
            refine ⟨fun c24 => ?_, fun c24 => ?_⟩
            · refine w_199 (d := d) hT hR   (fun r25 q26 => ⟨_, _, rfl, rfl, ?_⟩)
              refine ⟨fun c28 => ?_, fun c28 => ?_⟩
              · refine w_199 (d := d) hT hR   (fun r29 q30 => ⟨_, _, rfl, rfl, ?_⟩)
                refine ⟨fun c32 => ?_, fun c32 => ?_⟩
                · refine w_199 (d := d) hT hR   (fun r33 q34 => ⟨_, _, rfl, rfl, ?_⟩)
                  refine ⟨fun c36 => ?_, fun c36 => ?_⟩
                  · exact hk _ (by omega)
                  · exact hk _ (by omega)
                · exact hk _ (by omega)
              · exact hk _ (by omega)
            · exact hk _ (by omega)
          · exact hk _ (by omega)
        · exact hk _ (by omega)
      · exact hk _ (by omega)
    · exact hk _ (by omega)
  · exact hk _ (by omega)
/-- ChairAlleyModel.readOn(III)Z -/
theorem w_230 (hT : yLT T) (hR : yLR R) {x1 x2 x3 : Int} (h0 : 0 ≤ I 102 3 ∧ I 102 3 ≤ 940 ∧ 0 ≤ I 102 4 ∧ I 102 4 ≤ 940 ∧ 0 ≤ I 102 14 ∧ I 102 14 ≤ 10000) (h1 : (I 102 22 = 0 → I 105 0 = 0) ∧ (I 102 23 = 0 → I 105 6 = 0)) (h2 : (x1 = 10 ∨ x1 = 110 ∨ x1 = 210) ∧ 3 ≤ x2 ∧ x2 ≤ 5) (hP0 : mH I) (hk : ∀ r I', (∀ k j, ¬ ((k = 102 ∧ (j = 4 ∨ (11 ≤ j ∧ j ≤ 18))) ∨ k = 105) → I' k j = I k j) → (((0 ≤ I' 102 3 ∧ I' 102 3 ≤ 940 ∧ 0 ≤ I' 102 4 ∧ I' 102 4 ≤ 940 ∧ 0 ≤ I' 102 14 ∧ I' 102 14 ≤ 10000) ∧ ((I' 102 22 = 0 → I' 105 0 = 0) ∧ (I' 102 23 = 0 → I' 105 6 = 0)) ∧ (r = 0 ∨ r = 1)) ∧ mH I') → K (some (yi r)) (N, T, R, I')) : yW l zSS D cy zFk z (d + 4) 230 bc bs K 0 0 0 [(0, yr (some 102)), (1, yi x1), (2, yi x2), (3, yi x3)] [] (N, T, R, I) := by
  have hd := hP0.1
  have k0 : ∀ k j, ¬ ((k = 102 ∧ (j = 4 ∨ (11 ≤ j ∧ j ≤ 18))) ∨ k = 105) → I k j = I k j := fun _ _ _ => rfl
  refine e_li (i := 1) (x := x1) rfl fun _ _ => ?_
  refine e_li (i := 2) (x := x2) rfl fun _ _ => ?_
  refine e_li (i := 3) (x := x3) rfl fun _ _ => ?_
  refine B_230_0 hT hR ?_
  refine ⟨by omega, by omega, ?_⟩
  refine ⟨fun c1 => ?_, fun c1 => ?_⟩
  · refine w_182 (d := d + 2) hT hR  (by omega) (fun I2 f4 q3 => ⟨_, rfl, rfl, ?_⟩)
    have k5 : ∀ k j, ¬ ((k = 102 ∧ (j = 4 ∨ (11 ≤ j ∧ j ≤ 18))) ∨ k = 105) → I2 k j = I k j := fun k j h => (f4 k j (by omega)).trans (k0 k j h)
    first | have tI2_102_3 := f4 102 3 (by omega) | skip
    first | have tI2_102_4 := f4 102 4 (by omega) | skip
    first | have tI2_102_14 := f4 102 14 (by omega) | skip
    first | have tI2_102_18 := f4 102 18 (by omega) | skip
    first | have tI2_102_22 := f4 102 22 (by omega) | skip
    first | have tI2_102_23 := f4 102 23 (by omega) | skip
    first | have tI2_105_0 := f4 105 0 (by omega) | skip
    first | have tI2_105_1 := f4 105 1 (by omega) | skip
    first | have tI2_105_2 := f4 105 2 (by omega) | skip
    first | have tI2_105_6 := f4 105 6 (by omega) | skip
    have p6 : mH I2 := mH_eq hP0 (fun k j h => f4 k j (by omega))
    refine w_212 (d := d) hT hR  (by omega) (by omega) (fun r7 I8 f10 q9 => ⟨_, _, rfl, rfl, ?_⟩)
    have k11 : ∀ k j, ¬ ((k = 102 ∧ (j = 4 ∨ (11 ≤ j ∧ j ≤ 18))) ∨ k = 105) → I8 k j = I k j := fun k j h => (f10 k j (by omega)).trans (k5 k j h)
    first | have tI8_102_3 := f10 102 3 (by omega) | skip
    first | have tI8_102_4 := f10 102 4 (by omega) | skip
    first | have tI8_102_14 := f10 102 14 (by omega) | skip
    first | have tI8_102_18 := f10 102 18 (by omega) | skip
    first | have tI8_102_22 := f10 102 22 (by omega) | skip
    first | have tI8_102_23 := f10 102 23 (by omega) | skip
    first | have tI8_105_0 := f10 105 0 (by omega) | skip
    first | have tI8_105_1 := f10 105 1 (by omega) | skip
    first | have tI8_105_2 := f10 105 2 (by omega) | skip
    first | have tI8_105_6 := f10 105 6 (by omega) | skip
    have p12 : mH I8 := mH_eq p6 (fun k j h => f10 k j (by omega))
    refine ⟨fun c13 => ?_, fun c13 => ?_⟩
    · have a14 : yadd x1 (I8 102 18) = (x1 + (I8 102 18)) := yadd_eq (by omega) (by omega)
      try rw [a14]
      refine ⟨by omega, by omega, ?_⟩
      refine ⟨fun c15 => ?_, fun c15 => ?_⟩
      · have a16 : yadd x1 (I8 102 18) = (x1 + (I8 102 18)) := yadd_eq (by omega) (by omega)
        try rw [a16]
        refine ⟨by omega, by omega, ?_⟩
        intro I17 e18
        first | have n19 : ynar 1 1 = 1 := ynar1_eq (by omega) (by omega) | skip
        try rw [n19] at e18
        have k20 : ∀ k j, ¬ ((k = 102 ∧ (j = 4 ∨ (11 ≤ j ∧ j ≤ 18))) ∨ k = 105) → I17 k j = I k j := fun k j h => ((congrFun (congrFun e18 k) j).trans (yU_ne _ _ (by omega))).trans (k11 k j h)
        have p21 : mH I17 := by rw [e18]; exact mH_set p12 (by omega)
        first | have tI17_102_3 : I17 102 3 = I8 102 3 := (congrFun (congrFun e18 102) 3).trans (yU_ne _ _ (by omega)) | skip
        first | have tI17_102_4 : I17 102 4 = I8 102 4 := (congrFun (congrFun e18 102) 4).trans (yU_ne _ _ (by omega)) | skip
        first | have tI17_102_14 : I17 102 14 = I8 102 14 := (congrFun (congrFun e18 102) 14).trans (yU_ne _ _ (by omega)) | skip
        first | have tI17_102_18 : I17 102 18 = I8 102 18 := (congrFun (congrFun e18 102) 18).trans (yU_ne _ _ (by omega)) | skip
        first | have tI17_102_22 : I17 102 22 = I8 102 22 := (congrFun (congrFun e18 102) 22).trans (yU_ne _ _ (by omega)) | skip
        first | have tI17_102_23 : I17 102 23 = I8 102 23 := (congrFun (congrFun e18 102) 23).trans (yU_ne _ _ (by omega)) | skip
        first | have tI17_105_0 : I17 105 0 = I8 105 0 := (congrFun (congrFun e18 105) 0).trans (yU_ne _ _ (by omega)) | skip
        first | have tI17_105_1 : I17 105 1 = I8 105 1 := (congrFun (congrFun e18 105) 1).trans (yU_ne _ _ (by omega)) | skip
        first | have tI17_105_2 : I17 105 2 = I8 105 2 := (congrFun (congrFun e18 105) 2).trans (yU_ne _ _ (by omega)) | skip
        first | have tI17_105_6 : I17 105 6 = I8 105 6 := (congrFun (congrFun e18 105) 6).trans (yU_ne _ _ (by omega)) | skip
        refine ⟨by omega, by omega, ?_⟩
        refine ⟨by omega, by omega, ?_⟩
        intro I22 e23
        first | have n24 : ynar 1 (yadd (I17 105 x2.toNat) 1) = (yadd (I17 105 x2.toNat) 1) := ynar1_eq (by omega) (by omega) | skip
        try rw [n24] at e23
        have k25 : ∀ k j, ¬ ((k = 102 ∧ (j = 4 ∨ (11 ≤ j ∧ j ≤ 18))) ∨ k = 105) → I22 k j = I k j := fun k j h => ((congrFun (congrFun e23 k) j).trans (yU_ne _ _ (by omega))).trans (k20 k j h)
        have p26 : mH I22 := by rw [e23]; exact mH_set p21 (by omega)
        first | have tI22_102_3 : I22 102 3 = I17 102 3 := (congrFun (congrFun e23 102) 3).trans (yU_ne _ _ (by omega)) | skip
        first | have tI22_102_4 : I22 102 4 = I17 102 4 := (congrFun (congrFun e23 102) 4).trans (yU_ne _ _ (by omega)) | skip
        first | have tI22_102_14 : I22 102 14 = I17 102 14 := (congrFun (congrFun e23 102) 14).trans (yU_ne _ _ (by omega)) | skip
        first | have tI22_102_18 : I22 102 18 = I17 102 18 := (congrFun (congrFun e23 102) 18).trans (yU_ne _ _ (by omega)) | skip
        first | have tI22_102_22 : I22 102 22 = I17 102 22 := (congrFun (congrFun e23 102) 22).trans (yU_ne _ _ (by omega)) | skip
        first | have tI22_102_23 : I22 102 23 = I17 102 23 := (congrFun (congrFun e23 102) 23).trans (yU_ne _ _ (by omega)) | skip
        first | have tI22_105_0 : I22 105 0 = I17 105 0 := (congrFun (congrFun e23 105) 0).trans (yU_ne _ _ (by omega)) | skip
        first | have tI22_105_1 : I22 105 1 = I17 105 1 := (congrFun (congrFun e23 105) 1).trans (yU_ne _ _ (by omega)) | skip
        first | have tI22_105_2 : I22 105 2 = I17 105 2 := (congrFun (congrFun e23 105) 2).trans (yU_ne _ _ (by omega)) | skip
        first | have tI22_105_6 : I22 105 6 = I17 105 6 := (congrFun (congrFun e23 105) 6).trans (yU_ne _ _ (by omega)) | skip
        refine w_182 (d := d + 2) hT hR  (by omega) (fun I27 f29 q28 => ⟨_, rfl, rfl, ?_⟩)
        have k30 : ∀ k j, ¬ ((k = 102 ∧ (j = 4 ∨ (11 ≤ j ∧ j ≤ 18))) ∨ k = 105) → I27 k j = I k j := fun k j h => (f29 k j (by omega)).trans (k25 k j h)
        first | have tI27_102_3 := f29 102 3 (by omega) | skip
        first | have tI27_102_4 := f29 102 4 (by omega) | skip
        first | have tI27_102_14 := f29 102 14 (by omega) | skip
        first | have tI27_102_18 := f29 102 18 (by omega) | skip
        first | have tI27_102_22 := f29 102 22 (by omega) | skip
        first | have tI27_102_23 := f29 102 23 (by omega) | skip
        first | have tI27_105_0 := f29 105 0 (by omega) | skip
        first | have tI27_105_1 := f29 105 1 (by omega) | skip
        first | have tI27_105_2 := f29 105 2 (by omega) | skip
        first | have tI27_105_6 := f29 105 6 (by omega) | skip
        have p31 : mH I27 := mH_eq p26 (fun k j h => f29 k j (by omega))
        exact hk _ _ k30 ⟨(by omega), p31⟩
      · refine w_159 (d := d + 3) hT hR  (by omega) (fun r32 I33 f35 q34 => ⟨_, _, rfl, rfl, ?_⟩)
        have k36 : ∀ k j, ¬ ((k = 102 ∧ (j = 4 ∨ (11 ≤ j ∧ j ≤ 18))) ∨ k = 105) → I33 k j = I k j := fun k j h => (f35 k j (by omega)).trans (k11 k j h)
        first | have tI33_102_3 := f35 102 3 (by omega) | skip
        first | have tI33_102_4 := f35 102 4 (by omega) | skip
        first | have tI33_102_14 := f35 102 14 (by omega) | skip
        first | have tI33_102_18 := f35 102 18 (by omega) | skip
        first | have tI33_102_22 := f35 102 22 (by omega) | skip
        first | have tI33_102_23 := f35 102 23 (by omega) | skip
        first | have tI33_105_0 := f35 105 0 (by omega) | skip
        first | have tI33_105_1 := f35 105 1 (by omega) | skip
        first | have tI33_105_2 := f35 105 2 (by omega) | skip
        first | have tI33_105_6 := f35 105 6 (by omega) | skip
        have p37 : mH I33 := mH_eq p12 (fun k j h => f35 k j (by omega))
        refine ⟨by omega, ?_⟩
        exact hk _ _ k36 ⟨(by omega), p37⟩
    · exact hk _ _ k11 ⟨(by omega), p12⟩
  · refine w_159 (d := d + 3) hT hR  (by omega) (fun r38 I39 f41 q40 => ⟨_, _, rfl, rfl, ?_⟩)
    have k42 : ∀ k j, ¬ ((k = 102 ∧ (j = 4 ∨ (11 ≤ j ∧ j ≤ 18))) ∨ k = 105) → I39 k j = I k j := fun k j h => (f41 k j (by omega)).trans (k0 k j h)
    first | have tI39_102_3 := f41 102 3 (by omega) | skip
    first | have tI39_102_4 := f41 102 4 (by omega) | skip
    first | have tI39_102_14 := f41 102 14 (by omega) | skip
    first | have tI39_102_18 := f41 102 18 (by omega) | skip
    first | have tI39_102_22 := f41 102 22 (by omega) | skip
    first | have tI39_102_23 := f41 102 23 (by omega) | skip
    first | have tI39_105_0 := f41 105 0 (by omega) | skip
    first | have tI39_105_1 := f41 105 1 (by omega) | skip
    first | have tI39_105_2 := f41 105 2 (by omega) | skip
    first | have tI39_105_6 := f41 105 6 (by omega) | skip
    have p43 : mH I39 := mH_eq hP0 (fun k j h => f41 k j (by omega))
    refine ⟨by omega, ?_⟩
    exact hk _ _ k42 ⟨(by omega), p43⟩
/-- ChairAlleyModel.readChair()Z -/
theorem w_229 (hT : yLT T) (hR : yLR R) (h0 : 0 ≤ I 102 3 ∧ I 102 3 ≤ 940 ∧ 0 ≤ I 102 4 ∧ I 102 4 ≤ 940 ∧ 0 ≤ I 102 14 ∧ I 102 14 ≤ 10000) (h1 : (I 102 22 = 0 → I 105 0 = 0) ∧ (I 102 23 = 0 → I 105 6 = 0)) (hP0 : mH I) (hk : ∀ r I', (∀ k j, ¬ ((k = 102 ∧ (j = 4 ∨ (11 ≤ j ∧ j ≤ 18))) ∨ k = 105 ∨ k = 107) → I' k j = I k j) → (((0 ≤ I' 102 3 ∧ I' 102 3 ≤ 940 ∧ 0 ≤ I' 102 4 ∧ I' 102 4 ≤ 940 ∧ 0 ≤ I' 102 14 ∧ I' 102 14 ≤ 10000) ∧ ((I' 102 22 = 0 → I' 105 0 = 0) ∧ (I' 102 23 = 0 → I' 105 6 = 0)) ∧ (r = 0 ∨ r = 1)) ∧ mH I') → K (some (yi r)) (N, T, R, I')) : yW l zSS D cy zFk z (d + 4) 229 bc bs K 0 0 0 [(0, yr (some 102))] [] (N, T, R, I) := by
  have hd := hP0.1
  have k0 : ∀ k j, ¬ ((k = 102 ∧ (j = 4 ∨ (11 ≤ j ∧ j ≤ 18))) ∨ k = 105 ∨ k = 107) → I k j = I k j := fun _ _ _ => rfl
  refine B_229_0 hT hR ?_
  refine ⟨fun c1 => ?_, fun c1 => ?_⟩
  · refine w_182 (d := d + 2) hT hR  (by omega) (fun I2 f4 q3 => ⟨_, rfl, rfl, ?_⟩)
    have k5 : ∀ k j, ¬ ((k = 102 ∧ (j = 4 ∨ (11 ≤ j ∧ j ≤ 18))) ∨ k = 105 ∨ k = 107) → I2 k j = I k j := fun k j h => (f4 k j (by omega)).trans (k0 k j h)
    first | have tI2_102_3 := f4 102 3 (by omega) | skip
    first | have tI2_102_4 := f4 102 4 (by omega) | skip
    first | have tI2_102_14 := f4 102 14 (by omega) | skip
    first | have tI2_102_18 := f4 102 18 (by omega) | skip
    first | have tI2_102_22 := f4 102 22 (by omega) | skip
    first | have tI2_102_23 := f4 102 23 (by omega) | skip
    first | have tI2_105_0 := f4 105 0 (by omega) | skip
    first | have tI2_105_1 := f4 105 1 (by omega) | skip
    first | have tI2_105_2 := f4 105 2 (by omega) | skip
    first | have tI2_105_6 := f4 105 6 (by omega) | skip
    first | have tI2_105_326I1052toNat := f4 105 ((326 + (I 105 2)).toNat) (by omega) | skip
    first | have tI2_105_334I1052toNat := f4 105 ((334 + (I 105 2)).toNat) (by omega) | skip
    have p6 : mH I2 := mH_eq hP0 (fun k j h => f4 k j (by omega))
    refine w_194 (d := d + 3) hT hR   (fun r7 q8 => ⟨_, _, rfl, rfl, ?_⟩)
    refine ⟨fun c10 => ?_, fun c10 => ?_⟩
    · refine w_180 (d := d + 3) hT hR  (by omega) (fun r11 q12 => ⟨_, _, rfl, rfl, ?_⟩)
      refine ⟨fun c14 => ?_, fun c14 => ?_⟩
      · have a15 : yadd 8 (I 105 2) = (8 + (I 105 2)) := yadd_eq (by omega) (by omega)
        try rw [a15]
        refine ⟨by omega, by omega, ?_⟩
        intro I16 e17
        have k18 : ∀ k j, ¬ ((k = 102 ∧ (j = 4 ∨ (11 ≤ j ∧ j ≤ 18))) ∨ k = 105 ∨ k = 107) → I16 k j = I k j := fun k j h => ((congrFun (congrFun e17 k) j).trans (yU_ne _ _ (by omega))).trans (k5 k j h)
        have p19 : mH I16 := mH_eq p6 (fun k j h => by rw [e17]; exact yU_ne _ _ (by omega))
        first | have tI16_102_3 : I16 102 3 = I2 102 3 := (congrFun (congrFun e17 102) 3).trans (yU_ne _ _ (by omega)) | skip
        first | have tI16_102_4 : I16 102 4 = I2 102 4 := (congrFun (congrFun e17 102) 4).trans (yU_ne _ _ (by omega)) | skip
        first | have tI16_102_14 : I16 102 14 = I2 102 14 := (congrFun (congrFun e17 102) 14).trans (yU_ne _ _ (by omega)) | skip
        first | have tI16_102_18 : I16 102 18 = I2 102 18 := (congrFun (congrFun e17 102) 18).trans (yU_ne _ _ (by omega)) | skip
        first | have tI16_102_22 : I16 102 22 = I2 102 22 := (congrFun (congrFun e17 102) 22).trans (yU_ne _ _ (by omega)) | skip
        first | have tI16_102_23 : I16 102 23 = I2 102 23 := (congrFun (congrFun e17 102) 23).trans (yU_ne _ _ (by omega)) | skip
        first | have tI16_105_0 : I16 105 0 = I2 105 0 := (congrFun (congrFun e17 105) 0).trans (yU_ne _ _ (by omega)) | skip
        first | have tI16_105_1 : I16 105 1 = I2 105 1 := (congrFun (congrFun e17 105) 1).trans (yU_ne _ _ (by omega)) | skip
        first | have tI16_105_2 : I16 105 2 = I2 105 2 := (congrFun (congrFun e17 105) 2).trans (yU_ne _ _ (by omega)) | skip
        first | have tI16_105_6 : I16 105 6 = I2 105 6 := (congrFun (congrFun e17 105) 6).trans (yU_ne _ _ (by omega)) | skip
        first | have tI16_105_326I1052toNat : I16 105 ((326 + (I 105 2)).toNat) = I2 105 ((326 + (I 105 2)).toNat) := (congrFun (congrFun e17 105) ((326 + (I 105 2)).toNat)).trans (yU_ne _ _ (by omega)) | skip
        first | have tI16_105_334I1052toNat : I16 105 ((334 + (I 105 2)).toNat) = I2 105 ((334 + (I 105 2)).toNat) := (congrFun (congrFun e17 105) ((334 + (I 105 2)).toNat)).trans (yU_ne _ _ (by omega)) | skip
        refine w_182 (d := d + 2) hT hR  (by omega) (fun I20 f22 q21 => ⟨_, rfl, rfl, ?_⟩)
        have k23 : ∀ k j, ¬ ((k = 102 ∧ (j = 4 ∨ (11 ≤ j ∧ j ≤ 18))) ∨ k = 105 ∨ k = 107) → I20 k j = I k j := fun k j h => (f22 k j (by omega)).trans (k18 k j h)
        first | have tI20_102_3 := f22 102 3 (by omega) | skip
        first | have tI20_102_4 := f22 102 4 (by omega) | skip
        first | have tI20_102_14 := f22 102 14 (by omega) | skip
        first | have tI20_102_18 := f22 102 18 (by omega) | skip
        first | have tI20_102_22 := f22 102 22 (by omega) | skip
        first | have tI20_102_23 := f22 102 23 (by omega) | skip
        first | have tI20_105_0 := f22 105 0 (by omega) | skip
        first | have tI20_105_1 := f22 105 1 (by omega) | skip
        first | have tI20_105_2 := f22 105 2 (by omega) | skip
        first | have tI20_105_6 := f22 105 6 (by omega) | skip
        first | have tI20_105_326I1052toNat := f22 105 ((326 + (I 105 2)).toNat) (by omega) | skip
        first | have tI20_105_334I1052toNat := f22 105 ((334 + (I 105 2)).toNat) (by omega) | skip
        have p24 : mH I20 := mH_eq p19 (fun k j h => f22 k j (by omega))
        refine w_212 (d := d) hT hR  (by omega) (by omega) (fun r25 I26 f28 q27 => ⟨_, _, rfl, rfl, ?_⟩)
        have k29 : ∀ k j, ¬ ((k = 102 ∧ (j = 4 ∨ (11 ≤ j ∧ j ≤ 18))) ∨ k = 105 ∨ k = 107) → I26 k j = I k j := fun k j h => (f28 k j (by omega)).trans (k23 k j h)
        first | have tI26_102_3 := f28 102 3 (by omega) | skip
        first | have tI26_102_4 := f28 102 4 (by omega) | skip
        first | have tI26_102_14 := f28 102 14 (by omega) | skip
        first | have tI26_102_18 := f28 102 18 (by omega) | skip
        first | have tI26_102_22 := f28 102 22 (by omega) | skip
        first | have tI26_102_23 := f28 102 23 (by omega) | skip
        first | have tI26_105_0 := f28 105 0 (by omega) | skip
        first | have tI26_105_1 := f28 105 1 (by omega) | skip
        first | have tI26_105_2 := f28 105 2 (by omega) | skip
        first | have tI26_105_6 := f28 105 6 (by omega) | skip
        first | have tI26_105_326I1052toNat := f28 105 ((326 + (I 105 2)).toNat) (by omega) | skip
        first | have tI26_105_334I1052toNat := f28 105 ((334 + (I 105 2)).toNat) (by omega) | skip
        have p30 : mH I26 := mH_eq p24 (fun k j h => f28 k j (by omega))
        refine ⟨fun c31 => ?_, fun c31 => ?_⟩
        · have a32 : yadd 10 (I26 102 18) = (10 + (I26 102 18)) := yadd_eq (by omega) (by omega)
          try rw [a32]
          refine ⟨by omega, by omega, ?_⟩
          refine ⟨fun c33 => ?_, fun c33 => ?_⟩
          · have a34 : yadd 326 (I 105 2) = (326 + (I 105 2)) := yadd_eq (by omega) (by omega)
            try rw [a34]
            refine ⟨by omega, by omega, ?_⟩
            intro I35 e36
            first | have n37 : ynar 1 (I26 102 18) = (I26 102 18) := ynar1_eq (by omega) (by omega) | skip
            try rw [n37] at e36
            have k38 : ∀ k j, ¬ ((k = 102 ∧ (j = 4 ∨ (11 ≤ j ∧ j ≤ 18))) ∨ k = 105 ∨ k = 107) → I35 k j = I k j := fun k j h => ((congrFun (congrFun e36 k) j).trans (yU_ne _ _ (by omega))).trans (k29 k j h)
            have p39 : mH I35 := by rw [e36]; exact mH_set p30 (by omega)
            first | have tI35_102_3 : I35 102 3 = I26 102 3 := (congrFun (congrFun e36 102) 3).trans (yU_ne _ _ (by omega)) | skip
            first | have tI35_102_4 : I35 102 4 = I26 102 4 := (congrFun (congrFun e36 102) 4).trans (yU_ne _ _ (by omega)) | skip
            first | have tI35_102_14 : I35 102 14 = I26 102 14 := (congrFun (congrFun e36 102) 14).trans (yU_ne _ _ (by omega)) | skip
            first | have tI35_102_18 : I35 102 18 = I26 102 18 := (congrFun (congrFun e36 102) 18).trans (yU_ne _ _ (by omega)) | skip
            first | have tI35_102_22 : I35 102 22 = I26 102 22 := (congrFun (congrFun e36 102) 22).trans (yU_ne _ _ (by omega)) | skip
            first | have tI35_102_23 : I35 102 23 = I26 102 23 := (congrFun (congrFun e36 102) 23).trans (yU_ne _ _ (by omega)) | skip
            first | have tI35_105_0 : I35 105 0 = I26 105 0 := (congrFun (congrFun e36 105) 0).trans (yU_ne _ _ (by omega)) | skip
            first | have tI35_105_1 : I35 105 1 = I26 105 1 := (congrFun (congrFun e36 105) 1).trans (yU_ne _ _ (by omega)) | skip
            first | have tI35_105_2 : I35 105 2 = I26 105 2 := (congrFun (congrFun e36 105) 2).trans (yU_ne _ _ (by omega)) | skip
            first | have tI35_105_6 : I35 105 6 = I26 105 6 := (congrFun (congrFun e36 105) 6).trans (yU_ne _ _ (by omega)) | skip
            have tI35_105_326I1052toNat := (congrFun (congrFun e36 105) ((326 + (I 105 2)).toNat)).trans (yU_eq _ _ _ _)
            first | have tI35_105_334I1052toNat : I35 105 ((334 + (I 105 2)).toNat) = I26 105 ((334 + (I 105 2)).toNat) := (congrFun (congrFun e36 105) ((334 + (I 105 2)).toNat)).trans (yU_ne _ _ (by omega)) | skip
            refine w_182 (d := d + 2) hT hR  (by omega) (fun I40 f42 q41 => ⟨_, rfl, rfl, ?_⟩)
            have k43 : ∀ k j, ¬ ((k = 102 ∧ (j = 4 ∨ (11 ≤ j ∧ j ≤ 18))) ∨ k = 105 ∨ k = 107) → I40 k j = I k j := fun k j h => (f42 k j (by omega)).trans (k38 k j h)
            first | have tI40_102_3 := f42 102 3 (by omega) | skip
            first | have tI40_102_4 := f42 102 4 (by omega) | skip
            first | have tI40_102_14 := f42 102 14 (by omega) | skip
            first | have tI40_102_18 := f42 102 18 (by omega) | skip
            first | have tI40_102_22 := f42 102 22 (by omega) | skip
            first | have tI40_102_23 := f42 102 23 (by omega) | skip
            first | have tI40_105_0 := f42 105 0 (by omega) | skip
            first | have tI40_105_1 := f42 105 1 (by omega) | skip
            first | have tI40_105_2 := f42 105 2 (by omega) | skip
            first | have tI40_105_6 := f42 105 6 (by omega) | skip
            first | have tI40_105_326I1052toNat := f42 105 ((326 + (I 105 2)).toNat) (by omega) | skip
            first | have tI40_105_334I1052toNat := f42 105 ((334 + (I 105 2)).toNat) (by omega) | skip
            have p44 : mH I40 := mH_eq p39 (fun k j h => f42 k j (by omega))
            refine w_245 (d := d + 1) hT hR  (by omega) (fun r45 I46 f48 q47 => ⟨_, _, rfl, rfl, ?_⟩)
            have k49 : ∀ k j, ¬ ((k = 102 ∧ (j = 4 ∨ (11 ≤ j ∧ j ≤ 18))) ∨ k = 105 ∨ k = 107) → I46 k j = I k j := fun k j h => (f48 k j (by omega)).trans (k43 k j h)
            first | have tI46_102_3 := f48 102 3 (by omega) | skip
            first | have tI46_102_4 := f48 102 4 (by omega) | skip
            first | have tI46_102_14 := f48 102 14 (by omega) | skip
            first | have tI46_102_18 := f48 102 18 (by omega) | skip
            first | have tI46_102_22 := f48 102 22 (by omega) | skip
            first | have tI46_102_23 := f48 102 23 (by omega) | skip
            first | have tI46_105_0 := f48 105 0 (by omega) | skip
            first | have tI46_105_1 := f48 105 1 (by omega) | skip
            first | have tI46_105_2 := f48 105 2 (by omega) | skip
            first | have tI46_105_6 := f48 105 6 (by omega) | skip
            first | have tI46_105_326I1052toNat := f48 105 ((326 + (I 105 2)).toNat) (by omega) | skip
            first | have tI46_105_334I1052toNat := f48 105 ((334 + (I 105 2)).toNat) (by omega) | skip
            have p50 : mH I46 := mH_eq p44 (fun k j h => f48 k j (by omega))
            refine ⟨fun c51 => ?_, fun c51 => ?_⟩
            · have a52 : yadd 310 (I 105 2) = (310 + (I 105 2)) := yadd_eq (by omega) (by omega)
              try rw [a52]
              refine ⟨by omega, by omega, ?_⟩
              intro I53 e54
              first | have n55 : ynar 1 (I46 102 18) = (I46 102 18) := ynar1_eq (by omega) (by omega) | skip
              try rw [n55] at e54
              have k56 : ∀ k j, ¬ ((k = 102 ∧ (j = 4 ∨ (11 ≤ j ∧ j ≤ 18))) ∨ k = 105 ∨ k = 107) → I53 k j = I k j := fun k j h => ((congrFun (congrFun e54 k) j).trans (yU_ne _ _ (by omega))).trans (k49 k j h)
              have p57 : mH I53 := by rw [e54]; exact mH_set p50 (by omega)
              first | have tI53_102_3 : I53 102 3 = I46 102 3 := (congrFun (congrFun e54 102) 3).trans (yU_ne _ _ (by omega)) | skip
              first | have tI53_102_4 : I53 102 4 = I46 102 4 := (congrFun (congrFun e54 102) 4).trans (yU_ne _ _ (by omega)) | skip
              first | have tI53_102_14 : I53 102 14 = I46 102 14 := (congrFun (congrFun e54 102) 14).trans (yU_ne _ _ (by omega)) | skip
              first | have tI53_102_18 : I53 102 18 = I46 102 18 := (congrFun (congrFun e54 102) 18).trans (yU_ne _ _ (by omega)) | skip
              first | have tI53_102_22 : I53 102 22 = I46 102 22 := (congrFun (congrFun e54 102) 22).trans (yU_ne _ _ (by omega)) | skip
              first | have tI53_102_23 : I53 102 23 = I46 102 23 := (congrFun (congrFun e54 102) 23).trans (yU_ne _ _ (by omega)) | skip
              first | have tI53_105_0 : I53 105 0 = I46 105 0 := (congrFun (congrFun e54 105) 0).trans (yU_ne _ _ (by omega)) | skip
              first | have tI53_105_1 : I53 105 1 = I46 105 1 := (congrFun (congrFun e54 105) 1).trans (yU_ne _ _ (by omega)) | skip
              first | have tI53_105_2 : I53 105 2 = I46 105 2 := (congrFun (congrFun e54 105) 2).trans (yU_ne _ _ (by omega)) | skip
              first | have tI53_105_6 : I53 105 6 = I46 105 6 := (congrFun (congrFun e54 105) 6).trans (yU_ne _ _ (by omega)) | skip
              first | have tI53_105_326I1052toNat : I53 105 ((326 + (I 105 2)).toNat) = I46 105 ((326 + (I 105 2)).toNat) := (congrFun (congrFun e54 105) ((326 + (I 105 2)).toNat)).trans (yU_ne _ _ (by omega)) | skip
              first | have tI53_105_334I1052toNat : I53 105 ((334 + (I 105 2)).toNat) = I46 105 ((334 + (I 105 2)).toNat) := (congrFun (congrFun e54 105) ((334 + (I 105 2)).toNat)).trans (yU_ne _ _ (by omega)) | skip
              refine w_245 (d := d + 1) hT hR  (by omega) (fun r58 I59 f61 q60 => ⟨_, _, rfl, rfl, ?_⟩)
              have k62 : ∀ k j, ¬ ((k = 102 ∧ (j = 4 ∨ (11 ≤ j ∧ j ≤ 18))) ∨ k = 105 ∨ k = 107) → I59 k j = I k j := fun k j h => (f61 k j (by omega)).trans (k56 k j h)
              first | have tI59_102_3 := f61 102 3 (by omega) | skip
              first | have tI59_102_4 := f61 102 4 (by omega) | skip
              first | have tI59_102_14 := f61 102 14 (by omega) | skip
              first | have tI59_102_18 := f61 102 18 (by omega) | skip
              first | have tI59_102_22 := f61 102 22 (by omega) | skip
              first | have tI59_102_23 := f61 102 23 (by omega) | skip
              first | have tI59_105_0 := f61 105 0 (by omega) | skip
              first | have tI59_105_1 := f61 105 1 (by omega) | skip
              first | have tI59_105_2 := f61 105 2 (by omega) | skip
              first | have tI59_105_6 := f61 105 6 (by omega) | skip
              first | have tI59_105_326I1052toNat := f61 105 ((326 + (I 105 2)).toNat) (by omega) | skip
              first | have tI59_105_334I1052toNat := f61 105 ((334 + (I 105 2)).toNat) (by omega) | skip
              have p63 : mH I59 := mH_eq p57 (fun k j h => f61 k j (by omega))
              refine ⟨fun c64 => ?_, fun c64 => ?_⟩
              · have a65 : yadd 318 (I 105 2) = (318 + (I 105 2)) := yadd_eq (by omega) (by omega)
                try rw [a65]
                refine ⟨by omega, by omega, ?_⟩
                intro I66 e67
                first | have n68 : ynar 1 (I59 102 18) = (I59 102 18) := ynar1_eq (by omega) (by omega) | skip
                try rw [n68] at e67
                have k69 : ∀ k j, ¬ ((k = 102 ∧ (j = 4 ∨ (11 ≤ j ∧ j ≤ 18))) ∨ k = 105 ∨ k = 107) → I66 k j = I k j := fun k j h => ((congrFun (congrFun e67 k) j).trans (yU_ne _ _ (by omega))).trans (k62 k j h)
                have p70 : mH I66 := by rw [e67]; exact mH_set p63 (by omega)
                first | have tI66_102_3 : I66 102 3 = I59 102 3 := (congrFun (congrFun e67 102) 3).trans (yU_ne _ _ (by omega)) | skip
                first | have tI66_102_4 : I66 102 4 = I59 102 4 := (congrFun (congrFun e67 102) 4).trans (yU_ne _ _ (by omega)) | skip
                first | have tI66_102_14 : I66 102 14 = I59 102 14 := (congrFun (congrFun e67 102) 14).trans (yU_ne _ _ (by omega)) | skip
                first | have tI66_102_18 : I66 102 18 = I59 102 18 := (congrFun (congrFun e67 102) 18).trans (yU_ne _ _ (by omega)) | skip
                first | have tI66_102_22 : I66 102 22 = I59 102 22 := (congrFun (congrFun e67 102) 22).trans (yU_ne _ _ (by omega)) | skip
                first | have tI66_102_23 : I66 102 23 = I59 102 23 := (congrFun (congrFun e67 102) 23).trans (yU_ne _ _ (by omega)) | skip
                first | have tI66_105_0 : I66 105 0 = I59 105 0 := (congrFun (congrFun e67 105) 0).trans (yU_ne _ _ (by omega)) | skip
                first | have tI66_105_1 : I66 105 1 = I59 105 1 := (congrFun (congrFun e67 105) 1).trans (yU_ne _ _ (by omega)) | skip
                first | have tI66_105_2 : I66 105 2 = I59 105 2 := (congrFun (congrFun e67 105) 2).trans (yU_ne _ _ (by omega)) | skip
                first | have tI66_105_6 : I66 105 6 = I59 105 6 := (congrFun (congrFun e67 105) 6).trans (yU_ne _ _ (by omega)) | skip
                first | have tI66_105_326I1052toNat : I66 105 ((326 + (I 105 2)).toNat) = I59 105 ((326 + (I 105 2)).toNat) := (congrFun (congrFun e67 105) ((326 + (I 105 2)).toNat)).trans (yU_ne _ _ (by omega)) | skip
                first | have tI66_105_334I1052toNat : I66 105 ((334 + (I 105 2)).toNat) = I59 105 ((334 + (I 105 2)).toNat) := (congrFun (congrFun e67 105) ((334 + (I 105 2)).toNat)).trans (yU_ne _ _ (by omega)) | skip
                refine w_212 (d := d) hT hR  (by omega) (by omega) (fun r71 I72 f74 q73 => ⟨_, _, rfl, rfl, ?_⟩)
                have k75 : ∀ k j, ¬ ((k = 102 ∧ (j = 4 ∨ (11 ≤ j ∧ j ≤ 18))) ∨ k = 105 ∨ k = 107) → I72 k j = I k j := fun k j h => (f74 k j (by omega)).trans (k69 k j h)
                first | have tI72_102_3 := f74 102 3 (by omega) | skip
                first | have tI72_102_4 := f74 102 4 (by omega) | skip
                first | have tI72_102_14 := f74 102 14 (by omega) | skip
                first | have tI72_102_18 := f74 102 18 (by omega) | skip
                first | have tI72_102_22 := f74 102 22 (by omega) | skip
                first | have tI72_102_23 := f74 102 23 (by omega) | skip
                first | have tI72_105_0 := f74 105 0 (by omega) | skip
                first | have tI72_105_1 := f74 105 1 (by omega) | skip
                first | have tI72_105_2 := f74 105 2 (by omega) | skip
                first | have tI72_105_6 := f74 105 6 (by omega) | skip
                first | have tI72_105_326I1052toNat := f74 105 ((326 + (I 105 2)).toNat) (by omega) | skip
                first | have tI72_105_334I1052toNat := f74 105 ((334 + (I 105 2)).toNat) (by omega) | skip
                have p76 : mH I72 := mH_eq p70 (fun k j h => f74 k j (by omega))
                refine ⟨fun c77 => ?_, fun c77 => ?_⟩
                · have a78 : yadd 10 (I72 102 18) = (10 + (I72 102 18)) := yadd_eq (by omega) (by omega)
                  try rw [a78]
                  refine ⟨by omega, by omega, ?_⟩
                  refine ⟨fun c79 => ?_, fun c79 => ?_⟩
                  · have a80 : yadd 334 (I 105 2) = (334 + (I 105 2)) := yadd_eq (by omega) (by omega)
                    try rw [a80]
                    refine ⟨by omega, by omega, ?_⟩
                    intro I81 e82
                    first | have n83 : ynar 1 (I72 102 18) = (I72 102 18) := ynar1_eq (by omega) (by omega) | skip
                    try rw [n83] at e82
                    have k84 : ∀ k j, ¬ ((k = 102 ∧ (j = 4 ∨ (11 ≤ j ∧ j ≤ 18))) ∨ k = 105 ∨ k = 107) → I81 k j = I k j := fun k j h => ((congrFun (congrFun e82 k) j).trans (yU_ne _ _ (by omega))).trans (k75 k j h)
                    have p85 : mH I81 := by rw [e82]; exact mH_set p76 (by omega)
                    first | have tI81_102_3 : I81 102 3 = I72 102 3 := (congrFun (congrFun e82 102) 3).trans (yU_ne _ _ (by omega)) | skip
                    first | have tI81_102_4 : I81 102 4 = I72 102 4 := (congrFun (congrFun e82 102) 4).trans (yU_ne _ _ (by omega)) | skip
                    first | have tI81_102_14 : I81 102 14 = I72 102 14 := (congrFun (congrFun e82 102) 14).trans (yU_ne _ _ (by omega)) | skip
                    first | have tI81_102_18 : I81 102 18 = I72 102 18 := (congrFun (congrFun e82 102) 18).trans (yU_ne _ _ (by omega)) | skip
                    first | have tI81_102_22 : I81 102 22 = I72 102 22 := (congrFun (congrFun e82 102) 22).trans (yU_ne _ _ (by omega)) | skip
                    first | have tI81_102_23 : I81 102 23 = I72 102 23 := (congrFun (congrFun e82 102) 23).trans (yU_ne _ _ (by omega)) | skip
                    first | have tI81_105_0 : I81 105 0 = I72 105 0 := (congrFun (congrFun e82 105) 0).trans (yU_ne _ _ (by omega)) | skip
                    first | have tI81_105_1 : I81 105 1 = I72 105 1 := (congrFun (congrFun e82 105) 1).trans (yU_ne _ _ (by omega)) | skip
                    first | have tI81_105_2 : I81 105 2 = I72 105 2 := (congrFun (congrFun e82 105) 2).trans (yU_ne _ _ (by omega)) | skip
                    first | have tI81_105_6 : I81 105 6 = I72 105 6 := (congrFun (congrFun e82 105) 6).trans (yU_ne _ _ (by omega)) | skip
                    first | have tI81_105_326I1052toNat : I81 105 ((326 + (I 105 2)).toNat) = I72 105 ((326 + (I 105 2)).toNat) := (congrFun (congrFun e82 105) ((326 + (I 105 2)).toNat)).trans (yU_ne _ _ (by omega)) | skip
                    have tI81_105_334I1052toNat := (congrFun (congrFun e82 105) ((334 + (I 105 2)).toNat)).trans (yU_eq _ _ _ _)
                    refine w_182 (d := d + 2) hT hR  (by omega) (fun I86 f88 q87 => ⟨_, rfl, rfl, ?_⟩)
                    have k89 : ∀ k j, ¬ ((k = 102 ∧ (j = 4 ∨ (11 ≤ j ∧ j ≤ 18))) ∨ k = 105 ∨ k = 107) → I86 k j = I k j := fun k j h => (f88 k j (by omega)).trans (k84 k j h)
                    first | have tI86_102_3 := f88 102 3 (by omega) | skip
                    first | have tI86_102_4 := f88 102 4 (by omega) | skip
                    first | have tI86_102_14 := f88 102 14 (by omega) | skip
                    first | have tI86_102_18 := f88 102 18 (by omega) | skip
                    first | have tI86_102_22 := f88 102 22 (by omega) | skip
                    first | have tI86_102_23 := f88 102 23 (by omega) | skip
                    first | have tI86_105_0 := f88 105 0 (by omega) | skip
                    first | have tI86_105_1 := f88 105 1 (by omega) | skip
                    first | have tI86_105_2 := f88 105 2 (by omega) | skip
                    first | have tI86_105_6 := f88 105 6 (by omega) | skip
                    first | have tI86_105_326I1052toNat := f88 105 ((326 + (I 105 2)).toNat) (by omega) | skip
                    first | have tI86_105_334I1052toNat := f88 105 ((334 + (I 105 2)).toNat) (by omega) | skip
                    have p90 : mH I86 := mH_eq p85 (fun k j h => f88 k j (by omega))
                    have a91 : yadd (I86 105 2) 1 = ((I86 105 2) + 1) := yadd_eq (by omega) (by omega)
                    try rw [a91]
                    intro I92 e93
                    first | have n94 : ynar 1 ((I86 105 2) + 1) = ((I86 105 2) + 1) := ynar1_eq (by omega) (by omega) | skip
                    try rw [n94] at e93
                    have k95 : ∀ k j, ¬ ((k = 102 ∧ (j = 4 ∨ (11 ≤ j ∧ j ≤ 18))) ∨ k = 105 ∨ k = 107) → I92 k j = I k j := fun k j h => ((congrFun (congrFun e93 k) j).trans (yU_ne _ _ (by omega))).trans (k89 k j h)
                    have p96 : mH I92 := by rw [e93]; exact mH_set p90 (by omega)
                    first | have tI92_102_3 : I92 102 3 = I86 102 3 := (congrFun (congrFun e93 102) 3).trans (yU_ne _ _ (by omega)) | skip
                    first | have tI92_102_4 : I92 102 4 = I86 102 4 := (congrFun (congrFun e93 102) 4).trans (yU_ne _ _ (by omega)) | skip
                    first | have tI92_102_14 : I92 102 14 = I86 102 14 := (congrFun (congrFun e93 102) 14).trans (yU_ne _ _ (by omega)) | skip
                    first | have tI92_102_18 : I92 102 18 = I86 102 18 := (congrFun (congrFun e93 102) 18).trans (yU_ne _ _ (by omega)) | skip
                    first | have tI92_102_22 : I92 102 22 = I86 102 22 := (congrFun (congrFun e93 102) 22).trans (yU_ne _ _ (by omega)) | skip
                    first | have tI92_102_23 : I92 102 23 = I86 102 23 := (congrFun (congrFun e93 102) 23).trans (yU_ne _ _ (by omega)) | skip
                    first | have tI92_105_0 : I92 105 0 = I86 105 0 := (congrFun (congrFun e93 105) 0).trans (yU_ne _ _ (by omega)) | skip
                    first | have tI92_105_1 : I92 105 1 = I86 105 1 := (congrFun (congrFun e93 105) 1).trans (yU_ne _ _ (by omega)) | skip
                    have tI92_105_2 := (congrFun (congrFun e93 105) 2).trans (yU_eq _ _ _ _)
                    first | have tI92_105_6 : I92 105 6 = I86 105 6 := (congrFun (congrFun e93 105) 6).trans (yU_ne _ _ (by omega)) | skip
                    first | have tI92_105_326I1052toNat : I92 105 ((326 + (I 105 2)).toNat) = I86 105 ((326 + (I 105 2)).toNat) := (congrFun (congrFun e93 105) ((326 + (I 105 2)).toNat)).trans (yU_ne _ _ (by omega)) | skip
                    first | have tI92_105_334I1052toNat : I92 105 ((334 + (I 105 2)).toNat) = I86 105 ((334 + (I 105 2)).toNat) := (congrFun (congrFun e93 105) ((334 + (I 105 2)).toNat)).trans (yU_ne _ _ (by omega)) | skip
                    exact hk _ _ k95 ⟨(by omega), p96⟩
                  · refine w_159 (d := d + 3) hT hR  (by omega) (fun r97 I98 f100 q99 => ⟨_, _, rfl, rfl, ?_⟩)
                    have k101 : ∀ k j, ¬ ((k = 102 ∧ (j = 4 ∨ (11 ≤ j ∧ j ≤ 18))) ∨ k = 105 ∨ k = 107) → I98 k j = I k j := fun k j h => (f100 k j (by omega)).trans (k75 k j h)
                    first | have tI98_102_3 := f100 102 3 (by omega) | skip
                    first | have tI98_102_4 := f100 102 4 (by omega) | skip
                    first | have tI98_102_14 := f100 102 14 (by omega) | skip
                    first | have tI98_102_18 := f100 102 18 (by omega) | skip
                    first | have tI98_102_22 := f100 102 22 (by omega) | skip
                    first | have tI98_102_23 := f100 102 23 (by omega) | skip
                    first | have tI98_105_0 := f100 105 0 (by omega) | skip
                    first | have tI98_105_1 := f100 105 1 (by omega) | skip
                    first | have tI98_105_2 := f100 105 2 (by omega) | skip
                    first | have tI98_105_6 := f100 105 6 (by omega) | skip
                    first | have tI98_105_326I1052toNat := f100 105 ((326 + (I 105 2)).toNat) (by omega) | skip
                    first | have tI98_105_334I1052toNat := f100 105 ((334 + (I 105 2)).toNat) (by omega) | skip
                    have p102 : mH I98 := mH_eq p76 (fun k j h => f100 k j (by omega))
                    refine ⟨by omega, ?_⟩
                    exact hk _ _ k101 ⟨(by omega), p102⟩
                · exact hk _ _ k75 ⟨(by omega), p76⟩
              · exact hk _ _ k62 ⟨(by omega), p63⟩
            · exact hk _ _ k49 ⟨(by omega), p50⟩
          · refine w_159 (d := d + 3) hT hR  (by omega) (fun r103 I104 f106 q105 => ⟨_, _, rfl, rfl, ?_⟩)
            have k107 : ∀ k j, ¬ ((k = 102 ∧ (j = 4 ∨ (11 ≤ j ∧ j ≤ 18))) ∨ k = 105 ∨ k = 107) → I104 k j = I k j := fun k j h => (f106 k j (by omega)).trans (k29 k j h)
            first | have tI104_102_3 := f106 102 3 (by omega) | skip
            first | have tI104_102_4 := f106 102 4 (by omega) | skip
            first | have tI104_102_14 := f106 102 14 (by omega) | skip
            first | have tI104_102_18 := f106 102 18 (by omega) | skip
            first | have tI104_102_22 := f106 102 22 (by omega) | skip
            first | have tI104_102_23 := f106 102 23 (by omega) | skip
            first | have tI104_105_0 := f106 105 0 (by omega) | skip
            first | have tI104_105_1 := f106 105 1 (by omega) | skip
            first | have tI104_105_2 := f106 105 2 (by omega) | skip
            first | have tI104_105_6 := f106 105 6 (by omega) | skip
            first | have tI104_105_326I1052toNat := f106 105 ((326 + (I 105 2)).toNat) (by omega) | skip
            first | have tI104_105_334I1052toNat := f106 105 ((334 + (I 105 2)).toNat) (by omega) | skip
            have p108 : mH I104 := mH_eq p30 (fun k j h => f106 k j (by omega))
            refine ⟨by omega, ?_⟩
            exact hk _ _ k107 ⟨(by omega), p108⟩
        · exact hk _ _ k29 ⟨(by omega), p30⟩
      · refine w_159 (d := d + 3) hT hR  (by omega) (fun r109 I110 f112 q111 => ⟨_, _, rfl, rfl, ?_⟩)
        have k113 : ∀ k j, ¬ ((k = 102 ∧ (j = 4 ∨ (11 ≤ j ∧ j ≤ 18))) ∨ k = 105 ∨ k = 107) → I110 k j = I k j := fun k j h => (f112 k j (by omega)).trans (k5 k j h)
        first | have tI110_102_3 := f112 102 3 (by omega) | skip
        first | have tI110_102_4 := f112 102 4 (by omega) | skip
        first | have tI110_102_14 := f112 102 14 (by omega) | skip
        first | have tI110_102_18 := f112 102 18 (by omega) | skip
        first | have tI110_102_22 := f112 102 22 (by omega) | skip
        first | have tI110_102_23 := f112 102 23 (by omega) | skip
        first | have tI110_105_0 := f112 105 0 (by omega) | skip
        first | have tI110_105_1 := f112 105 1 (by omega) | skip
        first | have tI110_105_2 := f112 105 2 (by omega) | skip
        first | have tI110_105_6 := f112 105 6 (by omega) | skip
        first | have tI110_105_326I1052toNat := f112 105 ((326 + (I 105 2)).toNat) (by omega) | skip
        first | have tI110_105_334I1052toNat := f112 105 ((334 + (I 105 2)).toNat) (by omega) | skip
        have p114 : mH I110 := mH_eq p6 (fun k j h => f112 k j (by omega))
        refine ⟨by omega, ?_⟩
        exact hk _ _ k113 ⟨(by omega), p114⟩
    · refine w_159 (d := d + 3) hT hR  (by omega) (fun r115 I116 f118 q117 => ⟨_, _, rfl, rfl, ?_⟩)
      have k119 : ∀ k j, ¬ ((k = 102 ∧ (j = 4 ∨ (11 ≤ j ∧ j ≤ 18))) ∨ k = 105 ∨ k = 107) → I116 k j = I k j := fun k j h => (f118 k j (by omega)).trans (k5 k j h)
      first | have tI116_102_3 := f118 102 3 (by omega) | skip
      first | have tI116_102_4 := f118 102 4 (by omega) | skip
      first | have tI116_102_14 := f118 102 14 (by omega) | skip
      first | have tI116_102_18 := f118 102 18 (by omega) | skip
      first | have tI116_102_22 := f118 102 22 (by omega) | skip
      first | have tI116_102_23 := f118 102 23 (by omega) | skip
      first | have tI116_105_0 := f118 105 0 (by omega) | skip
      first | have tI116_105_1 := f118 105 1 (by omega) | skip
      first | have tI116_105_2 := f118 105 2 (by omega) | skip
      first | have tI116_105_6 := f118 105 6 (by omega) | skip
      first | have tI116_105_326I1052toNat := f118 105 ((326 + (I 105 2)).toNat) (by omega) | skip
      first | have tI116_105_334I1052toNat := f118 105 ((334 + (I 105 2)).toNat) (by omega) | skip
      have p120 : mH I116 := mH_eq p6 (fun k j h => f118 k j (by omega))
      refine ⟨by omega, ?_⟩
      exact hk _ _ k119 ⟨(by omega), p120⟩
  · refine w_159 (d := d + 3) hT hR  (by omega) (fun r121 I122 f124 q123 => ⟨_, _, rfl, rfl, ?_⟩)
    have k125 : ∀ k j, ¬ ((k = 102 ∧ (j = 4 ∨ (11 ≤ j ∧ j ≤ 18))) ∨ k = 105 ∨ k = 107) → I122 k j = I k j := fun k j h => (f124 k j (by omega)).trans (k0 k j h)
    first | have tI122_102_3 := f124 102 3 (by omega) | skip
    first | have tI122_102_4 := f124 102 4 (by omega) | skip
    first | have tI122_102_14 := f124 102 14 (by omega) | skip
    first | have tI122_102_18 := f124 102 18 (by omega) | skip
    first | have tI122_102_22 := f124 102 22 (by omega) | skip
    first | have tI122_102_23 := f124 102 23 (by omega) | skip
    first | have tI122_105_0 := f124 105 0 (by omega) | skip
    first | have tI122_105_1 := f124 105 1 (by omega) | skip
    first | have tI122_105_2 := f124 105 2 (by omega) | skip
    first | have tI122_105_6 := f124 105 6 (by omega) | skip
    first | have tI122_105_326I1052toNat := f124 105 ((326 + (I 105 2)).toNat) (by omega) | skip
    first | have tI122_105_334I1052toNat := f124 105 ((334 + (I 105 2)).toNat) (by omega) | skip
    have p126 : mH I122 := mH_eq hP0 (fun k j h => f124 k j (by omega))
    refine ⟨by omega, ?_⟩
    exact hk _ _ k125 ⟨(by omega), p126⟩
end Sw
