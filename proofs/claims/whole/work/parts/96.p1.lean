/-! CONTRACTS of the reference, printed by wip/whole/y/t5.py (96.p1) -/
section Sw
variable {l : Launch} {D : va_G} {cy : Nat → ClassId} {z d bc bs N : Nat} {T : Nat → Nat × Nat} {R : Nat → Nat → Option Nat} {I : Nat → Nat → Int} {K : yKo}
/-- ChairAlleyModel.isSmall(I)Z -/
theorem w_197 (hT : yLT T) (hR : yLR R) {x0 : Int} (hk : ∀ r, ((r = 1 ∧ 97 ≤ x0 ∧ x0 ≤ 122) ∨ (r = 0 ∧ ¬ (97 ≤ x0 ∧ x0 ≤ 122))) → K (some (yi r)) (N, T, R, I)) : yW l zSS D cy zFk z d 197 bc bs K 0 0 0 [(0, yi x0)] [] (N, T, R, I) := by
  refine e_li (i := 0) (x := x0) rfl fun _ _ => ?_
  refine B_197_0 hT hR ?_
  refine ⟨fun c1 => ?_, fun c1 => ?_⟩
  · exact hk _ (by omega)
  · refine ⟨fun c2 => ?_, fun c2 => ?_⟩
    · exact hk _ (by omega)
    · exact hk _ (by omega)
/-- ChairAlleyModel.isDigit(I)Z -/
theorem w_189 (hT : yLT T) (hR : yLR R) {x0 : Int} (hk : ∀ r, ((r = 1 ∧ 48 ≤ x0 ∧ x0 ≤ 57) ∨ (r = 0 ∧ ¬ (48 ≤ x0 ∧ x0 ≤ 57))) → K (some (yi r)) (N, T, R, I)) : yW l zSS D cy zFk z d 189 bc bs K 0 0 0 [(0, yi x0)] [] (N, T, R, I) := by
  refine e_li (i := 0) (x := x0) rfl fun _ _ => ?_
  refine B_189_0 hT hR ?_
  refine ⟨fun c1 => ?_, fun c1 => ?_⟩
  · exact hk _ (by omega)
  · refine ⟨fun c2 => ?_, fun c2 => ?_⟩
    · exact hk _ (by omega)
    · exact hk _ (by omega)
/-- ChairAlleyModel.go()V -/
theorem w_182 (hT : yLT T) (hR : yLR R) (h0 : 0 ≤ I 102 3 ∧ I 102 3 ≤ 940 ∧ 0 ≤ I 102 4 ∧ I 102 4 ≤ 940 ∧ 0 ≤ I 102 14 ∧ I 102 14 ≤ 10000) (hk : ∀ I', (∀ k j, ¬ (k = 102 ∧ (j = 4 ∨ (11 ≤ j ∧ j ≤ 14) ∨ j = 17)) → I' k j = I k j) → ((0 ≤ I' 102 3 ∧ I' 102 3 ≤ 940 ∧ 0 ≤ I' 102 4 ∧ I' 102 4 ≤ 940 ∧ 0 ≤ I' 102 14 ∧ I' 102 14 ≤ 10000)) → K none (N, T, R, I')) : yW l zSS D cy zFk z (d + 1) 182 bc bs K 0 0 0 [(0, yr (some 102))] [] (N, T, R, I) := by
  have k0 : ∀ k j, ¬ (k = 102 ∧ (j = 4 ∨ (11 ≤ j ∧ j ≤ 14) ∨ j = 17)) → I k j = I k j := fun _ _ _ => rfl
  have L : ∀ m : Nat, (∀ X : Nat → Nat → Int, (∀ k j, ¬ (k = 102 ∧ (j = 4 ∨ (11 ≤ j ∧ j ≤ 14) ∨ j = 17)) → X k j = I k j) → (10 * (940 - X 102 4) + 30 : Int).toNat < m → (0 ≤ X 102 3 ∧ X 102 3 ≤ 940 ∧ 0 ≤ X 102 4 ∧ X 102 4 ≤ 940 ∧ 0 ≤ X 102 14 ∧ X 102 14 ≤ 10000) → yW l zSS D cy zFk z (d + 1) 182 bc bs K 0 0 0 [(0, yr (some 102))] [] (N, T, R, X)) ∧ (∀ X : Nat → Nat → Int, (∀ k j, ¬ (k = 102 ∧ (j = 4 ∨ (11 ≤ j ∧ j ≤ 14) ∨ j = 17)) → X k j = I k j) → (10 * (940 - X 102 4) + 28 : Int).toNat < m → (0 ≤ X 102 3 ∧ X 102 3 ≤ 940 ∧ 0 ≤ X 102 4 ∧ X 102 4 ≤ 940 ∧ 0 ≤ X 102 14 ∧ X 102 14 ≤ 10000 ∧ X 102 4 < 940) → yW l zSS D cy zFk z (d + 1) 182 bc bs K 0 0 18 [(0, yr (some 102))] [] (N, T, R, X)) ∧ (∀ X : Nat → Nat → Int, (∀ k j, ¬ (k = 102 ∧ (j = 4 ∨ (11 ≤ j ∧ j ≤ 14) ∨ j = 17)) → X k j = I k j) → (10 * (940 - X 102 4) + 20 : Int).toNat < m → (0 ≤ X 102 3 ∧ X 102 3 ≤ 940 ∧ 0 ≤ X 102 4 ∧ X 102 4 ≤ 940 ∧ 0 ≤ X 102 14 ∧ X 102 14 ≤ 10000 ∧ X 102 13 = 0) → yW l zSS D cy zFk z (d + 1) 182 bc bs K 0 0 80 [(0, yr (some 102))] [] (N, T, R, X)) ∧ (∀ x1 : Int, ∀ X : Nat → Nat → Int, (∀ k j, ¬ (k = 102 ∧ (j = 4 ∨ (11 ≤ j ∧ j ≤ 14) ∨ j = 17)) → X k j = I k j) → (10 * (940 - X 102 4) + 18 : Int).toNat < m → (0 ≤ X 102 3 ∧ X 102 3 ≤ 940 ∧ 0 ≤ X 102 4 ∧ X 102 4 ≤ 940 ∧ 0 ≤ X 102 14 ∧ X 102 14 ≤ 10000 ∧ X 102 13 = 0) → yW l zSS D cy zFk z (d + 1) 182 bc bs K 0 0 164 [(0, yr (some 102)), (1, yi x1)] [] (N, T, R, X)) ∧ (∀ x2 x3 : Int, ∀ X : Nat → Nat → Int, (∀ k j, ¬ (k = 102 ∧ (j = 4 ∨ (11 ≤ j ∧ j ≤ 14) ∨ j = 17)) → X k j = I k j) → (10 * (940 - X 102 4) + 16 : Int).toNat < m → (0 ≤ X 102 3 ∧ X 102 3 ≤ 940 ∧ 0 ≤ X 102 4 ∧ X 102 4 ≤ 940 ∧ 0 ≤ X 102 14 ∧ X 102 14 ≤ 10000 ∧ ((X 102 13 = 0 ∧ X 102 14 = 0) ∨ (X 102 13 = 1 ∧ X 102 14 ≤ 74) ∨ (X 102 13 = 2 ∧ X 102 14 ≤ 814) ∨ (3 ≤ X 102 13 ∧ X 102 14 ≤ 8214)) ∧ X 102 13 ≤ X 102 4) → yW l zSS D cy zFk z (d + 1) 182 bc bs K 0 0 181 [(0, yr (some 102)), (2, yi x2), (3, yi x3)] [] (N, T, R, X)) ∧ (∀ x2 x3 : Int, ∀ X : Nat → Nat → Int, (∀ k j, ¬ (k = 102 ∧ (j = 4 ∨ (11 ≤ j ∧ j ≤ 14) ∨ j = 17)) → X k j = I k j) → (10 * (940 - X 102 4) + 14 : Int).toNat < m → (0 ≤ X 102 3 ∧ X 102 3 ≤ 940 ∧ 0 ≤ X 102 4 ∧ X 102 4 ≤ 940 ∧ 0 ≤ X 102 14 ∧ X 102 14 ≤ 10000 ∧ X 102 4 < X 102 3 ∧ ((48 ≤ mPk X ∧ mPk X ≤ 57) ∨ (97 ≤ mPk X ∧ mPk X ≤ 122)) ∧ ((X 102 13 = 0 ∧ X 102 14 = 0) ∨ (X 102 13 = 1 ∧ X 102 14 ≤ 74) ∨ (X 102 13 = 2 ∧ X 102 14 ≤ 814) ∨ (3 ≤ X 102 13 ∧ X 102 14 ≤ 8214)) ∧ X 102 13 ≤ X 102 4) → yW l zSS D cy zFk z (d + 1) 182 bc bs K 0 0 201 [(0, yr (some 102)), (2, yi x2), (3, yi x3)] [] (N, T, R, X)) ∧ (∀ x2 : Int, ∀ X : Nat → Nat → Int, (∀ k j, ¬ (k = 102 ∧ (j = 4 ∨ (11 ≤ j ∧ j ≤ 14) ∨ j = 17)) → X k j = I k j) → (10 * (940 - X 102 4) + 12 : Int).toNat < m → (0 ≤ X 102 3 ∧ X 102 3 ≤ 940 ∧ 0 ≤ X 102 4 ∧ X 102 4 ≤ 940 ∧ 0 ≤ X 102 14 ∧ X 102 14 ≤ 10000 ∧ X 102 4 < X 102 3 ∧ ((48 ≤ mPk X ∧ mPk X ≤ 57) ∨ (97 ≤ mPk X ∧ mPk X ≤ 122)) ∧ ((X 102 13 = 0 ∧ X 102 14 = 0) ∨ (X 102 13 = 1 ∧ X 102 14 ≤ 74) ∨ (X 102 13 = 2 ∧ X 102 14 ≤ 814) ∨ (3 ≤ X 102 13 ∧ X 102 14 ≤ 8214)) ∧ X 102 13 ≤ X 102 4) → yW l zSS D cy zFk z (d + 1) 182 bc bs K 0 0 220 [(0, yr (some 102)), (2, yi x2)] [] (N, T, R, X)) ∧ (∀ x2 x3 : Int, ∀ X : Nat → Nat → Int, (∀ k j, ¬ (k = 102 ∧ (j = 4 ∨ (11 ≤ j ∧ j ≤ 14) ∨ j = 17)) → X k j = I k j) → (10 * (940 - X 102 4) + 10 : Int).toNat < m → (0 ≤ X 102 3 ∧ X 102 3 ≤ 940 ∧ 0 ≤ X 102 4 ∧ X 102 4 ≤ 940 ∧ 0 ≤ X 102 14 ∧ X 102 14 ≤ 10000 ∧ X 102 4 < X 102 3 ∧ ((48 ≤ mPk X ∧ mPk X ≤ 57) ∨ (97 ≤ mPk X ∧ mPk X ≤ 122)) ∧ ((X 102 13 = 0 ∧ X 102 14 = 0) ∨ (X 102 13 = 1 ∧ X 102 14 ≤ 74) ∨ (X 102 13 = 2 ∧ X 102 14 ≤ 814) ∨ (3 ≤ X 102 13 ∧ X 102 14 ≤ 8214)) ∧ X 102 13 ≤ X 102 4) → yW l zSS D cy zFk z (d + 1) 182 bc bs K 0 0 248 [(0, yr (some 102)), (2, yi x2), (3, yi x3)] [] (N, T, R, X)) ∧ (∀ x2 x3 : Int, ∀ X : Nat → Nat → Int, (∀ k j, ¬ (k = 102 ∧ (j = 4 ∨ (11 ≤ j ∧ j ≤ 14) ∨ j = 17)) → X k j = I k j) → (10 * (940 - X 102 4) + 8 : Int).toNat < m → (0 ≤ X 102 3 ∧ X 102 3 ≤ 940 ∧ 0 ≤ X 102 4 ∧ X 102 4 ≤ 940 ∧ 0 ≤ X 102 14 ∧ X 102 14 ≤ 10000 ∧ X 102 4 < X 102 3 ∧ 0 ≤ X 102 13 ∧ X 102 13 ≤ X 102 4 ∧ ((X 102 13 = 0 ∧ X 102 14 ≤ 74) ∨ (X 102 13 = 1 ∧ X 102 14 ≤ 814) ∨ (2 ≤ X 102 13 ∧ X 102 14 ≤ 8214))) → yW l zSS D cy zFk z (d + 1) 182 bc bs K 0 0 275 [(0, yr (some 102)), (2, yi x2), (3, yi x3)] [] (N, T, R, X)) := by
    intro m
    induction m with
    | zero => exact ⟨fun _ _ h => absurd h (Nat.not_lt_zero _), fun _ _ h => absurd h (Nat.not_lt_zero _), fun _ _ h => absurd h (Nat.not_lt_zero _), fun _ _ _ h => absurd h (Nat.not_lt_zero _), fun _ _ _ _ h => absurd h (Nat.not_lt_zero _), fun _ _ _ _ h => absurd h (Nat.not_lt_zero _), fun _ _ _ h => absurd h (Nat.not_lt_zero _), fun _ _ _ _ h => absurd h (Nat.not_lt_zero _), fun _ _ _ _ h => absurd h (Nat.not_lt_zero _)⟩
    | succ m ih =>
      refine ⟨?_, ?_, ?_, ?_, ?_, ?_, ?_, ?_, ?_⟩
      · intro X kX hm iv
        have t1 : X 102 3 = (I 102 3) := kX 102 3 (by omega)
        refine B_182_0 hT hR ?_
        try rw [t1]
        refine w_225 (d := d) hT hR  (by omega) (fun r2 q3 => ⟨_, _, rfl, rfl, ?_⟩)
        refine ⟨fun c5 => ?_, fun c5 => ?_⟩
        · exact ih.2.1  _ kX (by omega) (by omega)
        · refine w_225 (d := d) hT hR  (by omega) (fun r6 q7 => ⟨_, _, rfl, rfl, ?_⟩)
          refine ⟨fun c9 => ?_, fun c9 => ?_⟩
          · intro I10 e11
            have k12 : ∀ k j, ¬ (k = 102 ∧ (j = 4 ∨ (11 ≤ j ∧ j ≤ 14) ∨ j = 17)) → I10 k j = I k j := fun k j h => ((congrFun (congrFun e11 k) j).trans (yU_ne _ _ (by omega))).trans (kX k j h)
            first | have gI10_mPk : mPk I10 = mPk X := mPk_eq (fun k j h => (congrFun (congrFun e11 k) j).trans (yU_ne _ _ (by omega))) | skip
            have t13 : I10 102 3 = (I 102 3) := ((congrFun (congrFun e11 102) 3).trans (yU_ne _ _ (by omega))).trans t1
            try rw [t13]
            have t14 : I10 102 4 = (X 102 4) := (congrFun (congrFun e11 102) 4).trans (yU_ne _ _ (by omega))
            try rw [t14]
            have t15 : I10 102 14 = (X 102 14) := (congrFun (congrFun e11 102) 14).trans (yU_ne _ _ (by omega))
            try rw [t15]
            have t16 : I10 102 13 = (X 102 13) := (congrFun (congrFun e11 102) 13).trans (yU_ne _ _ (by omega))
            try rw [t16]
            intro I17 e18
            have k19 : ∀ k j, ¬ (k = 102 ∧ (j = 4 ∨ (11 ≤ j ∧ j ≤ 14) ∨ j = 17)) → I17 k j = I k j := fun k j h => ((congrFun (congrFun e18 k) j).trans (yU_ne _ _ (by omega))).trans (k12 k j h)
            first | have gI17_mPk : mPk I17 = mPk I10 := mPk_eq (fun k j h => (congrFun (congrFun e18 k) j).trans (yU_ne _ _ (by omega))) | skip
            have t20 : I17 102 3 = (I 102 3) := ((congrFun (congrFun e18 102) 3).trans (yU_ne _ _ (by omega))).trans t13
            try rw [t20]
            have t21 : I17 102 4 = (X 102 4) := ((congrFun (congrFun e18 102) 4).trans (yU_ne _ _ (by omega))).trans t14
            try rw [t21]
            have t22 : I17 102 14 = (X 102 14) := ((congrFun (congrFun e18 102) 14).trans (yU_ne _ _ (by omega))).trans t15
            try rw [t22]
            have t23 : I17 102 13 = 0 := (congrFun (congrFun e18 102) 13).trans (yU_eq _ _ _ _)
            try rw [t23]
            refine ⟨fun c24 => ?_, fun c24 => ?_⟩
            · exact ih.2.2.1  _ k19 (by omega) (by omega)
            · refine ⟨fun c25 => ?_, fun c25 => ?_⟩
              · exact ih.2.2.1  _ k19 (by omega) (by omega)
              · intro I26 e27
                have k28 : ∀ k j, ¬ (k = 102 ∧ (j = 4 ∨ (11 ≤ j ∧ j ≤ 14) ∨ j = 17)) → I26 k j = I k j := fun k j h => ((congrFun (congrFun e27 k) j).trans (yU_ne _ _ (by omega))).trans (k19 k j h)
                first | have gI26_mPk : mPk I26 = mPk I17 := mPk_eq (fun k j h => (congrFun (congrFun e27 k) j).trans (yU_ne _ _ (by omega))) | skip
                have t29 : I26 102 3 = (I 102 3) := ((congrFun (congrFun e27 102) 3).trans (yU_ne _ _ (by omega))).trans t20
                try rw [t29]
                have t30 : I26 102 4 = (X 102 4) := ((congrFun (congrFun e27 102) 4).trans (yU_ne _ _ (by omega))).trans t21
                try rw [t30]
                have t31 : I26 102 14 = (X 102 14) := ((congrFun (congrFun e27 102) 14).trans (yU_ne _ _ (by omega))).trans t22
                try rw [t31]
                have t32 : I26 102 13 = 0 := ((congrFun (congrFun e27 102) 13).trans (yU_ne _ _ (by omega))).trans t23
                try rw [t32]
                intro I33 e34
                have k35 : ∀ k j, ¬ (k = 102 ∧ (j = 4 ∨ (11 ≤ j ∧ j ≤ 14) ∨ j = 17)) → I33 k j = I k j := fun k j h => ((congrFun (congrFun e34 k) j).trans (yU_ne _ _ (by omega))).trans (k28 k j h)
                first | have gI33_mPk : mPk I33 = mPk I26 := mPk_eq (fun k j h => (congrFun (congrFun e34 k) j).trans (yU_ne _ _ (by omega))) | skip
                have t36 : I33 102 3 = (I 102 3) := ((congrFun (congrFun e34 102) 3).trans (yU_ne _ _ (by omega))).trans t29
                try rw [t36]
                have t37 : I33 102 4 = (X 102 4) := ((congrFun (congrFun e34 102) 4).trans (yU_ne _ _ (by omega))).trans t30
                try rw [t37]
                have t38 : I33 102 14 = (X 102 14) := ((congrFun (congrFun e34 102) 14).trans (yU_ne _ _ (by omega))).trans t31
                try rw [t38]
                have t39 : I33 102 13 = 0 := ((congrFun (congrFun e34 102) 13).trans (yU_ne _ _ (by omega))).trans t32
                try rw [t39]
                exact hk _ k35 (by omega)
          · exact ih.2.1  _ kX (by omega) (by omega)
      · intro X kX hm iv
        have t40 : X 102 3 = (I 102 3) := kX 102 3 (by omega)
        refine B_182_18 hT hR ?_
        try rw [t40]
        have a41 : yadd (X 102 4) 1 = ((X 102 4) + 1) := yadd_eq (by omega) (by omega)
        try rw [a41]
        intro I42 e43
        have k44 : ∀ k j, ¬ (k = 102 ∧ (j = 4 ∨ (11 ≤ j ∧ j ≤ 14) ∨ j = 17)) → I42 k j = I k j := fun k j h => ((congrFun (congrFun e43 k) j).trans (yU_ne _ _ (by omega))).trans (kX k j h)
        first | have gI42_mPk : mPk I42 = mPk X := mPk_eq (fun k j h => (congrFun (congrFun e43 k) j).trans (yU_ne _ _ (by omega))) | skip
        have t45 : I42 102 3 = (I 102 3) := ((congrFun (congrFun e43 102) 3).trans (yU_ne _ _ (by omega))).trans t40
        try rw [t45]
        have t46 : I42 102 4 = ((X 102 4) + 1) := (congrFun (congrFun e43 102) 4).trans (yU_eq _ _ _ _)
        try rw [t46]
        have t47 : I42 102 14 = (X 102 14) := (congrFun (congrFun e43 102) 14).trans (yU_ne _ _ (by omega))
        try rw [t47]
        have t48 : I42 102 13 = (X 102 13) := (congrFun (congrFun e43 102) 13).trans (yU_ne _ _ (by omega))
        try rw [t48]
        exact ih.1  _ k44 (by omega) (by omega)
      · intro X kX hm iv
        have t49 : X 102 3 = (I 102 3) := kX 102 3 (by omega)
        refine B_182_80 hT hR ?_
        try rw [t49]
        refine w_225 (d := d) hT hR  (by omega) (fun r50 q51 => ⟨_, _, rfl, rfl, ?_⟩)
        refine ⟨fun c53 => ?_, fun c53 => ?_⟩
        · refine w_197 (d := d) hT hR   (fun r54 q55 => ⟨_, _, rfl, rfl, ?_⟩)
          refine ⟨fun c57 => ?_, fun c57 => ?_⟩
          · exact ih.2.2.2.1 _ _ kX (by omega) (by omega)
          · refine w_189 (d := d) hT hR   (fun r58 q59 => ⟨_, _, rfl, rfl, ?_⟩)
            refine ⟨fun c61 => ?_, fun c61 => ?_⟩
            · exact ih.2.2.2.1 _ _ kX (by omega) (by omega)
            · refine ⟨fun c62 => ?_, fun c62 => ?_⟩
              · intro I63 e64
                have k65 : ∀ k j, ¬ (k = 102 ∧ (j = 4 ∨ (11 ≤ j ∧ j ≤ 14) ∨ j = 17)) → I63 k j = I k j := fun k j h => ((congrFun (congrFun e64 k) j).trans (yU_ne _ _ (by omega))).trans (kX k j h)
                first | have gI63_mPk : mPk I63 = mPk X := mPk_eq (fun k j h => (congrFun (congrFun e64 k) j).trans (yU_ne _ _ (by omega))) | skip
                have t66 : I63 102 3 = (I 102 3) := ((congrFun (congrFun e64 102) 3).trans (yU_ne _ _ (by omega))).trans t49
                try rw [t66]
                have t67 : I63 102 4 = (X 102 4) := (congrFun (congrFun e64 102) 4).trans (yU_ne _ _ (by omega))
                try rw [t67]
                have t68 : I63 102 14 = (X 102 14) := (congrFun (congrFun e64 102) 14).trans (yU_ne _ _ (by omega))
                try rw [t68]
                have t69 : I63 102 13 = (X 102 13) := (congrFun (congrFun e64 102) 13).trans (yU_ne _ _ (by omega))
                try rw [t69]
                intro I70 e71
                have k72 : ∀ k j, ¬ (k = 102 ∧ (j = 4 ∨ (11 ≤ j ∧ j ≤ 14) ∨ j = 17)) → I70 k j = I k j := fun k j h => ((congrFun (congrFun e71 k) j).trans (yU_ne _ _ (by omega))).trans (k65 k j h)
                first | have gI70_mPk : mPk I70 = mPk I63 := mPk_eq (fun k j h => (congrFun (congrFun e71 k) j).trans (yU_ne _ _ (by omega))) | skip
                have t73 : I70 102 3 = (I 102 3) := ((congrFun (congrFun e71 102) 3).trans (yU_ne _ _ (by omega))).trans t66
                try rw [t73]
                have t74 : I70 102 4 = (X 102 4) := ((congrFun (congrFun e71 102) 4).trans (yU_ne _ _ (by omega))).trans t67
                try rw [t74]
                have t75 : I70 102 14 = r50 := (congrFun (congrFun e71 102) 14).trans (yU_eq _ _ _ _)
                try rw [t75]
                have t76 : I70 102 13 = (X 102 13) := ((congrFun (congrFun e71 102) 13).trans (yU_ne _ _ (by omega))).trans t69
                try rw [t76]
                have a77 : yadd (X 102 4) 1 = ((X 102 4) + 1) := yadd_eq (by omega) (by omega)
                try rw [a77]
                intro I78 e79
                have k80 : ∀ k j, ¬ (k = 102 ∧ (j = 4 ∨ (11 ≤ j ∧ j ≤ 14) ∨ j = 17)) → I78 k j = I k j := fun k j h => ((congrFun (congrFun e79 k) j).trans (yU_ne _ _ (by omega))).trans (k72 k j h)
                first | have gI78_mPk : mPk I78 = mPk I70 := mPk_eq (fun k j h => (congrFun (congrFun e79 k) j).trans (yU_ne _ _ (by omega))) | skip
                have t81 : I78 102 3 = (I 102 3) := ((congrFun (congrFun e79 102) 3).trans (yU_ne _ _ (by omega))).trans t73
                try rw [t81]
                have t82 : I78 102 4 = ((X 102 4) + 1) := (congrFun (congrFun e79 102) 4).trans (yU_eq _ _ _ _)
                try rw [t82]
                have t83 : I78 102 14 = r50 := ((congrFun (congrFun e79 102) 14).trans (yU_ne _ _ (by omega))).trans t75
                try rw [t83]
                have t84 : I78 102 13 = (X 102 13) := ((congrFun (congrFun e79 102) 13).trans (yU_ne _ _ (by omega))).trans t76
                try rw [t84]
                exact hk _ k80 (by omega)
              · refine ⟨fun c85 => ?_, fun c85 => ?_⟩
                · intro I86 e87
                  have k88 : ∀ k j, ¬ (k = 102 ∧ (j = 4 ∨ (11 ≤ j ∧ j ≤ 14) ∨ j = 17)) → I86 k j = I k j := fun k j h => ((congrFun (congrFun e87 k) j).trans (yU_ne _ _ (by omega))).trans (kX k j h)
                  first | have gI86_mPk : mPk I86 = mPk X := mPk_eq (fun k j h => (congrFun (congrFun e87 k) j).trans (yU_ne _ _ (by omega))) | skip
                  have t89 : I86 102 3 = (I 102 3) := ((congrFun (congrFun e87 102) 3).trans (yU_ne _ _ (by omega))).trans t49
                  try rw [t89]
                  have t90 : I86 102 4 = (X 102 4) := (congrFun (congrFun e87 102) 4).trans (yU_ne _ _ (by omega))
                  try rw [t90]
                  have t91 : I86 102 14 = (X 102 14) := (congrFun (congrFun e87 102) 14).trans (yU_ne _ _ (by omega))
                  try rw [t91]
                  have t92 : I86 102 13 = (X 102 13) := (congrFun (congrFun e87 102) 13).trans (yU_ne _ _ (by omega))
                  try rw [t92]
                  intro I93 e94
                  have k95 : ∀ k j, ¬ (k = 102 ∧ (j = 4 ∨ (11 ≤ j ∧ j ≤ 14) ∨ j = 17)) → I93 k j = I k j := fun k j h => ((congrFun (congrFun e94 k) j).trans (yU_ne _ _ (by omega))).trans (k88 k j h)
                  first | have gI93_mPk : mPk I93 = mPk I86 := mPk_eq (fun k j h => (congrFun (congrFun e94 k) j).trans (yU_ne _ _ (by omega))) | skip
                  have t96 : I93 102 3 = (I 102 3) := ((congrFun (congrFun e94 102) 3).trans (yU_ne _ _ (by omega))).trans t89
                  try rw [t96]
                  have t97 : I93 102 4 = (X 102 4) := ((congrFun (congrFun e94 102) 4).trans (yU_ne _ _ (by omega))).trans t90
                  try rw [t97]
                  have t98 : I93 102 14 = r50 := (congrFun (congrFun e94 102) 14).trans (yU_eq _ _ _ _)
                  try rw [t98]
                  have t99 : I93 102 13 = (X 102 13) := ((congrFun (congrFun e94 102) 13).trans (yU_ne _ _ (by omega))).trans t92
                  try rw [t99]
                  have a100 : yadd (X 102 4) 1 = ((X 102 4) + 1) := yadd_eq (by omega) (by omega)
                  try rw [a100]
                  intro I101 e102
                  have k103 : ∀ k j, ¬ (k = 102 ∧ (j = 4 ∨ (11 ≤ j ∧ j ≤ 14) ∨ j = 17)) → I101 k j = I k j := fun k j h => ((congrFun (congrFun e102 k) j).trans (yU_ne _ _ (by omega))).trans (k95 k j h)
                  first | have gI101_mPk : mPk I101 = mPk I93 := mPk_eq (fun k j h => (congrFun (congrFun e102 k) j).trans (yU_ne _ _ (by omega))) | skip
                  have t104 : I101 102 3 = (I 102 3) := ((congrFun (congrFun e102 102) 3).trans (yU_ne _ _ (by omega))).trans t96
                  try rw [t104]
                  have t105 : I101 102 4 = ((X 102 4) + 1) := (congrFun (congrFun e102 102) 4).trans (yU_eq _ _ _ _)
                  try rw [t105]
                  have t106 : I101 102 14 = r50 := ((congrFun (congrFun e102 102) 14).trans (yU_ne _ _ (by omega))).trans t98
                  try rw [t106]
                  have t107 : I101 102 13 = (X 102 13) := ((congrFun (congrFun e102 102) 13).trans (yU_ne _ _ (by omega))).trans t99
                  try rw [t107]
                  exact hk _ k103 (by omega)
                · refine ⟨fun c108 => ?_, fun c108 => ?_⟩
                  · intro I109 e110
                    have k111 : ∀ k j, ¬ (k = 102 ∧ (j = 4 ∨ (11 ≤ j ∧ j ≤ 14) ∨ j = 17)) → I109 k j = I k j := fun k j h => ((congrFun (congrFun e110 k) j).trans (yU_ne _ _ (by omega))).trans (kX k j h)
                    first | have gI109_mPk : mPk I109 = mPk X := mPk_eq (fun k j h => (congrFun (congrFun e110 k) j).trans (yU_ne _ _ (by omega))) | skip
                    have t112 : I109 102 3 = (I 102 3) := ((congrFun (congrFun e110 102) 3).trans (yU_ne _ _ (by omega))).trans t49
                    try rw [t112]
                    have t113 : I109 102 4 = (X 102 4) := (congrFun (congrFun e110 102) 4).trans (yU_ne _ _ (by omega))
                    try rw [t113]
                    have t114 : I109 102 14 = (X 102 14) := (congrFun (congrFun e110 102) 14).trans (yU_ne _ _ (by omega))
                    try rw [t114]
                    have t115 : I109 102 13 = (X 102 13) := (congrFun (congrFun e110 102) 13).trans (yU_ne _ _ (by omega))
                    try rw [t115]
                    intro I116 e117
                    have k118 : ∀ k j, ¬ (k = 102 ∧ (j = 4 ∨ (11 ≤ j ∧ j ≤ 14) ∨ j = 17)) → I116 k j = I k j := fun k j h => ((congrFun (congrFun e117 k) j).trans (yU_ne _ _ (by omega))).trans (k111 k j h)
                    first | have gI116_mPk : mPk I116 = mPk I109 := mPk_eq (fun k j h => (congrFun (congrFun e117 k) j).trans (yU_ne _ _ (by omega))) | skip
                    have t119 : I116 102 3 = (I 102 3) := ((congrFun (congrFun e117 102) 3).trans (yU_ne _ _ (by omega))).trans t112
                    try rw [t119]
                    have t120 : I116 102 4 = (X 102 4) := ((congrFun (congrFun e117 102) 4).trans (yU_ne _ _ (by omega))).trans t113
                    try rw [t120]
                    have t121 : I116 102 14 = r50 := (congrFun (congrFun e117 102) 14).trans (yU_eq _ _ _ _)
                    try rw [t121]
                    have t122 : I116 102 13 = (X 102 13) := ((congrFun (congrFun e117 102) 13).trans (yU_ne _ _ (by omega))).trans t115
                    try rw [t122]
                    have a123 : yadd (X 102 4) 1 = ((X 102 4) + 1) := yadd_eq (by omega) (by omega)
                    try rw [a123]
                    intro I124 e125
                    have k126 : ∀ k j, ¬ (k = 102 ∧ (j = 4 ∨ (11 ≤ j ∧ j ≤ 14) ∨ j = 17)) → I124 k j = I k j := fun k j h => ((congrFun (congrFun e125 k) j).trans (yU_ne _ _ (by omega))).trans (k118 k j h)
                    first | have gI124_mPk : mPk I124 = mPk I116 := mPk_eq (fun k j h => (congrFun (congrFun e125 k) j).trans (yU_ne _ _ (by omega))) | skip
                    have t127 : I124 102 3 = (I 102 3) := ((congrFun (congrFun e125 102) 3).trans (yU_ne _ _ (by omega))).trans t119
                    try rw [t127]
                    have t128 : I124 102 4 = ((X 102 4) + 1) := (congrFun (congrFun e125 102) 4).trans (yU_eq _ _ _ _)
                    try rw [t128]
                    have t129 : I124 102 14 = r50 := ((congrFun (congrFun e125 102) 14).trans (yU_ne _ _ (by omega))).trans t121
                    try rw [t129]
                    have t130 : I124 102 13 = (X 102 13) := ((congrFun (congrFun e125 102) 13).trans (yU_ne _ _ (by omega))).trans t122
                    try rw [t130]
                    exact hk _ k126 (by omega)
                  · refine ⟨fun c131 => ?_, fun c131 => ?_⟩
                    · intro I132 e133
                      have k134 : ∀ k j, ¬ (k = 102 ∧ (j = 4 ∨ (11 ≤ j ∧ j ≤ 14) ∨ j = 17)) → I132 k j = I k j := fun k j h => ((congrFun (congrFun e133 k) j).trans (yU_ne _ _ (by omega))).trans (kX k j h)
                      first | have gI132_mPk : mPk I132 = mPk X := mPk_eq (fun k j h => (congrFun (congrFun e133 k) j).trans (yU_ne _ _ (by omega))) | skip
                      have t135 : I132 102 3 = (I 102 3) := ((congrFun (congrFun e133 102) 3).trans (yU_ne _ _ (by omega))).trans t49
                      try rw [t135]
                      have t136 : I132 102 4 = (X 102 4) := (congrFun (congrFun e133 102) 4).trans (yU_ne _ _ (by omega))
                      try rw [t136]
                      have t137 : I132 102 14 = (X 102 14) := (congrFun (congrFun e133 102) 14).trans (yU_ne _ _ (by omega))
                      try rw [t137]
                      have t138 : I132 102 13 = (X 102 13) := (congrFun (congrFun e133 102) 13).trans (yU_ne _ _ (by omega))
                      try rw [t138]
                      intro I139 e140
                      have k141 : ∀ k j, ¬ (k = 102 ∧ (j = 4 ∨ (11 ≤ j ∧ j ≤ 14) ∨ j = 17)) → I139 k j = I k j := fun k j h => ((congrFun (congrFun e140 k) j).trans (yU_ne _ _ (by omega))).trans (k134 k j h)
                      first | have gI139_mPk : mPk I139 = mPk I132 := mPk_eq (fun k j h => (congrFun (congrFun e140 k) j).trans (yU_ne _ _ (by omega))) | skip
                      have t142 : I139 102 3 = (I 102 3) := ((congrFun (congrFun e140 102) 3).trans (yU_ne _ _ (by omega))).trans t135
                      try rw [t142]
                      have t143 : I139 102 4 = (X 102 4) := ((congrFun (congrFun e140 102) 4).trans (yU_ne _ _ (by omega))).trans t136
                      try rw [t143]
                      have t144 : I139 102 14 = r50 := (congrFun (congrFun e140 102) 14).trans (yU_eq _ _ _ _)
                      try rw [t144]
                      have t145 : I139 102 13 = (X 102 13) := ((congrFun (congrFun e140 102) 13).trans (yU_ne _ _ (by omega))).trans t138
                      try rw [t145]
                      have a146 : yadd (X 102 4) 1 = ((X 102 4) + 1) := yadd_eq (by omega) (by omega)
                      try rw [a146]
                      intro I147 e148
                      have k149 : ∀ k j, ¬ (k = 102 ∧ (j = 4 ∨ (11 ≤ j ∧ j ≤ 14) ∨ j = 17)) → I147 k j = I k j := fun k j h => ((congrFun (congrFun e148 k) j).trans (yU_ne _ _ (by omega))).trans (k141 k j h)
                      first | have gI147_mPk : mPk I147 = mPk I139 := mPk_eq (fun k j h => (congrFun (congrFun e148 k) j).trans (yU_ne _ _ (by omega))) | skip
                      have t150 : I147 102 3 = (I 102 3) := ((congrFun (congrFun e148 102) 3).trans (yU_ne _ _ (by omega))).trans t142
                      try rw [t150]
                      have t151 : I147 102 4 = ((X 102 4) + 1) := (congrFun (congrFun e148 102) 4).trans (yU_eq _ _ _ _)
                      try rw [t151]
                      have t152 : I147 102 14 = r50 := ((congrFun (congrFun e148 102) 14).trans (yU_ne _ _ (by omega))).trans t144
                      try rw [t152]
                      have t153 : I147 102 13 = (X 102 13) := ((congrFun (congrFun e148 102) 13).trans (yU_ne _ _ (by omega))).trans t145
                      try rw [t153]
                      exact hk _ k149 (by omega)
                    · refine ⟨fun c154 => ?_, fun c154 => ?_⟩
                      · intro I155 e156
                        have k157 : ∀ k j, ¬ (k = 102 ∧ (j = 4 ∨ (11 ≤ j ∧ j ≤ 14) ∨ j = 17)) → I155 k j = I k j := fun k j h => ((congrFun (congrFun e156 k) j).trans (yU_ne _ _ (by omega))).trans (kX k j h)
                        first | have gI155_mPk : mPk I155 = mPk X := mPk_eq (fun k j h => (congrFun (congrFun e156 k) j).trans (yU_ne _ _ (by omega))) | skip
                        have t158 : I155 102 3 = (I 102 3) := ((congrFun (congrFun e156 102) 3).trans (yU_ne _ _ (by omega))).trans t49
                        try rw [t158]
                        have t159 : I155 102 4 = (X 102 4) := (congrFun (congrFun e156 102) 4).trans (yU_ne _ _ (by omega))
                        try rw [t159]
                        have t160 : I155 102 14 = (X 102 14) := (congrFun (congrFun e156 102) 14).trans (yU_ne _ _ (by omega))
                        try rw [t160]
                        have t161 : I155 102 13 = (X 102 13) := (congrFun (congrFun e156 102) 13).trans (yU_ne _ _ (by omega))
                        try rw [t161]
                        intro I162 e163
                        have k164 : ∀ k j, ¬ (k = 102 ∧ (j = 4 ∨ (11 ≤ j ∧ j ≤ 14) ∨ j = 17)) → I162 k j = I k j := fun k j h => ((congrFun (congrFun e163 k) j).trans (yU_ne _ _ (by omega))).trans (k157 k j h)
                        first | have gI162_mPk : mPk I162 = mPk I155 := mPk_eq (fun k j h => (congrFun (congrFun e163 k) j).trans (yU_ne _ _ (by omega))) | skip
                        have t165 : I162 102 3 = (I 102 3) := ((congrFun (congrFun e163 102) 3).trans (yU_ne _ _ (by omega))).trans t158
                        try rw [t165]
                        have t166 : I162 102 4 = (X 102 4) := ((congrFun (congrFun e163 102) 4).trans (yU_ne _ _ (by omega))).trans t159
                        try rw [t166]
                        have t167 : I162 102 14 = r50 := (congrFun (congrFun e163 102) 14).trans (yU_eq _ _ _ _)
                        try rw [t167]
                        have t168 : I162 102 13 = (X 102 13) := ((congrFun (congrFun e163 102) 13).trans (yU_ne _ _ (by omega))).trans t161
                        try rw [t168]
                        have a169 : yadd (X 102 4) 1 = ((X 102 4) + 1) := yadd_eq (by omega) (by omega)
                        try rw [a169]
                        intro I170 e171
                        have k172 : ∀ k j, ¬ (k = 102 ∧ (j = 4 ∨ (11 ≤ j ∧ j ≤ 14) ∨ j = 17)) → I170 k j = I k j := fun k j h => ((congrFun (congrFun e171 k) j).trans (yU_ne _ _ (by omega))).trans (k164 k j h)
                        first | have gI170_mPk : mPk I170 = mPk I162 := mPk_eq (fun k j h => (congrFun (congrFun e171 k) j).trans (yU_ne _ _ (by omega))) | skip
                        have t173 : I170 102 3 = (I 102 3) := ((congrFun (congrFun e171 102) 3).trans (yU_ne _ _ (by omega))).trans t165
                        try rw [t173]
                        have t174 : I170 102 4 = ((X 102 4) + 1) := (congrFun (congrFun e171 102) 4).trans (yU_eq _ _ _ _)
                        try rw [t174]
                        have t175 : I170 102 14 = r50 := ((congrFun (congrFun e171 102) 14).trans (yU_ne _ _ (by omega))).trans t167
                        try rw [t175]
                        have t176 : I170 102 13 = (X 102 13) := ((congrFun (congrFun e171 102) 13).trans (yU_ne _ _ (by omega))).trans t168
                        try rw [t176]
                        exact hk _ k172 (by omega)
                      · intro I177 e178
                        have k179 : ∀ k j, ¬ (k = 102 ∧ (j = 4 ∨ (11 ≤ j ∧ j ≤ 14) ∨ j = 17)) → I177 k j = I k j := fun k j h => ((congrFun (congrFun e178 k) j).trans (yU_ne _ _ (by omega))).trans (kX k j h)
                        first | have gI177_mPk : mPk I177 = mPk X := mPk_eq (fun k j h => (congrFun (congrFun e178 k) j).trans (yU_ne _ _ (by omega))) | skip
                        have t180 : I177 102 3 = (I 102 3) := ((congrFun (congrFun e178 102) 3).trans (yU_ne _ _ (by omega))).trans t49
                        try rw [t180]
                        have t181 : I177 102 4 = (X 102 4) := (congrFun (congrFun e178 102) 4).trans (yU_ne _ _ (by omega))
                        try rw [t181]
                        have t182 : I177 102 14 = (X 102 14) := (congrFun (congrFun e178 102) 14).trans (yU_ne _ _ (by omega))
                        try rw [t182]
                        have t183 : I177 102 13 = (X 102 13) := (congrFun (congrFun e178 102) 13).trans (yU_ne _ _ (by omega))
                        try rw [t183]
                        intro I184 e185
                        have k186 : ∀ k j, ¬ (k = 102 ∧ (j = 4 ∨ (11 ≤ j ∧ j ≤ 14) ∨ j = 17)) → I184 k j = I k j := fun k j h => ((congrFun (congrFun e185 k) j).trans (yU_ne _ _ (by omega))).trans (k179 k j h)
                        first | have gI184_mPk : mPk I184 = mPk I177 := mPk_eq (fun k j h => (congrFun (congrFun e185 k) j).trans (yU_ne _ _ (by omega))) | skip
                        have t187 : I184 102 3 = (I 102 3) := ((congrFun (congrFun e185 102) 3).trans (yU_ne _ _ (by omega))).trans t180
                        try rw [t187]
                        have t188 : I184 102 4 = (X 102 4) := ((congrFun (congrFun e185 102) 4).trans (yU_ne _ _ (by omega))).trans t181
                        try rw [t188]
                        have t189 : I184 102 14 = r50 := (congrFun (congrFun e185 102) 14).trans (yU_eq _ _ _ _)
                        try rw [t189]
                        have t190 : I184 102 13 = (X 102 13) := ((congrFun (congrFun e185 102) 13).trans (yU_ne _ _ (by omega))).trans t183
                        try rw [t190]
                        have a191 : yadd (X 102 4) 1 = ((X 102 4) + 1) := yadd_eq (by omega) (by omega)
                        try rw [a191]
                        intro I192 e193
                        have k194 : ∀ k j, ¬ (k = 102 ∧ (j = 4 ∨ (11 ≤ j ∧ j ≤ 14) ∨ j = 17)) → I192 k j = I k j := fun k j h => ((congrFun (congrFun e193 k) j).trans (yU_ne _ _ (by omega))).trans (k186 k j h)
                        first | have gI192_mPk : mPk I192 = mPk I184 := mPk_eq (fun k j h => (congrFun (congrFun e193 k) j).trans (yU_ne _ _ (by omega))) | skip
                        have t195 : I192 102 3 = (I 102 3) := ((congrFun (congrFun e193 102) 3).trans (yU_ne _ _ (by omega))).trans t187
                        try rw [t195]
                        have t196 : I192 102 4 = ((X 102 4) + 1) := (congrFun (congrFun e193 102) 4).trans (yU_eq _ _ _ _)
                        try rw [t196]
                        have t197 : I192 102 14 = r50 := ((congrFun (congrFun e193 102) 14).trans (yU_ne _ _ (by omega))).trans t189
                        try rw [t197]
                        have t198 : I192 102 13 = (X 102 13) := ((congrFun (congrFun e193 102) 13).trans (yU_ne _ _ (by omega))).trans t190
                        try rw [t198]
                        exact hk _ k194 (by omega)
        · intro I199 e200
          have k201 : ∀ k j, ¬ (k = 102 ∧ (j = 4 ∨ (11 ≤ j ∧ j ≤ 14) ∨ j = 17)) → I199 k j = I k j := fun k j h => ((congrFun (congrFun e200 k) j).trans (yU_ne _ _ (by omega))).trans (kX k j h)
          first | have gI199_mPk : mPk I199 = mPk X := mPk_eq (fun k j h => (congrFun (congrFun e200 k) j).trans (yU_ne _ _ (by omega))) | skip
          have t202 : I199 102 3 = (I 102 3) := ((congrFun (congrFun e200 102) 3).trans (yU_ne _ _ (by omega))).trans t49
          try rw [t202]
          have t203 : I199 102 4 = (X 102 4) := (congrFun (congrFun e200 102) 4).trans (yU_ne _ _ (by omega))
          try rw [t203]
          have t204 : I199 102 14 = (X 102 14) := (congrFun (congrFun e200 102) 14).trans (yU_ne _ _ (by omega))
          try rw [t204]
          have t205 : I199 102 13 = (X 102 13) := (congrFun (congrFun e200 102) 13).trans (yU_ne _ _ (by omega))
          try rw [t205]
          exact hk _ k201 (by omega)
      · intro x1 X kX hm iv
        refine e_li (i := 1) (x := x1) rfl fun _ _ => ?_
        have t206 : X 102 3 = (I 102 3) := kX 102 3 (by omega)
        refine B_182_164 hT hR ?_
        try rw [t206]
        refine w_197 (d := d) hT hR   (fun r207 q208 => ⟨_, _, rfl, rfl, ?_⟩)
        intro I210 e211
        have k212 : ∀ k j, ¬ (k = 102 ∧ (j = 4 ∨ (11 ≤ j ∧ j ≤ 14) ∨ j = 17)) → I210 k j = I k j := fun k j h => ((congrFun (congrFun e211 k) j).trans (yU_ne _ _ (by omega))).trans (kX k j h)
        first | have gI210_mPk : mPk I210 = mPk X := mPk_eq (fun k j h => (congrFun (congrFun e211 k) j).trans (yU_ne _ _ (by omega))) | skip
        have t213 : I210 102 3 = (I 102 3) := ((congrFun (congrFun e211 102) 3).trans (yU_ne _ _ (by omega))).trans t206
        try rw [t213]
        have t214 : I210 102 4 = (X 102 4) := (congrFun (congrFun e211 102) 4).trans (yU_ne _ _ (by omega))
        try rw [t214]
        have t215 : I210 102 14 = (X 102 14) := (congrFun (congrFun e211 102) 14).trans (yU_ne _ _ (by omega))
        try rw [t215]
        have t216 : I210 102 13 = (X 102 13) := (congrFun (congrFun e211 102) 13).trans (yU_ne _ _ (by omega))
        try rw [t216]
        intro I217 e218
        have k219 : ∀ k j, ¬ (k = 102 ∧ (j = 4 ∨ (11 ≤ j ∧ j ≤ 14) ∨ j = 17)) → I217 k j = I k j := fun k j h => ((congrFun (congrFun e218 k) j).trans (yU_ne _ _ (by omega))).trans (k212 k j h)
        first | have gI217_mPk : mPk I217 = mPk I210 := mPk_eq (fun k j h => (congrFun (congrFun e218 k) j).trans (yU_ne _ _ (by omega))) | skip
        have t220 : I217 102 3 = (I 102 3) := ((congrFun (congrFun e218 102) 3).trans (yU_ne _ _ (by omega))).trans t213
        try rw [t220]
        have t221 : I217 102 4 = (X 102 4) := ((congrFun (congrFun e218 102) 4).trans (yU_ne _ _ (by omega))).trans t214
        try rw [t221]
        have t222 : I217 102 14 = 0 := (congrFun (congrFun e218 102) 14).trans (yU_eq _ _ _ _)
        try rw [t222]
        have t223 : I217 102 13 = (X 102 13) := ((congrFun (congrFun e218 102) 13).trans (yU_ne _ _ (by omega))).trans t216
        try rw [t223]
        exact ih.2.2.2.2.1 _ _ _ k219 (by omega) (by omega)
      · intro x2 x3 X kX hm iv
        refine e_li (i := 2) (x := x2) rfl fun _ _ => ?_
        refine e_li (i := 3) (x := x3) rfl fun _ _ => ?_
        have t224 : X 102 3 = (I 102 3) := kX 102 3 (by omega)
        refine B_182_181 hT hR ?_
        try rw [t224]
        refine w_225 (d := d) hT hR  (by omega) (fun r225 q226 => ⟨_, _, rfl, rfl, ?_⟩)
        refine w_197 (d := d) hT hR   (fun r228 q229 => ⟨_, _, rfl, rfl, ?_⟩)
        refine ⟨fun c231 => ?_, fun c231 => ?_⟩
        · exact ih.2.2.2.2.2.1 _ _ _ kX (by omega) (by omega)
        · refine w_225 (d := d) hT hR  (by omega) (fun r232 q233 => ⟨_, _, rfl, rfl, ?_⟩)
          refine w_189 (d := d) hT hR   (fun r235 q236 => ⟨_, _, rfl, rfl, ?_⟩)
          refine ⟨fun c238 => ?_, fun c238 => ?_⟩
          · refine ⟨fun c239 => ?_, fun c239 => ?_⟩
            · intro I240 e241
              have k242 : ∀ k j, ¬ (k = 102 ∧ (j = 4 ∨ (11 ≤ j ∧ j ≤ 14) ∨ j = 17)) → I240 k j = I k j := fun k j h => ((congrFun (congrFun e241 k) j).trans (yU_ne _ _ (by omega))).trans (kX k j h)
              first | have gI240_mPk : mPk I240 = mPk X := mPk_eq (fun k j h => (congrFun (congrFun e241 k) j).trans (yU_ne _ _ (by omega))) | skip
              have t243 : I240 102 3 = (I 102 3) := ((congrFun (congrFun e241 102) 3).trans (yU_ne _ _ (by omega))).trans t224
              try rw [t243]
              have t244 : I240 102 4 = (X 102 4) := (congrFun (congrFun e241 102) 4).trans (yU_ne _ _ (by omega))
              try rw [t244]
              have t245 : I240 102 14 = (X 102 14) := (congrFun (congrFun e241 102) 14).trans (yU_ne _ _ (by omega))
              try rw [t245]
              have t246 : I240 102 13 = (X 102 13) := (congrFun (congrFun e241 102) 13).trans (yU_ne _ _ (by omega))
              try rw [t246]
              exact hk _ k242 (by omega)
            · refine ⟨fun c247 => ?_, fun c247 => ?_⟩
              · refine ⟨fun c248 => ?_, fun c248 => ?_⟩
                · refine ⟨fun c249 => ?_, fun c249 => ?_⟩
                  · intro I250 e251
                    have k252 : ∀ k j, ¬ (k = 102 ∧ (j = 4 ∨ (11 ≤ j ∧ j ≤ 14) ∨ j = 17)) → I250 k j = I k j := fun k j h => ((congrFun (congrFun e251 k) j).trans (yU_ne _ _ (by omega))).trans (kX k j h)
                    first | have gI250_mPk : mPk I250 = mPk X := mPk_eq (fun k j h => (congrFun (congrFun e251 k) j).trans (yU_ne _ _ (by omega))) | skip
                    have t253 : I250 102 3 = (I 102 3) := ((congrFun (congrFun e251 102) 3).trans (yU_ne _ _ (by omega))).trans t224
                    try rw [t253]
                    have t254 : I250 102 4 = (X 102 4) := (congrFun (congrFun e251 102) 4).trans (yU_ne _ _ (by omega))
                    try rw [t254]
                    have t255 : I250 102 14 = (X 102 14) := (congrFun (congrFun e251 102) 14).trans (yU_ne _ _ (by omega))
                    try rw [t255]
                    have t256 : I250 102 13 = (X 102 13) := (congrFun (congrFun e251 102) 13).trans (yU_ne _ _ (by omega))
                    try rw [t256]
                    exact hk _ k252 (by omega)
                  · intro I257 e258
                    have k259 : ∀ k j, ¬ (k = 102 ∧ (j = 4 ∨ (11 ≤ j ∧ j ≤ 14) ∨ j = 17)) → I257 k j = I k j := fun k j h => ((congrFun (congrFun e258 k) j).trans (yU_ne _ _ (by omega))).trans (kX k j h)
                    first | have gI257_mPk : mPk I257 = mPk X := mPk_eq (fun k j h => (congrFun (congrFun e258 k) j).trans (yU_ne _ _ (by omega))) | skip
                    have t260 : I257 102 3 = (I 102 3) := ((congrFun (congrFun e258 102) 3).trans (yU_ne _ _ (by omega))).trans t224
                    try rw [t260]
                    have t261 : I257 102 4 = (X 102 4) := (congrFun (congrFun e258 102) 4).trans (yU_ne _ _ (by omega))
                    try rw [t261]
                    have t262 : I257 102 14 = (X 102 14) := (congrFun (congrFun e258 102) 14).trans (yU_ne _ _ (by omega))
                    try rw [t262]
                    have t263 : I257 102 13 = (X 102 13) := (congrFun (congrFun e258 102) 13).trans (yU_ne _ _ (by omega))
                    try rw [t263]
                    exact hk _ k259 (by omega)
                · intro I264 e265
                  have k266 : ∀ k j, ¬ (k = 102 ∧ (j = 4 ∨ (11 ≤ j ∧ j ≤ 14) ∨ j = 17)) → I264 k j = I k j := fun k j h => ((congrFun (congrFun e265 k) j).trans (yU_ne _ _ (by omega))).trans (kX k j h)
                  first | have gI264_mPk : mPk I264 = mPk X := mPk_eq (fun k j h => (congrFun (congrFun e265 k) j).trans (yU_ne _ _ (by omega))) | skip
                  have t267 : I264 102 3 = (I 102 3) := ((congrFun (congrFun e265 102) 3).trans (yU_ne _ _ (by omega))).trans t224
                  try rw [t267]
                  have t268 : I264 102 4 = (X 102 4) := (congrFun (congrFun e265 102) 4).trans (yU_ne _ _ (by omega))
                  try rw [t268]
                  have t269 : I264 102 14 = (X 102 14) := (congrFun (congrFun e265 102) 14).trans (yU_ne _ _ (by omega))
                  try rw [t269]
                  have t270 : I264 102 13 = (X 102 13) := (congrFun (congrFun e265 102) 13).trans (yU_ne _ _ (by omega))
                  try rw [t270]
                  exact hk _ k266 (by omega)
              · refine ⟨fun c271 => ?_, fun c271 => ?_⟩
                · refine ⟨fun c272 => ?_, fun c272 => ?_⟩
                  · intro I273 e274
                    have k275 : ∀ k j, ¬ (k = 102 ∧ (j = 4 ∨ (11 ≤ j ∧ j ≤ 14) ∨ j = 17)) → I273 k j = I k j := fun k j h => ((congrFun (congrFun e274 k) j).trans (yU_ne _ _ (by omega))).trans (kX k j h)
                    first | have gI273_mPk : mPk I273 = mPk X := mPk_eq (fun k j h => (congrFun (congrFun e274 k) j).trans (yU_ne _ _ (by omega))) | skip
                    have t276 : I273 102 3 = (I 102 3) := ((congrFun (congrFun e274 102) 3).trans (yU_ne _ _ (by omega))).trans t224
                    try rw [t276]
                    have t277 : I273 102 4 = (X 102 4) := (congrFun (congrFun e274 102) 4).trans (yU_ne _ _ (by omega))
                    try rw [t277]
                    have t278 : I273 102 14 = (X 102 14) := (congrFun (congrFun e274 102) 14).trans (yU_ne _ _ (by omega))
                    try rw [t278]
                    have t279 : I273 102 13 = (X 102 13) := (congrFun (congrFun e274 102) 13).trans (yU_ne _ _ (by omega))
                    try rw [t279]
                    exact hk _ k275 (by omega)
                  · intro I280 e281
                    have k282 : ∀ k j, ¬ (k = 102 ∧ (j = 4 ∨ (11 ≤ j ∧ j ≤ 14) ∨ j = 17)) → I280 k j = I k j := fun k j h => ((congrFun (congrFun e281 k) j).trans (yU_ne _ _ (by omega))).trans (kX k j h)
                    first | have gI280_mPk : mPk I280 = mPk X := mPk_eq (fun k j h => (congrFun (congrFun e281 k) j).trans (yU_ne _ _ (by omega))) | skip
                    have t283 : I280 102 3 = (I 102 3) := ((congrFun (congrFun e281 102) 3).trans (yU_ne _ _ (by omega))).trans t224
                    try rw [t283]
                    have t284 : I280 102 4 = (X 102 4) := (congrFun (congrFun e281 102) 4).trans (yU_ne _ _ (by omega))
                    try rw [t284]
                    have t285 : I280 102 14 = (X 102 14) := (congrFun (congrFun e281 102) 14).trans (yU_ne _ _ (by omega))
                    try rw [t285]
                    have t286 : I280 102 13 = (X 102 13) := (congrFun (congrFun e281 102) 13).trans (yU_ne _ _ (by omega))
                    try rw [t286]
                    exact hk _ k282 (by omega)
                · intro I287 e288
                  have k289 : ∀ k j, ¬ (k = 102 ∧ (j = 4 ∨ (11 ≤ j ∧ j ≤ 14) ∨ j = 17)) → I287 k j = I k j := fun k j h => ((congrFun (congrFun e288 k) j).trans (yU_ne _ _ (by omega))).trans (kX k j h)
                  first | have gI287_mPk : mPk I287 = mPk X := mPk_eq (fun k j h => (congrFun (congrFun e288 k) j).trans (yU_ne _ _ (by omega))) | skip
                  have t290 : I287 102 3 = (I 102 3) := ((congrFun (congrFun e288 102) 3).trans (yU_ne _ _ (by omega))).trans t224
                  try rw [t290]
                  have t291 : I287 102 4 = (X 102 4) := (congrFun (congrFun e288 102) 4).trans (yU_ne _ _ (by omega))
                  try rw [t291]
                  have t292 : I287 102 14 = (X 102 14) := (congrFun (congrFun e288 102) 14).trans (yU_ne _ _ (by omega))
                  try rw [t292]
                  have t293 : I287 102 13 = (X 102 13) := (congrFun (congrFun e288 102) 13).trans (yU_ne _ _ (by omega))
                  try rw [t293]
                  exact hk _ k289 (by omega)
          · exact ih.2.2.2.2.2.1 _ _ _ kX (by omega) (by omega)
      · intro x2 x3 X kX hm iv
        refine e_li (i := 2) (x := x2) rfl fun _ _ => ?_
        refine e_li (i := 3) (x := x3) rfl fun _ _ => ?_
        have t294 : X 102 3 = (I 102 3) := kX 102 3 (by omega)
        refine B_182_201 hT hR ?_
        try rw [t294]
        refine ⟨fun c295 => ?_, fun c295 => ?_⟩
        · exact ih.2.2.2.2.2.2.1 _ _ kX (by omega) (by omega)
        · refine w_225 (d := d) hT hR  (by omega) (fun r296 q297 => ⟨_, _, rfl, rfl, ?_⟩)
          refine w_197 (d := d) hT hR   (fun r299 q300 => ⟨_, _, rfl, rfl, ?_⟩)
          refine ⟨fun c302 => ?_, fun c302 => ?_⟩
          · exact ih.2.2.2.2.2.2.1 _ _ kX (by omega) (by omega)
          · refine ⟨fun c303 => ?_, fun c303 => ?_⟩
            · exact ih.2.2.2.2.2.2.2.1 _ _ _ kX (by omega) (by omega)
            · refine w_225 (d := d) hT hR  (by omega) (fun r304 q305 => ⟨_, _, rfl, rfl, ?_⟩)
              intro I307 e308
              have k309 : ∀ k j, ¬ (k = 102 ∧ (j = 4 ∨ (11 ≤ j ∧ j ≤ 14) ∨ j = 17)) → I307 k j = I k j := fun k j h => ((congrFun (congrFun e308 k) j).trans (yU_ne _ _ (by omega))).trans (kX k j h)
              first | have gI307_mPk : mPk I307 = mPk X := mPk_eq (fun k j h => (congrFun (congrFun e308 k) j).trans (yU_ne _ _ (by omega))) | skip
              have t310 : I307 102 3 = (I 102 3) := ((congrFun (congrFun e308 102) 3).trans (yU_ne _ _ (by omega))).trans t294
              try rw [t310]
              have t311 : I307 102 4 = (X 102 4) := (congrFun (congrFun e308 102) 4).trans (yU_ne _ _ (by omega))
              try rw [t311]
              have t312 : I307 102 14 = (X 102 14) := (congrFun (congrFun e308 102) 14).trans (yU_ne _ _ (by omega))
              try rw [t312]
              have t313 : I307 102 13 = (X 102 13) := (congrFun (congrFun e308 102) 13).trans (yU_ne _ _ (by omega))
              try rw [t313]
              exact ih.2.2.2.2.2.2.2.1 _ _ _ k309 (by omega) (by omega)
      · intro x2 X kX hm iv
        refine e_li (i := 2) (x := x2) rfl fun _ _ => ?_
        have t314 : X 102 3 = (I 102 3) := kX 102 3 (by omega)
        refine B_182_220 hT hR ?_
        try rw [t314]
        refine ⟨fun c315 => ?_, fun c315 => ?_⟩
        · exact ih.2.2.2.2.2.2.2.1 _ _ _ kX (by omega) (by omega)
        · refine w_225 (d := d) hT hR  (by omega) (fun r316 q317 => ⟨_, _, rfl, rfl, ?_⟩)
          intro I319 e320
          have k321 : ∀ k j, ¬ (k = 102 ∧ (j = 4 ∨ (11 ≤ j ∧ j ≤ 14) ∨ j = 17)) → I319 k j = I k j := fun k j h => ((congrFun (congrFun e320 k) j).trans (yU_ne _ _ (by omega))).trans (kX k j h)
          first | have gI319_mPk : mPk I319 = mPk X := mPk_eq (fun k j h => (congrFun (congrFun e320 k) j).trans (yU_ne _ _ (by omega))) | skip
          have t322 : I319 102 3 = (I 102 3) := ((congrFun (congrFun e320 102) 3).trans (yU_ne _ _ (by omega))).trans t314
          try rw [t322]
          have t323 : I319 102 4 = (X 102 4) := (congrFun (congrFun e320 102) 4).trans (yU_ne _ _ (by omega))
          try rw [t323]
          have t324 : I319 102 14 = (X 102 14) := (congrFun (congrFun e320 102) 14).trans (yU_ne _ _ (by omega))
          try rw [t324]
          have t325 : I319 102 13 = (X 102 13) := (congrFun (congrFun e320 102) 13).trans (yU_ne _ _ (by omega))
          try rw [t325]
          exact ih.2.2.2.2.2.2.2.1 _ _ _ k321 (by omega) (by omega)
      · intro x2 x3 X kX hm iv
        refine e_li (i := 2) (x := x2) rfl fun _ _ => ?_
        refine e_li (i := 3) (x := x3) rfl fun _ _ => ?_
        have t326 : X 102 3 = (I 102 3) := kX 102 3 (by omega)
        refine B_182_248 hT hR ?_
        try rw [t326]
        refine ⟨fun c327 => ?_, fun c327 => ?_⟩
        · exact ih.2.2.2.2.2.2.2.2 _ _ _ kX (by omega) (by omega)
        · have a328 : ymul 10 (X 102 14) = (10 * (X 102 14)) := ymul_eq (by omega) (by omega)
          try rw [a328]
          refine w_225 (d := d) hT hR  (by omega) (fun r329 q330 => ⟨_, _, rfl, rfl, ?_⟩)
          have a332 : yadd (10 * (X 102 14)) r329 = ((10 * (X 102 14)) + r329) := yadd_eq (by omega) (by omega)
          try rw [a332]
          have a333 : ysub ((10 * (X 102 14)) + r329) 48 = (((10 * (X 102 14)) + r329) - 48) := ysub_eq (by omega) (by omega)
          try rw [a333]
          intro I334 e335
          have k336 : ∀ k j, ¬ (k = 102 ∧ (j = 4 ∨ (11 ≤ j ∧ j ≤ 14) ∨ j = 17)) → I334 k j = I k j := fun k j h => ((congrFun (congrFun e335 k) j).trans (yU_ne _ _ (by omega))).trans (kX k j h)
          first | have gI334_mPk : mPk I334 = mPk X := mPk_eq (fun k j h => (congrFun (congrFun e335 k) j).trans (yU_ne _ _ (by omega))) | skip
          have t337 : I334 102 3 = (I 102 3) := ((congrFun (congrFun e335 102) 3).trans (yU_ne _ _ (by omega))).trans t326
          try rw [t337]
          have t338 : I334 102 4 = (X 102 4) := (congrFun (congrFun e335 102) 4).trans (yU_ne _ _ (by omega))
          try rw [t338]
          have t339 : I334 102 14 = (((10 * (X 102 14)) + r329) - 48) := (congrFun (congrFun e335 102) 14).trans (yU_eq _ _ _ _)
          try rw [t339]
          have t340 : I334 102 13 = (X 102 13) := (congrFun (congrFun e335 102) 13).trans (yU_ne _ _ (by omega))
          try rw [t340]
          exact ih.2.2.2.2.2.2.2.2 _ _ _ k336 (by omega) (by omega)
      · intro x2 x3 X kX hm iv
        refine e_li (i := 2) (x := x2) rfl fun _ _ => ?_
        refine e_li (i := 3) (x := x3) rfl fun _ _ => ?_
        have t341 : X 102 3 = (I 102 3) := kX 102 3 (by omega)
        refine B_182_275 hT hR ?_
        try rw [t341]
        have a342 : yadd (X 102 13) 1 = ((X 102 13) + 1) := yadd_eq (by omega) (by omega)
        try rw [a342]
        intro I343 e344
        have k345 : ∀ k j, ¬ (k = 102 ∧ (j = 4 ∨ (11 ≤ j ∧ j ≤ 14) ∨ j = 17)) → I343 k j = I k j := fun k j h => ((congrFun (congrFun e344 k) j).trans (yU_ne _ _ (by omega))).trans (kX k j h)
        first | have gI343_mPk : mPk I343 = mPk X := mPk_eq (fun k j h => (congrFun (congrFun e344 k) j).trans (yU_ne _ _ (by omega))) | skip
        have t346 : I343 102 3 = (I 102 3) := ((congrFun (congrFun e344 102) 3).trans (yU_ne _ _ (by omega))).trans t341
        try rw [t346]
        have t347 : I343 102 4 = (X 102 4) := (congrFun (congrFun e344 102) 4).trans (yU_ne _ _ (by omega))
        try rw [t347]
        have t348 : I343 102 14 = (X 102 14) := (congrFun (congrFun e344 102) 14).trans (yU_ne _ _ (by omega))
        try rw [t348]
        have t349 : I343 102 13 = ((X 102 13) + 1) := (congrFun (congrFun e344 102) 13).trans (yU_eq _ _ _ _)
        try rw [t349]
        have a350 : yadd (X 102 4) 1 = ((X 102 4) + 1) := yadd_eq (by omega) (by omega)
        try rw [a350]
        intro I351 e352
        have k353 : ∀ k j, ¬ (k = 102 ∧ (j = 4 ∨ (11 ≤ j ∧ j ≤ 14) ∨ j = 17)) → I351 k j = I k j := fun k j h => ((congrFun (congrFun e352 k) j).trans (yU_ne _ _ (by omega))).trans (k345 k j h)
        first | have gI351_mPk : mPk I351 = mPk I343 := mPk_eq (fun k j h => (congrFun (congrFun e352 k) j).trans (yU_ne _ _ (by omega))) | skip
        have t354 : I351 102 3 = (I 102 3) := ((congrFun (congrFun e352 102) 3).trans (yU_ne _ _ (by omega))).trans t346
        try rw [t354]
        have t355 : I351 102 4 = ((X 102 4) + 1) := (congrFun (congrFun e352 102) 4).trans (yU_eq _ _ _ _)
        try rw [t355]
        have t356 : I351 102 14 = (X 102 14) := ((congrFun (congrFun e352 102) 14).trans (yU_ne _ _ (by omega))).trans t348
        try rw [t356]
        have t357 : I351 102 13 = ((X 102 13) + 1) := ((congrFun (congrFun e352 102) 13).trans (yU_ne _ _ (by omega))).trans t349
        try rw [t357]
        exact ih.2.2.2.2.1 _ _ _ k353 (by omega) (by omega)
  exact (L _).1  _ k0 (Nat.lt_succ_self _) (by omega)
/-- ChairAlleyModel.bad(I)Z -/
theorem w_159 (hT : yLT T) (hR : yLR R) {x1 : Int} (h0 : 0 ≤ I 102 3 ∧ I 102 3 ≤ 940 ∧ 0 ≤ I 102 4 ∧ I 102 4 ≤ 940 ∧ 0 ≤ I 102 14 ∧ I 102 14 ≤ 10000) (hk : ∀ r I', (∀ k j, ¬ (k = 102 ∧ (j = 15 ∨ j = 16)) → I' k j = I k j) → ((0 ≤ I' 102 3 ∧ I' 102 3 ≤ 940 ∧ 0 ≤ I' 102 4 ∧ I' 102 4 ≤ 940 ∧ 0 ≤ I' 102 14 ∧ I' 102 14 ≤ 10000) ∧ (r = 0)) → K (some (yi r)) (N, T, R, I')) : yW l zSS D cy zFk z d 159 bc bs K 0 0 0 [(0, yr (some 102)), (1, yi x1)] [] (N, T, R, I) := by
  have k0 : ∀ k j, ¬ (k = 102 ∧ (j = 15 ∨ j = 16)) → I k j = I k j := fun _ _ _ => rfl
  refine e_li (i := 1) (x := x1) rfl fun _ _ => ?_
  refine B_159_0 hT hR ?_
  intro I1 e2
  have k3 : ∀ k j, ¬ (k = 102 ∧ (j = 15 ∨ j = 16)) → I1 k j = I k j := fun k j h => ((congrFun (congrFun e2 k) j).trans (yU_ne _ _ (by omega))).trans (k0 k j h)
  have t4 : I1 102 3 = (I 102 3) := (congrFun (congrFun e2 102) 3).trans (yU_ne _ _ (by omega))
  try rw [t4]
  have t5 : I1 102 4 = (I 102 4) := (congrFun (congrFun e2 102) 4).trans (yU_ne _ _ (by omega))
  try rw [t5]
  have t6 : I1 102 14 = (I 102 14) := (congrFun (congrFun e2 102) 14).trans (yU_ne _ _ (by omega))
  try rw [t6]
  intro I7 e8
  have k9 : ∀ k j, ¬ (k = 102 ∧ (j = 15 ∨ j = 16)) → I7 k j = I k j := fun k j h => ((congrFun (congrFun e8 k) j).trans (yU_ne _ _ (by omega))).trans (k3 k j h)
  have t10 : I7 102 3 = (I 102 3) := ((congrFun (congrFun e8 102) 3).trans (yU_ne _ _ (by omega))).trans t4
  try rw [t10]
  have t11 : I7 102 4 = (I 102 4) := ((congrFun (congrFun e8 102) 4).trans (yU_ne _ _ (by omega))).trans t5
  try rw [t11]
  have t12 : I7 102 14 = (I 102 14) := ((congrFun (congrFun e8 102) 14).trans (yU_ne _ _ (by omega))).trans t6
  try rw [t12]
  exact hk _ _ k9 (by omega)
/-- ChairAlleyModel.isWord(J)Z -/
theorem w_199 (hT : yLT T) (hR : yLR R) {x1 : Int} (hk : ∀ r, (r = 0 ∨ r = 1) → K (some (yi r)) (N, T, R, I)) : yW l zSS D cy zFk z d 199 bc bs K 0 0 0 [(0, yr (some 102)), (1, yj x1)] [] (N, T, R, I) := by
  refine B_199_0 hT hR ?_
  refine ⟨fun c1 => ?_, fun c1 => ?_⟩
  · exact hk _ (by omega)
  · refine ⟨fun c2 => ?_, fun c2 => ?_⟩
    · exact hk _ (by omega)
    · exact hk _ (by omega)
/-- ChairAlleyModel.isSign(I)Z -/
theorem w_196 (hT : yLT T) (hR : yLR R) {x1 : Int} (hk : ∀ r, (r = 0 ∨ (r = 1 ∧ I 102 11 = 3 ∧ I 102 14 = x1)) → K (some (yi r)) (N, T, R, I)) : yW l zSS D cy zFk z d 196 bc bs K 0 0 0 [(0, yr (some 102)), (1, yi x1)] [] (N, T, R, I) := by
  refine e_li (i := 1) (x := x1) rfl fun _ _ => ?_
  refine B_196_0 hT hR ?_
  refine ⟨fun c1 => ?_, fun c1 => ?_⟩
  · exact hk _ (by omega)
  · refine ⟨fun c2 => ?_, fun c2 => ?_⟩
    · exact hk _ (by omega)
    · exact hk _ (by omega)
/-- ChairAlleyModel.sign(I)Z -/
theorem w_236 (hT : yLT T) (hR : yLR R) {x1 : Int} (h0 : 0 ≤ I 102 3 ∧ I 102 3 ≤ 940 ∧ 0 ≤ I 102 4 ∧ I 102 4 ≤ 940 ∧ 0 ≤ I 102 14 ∧ I 102 14 ≤ 10000) (hk : ∀ r I', (∀ k j, ¬ (k = 102 ∧ (j = 4 ∨ (11 ≤ j ∧ j ≤ 18))) → I' k j = I k j) → ((0 ≤ I' 102 3 ∧ I' 102 3 ≤ 940 ∧ 0 ≤ I' 102 4 ∧ I' 102 4 ≤ 940 ∧ 0 ≤ I' 102 14 ∧ I' 102 14 ≤ 10000) ∧ (r = 0 ∨ r = 1)) → K (some (yi r)) (N, T, R, I')) : yW l zSS D cy zFk z (d + 2) 236 bc bs K 0 0 0 [(0, yr (some 102)), (1, yi x1)] [] (N, T, R, I) := by
  have k0 : ∀ k j, ¬ (k = 102 ∧ (j = 4 ∨ (11 ≤ j ∧ j ≤ 18))) → I k j = I k j := fun _ _ _ => rfl
  refine e_li (i := 1) (x := x1) rfl fun _ _ => ?_
  refine B_236_0 hT hR ?_
  refine w_196 (d := d + 1) hT hR   (fun r1 q2 => ⟨_, _, rfl, rfl, ?_⟩)
  refine ⟨fun c4 => ?_, fun c4 => ?_⟩
  · refine w_182 (d := d) hT hR  (by omega) (fun I5 f7 q6 => ⟨_, rfl, rfl, ?_⟩)
    have k8 : ∀ k j, ¬ (k = 102 ∧ (j = 4 ∨ (11 ≤ j ∧ j ≤ 18))) → I5 k j = I k j := fun k j h => (f7 k j (by omega)).trans (k0 k j h)
    have t9 : I5 102 3 = (I 102 3) := (f7 102 3 (by omega))
    try rw [t9]
    try rw [t9] at q6
    exact hk _ _ k8 (by omega)
  · refine w_159 (d := d + 1) hT hR  (by omega) (fun r10 I11 f13 q12 => ⟨_, _, rfl, rfl, ?_⟩)
    have k14 : ∀ k j, ¬ (k = 102 ∧ (j = 4 ∨ (11 ≤ j ∧ j ≤ 18))) → I11 k j = I k j := fun k j h => (f13 k j (by omega)).trans (k0 k j h)
    have t15 : I11 102 3 = (I 102 3) := (f13 102 3 (by omega))
    try rw [t15]
    try rw [t15] at q12
    have t16 : I11 102 4 = (I 102 4) := (f13 102 4 (by omega))
    try rw [t16]
    try rw [t16] at q12
    have t17 : I11 102 14 = (I 102 14) := (f13 102 14 (by omega))
    try rw [t17]
    try rw [t17] at q12
    refine ⟨by omega, ?_⟩
    exact hk _ _ k14 (by omega)
/-- ChairAlleyModel.isName()Z -/
theorem w_194 (hT : yLT T) (hR : yLR R) (hk : ∀ r, (r = 0 ∨ r = 1) → K (some (yi r)) (N, T, R, I)) : yW l zSS D cy zFk z d 194 bc bs K 0 0 0 [(0, yr (some 102))] [] (N, T, R, I) := by
  have L : ∀ m : Nat, (∀ x1 x2 : Int, (24 - x2 : Int).toNat < m → ((x1 = 0 ∨ x1 = 1) ∧ 0 ≤ x2 ∧ x2 ≤ 24) → yW l zSS D cy zFk z d 194 bc bs K 0 0 16 [(0, yr (some 102)), (1, yi x1), (2, yi x2)] [] (N, T, R, I)) := by
    intro m
    induction m with
    | zero => exact fun _ _ h => absurd h (Nat.not_lt_zero _)
    | succ m ih =>
      intro x1 x2  hm iv
      refine e_li (i := 1) (x := x1) rfl fun _ _ => ?_
      refine e_li (i := 2) (x := x2) rfl fun _ _ => ?_
      refine B_194_16 hT hR ?_
      refine ⟨fun c1 => ?_, fun c1 => ?_⟩
      · refine ⟨by omega, ?_⟩
        exact hk _ (by omega)
      · refine ⟨fun c2 => ?_, fun c2 => ?_⟩
        · have a3 : yadd x2 1 = (x2 + 1) := yadd_eq (by omega) (by omega)
          try rw [a3]
          exact ih _ _ (by omega) (by omega)
        · refine ⟨by omega, by omega, ?_⟩
          refine ⟨fun c4 => ?_, fun c4 => ?_⟩
          · have a5 : yadd x2 1 = (x2 + 1) := yadd_eq (by omega) (by omega)
            try rw [a5]
            exact ih _ _ (by omega) (by omega)
          · have a6 : yadd x2 1 = (x2 + 1) := yadd_eq (by omega) (by omega)
            try rw [a6]
            exact ih _ _ (by omega) (by omega)
  refine B_194_0 hT hR ?_
  refine ⟨fun c7 => ?_, fun c7 => ?_⟩
  · exact (L _) _ _ (Nat.lt_succ_self _) (by omega)
  · exact (L _) _ _ (Nat.lt_succ_self _) (by omega)
/-- ChairAlleyModel.takes(II)Z -/
theorem w_245 (hT : yLT T) (hR : yLR R) {x1 x2 : Int} (h0 : 0 ≤ I 102 3 ∧ I 102 3 ≤ 940 ∧ 0 ≤ I 102 4 ∧ I 102 4 ≤ 940 ∧ 0 ≤ I 102 14 ∧ I 102 14 ≤ 10000) (hk : ∀ r I', (∀ k j, ¬ (k = 102 ∧ (j = 4 ∨ (11 ≤ j ∧ j ≤ 18))) → I' k j = I k j) → ((0 ≤ I' 102 3 ∧ I' 102 3 ≤ 940 ∧ 0 ≤ I' 102 4 ∧ I' 102 4 ≤ 940 ∧ 0 ≤ I' 102 14 ∧ I' 102 14 ≤ 10000) ∧ (r = 0 ∨ (r = 1 ∧ x1 ≤ I' 102 18 ∧ I' 102 18 ≤ x2))) → K (some (yi r)) (N, T, R, I')) : yW l zSS D cy zFk z (d + 2) 245 bc bs K 0 0 0 [(0, yr (some 102)), (1, yi x1), (2, yi x2)] [] (N, T, R, I) := by
  have k0 : ∀ k j, ¬ (k = 102 ∧ (j = 4 ∨ (11 ≤ j ∧ j ≤ 18))) → I k j = I k j := fun _ _ _ => rfl
  refine e_li (i := 1) (x := x1) rfl fun _ _ => ?_
  refine e_li (i := 2) (x := x2) rfl fun _ _ => ?_
  refine B_245_0 hT hR ?_
  refine ⟨fun c1 => ?_, fun c1 => ?_⟩
  · refine w_191 (d := d + 1) hT hR   (fun r2 q3 => ⟨_, _, rfl, rfl, ?_⟩)
    refine ⟨fun c5 => ?_, fun c5 => ?_⟩
    · intro I6 e7
      have k8 : ∀ k j, ¬ (k = 102 ∧ (j = 4 ∨ (11 ≤ j ∧ j ≤ 18))) → I6 k j = I k j := fun k j h => ((congrFun (congrFun e7 k) j).trans (yU_ne _ _ (by omega))).trans (k0 k j h)
      have t9 : I6 102 3 = (I 102 3) := (congrFun (congrFun e7 102) 3).trans (yU_ne _ _ (by omega))
      try rw [t9]
      have t10 : I6 102 4 = (I 102 4) := (congrFun (congrFun e7 102) 4).trans (yU_ne _ _ (by omega))
      try rw [t10]
      have t11 : I6 102 14 = (I 102 14) := (congrFun (congrFun e7 102) 14).trans (yU_ne _ _ (by omega))
      try rw [t11]
      have t12 : I6 102 18 = (I 102 14) := (congrFun (congrFun e7 102) 18).trans (yU_eq _ _ _ _)
      try rw [t12]
      refine w_182 (d := d) hT hR  (by omega) (fun I13 f15 q14 => ⟨_, rfl, rfl, ?_⟩)
      have k16 : ∀ k j, ¬ (k = 102 ∧ (j = 4 ∨ (11 ≤ j ∧ j ≤ 18))) → I13 k j = I k j := fun k j h => (f15 k j (by omega)).trans (k8 k j h)
      have t17 : I13 102 3 = (I 102 3) := (f15 102 3 (by omega)).trans t9
      try rw [t17]
      try rw [t17] at q14
      have t18 : I13 102 18 = (I 102 14) := (f15 102 18 (by omega)).trans t12
      try rw [t18]
      try rw [t18] at q14
      exact hk _ _ k16 (by omega)
    · refine w_159 (d := d + 1) hT hR  (by omega) (fun r19 I20 f22 q21 => ⟨_, _, rfl, rfl, ?_⟩)
      have k23 : ∀ k j, ¬ (k = 102 ∧ (j = 4 ∨ (11 ≤ j ∧ j ≤ 18))) → I20 k j = I k j := fun k j h => (f22 k j (by omega)).trans (k0 k j h)
      have t24 : I20 102 3 = (I 102 3) := (f22 102 3 (by omega))
      try rw [t24]
      try rw [t24] at q21
      have t25 : I20 102 4 = (I 102 4) := (f22 102 4 (by omega))
      try rw [t25]
      try rw [t25] at q21
      have t26 : I20 102 14 = (I 102 14) := (f22 102 14 (by omega))
      try rw [t26]
      try rw [t26] at q21
      have t27 : I20 102 18 = (I 102 18) := (f22 102 18 (by omega))
      try rw [t27]
      try rw [t27] at q21
      refine ⟨by omega, ?_⟩
      exact hk _ _ k23 (by omega)
  · refine w_159 (d := d + 1) hT hR  (by omega) (fun r28 I29 f31 q30 => ⟨_, _, rfl, rfl, ?_⟩)
    have k32 : ∀ k j, ¬ (k = 102 ∧ (j = 4 ∨ (11 ≤ j ∧ j ≤ 18))) → I29 k j = I k j := fun k j h => (f31 k j (by omega)).trans (k0 k j h)
    have t33 : I29 102 3 = (I 102 3) := (f31 102 3 (by omega))
    try rw [t33]
    try rw [t33] at q30
    have t34 : I29 102 4 = (I 102 4) := (f31 102 4 (by omega))
    try rw [t34]
    try rw [t34] at q30
    have t35 : I29 102 14 = (I 102 14) := (f31 102 14 (by omega))
    try rw [t35]
    try rw [t35] at q30
    have t36 : I29 102 18 = (I 102 18) := (f31 102 18 (by omega))
    try rw [t36]
    try rw [t36] at q30
    refine ⟨by omega, ?_⟩
    exact hk _ _ k32 (by omega)
/-- ChairAlleyModel.find(II)I -/
theorem w_180 (hT : yLT T) (hR : yLR R) {x1 x2 : Int} (h0 : 0 ≤ x1 ∧ x1 ≤ 8 ∧ 0 ≤ x2 ∧ x2 ≤ 8) (hk : ∀ r, (r = -1 ∨ (0 ≤ r ∧ r < x2)) → K (some (yi r)) (N, T, R, I)) : yW l zSS D cy zFk z d 180 bc bs K 0 0 0 [(0, yr (some 102)), (1, yi x1), (2, yi x2)] [] (N, T, R, I) := by
  refine e_li (i := 1) (x := x1) rfl fun _ _ => ?_
  refine e_li (i := 2) (x := x2) rfl fun _ _ => ?_
  have L : ∀ m : Nat, (∀ x3 : Int, (8 - x3 : Int).toNat < m → (0 ≤ x1 ∧ x1 ≤ 8 ∧ 0 ≤ x2 ∧ x2 ≤ 8 ∧ 0 ≤ x3 ∧ x3 ≤ x2) → yW l zSS D cy zFk z d 180 bc bs K 0 0 2 [(0, yr (some 102)), (1, yi x1), (2, yi x2), (3, yi x3)] [] (N, T, R, I)) := by
    intro m
    induction m with
    | zero => exact fun _ h => absurd h (Nat.not_lt_zero _)
    | succ m ih =>
      intro x3  hm iv
      refine e_li (i := 3) (x := x3) rfl fun _ _ => ?_
      refine B_180_2 hT hR ?_
      refine ⟨fun c1 => ?_, fun c1 => ?_⟩
      · exact hk _ (by omega)
      · have a2 : yadd x1 x3 = (x1 + x3) := yadd_eq (by omega) (by omega)
        try rw [a2]
        refine ⟨by omega, by omega, ?_⟩
        refine ⟨fun c3 => ?_, fun c3 => ?_⟩
        · have a4 : yadd x3 1 = (x3 + 1) := yadd_eq (by omega) (by omega)
          try rw [a4]
          exact ih _ (by omega) (by omega)
        · exact hk _ (by omega)
  refine B_180_0 hT hR ?_
  exact (L _) _ (Nat.lt_succ_self _) (by omega)
/-- ChairAlleyModel.looksAtCell()Z -/
theorem w_212 (hT : yLT T) (hR : yLR R) (h0 : 0 ≤ I 102 3 ∧ I 102 3 ≤ 940 ∧ 0 ≤ I 102 4 ∧ I 102 4 ≤ 940 ∧ 0 ≤ I 102 14 ∧ I 102 14 ≤ 10000) (h1 : 0 ≤ I 105 0 ∧ I 105 0 ≤ 10 ∧ 0 ≤ I 105 1 ∧ I 105 1 ≤ 10) (hk : ∀ r I', (∀ k j, ¬ (k = 102 ∧ (j = 4 ∨ (11 ≤ j ∧ j ≤ 18))) → I' k j = I k j) → ((0 ≤ I' 102 3 ∧ I' 102 3 ≤ 940 ∧ 0 ≤ I' 102 4 ∧ I' 102 4 ≤ 940 ∧ 0 ≤ I' 102 14 ∧ I' 102 14 ≤ 10000) ∧ (r = 0 ∨ (r = 1 ∧ (0 ≤ I' 102 18 ∧ I' 102 18 < 100 ∧ I' 102 18 % 10 < I' 105 0 ∧ I' 102 18 / 10 < I' 105 1)))) → K (some (yi r)) (N, T, R, I')) : yW l zSS D cy zFk z (d + 3) 212 bc bs K 0 0 0 [(0, yr (some 102))] [] (N, T, R, I) := by
  have k0 : ∀ k j, ¬ (k = 102 ∧ (j = 4 ∨ (11 ≤ j ∧ j ≤ 18))) → I k j = I k j := fun _ _ _ => rfl
  refine B_212_0 hT hR ?_
  have a1 : ysub (I 105 0) 1 = ((I 105 0) - 1) := ysub_eq (by omega) (by omega)
  try rw [a1]
  refine w_245 (d := d) hT hR  (by omega) (fun r2 I3 f5 q4 => ⟨_, _, rfl, rfl, ?_⟩)
  have k6 : ∀ k j, ¬ (k = 102 ∧ (j = 4 ∨ (11 ≤ j ∧ j ≤ 18))) → I3 k j = I k j := fun k j h => (f5 k j (by omega)).trans (k0 k j h)
  have t7 : I3 102 3 = (I 102 3) := (f5 102 3 (by omega))
  try rw [t7]
  try rw [t7] at q4
  have t8 : I3 102 22 = (I 102 22) := (f5 102 22 (by omega))
  try rw [t8]
  try rw [t8] at q4
  have t9 : I3 102 23 = (I 102 23) := (f5 102 23 (by omega))
  try rw [t9]
  try rw [t9] at q4
  have t10 : I3 105 0 = (I 105 0) := (f5 105 0 (by omega))
  try rw [t10]
  try rw [t10] at q4
  have t11 : I3 105 1 = (I 105 1) := (f5 105 1 (by omega))
  try rw [t11]
  try rw [t11] at q4
  have t12 : I3 105 2 = (I 105 2) := (f5 105 2 (by omega))
  try rw [t12]
  try rw [t12] at q4
  have t13 : I3 105 6 = (I 105 6) := (f5 105 6 (by omega))
  try rw [t13]
  try rw [t13] at q4
  refine ⟨fun c14 => ?_, fun c14 => ?_⟩
  · refine ⟨fun c15 => ?_, fun c15 => ?_⟩
    · refine ⟨fun c16 => ?_, fun c16 => ?_⟩
      · have a17 : ymul 10 (I3 102 14) = (10 * (I3 102 14)) := ymul_eq (by omega) (by omega)
        try rw [a17]
        have a18 : yadd (10 * (I3 102 14)) (I3 102 18) = ((10 * (I3 102 14)) + (I3 102 18)) := yadd_eq (by omega) (by omega)
        try rw [a18]
        intro I19 e20
        have k21 : ∀ k j, ¬ (k = 102 ∧ (j = 4 ∨ (11 ≤ j ∧ j ≤ 18))) → I19 k j = I k j := fun k j h => ((congrFun (congrFun e20 k) j).trans (yU_ne _ _ (by omega))).trans (k6 k j h)
        have t22 : I19 102 3 = (I 102 3) := ((congrFun (congrFun e20 102) 3).trans (yU_ne _ _ (by omega))).trans t7
        try rw [t22]
        have t23 : I19 102 4 = (I3 102 4) := (congrFun (congrFun e20 102) 4).trans (yU_ne _ _ (by omega))
        try rw [t23]
        have t24 : I19 102 14 = (I3 102 14) := (congrFun (congrFun e20 102) 14).trans (yU_ne _ _ (by omega))
        try rw [t24]
        have t25 : I19 102 18 = ((10 * (I3 102 14)) + (I3 102 18)) := (congrFun (congrFun e20 102) 18).trans (yU_eq _ _ _ _)
        try rw [t25]
        have t26 : I19 102 22 = (I 102 22) := ((congrFun (congrFun e20 102) 22).trans (yU_ne _ _ (by omega))).trans t8
        try rw [t26]
        have t27 : I19 102 23 = (I 102 23) := ((congrFun (congrFun e20 102) 23).trans (yU_ne _ _ (by omega))).trans t9
        try rw [t27]
        have t28 : I19 105 0 = (I 105 0) := ((congrFun (congrFun e20 105) 0).trans (yU_ne _ _ (by omega))).trans t10
        try rw [t28]
        have t29 : I19 105 1 = (I 105 1) := ((congrFun (congrFun e20 105) 1).trans (yU_ne _ _ (by omega))).trans t11
        try rw [t29]
        have t30 : I19 105 2 = (I 105 2) := ((congrFun (congrFun e20 105) 2).trans (yU_ne _ _ (by omega))).trans t12
        try rw [t30]
        have t31 : I19 105 6 = (I 105 6) := ((congrFun (congrFun e20 105) 6).trans (yU_ne _ _ (by omega))).trans t13
        try rw [t31]
        exact hk _ _ k21 (by omega)
      · refine w_159 (d := d + 2) hT hR  (by omega) (fun r32 I33 f35 q34 => ⟨_, _, rfl, rfl, ?_⟩)
        have k36 : ∀ k j, ¬ (k = 102 ∧ (j = 4 ∨ (11 ≤ j ∧ j ≤ 18))) → I33 k j = I k j := fun k j h => (f35 k j (by omega)).trans (k6 k j h)
        have t37 : I33 102 3 = (I 102 3) := (f35 102 3 (by omega)).trans t7
        try rw [t37]
        try rw [t37] at q34
        have t38 : I33 102 4 = (I3 102 4) := (f35 102 4 (by omega))
        try rw [t38]
        try rw [t38] at q34
        have t39 : I33 102 14 = (I3 102 14) := (f35 102 14 (by omega))
        try rw [t39]
        try rw [t39] at q34
        have t40 : I33 102 18 = (I3 102 18) := (f35 102 18 (by omega))
        try rw [t40]
        try rw [t40] at q34
        have t41 : I33 102 22 = (I 102 22) := (f35 102 22 (by omega)).trans t8
        try rw [t41]
        try rw [t41] at q34
        have t42 : I33 102 23 = (I 102 23) := (f35 102 23 (by omega)).trans t9
        try rw [t42]
        try rw [t42] at q34
        have t43 : I33 105 0 = (I 105 0) := (f35 105 0 (by omega)).trans t10
        try rw [t43]
        try rw [t43] at q34
        have t44 : I33 105 1 = (I 105 1) := (f35 105 1 (by omega)).trans t11
        try rw [t44]
        try rw [t44] at q34
        have t45 : I33 105 2 = (I 105 2) := (f35 105 2 (by omega)).trans t12
        try rw [t45]
        try rw [t45] at q34
        have t46 : I33 105 6 = (I 105 6) := (f35 105 6 (by omega)).trans t13
        try rw [t46]
        try rw [t46] at q34
        refine ⟨by omega, ?_⟩
        exact hk _ _ k36 (by omega)
    · refine w_159 (d := d + 2) hT hR  (by omega) (fun r47 I48 f50 q49 => ⟨_, _, rfl, rfl, ?_⟩)
      have k51 : ∀ k j, ¬ (k = 102 ∧ (j = 4 ∨ (11 ≤ j ∧ j ≤ 18))) → I48 k j = I k j := fun k j h => (f50 k j (by omega)).trans (k6 k j h)
      have t52 : I48 102 3 = (I 102 3) := (f50 102 3 (by omega)).trans t7
      try rw [t52]
      try rw [t52] at q49
      have t53 : I48 102 4 = (I3 102 4) := (f50 102 4 (by omega))
      try rw [t53]
      try rw [t53] at q49
      have t54 : I48 102 14 = (I3 102 14) := (f50 102 14 (by omega))
      try rw [t54]
      try rw [t54] at q49
      have t55 : I48 102 18 = (I3 102 18) := (f50 102 18 (by omega))
      try rw [t55]
      try rw [t55] at q49
      have t56 : I48 102 22 = (I 102 22) := (f50 102 22 (by omega)).trans t8
      try rw [t56]
      try rw [t56] at q49
      have t57 : I48 102 23 = (I 102 23) := (f50 102 23 (by omega)).trans t9
      try rw [t57]
      try rw [t57] at q49
      have t58 : I48 105 0 = (I 105 0) := (f50 105 0 (by omega)).trans t10
      try rw [t58]
      try rw [t58] at q49
      have t59 : I48 105 1 = (I 105 1) := (f50 105 1 (by omega)).trans t11
      try rw [t59]
      try rw [t59] at q49
      have t60 : I48 105 2 = (I 105 2) := (f50 105 2 (by omega)).trans t12
      try rw [t60]
      try rw [t60] at q49
      have t61 : I48 105 6 = (I 105 6) := (f50 105 6 (by omega)).trans t13
      try rw [t61]
      try rw [t61] at q49
      refine ⟨by omega, ?_⟩
      exact hk _ _ k51 (by omega)
  · exact hk _ _ k6 (by omega)
/-- ChairAlleyModel.dirOfWord()I -/
theorem w_172 (hT : yLT T) (hR : yLR R) (hk : ∀ r, (r = -1 ∨ (0 ≤ r ∧ r ≤ 3)) → K (some (yi r)) (N, T, R, I)) : yW l zSS D cy zFk z (d + 1) 172 bc bs K 0 0 0 [(0, yr (some 102))] [] (N, T, R, I) := by
  refine B_172_0 hT hR ?_
  refine w_199 (d := d) hT hR   (fun r1 q2 => ⟨_, _, rfl, rfl, ?_⟩)
  refine ⟨fun c4 => ?_, fun c4 => ?_⟩
  · refine w_199 (d := d) hT hR   (fun r5 q6 => ⟨_, _, rfl, rfl, ?_⟩)
    refine ⟨fun c8 => ?_, fun c8 => ?_⟩
    · refine w_199 (d := d) hT hR   (fun r9 q10 => ⟨_, _, rfl, rfl, ?_⟩)
      refine ⟨fun c12 => ?_, fun c12 => ?_⟩
      · refine w_199 (d := d) hT hR   (fun r13 q14 => ⟨_, _, rfl, rfl, ?_⟩)
        refine ⟨fun c16 => ?_, fun c16 => ?_⟩
        · exact hk _ (by omega)
        · exact hk _ (by omega)
      · exact hk _ (by omega)
    · exact hk _ (by omega)
  · exact hk _ (by omega)
/-- ChairAlleyModel.leafOf()I -/
theorem w_209 (hT : yLT T) (hR : yLR R) (hk : ∀ r, (-1 ≤ r ∧ r ≤ 8) → K (some (yi r)) (N, T, R, I)) : yW l zSS D cy zFk z (d + 1) 209 bc bs K 0 0 0 [(0, yr (some 102))] [] (N, T, R, I) := by
  refine B_209_0 hT hR ?_
  refine w_199 (d := d) hT hR   (fun r1 q2 => ⟨_, _, rfl, rfl, ?_⟩)
  refine ⟨fun c4 => ?_, fun c4 => ?_⟩
  · refine w_199 (d := d) hT hR   (fun r5 q6 => ⟨_, _, rfl, rfl, ?_⟩)
    refine ⟨fun c8 => ?_, fun c8 => ?_⟩
    · refine w_199 (d := d) hT hR   (fun r9 q10 => ⟨_, _, rfl, rfl, ?_⟩)
      refine ⟨fun c12 => ?_, fun c12 => ?_⟩
      · refine w_199 (d := d) hT hR   (fun r13 q14 => ⟨_, _, rfl, rfl, ?_⟩)
        refine ⟨fun c16 => ?_, fun c16 => ?_⟩
        · refine w_199 (d := d) hT hR   (fun r17 q18 => ⟨_, _, rfl, rfl, ?_⟩)
          refine ⟨fun c20 => ?_, fun c20 => ?_⟩
          · refine w_199 (d := d) hT hR   (fun r21 q22 => ⟨_, _, rfl, rfl, ?_⟩)
            refine ⟨fun c24 => ?_, fun c24 => ?_⟩
            · refine w_199 (d := d) hT hR   (fun r25 q26 => ⟨_, _, rfl, rfl, ?_⟩)
              refine ⟨fun c28 => ?_, fun c28 => ?_⟩
              · refine w_199 (d := d) hT hR   (fun r29 q30 => ⟨_, _, rfl, rfl, ?_⟩)
                refine ⟨fun c32 => ?_, fun c32 => ?_⟩
                · refine w_199 (d := d) hT hR   (fun r33 q34 => ⟨_, _, rfl, rfl, ?_⟩)
                  refine ⟨fun c36 => ?_, fun c36 => ?_⟩
                  · exact hk _ (by omega)
                  · exact hk _ (by omega)
                · exact hk _ (by omega)
              · exact hk _ (by omega)
            · exact hk _ (by omega)
          · exact hk _ (by omega)
        · exact hk _ (by omega)
      · exact hk _ (by omega)
    · exact hk _ (by omega)
  · exact hk _ (by omega)
/-- ChairAlleyModel.readOn(III)Z -/
theorem w_230 (hT : yLT T) (hR : yLR R) {x1 x2 x3 : Int} (h0 : 0 ≤ I 102 3 ∧ I 102 3 ≤ 940 ∧ 0 ≤ I 102 4 ∧ I 102 4 ≤ 940 ∧ 0 ≤ I 102 14 ∧ I 102 14 ≤ 10000) (h1 : (I 102 22 = 0 → I 105 0 = 0) ∧ (I 102 23 = 0 → I 105 6 = 0)) (h2 : (x1 = 10 ∨ x1 = 110 ∨ x1 = 210) ∧ 3 ≤ x2 ∧ x2 ≤ 5) (hP0 : mH I) (hk : ∀ r I', (∀ k j, ¬ ((k = 102 ∧ (j = 4 ∨ (11 ≤ j ∧ j ≤ 18))) ∨ k = 105) → I' k j = I k j) → (((0 ≤ I' 102 3 ∧ I' 102 3 ≤ 940 ∧ 0 ≤ I' 102 4 ∧ I' 102 4 ≤ 940 ∧ 0 ≤ I' 102 14 ∧ I' 102 14 ≤ 10000) ∧ ((I' 102 22 = 0 → I' 105 0 = 0) ∧ (I' 102 23 = 0 → I' 105 6 = 0)) ∧ (r = 0 ∨ r = 1)) ∧ mH I') → K (some (yi r)) (N, T, R, I')) : yW l zSS D cy zFk z (d + 4) 230 bc bs K 0 0 0 [(0, yr (some 102)), (1, yi x1), (2, yi x2), (3, yi x3)] [] (N, T, R, I) := by
  have hd := hP0.1
  have k0 : ∀ k j, ¬ ((k = 102 ∧ (j = 4 ∨ (11 ≤ j ∧ j ≤ 18))) ∨ k = 105) → I k j = I k j := fun _ _ _ => rfl
  refine e_li (i := 1) (x := x1) rfl fun _ _ => ?_
  refine e_li (i := 2) (x := x2) rfl fun _ _ => ?_
  refine e_li (i := 3) (x := x3) rfl fun _ _ => ?_
  refine B_230_0 hT hR ?_
  refine ⟨by omega, by omega, ?_⟩
  refine ⟨fun c1 => ?_, fun c1 => ?_⟩
  · refine w_182 (d := d + 2) hT hR  (by omega) (fun I2 f4 q3 => ⟨_, rfl, rfl, ?_⟩)
    have k5 : ∀ k j, ¬ ((k = 102 ∧ (j = 4 ∨ (11 ≤ j ∧ j ≤ 18))) ∨ k = 105) → I2 k j = I k j := fun k j h => (f4 k j (by omega)).trans (k0 k j h)
    have t6 : I2 102 3 = (I 102 3) := (f4 102 3 (by omega))
    try rw [t6]
    try rw [t6] at q3
    have t7 : I2 102 18 = (I 102 18) := (f4 102 18 (by omega))
    try rw [t7]
    try rw [t7] at q3
    have t8 : I2 102 22 = (I 102 22) := (f4 102 22 (by omega))
    try rw [t8]
    try rw [t8] at q3
    have t9 : I2 102 23 = (I 102 23) := (f4 102 23 (by omega))
    try rw [t9]
    try rw [t9] at q3
    have t10 : I2 105 0 = (I 105 0) := (f4 105 0 (by omega))
    try rw [t10]
    try rw [t10] at q3
    have t11 : I2 105 1 = (I 105 1) := (f4 105 1 (by omega))
    try rw [t11]
    try rw [t11] at q3
    have t12 : I2 105 2 = (I 105 2) := (f4 105 2 (by omega))
    try rw [t12]
    try rw [t12] at q3
    have t13 : I2 105 6 = (I 105 6) := (f4 105 6 (by omega))
    try rw [t13]
    try rw [t13] at q3
    have p14 : mH I2 := mH_eq hP0 (fun k j h => f4 k j (by omega))
    refine w_212 (d := d) hT hR  (by omega) (by omega) (fun r15 I16 f18 q17 => ⟨_, _, rfl, rfl, ?_⟩)
    have k19 : ∀ k j, ¬ ((k = 102 ∧ (j = 4 ∨ (11 ≤ j ∧ j ≤ 18))) ∨ k = 105) → I16 k j = I k j := fun k j h => (f18 k j (by omega)).trans (k5 k j h)
    have t20 : I16 102 3 = (I 102 3) := (f18 102 3 (by omega)).trans t6
    try rw [t20]
    try rw [t20] at q17
    have t21 : I16 102 22 = (I 102 22) := (f18 102 22 (by omega)).trans t8
    try rw [t21]
    try rw [t21] at q17
    have t22 : I16 102 23 = (I 102 23) := (f18 102 23 (by omega)).trans t9
    try rw [t22]
    try rw [t22] at q17
    have t23 : I16 105 0 = (I 105 0) := (f18 105 0 (by omega)).trans t10
    try rw [t23]
    try rw [t23] at q17
    have t24 : I16 105 1 = (I 105 1) := (f18 105 1 (by omega)).trans t11
    try rw [t24]
    try rw [t24] at q17
    have t25 : I16 105 2 = (I 105 2) := (f18 105 2 (by omega)).trans t12
    try rw [t25]
    try rw [t25] at q17
    have t26 : I16 105 6 = (I 105 6) := (f18 105 6 (by omega)).trans t13
    try rw [t26]
    try rw [t26] at q17
    have p27 : mH I16 := mH_eq p14 (fun k j h => f18 k j (by omega))
    refine ⟨fun c28 => ?_, fun c28 => ?_⟩
    · have a29 : yadd x1 (I16 102 18) = (x1 + (I16 102 18)) := yadd_eq (by omega) (by omega)
      try rw [a29]
      refine ⟨by omega, by omega, ?_⟩
      refine ⟨fun c30 => ?_, fun c30 => ?_⟩
      · have a31 : yadd x1 (I16 102 18) = (x1 + (I16 102 18)) := yadd_eq (by omega) (by omega)
        try rw [a31]
        refine ⟨by omega, by omega, ?_⟩
        intro I32 e33
        first | have n34 : ynar 1 1 = 1 := ynar1_eq (by omega) (by omega) | skip
        try rw [n34] at e33
        have k35 : ∀ k j, ¬ ((k = 102 ∧ (j = 4 ∨ (11 ≤ j ∧ j ≤ 18))) ∨ k = 105) → I32 k j = I k j := fun k j h => ((congrFun (congrFun e33 k) j).trans (yU_ne _ _ (by omega))).trans (k19 k j h)
        have p36 : mH I32 := by rw [e33]; exact mH_set p27 (by omega)
        have t37 : I32 102 3 = (I 102 3) := ((congrFun (congrFun e33 102) 3).trans (yU_ne _ _ (by omega))).trans t20
        try rw [t37]
        have t38 : I32 102 4 = (I16 102 4) := (congrFun (congrFun e33 102) 4).trans (yU_ne _ _ (by omega))
        try rw [t38]
        have t39 : I32 102 14 = (I16 102 14) := (congrFun (congrFun e33 102) 14).trans (yU_ne _ _ (by omega))
        try rw [t39]
        have t40 : I32 102 18 = (I16 102 18) := (congrFun (congrFun e33 102) 18).trans (yU_ne _ _ (by omega))
        try rw [t40]
        have t41 : I32 102 22 = (I 102 22) := ((congrFun (congrFun e33 102) 22).trans (yU_ne _ _ (by omega))).trans t21
        try rw [t41]
        have t42 : I32 102 23 = (I 102 23) := ((congrFun (congrFun e33 102) 23).trans (yU_ne _ _ (by omega))).trans t22
        try rw [t42]
        have t43 : I32 105 0 = (I 105 0) := ((congrFun (congrFun e33 105) 0).trans (yU_ne _ _ (by omega))).trans t23
        try rw [t43]
        have t44 : I32 105 1 = (I 105 1) := ((congrFun (congrFun e33 105) 1).trans (yU_ne _ _ (by omega))).trans t24
        try rw [t44]
        have t45 : I32 105 2 = (I 105 2) := ((congrFun (congrFun e33 105) 2).trans (yU_ne _ _ (by omega))).trans t25
        try rw [t45]
        have t46 : I32 105 6 = (I 105 6) := ((congrFun (congrFun e33 105) 6).trans (yU_ne _ _ (by omega))).trans t26
        try rw [t46]
        refine ⟨by omega, by omega, ?_⟩
        refine ⟨by omega, by omega, ?_⟩
        intro I47 e48
        first | have n49 : ynar 1 (yadd (I32 105 x2.toNat) 1) = (yadd (I32 105 x2.toNat) 1) := ynar1_eq (by omega) (by omega) | skip
        try rw [n49] at e48
        have k50 : ∀ k j, ¬ ((k = 102 ∧ (j = 4 ∨ (11 ≤ j ∧ j ≤ 18))) ∨ k = 105) → I47 k j = I k j := fun k j h => ((congrFun (congrFun e48 k) j).trans (yU_ne _ _ (by omega))).trans (k35 k j h)
        have p51 : mH I47 := by rw [e48]; exact mH_set p36 (by omega)
        have t52 : I47 102 3 = (I 102 3) := ((congrFun (congrFun e48 102) 3).trans (yU_ne _ _ (by omega))).trans t37
        try rw [t52]
        have t53 : I47 102 4 = (I16 102 4) := ((congrFun (congrFun e48 102) 4).trans (yU_ne _ _ (by omega))).trans t38
        try rw [t53]
        have t54 : I47 102 14 = (I16 102 14) := ((congrFun (congrFun e48 102) 14).trans (yU_ne _ _ (by omega))).trans t39
        try rw [t54]
        have t55 : I47 102 18 = (I16 102 18) := ((congrFun (congrFun e48 102) 18).trans (yU_ne _ _ (by omega))).trans t40
        try rw [t55]
        have t56 : I47 102 22 = (I 102 22) := ((congrFun (congrFun e48 102) 22).trans (yU_ne _ _ (by omega))).trans t41
        try rw [t56]
        have t57 : I47 102 23 = (I 102 23) := ((congrFun (congrFun e48 102) 23).trans (yU_ne _ _ (by omega))).trans t42
        try rw [t57]
        have t58 : I47 105 0 = (I 105 0) := ((congrFun (congrFun e48 105) 0).trans (yU_ne _ _ (by omega))).trans t43
        try rw [t58]
        have t59 : I47 105 1 = (I 105 1) := ((congrFun (congrFun e48 105) 1).trans (yU_ne _ _ (by omega))).trans t44
        try rw [t59]
        have t60 : I47 105 2 = (I 105 2) := ((congrFun (congrFun e48 105) 2).trans (yU_ne _ _ (by omega))).trans t45
        try rw [t60]
        have t61 : I47 105 6 = (I 105 6) := ((congrFun (congrFun e48 105) 6).trans (yU_ne _ _ (by omega))).trans t46
        try rw [t61]
        refine w_182 (d := d + 2) hT hR  (by omega) (fun I62 f64 q63 => ⟨_, rfl, rfl, ?_⟩)
        have k65 : ∀ k j, ¬ ((k = 102 ∧ (j = 4 ∨ (11 ≤ j ∧ j ≤ 18))) ∨ k = 105) → I62 k j = I k j := fun k j h => (f64 k j (by omega)).trans (k50 k j h)
        have t66 : I62 102 3 = (I 102 3) := (f64 102 3 (by omega)).trans t52
        try rw [t66]
        try rw [t66] at q63
        have t67 : I62 102 18 = (I16 102 18) := (f64 102 18 (by omega)).trans t55
        try rw [t67]
        try rw [t67] at q63
        have t68 : I62 102 22 = (I 102 22) := (f64 102 22 (by omega)).trans t56
        try rw [t68]
        try rw [t68] at q63
        have t69 : I62 102 23 = (I 102 23) := (f64 102 23 (by omega)).trans t57
        try rw [t69]
        try rw [t69] at q63
        have t70 : I62 105 0 = (I 105 0) := (f64 105 0 (by omega)).trans t58
        try rw [t70]
        try rw [t70] at q63
        have t71 : I62 105 1 = (I 105 1) := (f64 105 1 (by omega)).trans t59
        try rw [t71]
        try rw [t71] at q63
        have t72 : I62 105 2 = (I 105 2) := (f64 105 2 (by omega)).trans t60
        try rw [t72]
        try rw [t72] at q63
        have t73 : I62 105 6 = (I 105 6) := (f64 105 6 (by omega)).trans t61
        try rw [t73]
        try rw [t73] at q63
        have p74 : mH I62 := mH_eq p51 (fun k j h => f64 k j (by omega))
        exact hk _ _ k65 ⟨(by omega), p74⟩
      · refine w_159 (d := d + 3) hT hR  (by omega) (fun r75 I76 f78 q77 => ⟨_, _, rfl, rfl, ?_⟩)
        have k79 : ∀ k j, ¬ ((k = 102 ∧ (j = 4 ∨ (11 ≤ j ∧ j ≤ 18))) ∨ k = 105) → I76 k j = I k j := fun k j h => (f78 k j (by omega)).trans (k19 k j h)
        have t80 : I76 102 3 = (I 102 3) := (f78 102 3 (by omega)).trans t20
        try rw [t80]
        try rw [t80] at q77
        have t81 : I76 102 4 = (I16 102 4) := (f78 102 4 (by omega))
        try rw [t81]
        try rw [t81] at q77
        have t82 : I76 102 14 = (I16 102 14) := (f78 102 14 (by omega))
        try rw [t82]
        try rw [t82] at q77
        have t83 : I76 102 18 = (I16 102 18) := (f78 102 18 (by omega))
        try rw [t83]
        try rw [t83] at q77
        have t84 : I76 102 22 = (I 102 22) := (f78 102 22 (by omega)).trans t21
        try rw [t84]
        try rw [t84] at q77
        have t85 : I76 102 23 = (I 102 23) := (f78 102 23 (by omega)).trans t22
        try rw [t85]
        try rw [t85] at q77
        have t86 : I76 105 0 = (I 105 0) := (f78 105 0 (by omega)).trans t23
        try rw [t86]
        try rw [t86] at q77
        have t87 : I76 105 1 = (I 105 1) := (f78 105 1 (by omega)).trans t24
        try rw [t87]
        try rw [t87] at q77
        have t88 : I76 105 2 = (I 105 2) := (f78 105 2 (by omega)).trans t25
        try rw [t88]
        try rw [t88] at q77
        have t89 : I76 105 6 = (I 105 6) := (f78 105 6 (by omega)).trans t26
        try rw [t89]
        try rw [t89] at q77
        have p90 : mH I76 := mH_eq p27 (fun k j h => f78 k j (by omega))
        refine ⟨by omega, ?_⟩
        exact hk _ _ k79 ⟨(by omega), p90⟩
    · exact hk _ _ k19 ⟨(by omega), p27⟩
  · refine w_159 (d := d + 3) hT hR  (by omega) (fun r91 I92 f94 q93 => ⟨_, _, rfl, rfl, ?_⟩)
    have k95 : ∀ k j, ¬ ((k = 102 ∧ (j = 4 ∨ (11 ≤ j ∧ j ≤ 18))) ∨ k = 105) → I92 k j = I k j := fun k j h => (f94 k j (by omega)).trans (k0 k j h)
    have t96 : I92 102 3 = (I 102 3) := (f94 102 3 (by omega))
    try rw [t96]
    try rw [t96] at q93
    have t97 : I92 102 4 = (I 102 4) := (f94 102 4 (by omega))
    try rw [t97]
    try rw [t97] at q93
    have t98 : I92 102 14 = (I 102 14) := (f94 102 14 (by omega))
    try rw [t98]
    try rw [t98] at q93
    have t99 : I92 102 18 = (I 102 18) := (f94 102 18 (by omega))
    try rw [t99]
    try rw [t99] at q93
    have t100 : I92 102 22 = (I 102 22) := (f94 102 22 (by omega))
    try rw [t100]
    try rw [t100] at q93
    have t101 : I92 102 23 = (I 102 23) := (f94 102 23 (by omega))
    try rw [t101]
    try rw [t101] at q93
    have t102 : I92 105 0 = (I 105 0) := (f94 105 0 (by omega))
    try rw [t102]
    try rw [t102] at q93
    have t103 : I92 105 1 = (I 105 1) := (f94 105 1 (by omega))
    try rw [t103]
    try rw [t103] at q93
    have t104 : I92 105 2 = (I 105 2) := (f94 105 2 (by omega))
    try rw [t104]
    try rw [t104] at q93
    have t105 : I92 105 6 = (I 105 6) := (f94 105 6 (by omega))
    try rw [t105]
    try rw [t105] at q93
    have p106 : mH I92 := mH_eq hP0 (fun k j h => f94 k j (by omega))
    refine ⟨by omega, ?_⟩
    exact hk _ _ k95 ⟨(by omega), p106⟩
end Sw
