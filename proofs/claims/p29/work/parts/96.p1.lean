/-! CONTRACTS of the reference, printed by wip/whole/y/t5.py (96.p1) -/
section Sw
variable {l : Launch} {D : va_G} {cy : Nat → ClassId} {z d bc bs N : Nat} {T : Nat → Nat × Nat} {R : Nat → Nat → Option Nat} {I : Nat → Nat → Int} {K : yKo}
/-- ChairAlleyModel.isSmall(I)Z -/
theorem w_197 (hT : yLT T) (hR : yLR R) {x0 : Int} (hk : ∀ r, ((r = 1 ∧ 97 ≤ x0 ∧ x0 ≤ 122) ∨ (r = 0 ∧ ¬ (97 ≤ x0 ∧ x0 ≤ 122))) → K (some (yi r)) (N, T, R, I)) : yW l zSS D cy zFk z d 197 bc bs K 0 0 0 [(0, yi x0)] [] (N, T, R, I) := by
  refine e_li (i := 0) (x := x0) rfl fun _ _ => ?_
  refine B_197_0 hT hR ?_
  refine ⟨fun c1 => ?_, fun c1 => ?_⟩
  · exact hk _ (by omega)
  · refine ⟨fun c2 => ?_, fun c2 => ?_⟩
    · exact hk _ (by omega)
    · exact hk _ (by omega)
/-- ChairAlleyModel.isDigit(I)Z -/
theorem w_189 (hT : yLT T) (hR : yLR R) {x0 : Int} (hk : ∀ r, ((r = 1 ∧ 48 ≤ x0 ∧ x0 ≤ 57) ∨ (r = 0 ∧ ¬ (48 ≤ x0 ∧ x0 ≤ 57))) → K (some (yi r)) (N, T, R, I)) : yW l zSS D cy zFk z d 189 bc bs K 0 0 0 [(0, yi x0)] [] (N, T, R, I) := by
  refine e_li (i := 0) (x := x0) rfl fun _ _ => ?_
  refine B_189_0 hT hR ?_
  refine ⟨fun c1 => ?_, fun c1 => ?_⟩
  · exact hk _ (by omega)
  · refine ⟨fun c2 => ?_, fun c2 => ?_⟩
    · exact hk _ (by omega)
    · exact hk _ (by omega)
/-- ChairAlleyModel.go()V -/
theorem w_182 (hT : yLT T) (hR : yLR R) (h0 : 0 ≤ I 102 3 ∧ I 102 3 ≤ 940 ∧ 0 ≤ I 102 4 ∧ I 102 4 ≤ 940 ∧ 0 ≤ I 102 14 ∧ I 102 14 ≤ 10000) (hk : ∀ I', (∀ k j, ¬ (k = 102 ∧ (j = 4 ∨ (11 ≤ j ∧ j ≤ 14) ∨ j = 17)) → I' k j = I k j) → ((0 ≤ I' 102 3 ∧ I' 102 3 ≤ 940 ∧ 0 ≤ I' 102 4 ∧ I' 102 4 ≤ 940 ∧ 0 ≤ I' 102 14 ∧ I' 102 14 ≤ 10000) ∧ (I 102 4 ≤ I' 102 4 ∧ (I' 102 11 = 3 → I 102 4 < I' 102 4))) → K none (N, T, R, I')) : yW l zSS D cy zFk z (d + 1) 182 bc bs K 0 0 0 [(0, yr (some 102))] [] (N, T, R, I) := by
  have v102_12 : ∀ k j : Nat, ¬ (k = 102 ∧ (j = 4 ∨ (11 ≤ j ∧ j ≤ 14) ∨ j = 17)) → ¬ (k = 102 ∧ j = 12) := fun k j h => by omega
  have v102_13 : ∀ k j : Nat, ¬ (k = 102 ∧ (j = 4 ∨ (11 ≤ j ∧ j ≤ 14) ∨ j = 17)) → ¬ (k = 102 ∧ j = 13) := fun k j h => by omega
  have v102_11 : ∀ k j : Nat, ¬ (k = 102 ∧ (j = 4 ∨ (11 ≤ j ∧ j ≤ 14) ∨ j = 17)) → ¬ (k = 102 ∧ j = 11) := fun k j h => by omega
  have v102_4 : ∀ k j : Nat, ¬ (k = 102 ∧ (j = 4 ∨ (11 ≤ j ∧ j ≤ 14) ∨ j = 17)) → ¬ (k = 102 ∧ j = 4) := fun k j h => by omega
  have v102_14 : ∀ k j : Nat, ¬ (k = 102 ∧ (j = 4 ∨ (11 ≤ j ∧ j ≤ 14) ∨ j = 17)) → ¬ (k = 102 ∧ j = 14) := fun k j h => by omega
  have v102_17 : ∀ k j : Nat, ¬ (k = 102 ∧ (j = 4 ∨ (11 ≤ j ∧ j ≤ 14) ∨ j = 17)) → ¬ (k = 102 ∧ j = 17) := fun k j h => by omega
  have k0 : ∀ k j, ¬ (k = 102 ∧ (j = 4 ∨ (11 ≤ j ∧ j ≤ 14) ∨ j = 17)) → I k j = I k j := fun _ _ _ => rfl
  have L : ∀ m : Nat, (∀ X : Nat → Nat → Int, (∀ k j, ¬ (k = 102 ∧ (j = 4 ∨ (11 ≤ j ∧ j ≤ 14) ∨ j = 17)) → X k j = I k j) → (10 * (940 - X 102 4) + 30 : Int).toNat < m → (0 ≤ X 102 3 ∧ X 102 3 ≤ 940 ∧ 0 ≤ X 102 4 ∧ X 102 4 ≤ 940 ∧ 0 ≤ X 102 14 ∧ X 102 14 ≤ 10000 ∧ I 102 4 ≤ X 102 4) → yW l zSS D cy zFk z (d + 1) 182 bc bs K 0 0 0 [(0, yr (some 102))] [] (N, T, R, X)) ∧ (∀ X : Nat → Nat → Int, (∀ k j, ¬ (k = 102 ∧ (j = 4 ∨ (11 ≤ j ∧ j ≤ 14) ∨ j = 17)) → X k j = I k j) → (10 * (940 - X 102 4) + 28 : Int).toNat < m → (0 ≤ X 102 3 ∧ X 102 3 ≤ 940 ∧ 0 ≤ X 102 4 ∧ X 102 4 ≤ 940 ∧ 0 ≤ X 102 14 ∧ X 102 14 ≤ 10000 ∧ I 102 4 ≤ X 102 4 ∧ X 102 4 < 940) → yW l zSS D cy zFk z (d + 1) 182 bc bs K 0 0 18 [(0, yr (some 102))] [] (N, T, R, X)) ∧ (∀ X : Nat → Nat → Int, (∀ k j, ¬ (k = 102 ∧ (j = 4 ∨ (11 ≤ j ∧ j ≤ 14) ∨ j = 17)) → X k j = I k j) → (10 * (940 - X 102 4) + 20 : Int).toNat < m → (0 ≤ X 102 3 ∧ X 102 3 ≤ 940 ∧ 0 ≤ X 102 4 ∧ X 102 4 ≤ 940 ∧ 0 ≤ X 102 14 ∧ X 102 14 ≤ 10000 ∧ I 102 4 ≤ X 102 4 ∧ X 102 13 = 0) → yW l zSS D cy zFk z (d + 1) 182 bc bs K 0 0 80 [(0, yr (some 102))] [] (N, T, R, X)) ∧ (∀ x1 : Int, ∀ X : Nat → Nat → Int, (∀ k j, ¬ (k = 102 ∧ (j = 4 ∨ (11 ≤ j ∧ j ≤ 14) ∨ j = 17)) → X k j = I k j) → (10 * (940 - X 102 4) + 18 : Int).toNat < m → (0 ≤ X 102 3 ∧ X 102 3 ≤ 940 ∧ 0 ≤ X 102 4 ∧ X 102 4 ≤ 940 ∧ 0 ≤ X 102 14 ∧ X 102 14 ≤ 10000 ∧ I 102 4 ≤ X 102 4 ∧ X 102 13 = 0) → yW l zSS D cy zFk z (d + 1) 182 bc bs K 0 0 164 [(0, yr (some 102)), (1, yi x1)] [] (N, T, R, X)) ∧ (∀ x2 x3 : Int, ∀ X : Nat → Nat → Int, (∀ k j, ¬ (k = 102 ∧ (j = 4 ∨ (11 ≤ j ∧ j ≤ 14) ∨ j = 17)) → X k j = I k j) → (10 * (940 - X 102 4) + 16 : Int).toNat < m → (0 ≤ X 102 3 ∧ X 102 3 ≤ 940 ∧ 0 ≤ X 102 4 ∧ X 102 4 ≤ 940 ∧ 0 ≤ X 102 14 ∧ X 102 14 ≤ 10000 ∧ I 102 4 ≤ X 102 4 ∧ ((X 102 13 = 0 ∧ X 102 14 = 0) ∨ (X 102 13 = 1 ∧ X 102 14 ≤ 74) ∨ (X 102 13 = 2 ∧ X 102 14 ≤ 814) ∨ (3 ≤ X 102 13 ∧ X 102 14 ≤ 8214)) ∧ X 102 13 ≤ X 102 4) → yW l zSS D cy zFk z (d + 1) 182 bc bs K 0 0 181 [(0, yr (some 102)), (2, yi x2), (3, yi x3)] [] (N, T, R, X)) ∧ (∀ x2 x3 : Int, ∀ X : Nat → Nat → Int, (∀ k j, ¬ (k = 102 ∧ (j = 4 ∨ (11 ≤ j ∧ j ≤ 14) ∨ j = 17)) → X k j = I k j) → (10 * (940 - X 102 4) + 14 : Int).toNat < m → (0 ≤ X 102 3 ∧ X 102 3 ≤ 940 ∧ 0 ≤ X 102 4 ∧ X 102 4 ≤ 940 ∧ 0 ≤ X 102 14 ∧ X 102 14 ≤ 10000 ∧ I 102 4 ≤ X 102 4 ∧ X 102 4 < X 102 3 ∧ ((48 ≤ mPk X ∧ mPk X ≤ 57) ∨ (97 ≤ mPk X ∧ mPk X ≤ 122)) ∧ ((X 102 13 = 0 ∧ X 102 14 = 0) ∨ (X 102 13 = 1 ∧ X 102 14 ≤ 74) ∨ (X 102 13 = 2 ∧ X 102 14 ≤ 814) ∨ (3 ≤ X 102 13 ∧ X 102 14 ≤ 8214)) ∧ X 102 13 ≤ X 102 4) → yW l zSS D cy zFk z (d + 1) 182 bc bs K 0 0 201 [(0, yr (some 102)), (2, yi x2), (3, yi x3)] [] (N, T, R, X)) ∧ (∀ x2 : Int, ∀ X : Nat → Nat → Int, (∀ k j, ¬ (k = 102 ∧ (j = 4 ∨ (11 ≤ j ∧ j ≤ 14) ∨ j = 17)) → X k j = I k j) → (10 * (940 - X 102 4) + 12 : Int).toNat < m → (0 ≤ X 102 3 ∧ X 102 3 ≤ 940 ∧ 0 ≤ X 102 4 ∧ X 102 4 ≤ 940 ∧ 0 ≤ X 102 14 ∧ X 102 14 ≤ 10000 ∧ I 102 4 ≤ X 102 4 ∧ X 102 4 < X 102 3 ∧ ((48 ≤ mPk X ∧ mPk X ≤ 57) ∨ (97 ≤ mPk X ∧ mPk X ≤ 122)) ∧ ((X 102 13 = 0 ∧ X 102 14 = 0) ∨ (X 102 13 = 1 ∧ X 102 14 ≤ 74) ∨ (X 102 13 = 2 ∧ X 102 14 ≤ 814) ∨ (3 ≤ X 102 13 ∧ X 102 14 ≤ 8214)) ∧ X 102 13 ≤ X 102 4) → yW l zSS D cy zFk z (d + 1) 182 bc bs K 0 0 220 [(0, yr (some 102)), (2, yi x2)] [] (N, T, R, X)) ∧ (∀ x2 x3 : Int, ∀ X : Nat → Nat → Int, (∀ k j, ¬ (k = 102 ∧ (j = 4 ∨ (11 ≤ j ∧ j ≤ 14) ∨ j = 17)) → X k j = I k j) → (10 * (940 - X 102 4) + 10 : Int).toNat < m → (0 ≤ X 102 3 ∧ X 102 3 ≤ 940 ∧ 0 ≤ X 102 4 ∧ X 102 4 ≤ 940 ∧ 0 ≤ X 102 14 ∧ X 102 14 ≤ 10000 ∧ I 102 4 ≤ X 102 4 ∧ X 102 4 < X 102 3 ∧ ((48 ≤ mPk X ∧ mPk X ≤ 57) ∨ (97 ≤ mPk X ∧ mPk X ≤ 122)) ∧ ((X 102 13 = 0 ∧ X 102 14 = 0) ∨ (X 102 13 = 1 ∧ X 102 14 ≤ 74) ∨ (X 102 13 = 2 ∧ X 102 14 ≤ 814) ∨ (3 ≤ X 102 13 ∧ X 102 14 ≤ 8214)) ∧ X 102 13 ≤ X 102 4) → yW l zSS D cy zFk z (d + 1) 182 bc bs K 0 0 248 [(0, yr (some 102)), (2, yi x2), (3, yi x3)] [] (N, T, R, X)) ∧ (∀ x2 x3 : Int, ∀ X : Nat → Nat → Int, (∀ k j, ¬ (k = 102 ∧ (j = 4 ∨ (11 ≤ j ∧ j ≤ 14) ∨ j = 17)) → X k j = I k j) → (10 * (940 - X 102 4) + 8 : Int).toNat < m → (0 ≤ X 102 3 ∧ X 102 3 ≤ 940 ∧ 0 ≤ X 102 4 ∧ X 102 4 ≤ 940 ∧ 0 ≤ X 102 14 ∧ X 102 14 ≤ 10000 ∧ I 102 4 ≤ X 102 4 ∧ X 102 4 < X 102 3 ∧ 0 ≤ X 102 13 ∧ X 102 13 ≤ X 102 4 ∧ ((X 102 13 = 0 ∧ X 102 14 ≤ 74) ∨ (X 102 13 = 1 ∧ X 102 14 ≤ 814) ∨ (2 ≤ X 102 13 ∧ X 102 14 ≤ 8214))) → yW l zSS D cy zFk z (d + 1) 182 bc bs K 0 0 275 [(0, yr (some 102)), (2, yi x2), (3, yi x3)] [] (N, T, R, X)) := by
    intro m
    induction m with
    | zero => exact ⟨fun _ _ h => absurd h (Nat.not_lt_zero _), fun _ _ h => absurd h (Nat.not_lt_zero _), fun _ _ h => absurd h (Nat.not_lt_zero _), fun _ _ _ h => absurd h (Nat.not_lt_zero _), fun _ _ _ _ h => absurd h (Nat.not_lt_zero _), fun _ _ _ _ h => absurd h (Nat.not_lt_zero _), fun _ _ _ h => absurd h (Nat.not_lt_zero _), fun _ _ _ _ h => absurd h (Nat.not_lt_zero _), fun _ _ _ _ h => absurd h (Nat.not_lt_zero _)⟩
    | succ m ih =>
      refine ⟨?_, ?_, ?_, ?_, ?_, ?_, ?_, ?_, ?_⟩
      · intro X kX hm iv
        have t1 : X 102 3 = (I 102 3) := (kX 102 3 (by decide))
        refine B_182_0 hT hR ?_
        try rw [t1]
        refine w_225 (d := d) hT hR  (by omega) (fun r2 q3 => ⟨_, _, rfl, rfl, ?_⟩)
        refine ⟨fun c5 => ?_, fun c5 => ?_⟩
        · exact ih.2.1  _ kX (by omega) (by omega)
        · refine w_225 (d := d) hT hR  (by omega) (fun r6 q7 => ⟨_, _, rfl, rfl, ?_⟩)
          refine ⟨fun c9 => ?_, fun c9 => ?_⟩
          · intro I10 e11
            have k12 : ∀ k j, ¬ (k = 102 ∧ (j = 4 ∨ (11 ≤ j ∧ j ≤ 14) ∨ j = 17)) → I10 k j = I k j := fun k j h => ((congrFun (congrFun e11 k) j).trans (yU_ne _ _ (v102_12 k j h))).trans (kX k j h)
            first | have gI10_mPk : mPk I10 = mPk X := mPk_eq (fun k j h => (congrFun (congrFun e11 k) j).trans (yU_ne _ _ (by omega))) | skip
            have t13 : I10 102 3 = (I 102 3) := ((congrFun (congrFun e11 102) 3).trans (yU_ne _ _ (fun q => absurd q.2 (by decide)))).trans t1
            try rw [t13]
            have t14 : I10 102 4 = (X 102 4) := (congrFun (congrFun e11 102) 4).trans (yU_ne _ _ (fun q => absurd q.2 (by decide)))
            try rw [t14]
            have t15 : I10 102 11 = (X 102 11) := (congrFun (congrFun e11 102) 11).trans (yU_ne _ _ (fun q => absurd q.2 (by decide)))
            try rw [t15]
            have t16 : I10 102 14 = (X 102 14) := (congrFun (congrFun e11 102) 14).trans (yU_ne _ _ (fun q => absurd q.2 (by decide)))
            try rw [t16]
            have t17 : I10 102 13 = (X 102 13) := (congrFun (congrFun e11 102) 13).trans (yU_ne _ _ (fun q => absurd q.2 (by decide)))
            try rw [t17]
            intro I18 e19
            have k20 : ∀ k j, ¬ (k = 102 ∧ (j = 4 ∨ (11 ≤ j ∧ j ≤ 14) ∨ j = 17)) → I18 k j = I k j := fun k j h => ((congrFun (congrFun e19 k) j).trans (yU_ne _ _ (v102_13 k j h))).trans (k12 k j h)
            first | have gI18_mPk : mPk I18 = mPk I10 := mPk_eq (fun k j h => (congrFun (congrFun e19 k) j).trans (yU_ne _ _ (by omega))) | skip
            have t21 : I18 102 3 = (I 102 3) := ((congrFun (congrFun e19 102) 3).trans (yU_ne _ _ (fun q => absurd q.2 (by decide)))).trans t13
            try rw [t21]
            have t22 : I18 102 4 = (X 102 4) := ((congrFun (congrFun e19 102) 4).trans (yU_ne _ _ (fun q => absurd q.2 (by decide)))).trans t14
            try rw [t22]
            have t23 : I18 102 11 = (X 102 11) := ((congrFun (congrFun e19 102) 11).trans (yU_ne _ _ (fun q => absurd q.2 (by decide)))).trans t15
            try rw [t23]
            have t24 : I18 102 14 = (X 102 14) := ((congrFun (congrFun e19 102) 14).trans (yU_ne _ _ (fun q => absurd q.2 (by decide)))).trans t16
            try rw [t24]
            have t25 : I18 102 13 = 0 := (congrFun (congrFun e19 102) 13).trans (yU_eq _ _ _ _)
            try rw [t25]
            refine ⟨fun c26 => ?_, fun c26 => ?_⟩
            · exact ih.2.2.1  _ k20 (by omega) (by omega)
            · refine ⟨fun c27 => ?_, fun c27 => ?_⟩
              · exact ih.2.2.1  _ k20 (by omega) (by omega)
              · intro I28 e29
                have k30 : ∀ k j, ¬ (k = 102 ∧ (j = 4 ∨ (11 ≤ j ∧ j ≤ 14) ∨ j = 17)) → I28 k j = I k j := fun k j h => ((congrFun (congrFun e29 k) j).trans (yU_ne _ _ (v102_12 k j h))).trans (k20 k j h)
                first | have gI28_mPk : mPk I28 = mPk I18 := mPk_eq (fun k j h => (congrFun (congrFun e29 k) j).trans (yU_ne _ _ (by omega))) | skip
                have t31 : I28 102 3 = (I 102 3) := ((congrFun (congrFun e29 102) 3).trans (yU_ne _ _ (fun q => absurd q.2 (by decide)))).trans t21
                try rw [t31]
                have t32 : I28 102 4 = (X 102 4) := ((congrFun (congrFun e29 102) 4).trans (yU_ne _ _ (fun q => absurd q.2 (by decide)))).trans t22
                try rw [t32]
                have t33 : I28 102 11 = (X 102 11) := ((congrFun (congrFun e29 102) 11).trans (yU_ne _ _ (fun q => absurd q.2 (by decide)))).trans t23
                try rw [t33]
                have t34 : I28 102 14 = (X 102 14) := ((congrFun (congrFun e29 102) 14).trans (yU_ne _ _ (fun q => absurd q.2 (by decide)))).trans t24
                try rw [t34]
                have t35 : I28 102 13 = 0 := ((congrFun (congrFun e29 102) 13).trans (yU_ne _ _ (fun q => absurd q.2 (by decide)))).trans t25
                try rw [t35]
                intro I36 e37
                have k38 : ∀ k j, ¬ (k = 102 ∧ (j = 4 ∨ (11 ≤ j ∧ j ≤ 14) ∨ j = 17)) → I36 k j = I k j := fun k j h => ((congrFun (congrFun e37 k) j).trans (yU_ne _ _ (v102_11 k j h))).trans (k30 k j h)
                first | have gI36_mPk : mPk I36 = mPk I28 := mPk_eq (fun k j h => (congrFun (congrFun e37 k) j).trans (yU_ne _ _ (by omega))) | skip
                have t39 : I36 102 3 = (I 102 3) := ((congrFun (congrFun e37 102) 3).trans (yU_ne _ _ (fun q => absurd q.2 (by decide)))).trans t31
                try rw [t39]
                have t40 : I36 102 4 = (X 102 4) := ((congrFun (congrFun e37 102) 4).trans (yU_ne _ _ (fun q => absurd q.2 (by decide)))).trans t32
                try rw [t40]
                have t41 : I36 102 11 = 4 := (congrFun (congrFun e37 102) 11).trans (yU_eq _ _ _ _)
                try rw [t41]
                have t42 : I36 102 14 = (X 102 14) := ((congrFun (congrFun e37 102) 14).trans (yU_ne _ _ (fun q => absurd q.2 (by decide)))).trans t34
                try rw [t42]
                have t43 : I36 102 13 = 0 := ((congrFun (congrFun e37 102) 13).trans (yU_ne _ _ (fun q => absurd q.2 (by decide)))).trans t35
                try rw [t43]
                exact hk _ k38 (by omega)
          · exact ih.2.1  _ kX (by omega) (by omega)
      · intro X kX hm iv
        have t44 : X 102 3 = (I 102 3) := (kX 102 3 (by decide))
        refine B_182_18 hT hR ?_
        try rw [t44]
        have a45 : yadd (X 102 4) 1 = ((X 102 4) + 1) := yadd_eq (by omega) (by omega)
        try rw [a45]
        intro I46 e47
        have k48 : ∀ k j, ¬ (k = 102 ∧ (j = 4 ∨ (11 ≤ j ∧ j ≤ 14) ∨ j = 17)) → I46 k j = I k j := fun k j h => ((congrFun (congrFun e47 k) j).trans (yU_ne _ _ (v102_4 k j h))).trans (kX k j h)
        first | have gI46_mPk : mPk I46 = mPk X := mPk_eq (fun k j h => (congrFun (congrFun e47 k) j).trans (yU_ne _ _ (by omega))) | skip
        have t49 : I46 102 3 = (I 102 3) := ((congrFun (congrFun e47 102) 3).trans (yU_ne _ _ (fun q => absurd q.2 (by decide)))).trans t44
        try rw [t49]
        have t50 : I46 102 4 = ((X 102 4) + 1) := (congrFun (congrFun e47 102) 4).trans (yU_eq _ _ _ _)
        try rw [t50]
        have t51 : I46 102 11 = (X 102 11) := (congrFun (congrFun e47 102) 11).trans (yU_ne _ _ (fun q => absurd q.2 (by decide)))
        try rw [t51]
        have t52 : I46 102 14 = (X 102 14) := (congrFun (congrFun e47 102) 14).trans (yU_ne _ _ (fun q => absurd q.2 (by decide)))
        try rw [t52]
        have t53 : I46 102 13 = (X 102 13) := (congrFun (congrFun e47 102) 13).trans (yU_ne _ _ (fun q => absurd q.2 (by decide)))
        try rw [t53]
        exact ih.1  _ k48 (by omega) (by omega)
      · intro X kX hm iv
        have t54 : X 102 3 = (I 102 3) := (kX 102 3 (by decide))
        refine B_182_80 hT hR ?_
        try rw [t54]
        refine w_225 (d := d) hT hR  (by omega) (fun r55 q56 => ⟨_, _, rfl, rfl, ?_⟩)
        refine ⟨fun c58 => ?_, fun c58 => ?_⟩
        · refine w_197 (d := d) hT hR   (fun r59 q60 => ⟨_, _, rfl, rfl, ?_⟩)
          refine ⟨fun c62 => ?_, fun c62 => ?_⟩
          · exact ih.2.2.2.1 _ _ kX (by omega) (by omega)
          · refine w_189 (d := d) hT hR   (fun r63 q64 => ⟨_, _, rfl, rfl, ?_⟩)
            refine ⟨fun c66 => ?_, fun c66 => ?_⟩
            · exact ih.2.2.2.1 _ _ kX (by omega) (by omega)
            · refine ⟨fun c67 => ?_, fun c67 => ?_⟩
              · intro I68 e69
                have k70 : ∀ k j, ¬ (k = 102 ∧ (j = 4 ∨ (11 ≤ j ∧ j ≤ 14) ∨ j = 17)) → I68 k j = I k j := fun k j h => ((congrFun (congrFun e69 k) j).trans (yU_ne _ _ (v102_11 k j h))).trans (kX k j h)
                first | have gI68_mPk : mPk I68 = mPk X := mPk_eq (fun k j h => (congrFun (congrFun e69 k) j).trans (yU_ne _ _ (by omega))) | skip
                have t71 : I68 102 3 = (I 102 3) := ((congrFun (congrFun e69 102) 3).trans (yU_ne _ _ (fun q => absurd q.2 (by decide)))).trans t54
                try rw [t71]
                have t72 : I68 102 4 = (X 102 4) := (congrFun (congrFun e69 102) 4).trans (yU_ne _ _ (fun q => absurd q.2 (by decide)))
                try rw [t72]
                have t73 : I68 102 11 = 3 := (congrFun (congrFun e69 102) 11).trans (yU_eq _ _ _ _)
                try rw [t73]
                have t74 : I68 102 14 = (X 102 14) := (congrFun (congrFun e69 102) 14).trans (yU_ne _ _ (fun q => absurd q.2 (by decide)))
                try rw [t74]
                have t75 : I68 102 13 = (X 102 13) := (congrFun (congrFun e69 102) 13).trans (yU_ne _ _ (fun q => absurd q.2 (by decide)))
                try rw [t75]
                intro I76 e77
                have k78 : ∀ k j, ¬ (k = 102 ∧ (j = 4 ∨ (11 ≤ j ∧ j ≤ 14) ∨ j = 17)) → I76 k j = I k j := fun k j h => ((congrFun (congrFun e77 k) j).trans (yU_ne _ _ (v102_14 k j h))).trans (k70 k j h)
                first | have gI76_mPk : mPk I76 = mPk I68 := mPk_eq (fun k j h => (congrFun (congrFun e77 k) j).trans (yU_ne _ _ (by omega))) | skip
                have t79 : I76 102 3 = (I 102 3) := ((congrFun (congrFun e77 102) 3).trans (yU_ne _ _ (fun q => absurd q.2 (by decide)))).trans t71
                try rw [t79]
                have t80 : I76 102 4 = (X 102 4) := ((congrFun (congrFun e77 102) 4).trans (yU_ne _ _ (fun q => absurd q.2 (by decide)))).trans t72
                try rw [t80]
                have t81 : I76 102 11 = 3 := ((congrFun (congrFun e77 102) 11).trans (yU_ne _ _ (fun q => absurd q.2 (by decide)))).trans t73
                try rw [t81]
                have t82 : I76 102 14 = r55 := (congrFun (congrFun e77 102) 14).trans (yU_eq _ _ _ _)
                try rw [t82]
                have t83 : I76 102 13 = (X 102 13) := ((congrFun (congrFun e77 102) 13).trans (yU_ne _ _ (fun q => absurd q.2 (by decide)))).trans t75
                try rw [t83]
                have a84 : yadd (X 102 4) 1 = ((X 102 4) + 1) := yadd_eq (by omega) (by omega)
                try rw [a84]
                intro I85 e86
                have k87 : ∀ k j, ¬ (k = 102 ∧ (j = 4 ∨ (11 ≤ j ∧ j ≤ 14) ∨ j = 17)) → I85 k j = I k j := fun k j h => ((congrFun (congrFun e86 k) j).trans (yU_ne _ _ (v102_4 k j h))).trans (k78 k j h)
                first | have gI85_mPk : mPk I85 = mPk I76 := mPk_eq (fun k j h => (congrFun (congrFun e86 k) j).trans (yU_ne _ _ (by omega))) | skip
                have t88 : I85 102 3 = (I 102 3) := ((congrFun (congrFun e86 102) 3).trans (yU_ne _ _ (fun q => absurd q.2 (by decide)))).trans t79
                try rw [t88]
                have t89 : I85 102 4 = ((X 102 4) + 1) := (congrFun (congrFun e86 102) 4).trans (yU_eq _ _ _ _)
                try rw [t89]
                have t90 : I85 102 11 = 3 := ((congrFun (congrFun e86 102) 11).trans (yU_ne _ _ (fun q => absurd q.2 (by decide)))).trans t81
                try rw [t90]
                have t91 : I85 102 14 = r55 := ((congrFun (congrFun e86 102) 14).trans (yU_ne _ _ (fun q => absurd q.2 (by decide)))).trans t82
                try rw [t91]
                have t92 : I85 102 13 = (X 102 13) := ((congrFun (congrFun e86 102) 13).trans (yU_ne _ _ (fun q => absurd q.2 (by decide)))).trans t83
                try rw [t92]
                exact hk _ k87 (by omega)
              · refine ⟨fun c93 => ?_, fun c93 => ?_⟩
                · intro I94 e95
                  have k96 : ∀ k j, ¬ (k = 102 ∧ (j = 4 ∨ (11 ≤ j ∧ j ≤ 14) ∨ j = 17)) → I94 k j = I k j := fun k j h => ((congrFun (congrFun e95 k) j).trans (yU_ne _ _ (v102_11 k j h))).trans (kX k j h)
                  first | have gI94_mPk : mPk I94 = mPk X := mPk_eq (fun k j h => (congrFun (congrFun e95 k) j).trans (yU_ne _ _ (by omega))) | skip
                  have t97 : I94 102 3 = (I 102 3) := ((congrFun (congrFun e95 102) 3).trans (yU_ne _ _ (fun q => absurd q.2 (by decide)))).trans t54
                  try rw [t97]
                  have t98 : I94 102 4 = (X 102 4) := (congrFun (congrFun e95 102) 4).trans (yU_ne _ _ (fun q => absurd q.2 (by decide)))
                  try rw [t98]
                  have t99 : I94 102 11 = 3 := (congrFun (congrFun e95 102) 11).trans (yU_eq _ _ _ _)
                  try rw [t99]
                  have t100 : I94 102 14 = (X 102 14) := (congrFun (congrFun e95 102) 14).trans (yU_ne _ _ (fun q => absurd q.2 (by decide)))
                  try rw [t100]
                  have t101 : I94 102 13 = (X 102 13) := (congrFun (congrFun e95 102) 13).trans (yU_ne _ _ (fun q => absurd q.2 (by decide)))
                  try rw [t101]
                  intro I102 e103
                  have k104 : ∀ k j, ¬ (k = 102 ∧ (j = 4 ∨ (11 ≤ j ∧ j ≤ 14) ∨ j = 17)) → I102 k j = I k j := fun k j h => ((congrFun (congrFun e103 k) j).trans (yU_ne _ _ (v102_14 k j h))).trans (k96 k j h)
                  first | have gI102_mPk : mPk I102 = mPk I94 := mPk_eq (fun k j h => (congrFun (congrFun e103 k) j).trans (yU_ne _ _ (by omega))) | skip
                  have t105 : I102 102 3 = (I 102 3) := ((congrFun (congrFun e103 102) 3).trans (yU_ne _ _ (fun q => absurd q.2 (by decide)))).trans t97
                  try rw [t105]
                  have t106 : I102 102 4 = (X 102 4) := ((congrFun (congrFun e103 102) 4).trans (yU_ne _ _ (fun q => absurd q.2 (by decide)))).trans t98
                  try rw [t106]
                  have t107 : I102 102 11 = 3 := ((congrFun (congrFun e103 102) 11).trans (yU_ne _ _ (fun q => absurd q.2 (by decide)))).trans t99
                  try rw [t107]
                  have t108 : I102 102 14 = r55 := (congrFun (congrFun e103 102) 14).trans (yU_eq _ _ _ _)
                  try rw [t108]
                  have t109 : I102 102 13 = (X 102 13) := ((congrFun (congrFun e103 102) 13).trans (yU_ne _ _ (fun q => absurd q.2 (by decide)))).trans t101
                  try rw [t109]
                  have a110 : yadd (X 102 4) 1 = ((X 102 4) + 1) := yadd_eq (by omega) (by omega)
                  try rw [a110]
                  intro I111 e112
                  have k113 : ∀ k j, ¬ (k = 102 ∧ (j = 4 ∨ (11 ≤ j ∧ j ≤ 14) ∨ j = 17)) → I111 k j = I k j := fun k j h => ((congrFun (congrFun e112 k) j).trans (yU_ne _ _ (v102_4 k j h))).trans (k104 k j h)
                  first | have gI111_mPk : mPk I111 = mPk I102 := mPk_eq (fun k j h => (congrFun (congrFun e112 k) j).trans (yU_ne _ _ (by omega))) | skip
                  have t114 : I111 102 3 = (I 102 3) := ((congrFun (congrFun e112 102) 3).trans (yU_ne _ _ (fun q => absurd q.2 (by decide)))).trans t105
                  try rw [t114]
                  have t115 : I111 102 4 = ((X 102 4) + 1) := (congrFun (congrFun e112 102) 4).trans (yU_eq _ _ _ _)
                  try rw [t115]
                  have t116 : I111 102 11 = 3 := ((congrFun (congrFun e112 102) 11).trans (yU_ne _ _ (fun q => absurd q.2 (by decide)))).trans t107
                  try rw [t116]
                  have t117 : I111 102 14 = r55 := ((congrFun (congrFun e112 102) 14).trans (yU_ne _ _ (fun q => absurd q.2 (by decide)))).trans t108
                  try rw [t117]
                  have t118 : I111 102 13 = (X 102 13) := ((congrFun (congrFun e112 102) 13).trans (yU_ne _ _ (fun q => absurd q.2 (by decide)))).trans t109
                  try rw [t118]
                  exact hk _ k113 (by omega)
                · refine ⟨fun c119 => ?_, fun c119 => ?_⟩
                  · intro I120 e121
                    have k122 : ∀ k j, ¬ (k = 102 ∧ (j = 4 ∨ (11 ≤ j ∧ j ≤ 14) ∨ j = 17)) → I120 k j = I k j := fun k j h => ((congrFun (congrFun e121 k) j).trans (yU_ne _ _ (v102_11 k j h))).trans (kX k j h)
                    first | have gI120_mPk : mPk I120 = mPk X := mPk_eq (fun k j h => (congrFun (congrFun e121 k) j).trans (yU_ne _ _ (by omega))) | skip
                    have t123 : I120 102 3 = (I 102 3) := ((congrFun (congrFun e121 102) 3).trans (yU_ne _ _ (fun q => absurd q.2 (by decide)))).trans t54
                    try rw [t123]
                    have t124 : I120 102 4 = (X 102 4) := (congrFun (congrFun e121 102) 4).trans (yU_ne _ _ (fun q => absurd q.2 (by decide)))
                    try rw [t124]
                    have t125 : I120 102 11 = 3 := (congrFun (congrFun e121 102) 11).trans (yU_eq _ _ _ _)
                    try rw [t125]
                    have t126 : I120 102 14 = (X 102 14) := (congrFun (congrFun e121 102) 14).trans (yU_ne _ _ (fun q => absurd q.2 (by decide)))
                    try rw [t126]
                    have t127 : I120 102 13 = (X 102 13) := (congrFun (congrFun e121 102) 13).trans (yU_ne _ _ (fun q => absurd q.2 (by decide)))
                    try rw [t127]
                    intro I128 e129
                    have k130 : ∀ k j, ¬ (k = 102 ∧ (j = 4 ∨ (11 ≤ j ∧ j ≤ 14) ∨ j = 17)) → I128 k j = I k j := fun k j h => ((congrFun (congrFun e129 k) j).trans (yU_ne _ _ (v102_14 k j h))).trans (k122 k j h)
                    first | have gI128_mPk : mPk I128 = mPk I120 := mPk_eq (fun k j h => (congrFun (congrFun e129 k) j).trans (yU_ne _ _ (by omega))) | skip
                    have t131 : I128 102 3 = (I 102 3) := ((congrFun (congrFun e129 102) 3).trans (yU_ne _ _ (fun q => absurd q.2 (by decide)))).trans t123
                    try rw [t131]
                    have t132 : I128 102 4 = (X 102 4) := ((congrFun (congrFun e129 102) 4).trans (yU_ne _ _ (fun q => absurd q.2 (by decide)))).trans t124
                    try rw [t132]
                    have t133 : I128 102 11 = 3 := ((congrFun (congrFun e129 102) 11).trans (yU_ne _ _ (fun q => absurd q.2 (by decide)))).trans t125
                    try rw [t133]
                    have t134 : I128 102 14 = r55 := (congrFun (congrFun e129 102) 14).trans (yU_eq _ _ _ _)
                    try rw [t134]
                    have t135 : I128 102 13 = (X 102 13) := ((congrFun (congrFun e129 102) 13).trans (yU_ne _ _ (fun q => absurd q.2 (by decide)))).trans t127
                    try rw [t135]
                    have a136 : yadd (X 102 4) 1 = ((X 102 4) + 1) := yadd_eq (by omega) (by omega)
                    try rw [a136]
                    intro I137 e138
                    have k139 : ∀ k j, ¬ (k = 102 ∧ (j = 4 ∨ (11 ≤ j ∧ j ≤ 14) ∨ j = 17)) → I137 k j = I k j := fun k j h => ((congrFun (congrFun e138 k) j).trans (yU_ne _ _ (v102_4 k j h))).trans (k130 k j h)
                    first | have gI137_mPk : mPk I137 = mPk I128 := mPk_eq (fun k j h => (congrFun (congrFun e138 k) j).trans (yU_ne _ _ (by omega))) | skip
                    have t140 : I137 102 3 = (I 102 3) := ((congrFun (congrFun e138 102) 3).trans (yU_ne _ _ (fun q => absurd q.2 (by decide)))).trans t131
                    try rw [t140]
                    have t141 : I137 102 4 = ((X 102 4) + 1) := (congrFun (congrFun e138 102) 4).trans (yU_eq _ _ _ _)
                    try rw [t141]
                    have t142 : I137 102 11 = 3 := ((congrFun (congrFun e138 102) 11).trans (yU_ne _ _ (fun q => absurd q.2 (by decide)))).trans t133
                    try rw [t142]
                    have t143 : I137 102 14 = r55 := ((congrFun (congrFun e138 102) 14).trans (yU_ne _ _ (fun q => absurd q.2 (by decide)))).trans t134
                    try rw [t143]
                    have t144 : I137 102 13 = (X 102 13) := ((congrFun (congrFun e138 102) 13).trans (yU_ne _ _ (fun q => absurd q.2 (by decide)))).trans t135
                    try rw [t144]
                    exact hk _ k139 (by omega)
                  · refine ⟨fun c145 => ?_, fun c145 => ?_⟩
                    · intro I146 e147
                      have k148 : ∀ k j, ¬ (k = 102 ∧ (j = 4 ∨ (11 ≤ j ∧ j ≤ 14) ∨ j = 17)) → I146 k j = I k j := fun k j h => ((congrFun (congrFun e147 k) j).trans (yU_ne _ _ (v102_11 k j h))).trans (kX k j h)
                      first | have gI146_mPk : mPk I146 = mPk X := mPk_eq (fun k j h => (congrFun (congrFun e147 k) j).trans (yU_ne _ _ (by omega))) | skip
                      have t149 : I146 102 3 = (I 102 3) := ((congrFun (congrFun e147 102) 3).trans (yU_ne _ _ (fun q => absurd q.2 (by decide)))).trans t54
                      try rw [t149]
                      have t150 : I146 102 4 = (X 102 4) := (congrFun (congrFun e147 102) 4).trans (yU_ne _ _ (fun q => absurd q.2 (by decide)))
                      try rw [t150]
                      have t151 : I146 102 11 = 4 := (congrFun (congrFun e147 102) 11).trans (yU_eq _ _ _ _)
                      try rw [t151]
                      have t152 : I146 102 14 = (X 102 14) := (congrFun (congrFun e147 102) 14).trans (yU_ne _ _ (fun q => absurd q.2 (by decide)))
                      try rw [t152]
                      have t153 : I146 102 13 = (X 102 13) := (congrFun (congrFun e147 102) 13).trans (yU_ne _ _ (fun q => absurd q.2 (by decide)))
                      try rw [t153]
                      intro I154 e155
                      have k156 : ∀ k j, ¬ (k = 102 ∧ (j = 4 ∨ (11 ≤ j ∧ j ≤ 14) ∨ j = 17)) → I154 k j = I k j := fun k j h => ((congrFun (congrFun e155 k) j).trans (yU_ne _ _ (v102_14 k j h))).trans (k148 k j h)
                      first | have gI154_mPk : mPk I154 = mPk I146 := mPk_eq (fun k j h => (congrFun (congrFun e155 k) j).trans (yU_ne _ _ (by omega))) | skip
                      have t157 : I154 102 3 = (I 102 3) := ((congrFun (congrFun e155 102) 3).trans (yU_ne _ _ (fun q => absurd q.2 (by decide)))).trans t149
                      try rw [t157]
                      have t158 : I154 102 4 = (X 102 4) := ((congrFun (congrFun e155 102) 4).trans (yU_ne _ _ (fun q => absurd q.2 (by decide)))).trans t150
                      try rw [t158]
                      have t159 : I154 102 11 = 4 := ((congrFun (congrFun e155 102) 11).trans (yU_ne _ _ (fun q => absurd q.2 (by decide)))).trans t151
                      try rw [t159]
                      have t160 : I154 102 14 = r55 := (congrFun (congrFun e155 102) 14).trans (yU_eq _ _ _ _)
                      try rw [t160]
                      have t161 : I154 102 13 = (X 102 13) := ((congrFun (congrFun e155 102) 13).trans (yU_ne _ _ (fun q => absurd q.2 (by decide)))).trans t153
                      try rw [t161]
                      have a162 : yadd (X 102 4) 1 = ((X 102 4) + 1) := yadd_eq (by omega) (by omega)
                      try rw [a162]
                      intro I163 e164
                      have k165 : ∀ k j, ¬ (k = 102 ∧ (j = 4 ∨ (11 ≤ j ∧ j ≤ 14) ∨ j = 17)) → I163 k j = I k j := fun k j h => ((congrFun (congrFun e164 k) j).trans (yU_ne _ _ (v102_4 k j h))).trans (k156 k j h)
                      first | have gI163_mPk : mPk I163 = mPk I154 := mPk_eq (fun k j h => (congrFun (congrFun e164 k) j).trans (yU_ne _ _ (by omega))) | skip
                      have t166 : I163 102 3 = (I 102 3) := ((congrFun (congrFun e164 102) 3).trans (yU_ne _ _ (fun q => absurd q.2 (by decide)))).trans t157
                      try rw [t166]
                      have t167 : I163 102 4 = ((X 102 4) + 1) := (congrFun (congrFun e164 102) 4).trans (yU_eq _ _ _ _)
                      try rw [t167]
                      have t168 : I163 102 11 = 4 := ((congrFun (congrFun e164 102) 11).trans (yU_ne _ _ (fun q => absurd q.2 (by decide)))).trans t159
                      try rw [t168]
                      have t169 : I163 102 14 = r55 := ((congrFun (congrFun e164 102) 14).trans (yU_ne _ _ (fun q => absurd q.2 (by decide)))).trans t160
                      try rw [t169]
                      have t170 : I163 102 13 = (X 102 13) := ((congrFun (congrFun e164 102) 13).trans (yU_ne _ _ (fun q => absurd q.2 (by decide)))).trans t161
                      try rw [t170]
                      exact hk _ k165 (by omega)
                    · refine ⟨fun c171 => ?_, fun c171 => ?_⟩
                      · intro I172 e173
                        have k174 : ∀ k j, ¬ (k = 102 ∧ (j = 4 ∨ (11 ≤ j ∧ j ≤ 14) ∨ j = 17)) → I172 k j = I k j := fun k j h => ((congrFun (congrFun e173 k) j).trans (yU_ne _ _ (v102_11 k j h))).trans (kX k j h)
                        first | have gI172_mPk : mPk I172 = mPk X := mPk_eq (fun k j h => (congrFun (congrFun e173 k) j).trans (yU_ne _ _ (by omega))) | skip
                        have t175 : I172 102 3 = (I 102 3) := ((congrFun (congrFun e173 102) 3).trans (yU_ne _ _ (fun q => absurd q.2 (by decide)))).trans t54
                        try rw [t175]
                        have t176 : I172 102 4 = (X 102 4) := (congrFun (congrFun e173 102) 4).trans (yU_ne _ _ (fun q => absurd q.2 (by decide)))
                        try rw [t176]
                        have t177 : I172 102 11 = 4 := (congrFun (congrFun e173 102) 11).trans (yU_eq _ _ _ _)
                        try rw [t177]
                        have t178 : I172 102 14 = (X 102 14) := (congrFun (congrFun e173 102) 14).trans (yU_ne _ _ (fun q => absurd q.2 (by decide)))
                        try rw [t178]
                        have t179 : I172 102 13 = (X 102 13) := (congrFun (congrFun e173 102) 13).trans (yU_ne _ _ (fun q => absurd q.2 (by decide)))
                        try rw [t179]
                        intro I180 e181
                        have k182 : ∀ k j, ¬ (k = 102 ∧ (j = 4 ∨ (11 ≤ j ∧ j ≤ 14) ∨ j = 17)) → I180 k j = I k j := fun k j h => ((congrFun (congrFun e181 k) j).trans (yU_ne _ _ (v102_14 k j h))).trans (k174 k j h)
                        first | have gI180_mPk : mPk I180 = mPk I172 := mPk_eq (fun k j h => (congrFun (congrFun e181 k) j).trans (yU_ne _ _ (by omega))) | skip
                        have t183 : I180 102 3 = (I 102 3) := ((congrFun (congrFun e181 102) 3).trans (yU_ne _ _ (fun q => absurd q.2 (by decide)))).trans t175
                        try rw [t183]
                        have t184 : I180 102 4 = (X 102 4) := ((congrFun (congrFun e181 102) 4).trans (yU_ne _ _ (fun q => absurd q.2 (by decide)))).trans t176
                        try rw [t184]
                        have t185 : I180 102 11 = 4 := ((congrFun (congrFun e181 102) 11).trans (yU_ne _ _ (fun q => absurd q.2 (by decide)))).trans t177
                        try rw [t185]
                        have t186 : I180 102 14 = r55 := (congrFun (congrFun e181 102) 14).trans (yU_eq _ _ _ _)
                        try rw [t186]
                        have t187 : I180 102 13 = (X 102 13) := ((congrFun (congrFun e181 102) 13).trans (yU_ne _ _ (fun q => absurd q.2 (by decide)))).trans t179
                        try rw [t187]
                        have a188 : yadd (X 102 4) 1 = ((X 102 4) + 1) := yadd_eq (by omega) (by omega)
                        try rw [a188]
                        intro I189 e190
                        have k191 : ∀ k j, ¬ (k = 102 ∧ (j = 4 ∨ (11 ≤ j ∧ j ≤ 14) ∨ j = 17)) → I189 k j = I k j := fun k j h => ((congrFun (congrFun e190 k) j).trans (yU_ne _ _ (v102_4 k j h))).trans (k182 k j h)
                        first | have gI189_mPk : mPk I189 = mPk I180 := mPk_eq (fun k j h => (congrFun (congrFun e190 k) j).trans (yU_ne _ _ (by omega))) | skip
                        have t192 : I189 102 3 = (I 102 3) := ((congrFun (congrFun e190 102) 3).trans (yU_ne _ _ (fun q => absurd q.2 (by decide)))).trans t183
                        try rw [t192]
                        have t193 : I189 102 4 = ((X 102 4) + 1) := (congrFun (congrFun e190 102) 4).trans (yU_eq _ _ _ _)
                        try rw [t193]
                        have t194 : I189 102 11 = 4 := ((congrFun (congrFun e190 102) 11).trans (yU_ne _ _ (fun q => absurd q.2 (by decide)))).trans t185
                        try rw [t194]
                        have t195 : I189 102 14 = r55 := ((congrFun (congrFun e190 102) 14).trans (yU_ne _ _ (fun q => absurd q.2 (by decide)))).trans t186
                        try rw [t195]
                        have t196 : I189 102 13 = (X 102 13) := ((congrFun (congrFun e190 102) 13).trans (yU_ne _ _ (fun q => absurd q.2 (by decide)))).trans t187
                        try rw [t196]
                        exact hk _ k191 (by omega)
                      · intro I197 e198
                        have k199 : ∀ k j, ¬ (k = 102 ∧ (j = 4 ∨ (11 ≤ j ∧ j ≤ 14) ∨ j = 17)) → I197 k j = I k j := fun k j h => ((congrFun (congrFun e198 k) j).trans (yU_ne _ _ (v102_11 k j h))).trans (kX k j h)
                        first | have gI197_mPk : mPk I197 = mPk X := mPk_eq (fun k j h => (congrFun (congrFun e198 k) j).trans (yU_ne _ _ (by omega))) | skip
                        have t200 : I197 102 3 = (I 102 3) := ((congrFun (congrFun e198 102) 3).trans (yU_ne _ _ (fun q => absurd q.2 (by decide)))).trans t54
                        try rw [t200]
                        have t201 : I197 102 4 = (X 102 4) := (congrFun (congrFun e198 102) 4).trans (yU_ne _ _ (fun q => absurd q.2 (by decide)))
                        try rw [t201]
                        have t202 : I197 102 11 = 3 := (congrFun (congrFun e198 102) 11).trans (yU_eq _ _ _ _)
                        try rw [t202]
                        have t203 : I197 102 14 = (X 102 14) := (congrFun (congrFun e198 102) 14).trans (yU_ne _ _ (fun q => absurd q.2 (by decide)))
                        try rw [t203]
                        have t204 : I197 102 13 = (X 102 13) := (congrFun (congrFun e198 102) 13).trans (yU_ne _ _ (fun q => absurd q.2 (by decide)))
                        try rw [t204]
                        intro I205 e206
                        have k207 : ∀ k j, ¬ (k = 102 ∧ (j = 4 ∨ (11 ≤ j ∧ j ≤ 14) ∨ j = 17)) → I205 k j = I k j := fun k j h => ((congrFun (congrFun e206 k) j).trans (yU_ne _ _ (v102_14 k j h))).trans (k199 k j h)
                        first | have gI205_mPk : mPk I205 = mPk I197 := mPk_eq (fun k j h => (congrFun (congrFun e206 k) j).trans (yU_ne _ _ (by omega))) | skip
                        have t208 : I205 102 3 = (I 102 3) := ((congrFun (congrFun e206 102) 3).trans (yU_ne _ _ (fun q => absurd q.2 (by decide)))).trans t200
                        try rw [t208]
                        have t209 : I205 102 4 = (X 102 4) := ((congrFun (congrFun e206 102) 4).trans (yU_ne _ _ (fun q => absurd q.2 (by decide)))).trans t201
                        try rw [t209]
                        have t210 : I205 102 11 = 3 := ((congrFun (congrFun e206 102) 11).trans (yU_ne _ _ (fun q => absurd q.2 (by decide)))).trans t202
                        try rw [t210]
                        have t211 : I205 102 14 = r55 := (congrFun (congrFun e206 102) 14).trans (yU_eq _ _ _ _)
                        try rw [t211]
                        have t212 : I205 102 13 = (X 102 13) := ((congrFun (congrFun e206 102) 13).trans (yU_ne _ _ (fun q => absurd q.2 (by decide)))).trans t204
                        try rw [t212]
                        have a213 : yadd (X 102 4) 1 = ((X 102 4) + 1) := yadd_eq (by omega) (by omega)
                        try rw [a213]
                        intro I214 e215
                        have k216 : ∀ k j, ¬ (k = 102 ∧ (j = 4 ∨ (11 ≤ j ∧ j ≤ 14) ∨ j = 17)) → I214 k j = I k j := fun k j h => ((congrFun (congrFun e215 k) j).trans (yU_ne _ _ (v102_4 k j h))).trans (k207 k j h)
                        first | have gI214_mPk : mPk I214 = mPk I205 := mPk_eq (fun k j h => (congrFun (congrFun e215 k) j).trans (yU_ne _ _ (by omega))) | skip
                        have t217 : I214 102 3 = (I 102 3) := ((congrFun (congrFun e215 102) 3).trans (yU_ne _ _ (fun q => absurd q.2 (by decide)))).trans t208
                        try rw [t217]
                        have t218 : I214 102 4 = ((X 102 4) + 1) := (congrFun (congrFun e215 102) 4).trans (yU_eq _ _ _ _)
                        try rw [t218]
                        have t219 : I214 102 11 = 3 := ((congrFun (congrFun e215 102) 11).trans (yU_ne _ _ (fun q => absurd q.2 (by decide)))).trans t210
                        try rw [t219]
                        have t220 : I214 102 14 = r55 := ((congrFun (congrFun e215 102) 14).trans (yU_ne _ _ (fun q => absurd q.2 (by decide)))).trans t211
                        try rw [t220]
                        have t221 : I214 102 13 = (X 102 13) := ((congrFun (congrFun e215 102) 13).trans (yU_ne _ _ (fun q => absurd q.2 (by decide)))).trans t212
                        try rw [t221]
                        exact hk _ k216 (by omega)
        · intro I222 e223
          have k224 : ∀ k j, ¬ (k = 102 ∧ (j = 4 ∨ (11 ≤ j ∧ j ≤ 14) ∨ j = 17)) → I222 k j = I k j := fun k j h => ((congrFun (congrFun e223 k) j).trans (yU_ne _ _ (v102_11 k j h))).trans (kX k j h)
          first | have gI222_mPk : mPk I222 = mPk X := mPk_eq (fun k j h => (congrFun (congrFun e223 k) j).trans (yU_ne _ _ (by omega))) | skip
          have t225 : I222 102 3 = (I 102 3) := ((congrFun (congrFun e223 102) 3).trans (yU_ne _ _ (fun q => absurd q.2 (by decide)))).trans t54
          try rw [t225]
          have t226 : I222 102 4 = (X 102 4) := (congrFun (congrFun e223 102) 4).trans (yU_ne _ _ (fun q => absurd q.2 (by decide)))
          try rw [t226]
          have t227 : I222 102 11 = 0 := (congrFun (congrFun e223 102) 11).trans (yU_eq _ _ _ _)
          try rw [t227]
          have t228 : I222 102 14 = (X 102 14) := (congrFun (congrFun e223 102) 14).trans (yU_ne _ _ (fun q => absurd q.2 (by decide)))
          try rw [t228]
          have t229 : I222 102 13 = (X 102 13) := (congrFun (congrFun e223 102) 13).trans (yU_ne _ _ (fun q => absurd q.2 (by decide)))
          try rw [t229]
          exact hk _ k224 (by omega)
      · intro x1 X kX hm iv
        refine e_li (i := 1) (x := x1) rfl fun _ _ => ?_
        have t230 : X 102 3 = (I 102 3) := (kX 102 3 (by decide))
        refine B_182_164 hT hR ?_
        try rw [t230]
        refine w_197 (d := d) hT hR   (fun r231 q232 => ⟨_, _, rfl, rfl, ?_⟩)
        intro I234 e235
        have k236 : ∀ k j, ¬ (k = 102 ∧ (j = 4 ∨ (11 ≤ j ∧ j ≤ 14) ∨ j = 17)) → I234 k j = I k j := fun k j h => ((congrFun (congrFun e235 k) j).trans (yU_ne _ _ (v102_17 k j h))).trans (kX k j h)
        first | have gI234_mPk : mPk I234 = mPk X := mPk_eq (fun k j h => (congrFun (congrFun e235 k) j).trans (yU_ne _ _ (by omega))) | skip
        have t237 : I234 102 3 = (I 102 3) := ((congrFun (congrFun e235 102) 3).trans (yU_ne _ _ (fun q => absurd q.2 (by decide)))).trans t230
        try rw [t237]
        have t238 : I234 102 4 = (X 102 4) := (congrFun (congrFun e235 102) 4).trans (yU_ne _ _ (fun q => absurd q.2 (by decide)))
        try rw [t238]
        have t239 : I234 102 11 = (X 102 11) := (congrFun (congrFun e235 102) 11).trans (yU_ne _ _ (fun q => absurd q.2 (by decide)))
        try rw [t239]
        have t240 : I234 102 14 = (X 102 14) := (congrFun (congrFun e235 102) 14).trans (yU_ne _ _ (fun q => absurd q.2 (by decide)))
        try rw [t240]
        have t241 : I234 102 13 = (X 102 13) := (congrFun (congrFun e235 102) 13).trans (yU_ne _ _ (fun q => absurd q.2 (by decide)))
        try rw [t241]
        intro I242 e243
        have k244 : ∀ k j, ¬ (k = 102 ∧ (j = 4 ∨ (11 ≤ j ∧ j ≤ 14) ∨ j = 17)) → I242 k j = I k j := fun k j h => ((congrFun (congrFun e243 k) j).trans (yU_ne _ _ (v102_14 k j h))).trans (k236 k j h)
        first | have gI242_mPk : mPk I242 = mPk I234 := mPk_eq (fun k j h => (congrFun (congrFun e243 k) j).trans (yU_ne _ _ (by omega))) | skip
        have t245 : I242 102 3 = (I 102 3) := ((congrFun (congrFun e243 102) 3).trans (yU_ne _ _ (fun q => absurd q.2 (by decide)))).trans t237
        try rw [t245]
        have t246 : I242 102 4 = (X 102 4) := ((congrFun (congrFun e243 102) 4).trans (yU_ne _ _ (fun q => absurd q.2 (by decide)))).trans t238
        try rw [t246]
        have t247 : I242 102 11 = (X 102 11) := ((congrFun (congrFun e243 102) 11).trans (yU_ne _ _ (fun q => absurd q.2 (by decide)))).trans t239
        try rw [t247]
        have t248 : I242 102 14 = 0 := (congrFun (congrFun e243 102) 14).trans (yU_eq _ _ _ _)
        try rw [t248]
        have t249 : I242 102 13 = (X 102 13) := ((congrFun (congrFun e243 102) 13).trans (yU_ne _ _ (fun q => absurd q.2 (by decide)))).trans t241
        try rw [t249]
        exact ih.2.2.2.2.1 _ _ _ k244 (by omega) (by omega)
      · intro x2 x3 X kX hm iv
        refine e_li (i := 2) (x := x2) rfl fun _ _ => ?_
        refine e_li (i := 3) (x := x3) rfl fun _ _ => ?_
        have t250 : X 102 3 = (I 102 3) := (kX 102 3 (by decide))
        refine B_182_181 hT hR ?_
        try rw [t250]
        refine w_225 (d := d) hT hR  (by omega) (fun r251 q252 => ⟨_, _, rfl, rfl, ?_⟩)
        refine w_197 (d := d) hT hR   (fun r254 q255 => ⟨_, _, rfl, rfl, ?_⟩)
        refine ⟨fun c257 => ?_, fun c257 => ?_⟩
        · exact ih.2.2.2.2.2.1 _ _ _ kX (by omega) (by omega)
        · refine w_225 (d := d) hT hR  (by omega) (fun r258 q259 => ⟨_, _, rfl, rfl, ?_⟩)
          refine w_189 (d := d) hT hR   (fun r261 q262 => ⟨_, _, rfl, rfl, ?_⟩)
          refine ⟨fun c264 => ?_, fun c264 => ?_⟩
          · refine ⟨fun c265 => ?_, fun c265 => ?_⟩
            · intro I266 e267
              have k268 : ∀ k j, ¬ (k = 102 ∧ (j = 4 ∨ (11 ≤ j ∧ j ≤ 14) ∨ j = 17)) → I266 k j = I k j := fun k j h => ((congrFun (congrFun e267 k) j).trans (yU_ne _ _ (v102_11 k j h))).trans (kX k j h)
              first | have gI266_mPk : mPk I266 = mPk X := mPk_eq (fun k j h => (congrFun (congrFun e267 k) j).trans (yU_ne _ _ (by omega))) | skip
              have t269 : I266 102 3 = (I 102 3) := ((congrFun (congrFun e267 102) 3).trans (yU_ne _ _ (fun q => absurd q.2 (by decide)))).trans t250
              try rw [t269]
              have t270 : I266 102 4 = (X 102 4) := (congrFun (congrFun e267 102) 4).trans (yU_ne _ _ (fun q => absurd q.2 (by decide)))
              try rw [t270]
              have t271 : I266 102 11 = 4 := (congrFun (congrFun e267 102) 11).trans (yU_eq _ _ _ _)
              try rw [t271]
              have t272 : I266 102 14 = (X 102 14) := (congrFun (congrFun e267 102) 14).trans (yU_ne _ _ (fun q => absurd q.2 (by decide)))
              try rw [t272]
              have t273 : I266 102 13 = (X 102 13) := (congrFun (congrFun e267 102) 13).trans (yU_ne _ _ (fun q => absurd q.2 (by decide)))
              try rw [t273]
              exact hk _ k268 (by omega)
            · refine ⟨fun c274 => ?_, fun c274 => ?_⟩
              · refine ⟨fun c275 => ?_, fun c275 => ?_⟩
                · refine ⟨fun c276 => ?_, fun c276 => ?_⟩
                  · intro I277 e278
                    have k279 : ∀ k j, ¬ (k = 102 ∧ (j = 4 ∨ (11 ≤ j ∧ j ≤ 14) ∨ j = 17)) → I277 k j = I k j := fun k j h => ((congrFun (congrFun e278 k) j).trans (yU_ne _ _ (v102_11 k j h))).trans (kX k j h)
                    first | have gI277_mPk : mPk I277 = mPk X := mPk_eq (fun k j h => (congrFun (congrFun e278 k) j).trans (yU_ne _ _ (by omega))) | skip
                    have t280 : I277 102 3 = (I 102 3) := ((congrFun (congrFun e278 102) 3).trans (yU_ne _ _ (fun q => absurd q.2 (by decide)))).trans t250
                    try rw [t280]
                    have t281 : I277 102 4 = (X 102 4) := (congrFun (congrFun e278 102) 4).trans (yU_ne _ _ (fun q => absurd q.2 (by decide)))
                    try rw [t281]
                    have t282 : I277 102 11 = 2 := (congrFun (congrFun e278 102) 11).trans (yU_eq _ _ _ _)
                    try rw [t282]
                    have t283 : I277 102 14 = (X 102 14) := (congrFun (congrFun e278 102) 14).trans (yU_ne _ _ (fun q => absurd q.2 (by decide)))
                    try rw [t283]
                    have t284 : I277 102 13 = (X 102 13) := (congrFun (congrFun e278 102) 13).trans (yU_ne _ _ (fun q => absurd q.2 (by decide)))
                    try rw [t284]
                    exact hk _ k279 (by omega)
                  · intro I285 e286
                    have k287 : ∀ k j, ¬ (k = 102 ∧ (j = 4 ∨ (11 ≤ j ∧ j ≤ 14) ∨ j = 17)) → I285 k j = I k j := fun k j h => ((congrFun (congrFun e286 k) j).trans (yU_ne _ _ (v102_11 k j h))).trans (kX k j h)
                    first | have gI285_mPk : mPk I285 = mPk X := mPk_eq (fun k j h => (congrFun (congrFun e286 k) j).trans (yU_ne _ _ (by omega))) | skip
                    have t288 : I285 102 3 = (I 102 3) := ((congrFun (congrFun e286 102) 3).trans (yU_ne _ _ (fun q => absurd q.2 (by decide)))).trans t250
                    try rw [t288]
                    have t289 : I285 102 4 = (X 102 4) := (congrFun (congrFun e286 102) 4).trans (yU_ne _ _ (fun q => absurd q.2 (by decide)))
                    try rw [t289]
                    have t290 : I285 102 11 = 1 := (congrFun (congrFun e286 102) 11).trans (yU_eq _ _ _ _)
                    try rw [t290]
                    have t291 : I285 102 14 = (X 102 14) := (congrFun (congrFun e286 102) 14).trans (yU_ne _ _ (fun q => absurd q.2 (by decide)))
                    try rw [t291]
                    have t292 : I285 102 13 = (X 102 13) := (congrFun (congrFun e286 102) 13).trans (yU_ne _ _ (fun q => absurd q.2 (by decide)))
                    try rw [t292]
                    exact hk _ k287 (by omega)
                · intro I293 e294
                  have k295 : ∀ k j, ¬ (k = 102 ∧ (j = 4 ∨ (11 ≤ j ∧ j ≤ 14) ∨ j = 17)) → I293 k j = I k j := fun k j h => ((congrFun (congrFun e294 k) j).trans (yU_ne _ _ (v102_11 k j h))).trans (kX k j h)
                  first | have gI293_mPk : mPk I293 = mPk X := mPk_eq (fun k j h => (congrFun (congrFun e294 k) j).trans (yU_ne _ _ (by omega))) | skip
                  have t296 : I293 102 3 = (I 102 3) := ((congrFun (congrFun e294 102) 3).trans (yU_ne _ _ (fun q => absurd q.2 (by decide)))).trans t250
                  try rw [t296]
                  have t297 : I293 102 4 = (X 102 4) := (congrFun (congrFun e294 102) 4).trans (yU_ne _ _ (fun q => absurd q.2 (by decide)))
                  try rw [t297]
                  have t298 : I293 102 11 = 4 := (congrFun (congrFun e294 102) 11).trans (yU_eq _ _ _ _)
                  try rw [t298]
                  have t299 : I293 102 14 = (X 102 14) := (congrFun (congrFun e294 102) 14).trans (yU_ne _ _ (fun q => absurd q.2 (by decide)))
                  try rw [t299]
                  have t300 : I293 102 13 = (X 102 13) := (congrFun (congrFun e294 102) 13).trans (yU_ne _ _ (fun q => absurd q.2 (by decide)))
                  try rw [t300]
                  exact hk _ k295 (by omega)
              · refine ⟨fun c301 => ?_, fun c301 => ?_⟩
                · refine ⟨fun c302 => ?_, fun c302 => ?_⟩
                  · intro I303 e304
                    have k305 : ∀ k j, ¬ (k = 102 ∧ (j = 4 ∨ (11 ≤ j ∧ j ≤ 14) ∨ j = 17)) → I303 k j = I k j := fun k j h => ((congrFun (congrFun e304 k) j).trans (yU_ne _ _ (v102_11 k j h))).trans (kX k j h)
                    first | have gI303_mPk : mPk I303 = mPk X := mPk_eq (fun k j h => (congrFun (congrFun e304 k) j).trans (yU_ne _ _ (by omega))) | skip
                    have t306 : I303 102 3 = (I 102 3) := ((congrFun (congrFun e304 102) 3).trans (yU_ne _ _ (fun q => absurd q.2 (by decide)))).trans t250
                    try rw [t306]
                    have t307 : I303 102 4 = (X 102 4) := (congrFun (congrFun e304 102) 4).trans (yU_ne _ _ (fun q => absurd q.2 (by decide)))
                    try rw [t307]
                    have t308 : I303 102 11 = 2 := (congrFun (congrFun e304 102) 11).trans (yU_eq _ _ _ _)
                    try rw [t308]
                    have t309 : I303 102 14 = (X 102 14) := (congrFun (congrFun e304 102) 14).trans (yU_ne _ _ (fun q => absurd q.2 (by decide)))
                    try rw [t309]
                    have t310 : I303 102 13 = (X 102 13) := (congrFun (congrFun e304 102) 13).trans (yU_ne _ _ (fun q => absurd q.2 (by decide)))
                    try rw [t310]
                    exact hk _ k305 (by omega)
                  · intro I311 e312
                    have k313 : ∀ k j, ¬ (k = 102 ∧ (j = 4 ∨ (11 ≤ j ∧ j ≤ 14) ∨ j = 17)) → I311 k j = I k j := fun k j h => ((congrFun (congrFun e312 k) j).trans (yU_ne _ _ (v102_11 k j h))).trans (kX k j h)
                    first | have gI311_mPk : mPk I311 = mPk X := mPk_eq (fun k j h => (congrFun (congrFun e312 k) j).trans (yU_ne _ _ (by omega))) | skip
                    have t314 : I311 102 3 = (I 102 3) := ((congrFun (congrFun e312 102) 3).trans (yU_ne _ _ (fun q => absurd q.2 (by decide)))).trans t250
                    try rw [t314]
                    have t315 : I311 102 4 = (X 102 4) := (congrFun (congrFun e312 102) 4).trans (yU_ne _ _ (fun q => absurd q.2 (by decide)))
                    try rw [t315]
                    have t316 : I311 102 11 = 1 := (congrFun (congrFun e312 102) 11).trans (yU_eq _ _ _ _)
                    try rw [t316]
                    have t317 : I311 102 14 = (X 102 14) := (congrFun (congrFun e312 102) 14).trans (yU_ne _ _ (fun q => absurd q.2 (by decide)))
                    try rw [t317]
                    have t318 : I311 102 13 = (X 102 13) := (congrFun (congrFun e312 102) 13).trans (yU_ne _ _ (fun q => absurd q.2 (by decide)))
                    try rw [t318]
                    exact hk _ k313 (by omega)
                · intro I319 e320
                  have k321 : ∀ k j, ¬ (k = 102 ∧ (j = 4 ∨ (11 ≤ j ∧ j ≤ 14) ∨ j = 17)) → I319 k j = I k j := fun k j h => ((congrFun (congrFun e320 k) j).trans (yU_ne _ _ (v102_11 k j h))).trans (kX k j h)
                  first | have gI319_mPk : mPk I319 = mPk X := mPk_eq (fun k j h => (congrFun (congrFun e320 k) j).trans (yU_ne _ _ (by omega))) | skip
                  have t322 : I319 102 3 = (I 102 3) := ((congrFun (congrFun e320 102) 3).trans (yU_ne _ _ (fun q => absurd q.2 (by decide)))).trans t250
                  try rw [t322]
                  have t323 : I319 102 4 = (X 102 4) := (congrFun (congrFun e320 102) 4).trans (yU_ne _ _ (fun q => absurd q.2 (by decide)))
                  try rw [t323]
                  have t324 : I319 102 11 = 4 := (congrFun (congrFun e320 102) 11).trans (yU_eq _ _ _ _)
                  try rw [t324]
                  have t325 : I319 102 14 = (X 102 14) := (congrFun (congrFun e320 102) 14).trans (yU_ne _ _ (fun q => absurd q.2 (by decide)))
                  try rw [t325]
                  have t326 : I319 102 13 = (X 102 13) := (congrFun (congrFun e320 102) 13).trans (yU_ne _ _ (fun q => absurd q.2 (by decide)))
                  try rw [t326]
                  exact hk _ k321 (by omega)
          · exact ih.2.2.2.2.2.1 _ _ _ kX (by omega) (by omega)
      · intro x2 x3 X kX hm iv
        refine e_li (i := 2) (x := x2) rfl fun _ _ => ?_
        refine e_li (i := 3) (x := x3) rfl fun _ _ => ?_
        have t327 : X 102 3 = (I 102 3) := (kX 102 3 (by decide))
        refine B_182_201 hT hR ?_
        try rw [t327]
        refine ⟨fun c328 => ?_, fun c328 => ?_⟩
        · exact ih.2.2.2.2.2.2.1 _ _ kX (by omega) (by omega)
        · refine w_225 (d := d) hT hR  (by omega) (fun r329 q330 => ⟨_, _, rfl, rfl, ?_⟩)
          refine w_197 (d := d) hT hR   (fun r332 q333 => ⟨_, _, rfl, rfl, ?_⟩)
          refine ⟨fun c335 => ?_, fun c335 => ?_⟩
          · exact ih.2.2.2.2.2.2.1 _ _ kX (by omega) (by omega)
          · refine ⟨fun c336 => ?_, fun c336 => ?_⟩
            · exact ih.2.2.2.2.2.2.2.1 _ _ _ kX (by omega) (by omega)
            · refine w_225 (d := d) hT hR  (by omega) (fun r337 q338 => ⟨_, _, rfl, rfl, ?_⟩)
              intro I340 e341
              have k342 : ∀ k j, ¬ (k = 102 ∧ (j = 4 ∨ (11 ≤ j ∧ j ≤ 14) ∨ j = 17)) → I340 k j = I k j := fun k j h => ((congrFun (congrFun e341 k) j).trans (yU_ne _ _ (v102_17 k j h))).trans (kX k j h)
              first | have gI340_mPk : mPk I340 = mPk X := mPk_eq (fun k j h => (congrFun (congrFun e341 k) j).trans (yU_ne _ _ (by omega))) | skip
              have t343 : I340 102 3 = (I 102 3) := ((congrFun (congrFun e341 102) 3).trans (yU_ne _ _ (fun q => absurd q.2 (by decide)))).trans t327
              try rw [t343]
              have t344 : I340 102 4 = (X 102 4) := (congrFun (congrFun e341 102) 4).trans (yU_ne _ _ (fun q => absurd q.2 (by decide)))
              try rw [t344]
              have t345 : I340 102 11 = (X 102 11) := (congrFun (congrFun e341 102) 11).trans (yU_ne _ _ (fun q => absurd q.2 (by decide)))
              try rw [t345]
              have t346 : I340 102 14 = (X 102 14) := (congrFun (congrFun e341 102) 14).trans (yU_ne _ _ (fun q => absurd q.2 (by decide)))
              try rw [t346]
              have t347 : I340 102 13 = (X 102 13) := (congrFun (congrFun e341 102) 13).trans (yU_ne _ _ (fun q => absurd q.2 (by decide)))
              try rw [t347]
              exact ih.2.2.2.2.2.2.2.1 _ _ _ k342 (by omega) (by omega)
      · intro x2 X kX hm iv
        refine e_li (i := 2) (x := x2) rfl fun _ _ => ?_
        have t348 : X 102 3 = (I 102 3) := (kX 102 3 (by decide))
        refine B_182_220 hT hR ?_
        try rw [t348]
        refine ⟨fun c349 => ?_, fun c349 => ?_⟩
        · exact ih.2.2.2.2.2.2.2.1 _ _ _ kX (by omega) (by omega)
        · refine w_225 (d := d) hT hR  (by omega) (fun r350 q351 => ⟨_, _, rfl, rfl, ?_⟩)
          intro I353 e354
          have k355 : ∀ k j, ¬ (k = 102 ∧ (j = 4 ∨ (11 ≤ j ∧ j ≤ 14) ∨ j = 17)) → I353 k j = I k j := fun k j h => ((congrFun (congrFun e354 k) j).trans (yU_ne _ _ (v102_17 k j h))).trans (kX k j h)
          first | have gI353_mPk : mPk I353 = mPk X := mPk_eq (fun k j h => (congrFun (congrFun e354 k) j).trans (yU_ne _ _ (by omega))) | skip
          have t356 : I353 102 3 = (I 102 3) := ((congrFun (congrFun e354 102) 3).trans (yU_ne _ _ (fun q => absurd q.2 (by decide)))).trans t348
          try rw [t356]
          have t357 : I353 102 4 = (X 102 4) := (congrFun (congrFun e354 102) 4).trans (yU_ne _ _ (fun q => absurd q.2 (by decide)))
          try rw [t357]
          have t358 : I353 102 11 = (X 102 11) := (congrFun (congrFun e354 102) 11).trans (yU_ne _ _ (fun q => absurd q.2 (by decide)))
          try rw [t358]
          have t359 : I353 102 14 = (X 102 14) := (congrFun (congrFun e354 102) 14).trans (yU_ne _ _ (fun q => absurd q.2 (by decide)))
          try rw [t359]
          have t360 : I353 102 13 = (X 102 13) := (congrFun (congrFun e354 102) 13).trans (yU_ne _ _ (fun q => absurd q.2 (by decide)))
          try rw [t360]
          exact ih.2.2.2.2.2.2.2.1 _ _ _ k355 (by omega) (by omega)
      · intro x2 x3 X kX hm iv
        refine e_li (i := 2) (x := x2) rfl fun _ _ => ?_
        refine e_li (i := 3) (x := x3) rfl fun _ _ => ?_
        have t361 : X 102 3 = (I 102 3) := (kX 102 3 (by decide))
        refine B_182_248 hT hR ?_
        try rw [t361]
        refine ⟨fun c362 => ?_, fun c362 => ?_⟩
        · exact ih.2.2.2.2.2.2.2.2 _ _ _ kX (by omega) (by omega)
        · have a363 : ymul 10 (X 102 14) = (10 * (X 102 14)) := ymul_eq (by omega) (by omega)
          try rw [a363]
          refine w_225 (d := d) hT hR  (by omega) (fun r364 q365 => ⟨_, _, rfl, rfl, ?_⟩)
          have a367 : yadd (10 * (X 102 14)) r364 = ((10 * (X 102 14)) + r364) := yadd_eq (by omega) (by omega)
          try rw [a367]
          have a368 : ysub ((10 * (X 102 14)) + r364) 48 = (((10 * (X 102 14)) + r364) - 48) := ysub_eq (by omega) (by omega)
          try rw [a368]
          intro I369 e370
          have k371 : ∀ k j, ¬ (k = 102 ∧ (j = 4 ∨ (11 ≤ j ∧ j ≤ 14) ∨ j = 17)) → I369 k j = I k j := fun k j h => ((congrFun (congrFun e370 k) j).trans (yU_ne _ _ (v102_14 k j h))).trans (kX k j h)
          first | have gI369_mPk : mPk I369 = mPk X := mPk_eq (fun k j h => (congrFun (congrFun e370 k) j).trans (yU_ne _ _ (by omega))) | skip
          have t372 : I369 102 3 = (I 102 3) := ((congrFun (congrFun e370 102) 3).trans (yU_ne _ _ (fun q => absurd q.2 (by decide)))).trans t361
          try rw [t372]
          have t373 : I369 102 4 = (X 102 4) := (congrFun (congrFun e370 102) 4).trans (yU_ne _ _ (fun q => absurd q.2 (by decide)))
          try rw [t373]
          have t374 : I369 102 11 = (X 102 11) := (congrFun (congrFun e370 102) 11).trans (yU_ne _ _ (fun q => absurd q.2 (by decide)))
          try rw [t374]
          have t375 : I369 102 14 = (((10 * (X 102 14)) + r364) - 48) := (congrFun (congrFun e370 102) 14).trans (yU_eq _ _ _ _)
          try rw [t375]
          have t376 : I369 102 13 = (X 102 13) := (congrFun (congrFun e370 102) 13).trans (yU_ne _ _ (fun q => absurd q.2 (by decide)))
          try rw [t376]
          exact ih.2.2.2.2.2.2.2.2 _ _ _ k371 (by omega) (by omega)
      · intro x2 x3 X kX hm iv
        refine e_li (i := 2) (x := x2) rfl fun _ _ => ?_
        refine e_li (i := 3) (x := x3) rfl fun _ _ => ?_
        have t377 : X 102 3 = (I 102 3) := (kX 102 3 (by decide))
        refine B_182_275 hT hR ?_
        try rw [t377]
        have a378 : yadd (X 102 13) 1 = ((X 102 13) + 1) := yadd_eq (by omega) (by omega)
        try rw [a378]
        intro I379 e380
        have k381 : ∀ k j, ¬ (k = 102 ∧ (j = 4 ∨ (11 ≤ j ∧ j ≤ 14) ∨ j = 17)) → I379 k j = I k j := fun k j h => ((congrFun (congrFun e380 k) j).trans (yU_ne _ _ (v102_13 k j h))).trans (kX k j h)
        first | have gI379_mPk : mPk I379 = mPk X := mPk_eq (fun k j h => (congrFun (congrFun e380 k) j).trans (yU_ne _ _ (by omega))) | skip
        have t382 : I379 102 3 = (I 102 3) := ((congrFun (congrFun e380 102) 3).trans (yU_ne _ _ (fun q => absurd q.2 (by decide)))).trans t377
        try rw [t382]
        have t383 : I379 102 4 = (X 102 4) := (congrFun (congrFun e380 102) 4).trans (yU_ne _ _ (fun q => absurd q.2 (by decide)))
        try rw [t383]
        have t384 : I379 102 11 = (X 102 11) := (congrFun (congrFun e380 102) 11).trans (yU_ne _ _ (fun q => absurd q.2 (by decide)))
        try rw [t384]
        have t385 : I379 102 14 = (X 102 14) := (congrFun (congrFun e380 102) 14).trans (yU_ne _ _ (fun q => absurd q.2 (by decide)))
        try rw [t385]
        have t386 : I379 102 13 = ((X 102 13) + 1) := (congrFun (congrFun e380 102) 13).trans (yU_eq _ _ _ _)
        try rw [t386]
        have a387 : yadd (X 102 4) 1 = ((X 102 4) + 1) := yadd_eq (by omega) (by omega)
        try rw [a387]
        intro I388 e389
        have k390 : ∀ k j, ¬ (k = 102 ∧ (j = 4 ∨ (11 ≤ j ∧ j ≤ 14) ∨ j = 17)) → I388 k j = I k j := fun k j h => ((congrFun (congrFun e389 k) j).trans (yU_ne _ _ (v102_4 k j h))).trans (k381 k j h)
        first | have gI388_mPk : mPk I388 = mPk I379 := mPk_eq (fun k j h => (congrFun (congrFun e389 k) j).trans (yU_ne _ _ (by omega))) | skip
        have t391 : I388 102 3 = (I 102 3) := ((congrFun (congrFun e389 102) 3).trans (yU_ne _ _ (fun q => absurd q.2 (by decide)))).trans t382
        try rw [t391]
        have t392 : I388 102 4 = ((X 102 4) + 1) := (congrFun (congrFun e389 102) 4).trans (yU_eq _ _ _ _)
        try rw [t392]
        have t393 : I388 102 11 = (X 102 11) := ((congrFun (congrFun e389 102) 11).trans (yU_ne _ _ (fun q => absurd q.2 (by decide)))).trans t384
        try rw [t393]
        have t394 : I388 102 14 = (X 102 14) := ((congrFun (congrFun e389 102) 14).trans (yU_ne _ _ (fun q => absurd q.2 (by decide)))).trans t385
        try rw [t394]
        have t395 : I388 102 13 = ((X 102 13) + 1) := ((congrFun (congrFun e389 102) 13).trans (yU_ne _ _ (fun q => absurd q.2 (by decide)))).trans t386
        try rw [t395]
        exact ih.2.2.2.2.1 _ _ _ k390 (by omega) (by omega)
  exact (L _).1  _ k0 (Nat.lt_succ_self _) (by omega)
/-- ChairAlleyModel.bad(I)Z -/
theorem w_159 (hT : yLT T) (hR : yLR R) {x1 : Int} (h0 : 0 ≤ I 102 3 ∧ I 102 3 ≤ 940 ∧ 0 ≤ I 102 4 ∧ I 102 4 ≤ 940 ∧ 0 ≤ I 102 14 ∧ I 102 14 ≤ 10000) (hk : ∀ r I', (∀ k j, ¬ (k = 102 ∧ (j = 15 ∨ j = 16)) → I' k j = I k j) → ((0 ≤ I' 102 3 ∧ I' 102 3 ≤ 940 ∧ 0 ≤ I' 102 4 ∧ I' 102 4 ≤ 940 ∧ 0 ≤ I' 102 14 ∧ I' 102 14 ≤ 10000) ∧ (r = 0)) → K (some (yi r)) (N, T, R, I')) : yW l zSS D cy zFk z d 159 bc bs K 0 0 0 [(0, yr (some 102)), (1, yi x1)] [] (N, T, R, I) := by
  have v102_15 : ∀ k j : Nat, ¬ (k = 102 ∧ (j = 15 ∨ j = 16)) → ¬ (k = 102 ∧ j = 15) := fun k j h => by omega
  have v102_16 : ∀ k j : Nat, ¬ (k = 102 ∧ (j = 15 ∨ j = 16)) → ¬ (k = 102 ∧ j = 16) := fun k j h => by omega
  have k0 : ∀ k j, ¬ (k = 102 ∧ (j = 15 ∨ j = 16)) → I k j = I k j := fun _ _ _ => rfl
  refine e_li (i := 1) (x := x1) rfl fun _ _ => ?_
  refine B_159_0 hT hR ?_
  intro I1 e2
  have k3 : ∀ k j, ¬ (k = 102 ∧ (j = 15 ∨ j = 16)) → I1 k j = I k j := fun k j h => ((congrFun (congrFun e2 k) j).trans (yU_ne _ _ (v102_15 k j h))).trans (k0 k j h)
  have t4 : I1 102 3 = (I 102 3) := (congrFun (congrFun e2 102) 3).trans (yU_ne _ _ (fun q => absurd q.2 (by decide)))
  try rw [t4]
  have t5 : I1 102 4 = (I 102 4) := (congrFun (congrFun e2 102) 4).trans (yU_ne _ _ (fun q => absurd q.2 (by decide)))
  try rw [t5]
  have t6 : I1 102 11 = (I 102 11) := (congrFun (congrFun e2 102) 11).trans (yU_ne _ _ (fun q => absurd q.2 (by decide)))
  try rw [t6]
  have t7 : I1 102 14 = (I 102 14) := (congrFun (congrFun e2 102) 14).trans (yU_ne _ _ (fun q => absurd q.2 (by decide)))
  try rw [t7]
  intro I8 e9
  have k10 : ∀ k j, ¬ (k = 102 ∧ (j = 15 ∨ j = 16)) → I8 k j = I k j := fun k j h => ((congrFun (congrFun e9 k) j).trans (yU_ne _ _ (v102_16 k j h))).trans (k3 k j h)
  have t11 : I8 102 3 = (I 102 3) := ((congrFun (congrFun e9 102) 3).trans (yU_ne _ _ (fun q => absurd q.2 (by decide)))).trans t4
  try rw [t11]
  have t12 : I8 102 4 = (I 102 4) := ((congrFun (congrFun e9 102) 4).trans (yU_ne _ _ (fun q => absurd q.2 (by decide)))).trans t5
  try rw [t12]
  have t13 : I8 102 11 = (I 102 11) := ((congrFun (congrFun e9 102) 11).trans (yU_ne _ _ (fun q => absurd q.2 (by decide)))).trans t6
  try rw [t13]
  have t14 : I8 102 14 = (I 102 14) := ((congrFun (congrFun e9 102) 14).trans (yU_ne _ _ (fun q => absurd q.2 (by decide)))).trans t7
  try rw [t14]
  exact hk _ _ k10 (by omega)
/-- ChairAlleyModel.isWord(J)Z -/
theorem w_199 (hT : yLT T) (hR : yLR R) {x1 : Int} (hk : ∀ r, (r = 0 ∨ r = 1) → K (some (yi r)) (N, T, R, I)) : yW l zSS D cy zFk z d 199 bc bs K 0 0 0 [(0, yr (some 102)), (1, yj x1)] [] (N, T, R, I) := by
  refine B_199_0 hT hR ?_
  refine ⟨fun c1 => ?_, fun c1 => ?_⟩
  · exact hk _ (by omega)
  · refine ⟨fun c2 => ?_, fun c2 => ?_⟩
    · exact hk _ (by omega)
    · exact hk _ (by omega)
/-- ChairAlleyModel.isSign(I)Z -/
theorem w_196 (hT : yLT T) (hR : yLR R) {x1 : Int} (hk : ∀ r, (r = 0 ∨ (r = 1 ∧ I 102 11 = 3 ∧ I 102 14 = x1)) → K (some (yi r)) (N, T, R, I)) : yW l zSS D cy zFk z d 196 bc bs K 0 0 0 [(0, yr (some 102)), (1, yi x1)] [] (N, T, R, I) := by
  refine e_li (i := 1) (x := x1) rfl fun _ _ => ?_
  refine B_196_0 hT hR ?_
  refine ⟨fun c1 => ?_, fun c1 => ?_⟩
  · exact hk _ (by omega)
  · refine ⟨fun c2 => ?_, fun c2 => ?_⟩
    · exact hk _ (by omega)
    · exact hk _ (by omega)
/-- ChairAlleyModel.sign(I)Z -/
theorem w_236 (hT : yLT T) (hR : yLR R) {x1 : Int} (h0 : 0 ≤ I 102 3 ∧ I 102 3 ≤ 940 ∧ 0 ≤ I 102 4 ∧ I 102 4 ≤ 940 ∧ 0 ≤ I 102 14 ∧ I 102 14 ≤ 10000) (hk : ∀ r I', (∀ k j, ¬ (k = 102 ∧ (j = 4 ∨ (11 ≤ j ∧ j ≤ 18))) → I' k j = I k j) → ((0 ≤ I' 102 3 ∧ I' 102 3 ≤ 940 ∧ 0 ≤ I' 102 4 ∧ I' 102 4 ≤ 940 ∧ 0 ≤ I' 102 14 ∧ I' 102 14 ≤ 10000) ∧ (I 102 4 ≤ I' 102 4 ∧ (r = 0 ∨ (r = 1 ∧ I 102 11 = 3)))) → K (some (yi r)) (N, T, R, I')) : yW l zSS D cy zFk z (d + 2) 236 bc bs K 0 0 0 [(0, yr (some 102)), (1, yi x1)] [] (N, T, R, I) := by
  have u182 : ∀ k j : Nat, ¬ (k = 102 ∧ (j = 4 ∨ (11 ≤ j ∧ j ≤ 18))) → ¬ (k = 102 ∧ (j = 4 ∨ (11 ≤ j ∧ j ≤ 14) ∨ j = 17)) := fun k j h => by omega
  have u159 : ∀ k j : Nat, ¬ (k = 102 ∧ (j = 4 ∨ (11 ≤ j ∧ j ≤ 18))) → ¬ (k = 102 ∧ (j = 15 ∨ j = 16)) := fun k j h => by omega
  have k0 : ∀ k j, ¬ (k = 102 ∧ (j = 4 ∨ (11 ≤ j ∧ j ≤ 18))) → I k j = I k j := fun _ _ _ => rfl
  refine e_li (i := 1) (x := x1) rfl fun _ _ => ?_
  refine B_236_0 hT hR ?_
  refine w_196 (d := d + 1) hT hR   (fun r1 q2 => ⟨_, _, rfl, rfl, ?_⟩)
  refine ⟨fun c4 => ?_, fun c4 => ?_⟩
  · refine w_182 (d := d) hT hR  (by omega) (fun I5 f7 q6 => ⟨_, rfl, rfl, ?_⟩)
    have k8 : ∀ k j, ¬ (k = 102 ∧ (j = 4 ∨ (11 ≤ j ∧ j ≤ 18))) → I5 k j = I k j := fun k j h => (f7 k j (u182 k j h)).trans (k0 k j h)
    have t9 : I5 102 3 = (I 102 3) := (f7 102 3 (by decide))
    try rw [t9]
    try rw [t9] at q6
    exact hk _ _ k8 (by omega)
  · refine w_159 (d := d + 1) hT hR  (by omega) (fun r10 I11 f13 q12 => ⟨_, _, rfl, rfl, ?_⟩)
    have k14 : ∀ k j, ¬ (k = 102 ∧ (j = 4 ∨ (11 ≤ j ∧ j ≤ 18))) → I11 k j = I k j := fun k j h => (f13 k j (u159 k j h)).trans (k0 k j h)
    have t15 : I11 102 3 = (I 102 3) := (f13 102 3 (by decide))
    try rw [t15]
    try rw [t15] at q12
    have t16 : I11 102 4 = (I 102 4) := (f13 102 4 (by decide))
    try rw [t16]
    try rw [t16] at q12
    have t17 : I11 102 11 = (I 102 11) := (f13 102 11 (by decide))
    try rw [t17]
    try rw [t17] at q12
    have t18 : I11 102 14 = (I 102 14) := (f13 102 14 (by decide))
    try rw [t18]
    try rw [t18] at q12
    refine ⟨by omega, ?_⟩
    exact hk _ _ k14 (by omega)
/-- ChairAlleyModel.isName()Z -/
theorem w_194 (hT : yLT T) (hR : yLR R) (hk : ∀ r, (r = 0 ∨ r = 1) → K (some (yi r)) (N, T, R, I)) : yW l zSS D cy zFk z d 194 bc bs K 0 0 0 [(0, yr (some 102))] [] (N, T, R, I) := by
  have L : ∀ m : Nat, (∀ x1 x2 : Int, (24 - x2 : Int).toNat < m → ((x1 = 0 ∨ x1 = 1) ∧ 0 ≤ x2 ∧ x2 ≤ 24) → yW l zSS D cy zFk z d 194 bc bs K 0 0 16 [(0, yr (some 102)), (1, yi x1), (2, yi x2)] [] (N, T, R, I)) := by
    intro m
    induction m with
    | zero => exact fun _ _ h => absurd h (Nat.not_lt_zero _)
    | succ m ih =>
      intro x1 x2  hm iv
      refine e_li (i := 1) (x := x1) rfl fun _ _ => ?_
      refine e_li (i := 2) (x := x2) rfl fun _ _ => ?_
      refine B_194_16 hT hR ?_
      refine ⟨fun c1 => ?_, fun c1 => ?_⟩
      · refine ⟨by omega, ?_⟩
        exact hk _ (by omega)
      · refine ⟨fun c2 => ?_, fun c2 => ?_⟩
        · have a3 : yadd x2 1 = (x2 + 1) := yadd_eq (by omega) (by omega)
          try rw [a3]
          exact ih _ _ (by omega) (by omega)
        · refine ⟨by omega, by omega, ?_⟩
          refine ⟨fun c4 => ?_, fun c4 => ?_⟩
          · have a5 : yadd x2 1 = (x2 + 1) := yadd_eq (by omega) (by omega)
            try rw [a5]
            exact ih _ _ (by omega) (by omega)
          · have a6 : yadd x2 1 = (x2 + 1) := yadd_eq (by omega) (by omega)
            try rw [a6]
            exact ih _ _ (by omega) (by omega)
  refine B_194_0 hT hR ?_
  refine ⟨fun c7 => ?_, fun c7 => ?_⟩
  · exact (L _) _ _ (Nat.lt_succ_self _) (by omega)
  · exact (L _) _ _ (Nat.lt_succ_self _) (by omega)
/-- ChairAlleyModel.takes(II)Z -/
theorem w_245 (hT : yLT T) (hR : yLR R) {x1 x2 : Int} (h0 : 0 ≤ I 102 3 ∧ I 102 3 ≤ 940 ∧ 0 ≤ I 102 4 ∧ I 102 4 ≤ 940 ∧ 0 ≤ I 102 14 ∧ I 102 14 ≤ 10000) (hk : ∀ r I', (∀ k j, ¬ (k = 102 ∧ (j = 4 ∨ (11 ≤ j ∧ j ≤ 18))) → I' k j = I k j) → ((0 ≤ I' 102 3 ∧ I' 102 3 ≤ 940 ∧ 0 ≤ I' 102 4 ∧ I' 102 4 ≤ 940 ∧ 0 ≤ I' 102 14 ∧ I' 102 14 ≤ 10000) ∧ (I 102 4 ≤ I' 102 4 ∧ (r = 0 ∨ (r = 1 ∧ x1 ≤ I' 102 18 ∧ I' 102 18 ≤ x2 ∧ (I' 102 11 = 3 → I 102 4 < I' 102 4))))) → K (some (yi r)) (N, T, R, I')) : yW l zSS D cy zFk z (d + 2) 245 bc bs K 0 0 0 [(0, yr (some 102)), (1, yi x1), (2, yi x2)] [] (N, T, R, I) := by
  have v102_18 : ∀ k j : Nat, ¬ (k = 102 ∧ (j = 4 ∨ (11 ≤ j ∧ j ≤ 18))) → ¬ (k = 102 ∧ j = 18) := fun k j h => by omega
  have u182 : ∀ k j : Nat, ¬ (k = 102 ∧ (j = 4 ∨ (11 ≤ j ∧ j ≤ 18))) → ¬ (k = 102 ∧ (j = 4 ∨ (11 ≤ j ∧ j ≤ 14) ∨ j = 17)) := fun k j h => by omega
  have u159 : ∀ k j : Nat, ¬ (k = 102 ∧ (j = 4 ∨ (11 ≤ j ∧ j ≤ 18))) → ¬ (k = 102 ∧ (j = 15 ∨ j = 16)) := fun k j h => by omega
  have k0 : ∀ k j, ¬ (k = 102 ∧ (j = 4 ∨ (11 ≤ j ∧ j ≤ 18))) → I k j = I k j := fun _ _ _ => rfl
  refine e_li (i := 1) (x := x1) rfl fun _ _ => ?_
  refine e_li (i := 2) (x := x2) rfl fun _ _ => ?_
  refine B_245_0 hT hR ?_
  refine ⟨fun c1 => ?_, fun c1 => ?_⟩
  · refine w_191 (d := d + 1) hT hR   (fun r2 q3 => ⟨_, _, rfl, rfl, ?_⟩)
    refine ⟨fun c5 => ?_, fun c5 => ?_⟩
    · intro I6 e7
      have k8 : ∀ k j, ¬ (k = 102 ∧ (j = 4 ∨ (11 ≤ j ∧ j ≤ 18))) → I6 k j = I k j := fun k j h => ((congrFun (congrFun e7 k) j).trans (yU_ne _ _ (v102_18 k j h))).trans (k0 k j h)
      have t9 : I6 102 3 = (I 102 3) := (congrFun (congrFun e7 102) 3).trans (yU_ne _ _ (fun q => absurd q.2 (by decide)))
      try rw [t9]
      have t10 : I6 102 4 = (I 102 4) := (congrFun (congrFun e7 102) 4).trans (yU_ne _ _ (fun q => absurd q.2 (by decide)))
      try rw [t10]
      have t11 : I6 102 11 = (I 102 11) := (congrFun (congrFun e7 102) 11).trans (yU_ne _ _ (fun q => absurd q.2 (by decide)))
      try rw [t11]
      have t12 : I6 102 14 = (I 102 14) := (congrFun (congrFun e7 102) 14).trans (yU_ne _ _ (fun q => absurd q.2 (by decide)))
      try rw [t12]
      have t13 : I6 102 18 = (I 102 14) := (congrFun (congrFun e7 102) 18).trans (yU_eq _ _ _ _)
      try rw [t13]
      refine w_182 (d := d) hT hR  (by omega) (fun I14 f16 q15 => ⟨_, rfl, rfl, ?_⟩)
      have k17 : ∀ k j, ¬ (k = 102 ∧ (j = 4 ∨ (11 ≤ j ∧ j ≤ 18))) → I14 k j = I k j := fun k j h => (f16 k j (u182 k j h)).trans (k8 k j h)
      have t18 : I14 102 3 = (I 102 3) := (f16 102 3 (by decide)).trans t9
      try rw [t18]
      try rw [t18] at q15
      have t19 : I14 102 18 = (I 102 14) := (f16 102 18 (by decide)).trans t13
      try rw [t19]
      try rw [t19] at q15
      exact hk _ _ k17 (by omega)
    · refine w_159 (d := d + 1) hT hR  (by omega) (fun r20 I21 f23 q22 => ⟨_, _, rfl, rfl, ?_⟩)
      have k24 : ∀ k j, ¬ (k = 102 ∧ (j = 4 ∨ (11 ≤ j ∧ j ≤ 18))) → I21 k j = I k j := fun k j h => (f23 k j (u159 k j h)).trans (k0 k j h)
      have t25 : I21 102 3 = (I 102 3) := (f23 102 3 (by decide))
      try rw [t25]
      try rw [t25] at q22
      have t26 : I21 102 4 = (I 102 4) := (f23 102 4 (by decide))
      try rw [t26]
      try rw [t26] at q22
      have t27 : I21 102 11 = (I 102 11) := (f23 102 11 (by decide))
      try rw [t27]
      try rw [t27] at q22
      have t28 : I21 102 14 = (I 102 14) := (f23 102 14 (by decide))
      try rw [t28]
      try rw [t28] at q22
      have t29 : I21 102 18 = (I 102 18) := (f23 102 18 (by decide))
      try rw [t29]
      try rw [t29] at q22
      refine ⟨by omega, ?_⟩
      exact hk _ _ k24 (by omega)
  · refine w_159 (d := d + 1) hT hR  (by omega) (fun r30 I31 f33 q32 => ⟨_, _, rfl, rfl, ?_⟩)
    have k34 : ∀ k j, ¬ (k = 102 ∧ (j = 4 ∨ (11 ≤ j ∧ j ≤ 18))) → I31 k j = I k j := fun k j h => (f33 k j (u159 k j h)).trans (k0 k j h)
    have t35 : I31 102 3 = (I 102 3) := (f33 102 3 (by decide))
    try rw [t35]
    try rw [t35] at q32
    have t36 : I31 102 4 = (I 102 4) := (f33 102 4 (by decide))
    try rw [t36]
    try rw [t36] at q32
    have t37 : I31 102 11 = (I 102 11) := (f33 102 11 (by decide))
    try rw [t37]
    try rw [t37] at q32
    have t38 : I31 102 14 = (I 102 14) := (f33 102 14 (by decide))
    try rw [t38]
    try rw [t38] at q32
    have t39 : I31 102 18 = (I 102 18) := (f33 102 18 (by decide))
    try rw [t39]
    try rw [t39] at q32
    refine ⟨by omega, ?_⟩
    exact hk _ _ k34 (by omega)
/-- ChairAlleyModel.find(II)I -/
theorem w_180 (hT : yLT T) (hR : yLR R) {x1 x2 : Int} (h0 : 0 ≤ x1 ∧ x1 ≤ 8 ∧ 0 ≤ x2 ∧ x2 ≤ 8) (hk : ∀ r, (r = -1 ∨ (0 ≤ r ∧ r < x2)) → K (some (yi r)) (N, T, R, I)) : yW l zSS D cy zFk z d 180 bc bs K 0 0 0 [(0, yr (some 102)), (1, yi x1), (2, yi x2)] [] (N, T, R, I) := by
  refine e_li (i := 1) (x := x1) rfl fun _ _ => ?_
  refine e_li (i := 2) (x := x2) rfl fun _ _ => ?_
  have L : ∀ m : Nat, (∀ x3 : Int, (8 - x3 : Int).toNat < m → (0 ≤ x1 ∧ x1 ≤ 8 ∧ 0 ≤ x2 ∧ x2 ≤ 8 ∧ 0 ≤ x3 ∧ x3 ≤ x2) → yW l zSS D cy zFk z d 180 bc bs K 0 0 2 [(0, yr (some 102)), (1, yi x1), (2, yi x2), (3, yi x3)] [] (N, T, R, I)) := by
    intro m
    induction m with
    | zero => exact fun _ h => absurd h (Nat.not_lt_zero _)
    | succ m ih =>
      intro x3  hm iv
      refine e_li (i := 3) (x := x3) rfl fun _ _ => ?_
      refine B_180_2 hT hR ?_
      refine ⟨fun c1 => ?_, fun c1 => ?_⟩
      · exact hk _ (by omega)
      · have a2 : yadd x1 x3 = (x1 + x3) := yadd_eq (by omega) (by omega)
        try rw [a2]
        refine ⟨by omega, by omega, ?_⟩
        refine ⟨fun c3 => ?_, fun c3 => ?_⟩
        · have a4 : yadd x3 1 = (x3 + 1) := yadd_eq (by omega) (by omega)
          try rw [a4]
          exact ih _ (by omega) (by omega)
        · exact hk _ (by omega)
  refine B_180_0 hT hR ?_
  exact (L _) _ (Nat.lt_succ_self _) (by omega)
/-- ChairAlleyModel.looksAtCell()Z -/
theorem w_212 (hT : yLT T) (hR : yLR R) (h0 : 0 ≤ I 102 3 ∧ I 102 3 ≤ 940 ∧ 0 ≤ I 102 4 ∧ I 102 4 ≤ 940 ∧ 0 ≤ I 102 14 ∧ I 102 14 ≤ 10000) (h1 : 0 ≤ I 105 0 ∧ I 105 0 ≤ 10 ∧ 0 ≤ I 105 1 ∧ I 105 1 ≤ 10) (hk : ∀ r I', (∀ k j, ¬ (k = 102 ∧ (j = 4 ∨ (11 ≤ j ∧ j ≤ 18))) → I' k j = I k j) → ((0 ≤ I' 102 3 ∧ I' 102 3 ≤ 940 ∧ 0 ≤ I' 102 4 ∧ I' 102 4 ≤ 940 ∧ 0 ≤ I' 102 14 ∧ I' 102 14 ≤ 10000) ∧ (I 102 4 ≤ I' 102 4 ∧ (r = 0 ∨ (r = 1 ∧ I' 102 11 = 2 ∧ (0 ≤ I' 102 18 ∧ I' 102 18 < 100 ∧ I' 102 18 % 10 < I' 105 0 ∧ I' 102 18 / 10 < I' 105 1))))) → K (some (yi r)) (N, T, R, I')) : yW l zSS D cy zFk z (d + 3) 212 bc bs K 0 0 0 [(0, yr (some 102))] [] (N, T, R, I) := by
  have v102_18 : ∀ k j : Nat, ¬ (k = 102 ∧ (j = 4 ∨ (11 ≤ j ∧ j ≤ 18))) → ¬ (k = 102 ∧ j = 18) := fun k j h => by omega
  have u159 : ∀ k j : Nat, ¬ (k = 102 ∧ (j = 4 ∨ (11 ≤ j ∧ j ≤ 18))) → ¬ (k = 102 ∧ (j = 15 ∨ j = 16)) := fun k j h => by omega
  have k0 : ∀ k j, ¬ (k = 102 ∧ (j = 4 ∨ (11 ≤ j ∧ j ≤ 18))) → I k j = I k j := fun _ _ _ => rfl
  refine B_212_0 hT hR ?_
  have a1 : ysub (I 105 0) 1 = ((I 105 0) - 1) := ysub_eq (by omega) (by omega)
  try rw [a1]
  refine w_245 (d := d) hT hR  (by omega) (fun r2 I3 f5 q4 => ⟨_, _, rfl, rfl, ?_⟩)
  have k6 : ∀ k j, ¬ (k = 102 ∧ (j = 4 ∨ (11 ≤ j ∧ j ≤ 18))) → I3 k j = I k j := fun k j h => (f5 k j h).trans (k0 k j h)
  have t7 : I3 102 3 = (I 102 3) := (f5 102 3 (by decide))
  try rw [t7]
  try rw [t7] at q4
  have t8 : I3 102 22 = (I 102 22) := (f5 102 22 (by decide))
  try rw [t8]
  try rw [t8] at q4
  have t9 : I3 102 23 = (I 102 23) := (f5 102 23 (by decide))
  try rw [t9]
  try rw [t9] at q4
  have t10 : I3 105 0 = (I 105 0) := (f5 105 0 (by decide))
  try rw [t10]
  try rw [t10] at q4
  have t11 : I3 105 1 = (I 105 1) := (f5 105 1 (by decide))
  try rw [t11]
  try rw [t11] at q4
  have t12 : I3 105 2 = (I 105 2) := (f5 105 2 (by decide))
  try rw [t12]
  try rw [t12] at q4
  have t13 : I3 105 6 = (I 105 6) := (f5 105 6 (by decide))
  try rw [t13]
  try rw [t13] at q4
  refine ⟨fun c14 => ?_, fun c14 => ?_⟩
  · refine ⟨fun c15 => ?_, fun c15 => ?_⟩
    · refine ⟨fun c16 => ?_, fun c16 => ?_⟩
      · have a17 : ymul 10 (I3 102 14) = (10 * (I3 102 14)) := ymul_eq (by omega) (by omega)
        try rw [a17]
        have a18 : yadd (10 * (I3 102 14)) (I3 102 18) = ((10 * (I3 102 14)) + (I3 102 18)) := yadd_eq (by omega) (by omega)
        try rw [a18]
        intro I19 e20
        have k21 : ∀ k j, ¬ (k = 102 ∧ (j = 4 ∨ (11 ≤ j ∧ j ≤ 18))) → I19 k j = I k j := fun k j h => ((congrFun (congrFun e20 k) j).trans (yU_ne _ _ (v102_18 k j h))).trans (k6 k j h)
        have t22 : I19 102 3 = (I 102 3) := ((congrFun (congrFun e20 102) 3).trans (yU_ne _ _ (fun q => absurd q.2 (by decide)))).trans t7
        try rw [t22]
        have t23 : I19 102 4 = (I3 102 4) := (congrFun (congrFun e20 102) 4).trans (yU_ne _ _ (fun q => absurd q.2 (by decide)))
        try rw [t23]
        have t24 : I19 102 11 = (I3 102 11) := (congrFun (congrFun e20 102) 11).trans (yU_ne _ _ (fun q => absurd q.2 (by decide)))
        try rw [t24]
        have t25 : I19 102 14 = (I3 102 14) := (congrFun (congrFun e20 102) 14).trans (yU_ne _ _ (fun q => absurd q.2 (by decide)))
        try rw [t25]
        have t26 : I19 102 18 = ((10 * (I3 102 14)) + (I3 102 18)) := (congrFun (congrFun e20 102) 18).trans (yU_eq _ _ _ _)
        try rw [t26]
        have t27 : I19 102 22 = (I 102 22) := ((congrFun (congrFun e20 102) 22).trans (yU_ne _ _ (fun q => absurd q.2 (by decide)))).trans t8
        try rw [t27]
        have t28 : I19 102 23 = (I 102 23) := ((congrFun (congrFun e20 102) 23).trans (yU_ne _ _ (fun q => absurd q.2 (by decide)))).trans t9
        try rw [t28]
        have t29 : I19 105 0 = (I 105 0) := ((congrFun (congrFun e20 105) 0).trans (yU_ne _ _ (fun q => absurd q.1 (by decide)))).trans t10
        try rw [t29]
        have t30 : I19 105 1 = (I 105 1) := ((congrFun (congrFun e20 105) 1).trans (yU_ne _ _ (fun q => absurd q.1 (by decide)))).trans t11
        try rw [t30]
        have t31 : I19 105 2 = (I 105 2) := ((congrFun (congrFun e20 105) 2).trans (yU_ne _ _ (fun q => absurd q.1 (by decide)))).trans t12
        try rw [t31]
        have t32 : I19 105 6 = (I 105 6) := ((congrFun (congrFun e20 105) 6).trans (yU_ne _ _ (fun q => absurd q.1 (by decide)))).trans t13
        try rw [t32]
        exact hk _ _ k21 (by omega)
      · refine w_159 (d := d + 2) hT hR  (by omega) (fun r33 I34 f36 q35 => ⟨_, _, rfl, rfl, ?_⟩)
        have k37 : ∀ k j, ¬ (k = 102 ∧ (j = 4 ∨ (11 ≤ j ∧ j ≤ 18))) → I34 k j = I k j := fun k j h => (f36 k j (u159 k j h)).trans (k6 k j h)
        have t38 : I34 102 3 = (I 102 3) := (f36 102 3 (by decide)).trans t7
        try rw [t38]
        try rw [t38] at q35
        have t39 : I34 102 4 = (I3 102 4) := (f36 102 4 (by decide))
        try rw [t39]
        try rw [t39] at q35
        have t40 : I34 102 11 = (I3 102 11) := (f36 102 11 (by decide))
        try rw [t40]
        try rw [t40] at q35
        have t41 : I34 102 14 = (I3 102 14) := (f36 102 14 (by decide))
        try rw [t41]
        try rw [t41] at q35
        have t42 : I34 102 18 = (I3 102 18) := (f36 102 18 (by decide))
        try rw [t42]
        try rw [t42] at q35
        have t43 : I34 102 22 = (I 102 22) := (f36 102 22 (by decide)).trans t8
        try rw [t43]
        try rw [t43] at q35
        have t44 : I34 102 23 = (I 102 23) := (f36 102 23 (by decide)).trans t9
        try rw [t44]
        try rw [t44] at q35
        have t45 : I34 105 0 = (I 105 0) := (f36 105 0 (by decide)).trans t10
        try rw [t45]
        try rw [t45] at q35
        have t46 : I34 105 1 = (I 105 1) := (f36 105 1 (by decide)).trans t11
        try rw [t46]
        try rw [t46] at q35
        have t47 : I34 105 2 = (I 105 2) := (f36 105 2 (by decide)).trans t12
        try rw [t47]
        try rw [t47] at q35
        have t48 : I34 105 6 = (I 105 6) := (f36 105 6 (by decide)).trans t13
        try rw [t48]
        try rw [t48] at q35
        refine ⟨by omega, ?_⟩
        exact hk _ _ k37 (by omega)
    · refine w_159 (d := d + 2) hT hR  (by omega) (fun r49 I50 f52 q51 => ⟨_, _, rfl, rfl, ?_⟩)
      have k53 : ∀ k j, ¬ (k = 102 ∧ (j = 4 ∨ (11 ≤ j ∧ j ≤ 18))) → I50 k j = I k j := fun k j h => (f52 k j (u159 k j h)).trans (k6 k j h)
      have t54 : I50 102 3 = (I 102 3) := (f52 102 3 (by decide)).trans t7
      try rw [t54]
      try rw [t54] at q51
      have t55 : I50 102 4 = (I3 102 4) := (f52 102 4 (by decide))
      try rw [t55]
      try rw [t55] at q51
      have t56 : I50 102 11 = (I3 102 11) := (f52 102 11 (by decide))
      try rw [t56]
      try rw [t56] at q51
      have t57 : I50 102 14 = (I3 102 14) := (f52 102 14 (by decide))
      try rw [t57]
      try rw [t57] at q51
      have t58 : I50 102 18 = (I3 102 18) := (f52 102 18 (by decide))
      try rw [t58]
      try rw [t58] at q51
      have t59 : I50 102 22 = (I 102 22) := (f52 102 22 (by decide)).trans t8
      try rw [t59]
      try rw [t59] at q51
      have t60 : I50 102 23 = (I 102 23) := (f52 102 23 (by decide)).trans t9
      try rw [t60]
      try rw [t60] at q51
      have t61 : I50 105 0 = (I 105 0) := (f52 105 0 (by decide)).trans t10
      try rw [t61]
      try rw [t61] at q51
      have t62 : I50 105 1 = (I 105 1) := (f52 105 1 (by decide)).trans t11
      try rw [t62]
      try rw [t62] at q51
      have t63 : I50 105 2 = (I 105 2) := (f52 105 2 (by decide)).trans t12
      try rw [t63]
      try rw [t63] at q51
      have t64 : I50 105 6 = (I 105 6) := (f52 105 6 (by decide)).trans t13
      try rw [t64]
      try rw [t64] at q51
      refine ⟨by omega, ?_⟩
      exact hk _ _ k53 (by omega)
  · exact hk _ _ k6 (by omega)
/-- ChairAlleyModel.dirOfWord()I -/
theorem w_172 (hT : yLT T) (hR : yLR R) (hk : ∀ r, (r = -1 ∨ (0 ≤ r ∧ r ≤ 3)) → K (some (yi r)) (N, T, R, I)) : yW l zSS D cy zFk z (d + 1) 172 bc bs K 0 0 0 [(0, yr (some 102))] [] (N, T, R, I) := by
  refine B_172_0 hT hR ?_
  refine w_199 (d := d) hT hR   (fun r1 q2 => ⟨_, _, rfl, rfl, ?_⟩)
  refine ⟨fun c4 => ?_, fun c4 => ?_⟩
  · refine w_199 (d := d) hT hR   (fun r5 q6 => ⟨_, _, rfl, rfl, ?_⟩)
    refine ⟨fun c8 => ?_, fun c8 => ?_⟩
    · refine w_199 (d := d) hT hR   (fun r9 q10 => ⟨_, _, rfl, rfl, ?_⟩)
      refine ⟨fun c12 => ?_, fun c12 => ?_⟩
      · refine w_199 (d := d) hT hR   (fun r13 q14 => ⟨_, _, rfl, rfl, ?_⟩)
        refine ⟨fun c16 => ?_, fun c16 => ?_⟩
        · exact hk _ (by omega)
        · exact hk _ (by omega)
      · exact hk _ (by omega)
    · exact hk _ (by omega)
  · exact hk _ (by omega)
/-- ChairAlleyModel.leafOf()I -/
theorem w_209 (hT : yLT T) (hR : yLR R) (hk : ∀ r, (-1 ≤ r ∧ r ≤ 8) → K (some (yi r)) (N, T, R, I)) : yW l zSS D cy zFk z (d + 1) 209 bc bs K 0 0 0 [(0, yr (some 102))] [] (N, T, R, I) := by
  refine B_209_0 hT hR ?_
  refine w_199 (d := d) hT hR   (fun r1 q2 => ⟨_, _, rfl, rfl, ?_⟩)
  refine ⟨fun c4 => ?_, fun c4 => ?_⟩
  · refine w_199 (d := d) hT hR   (fun r5 q6 => ⟨_, _, rfl, rfl, ?_⟩)
    refine ⟨fun c8 => ?_, fun c8 => ?_⟩
    · refine w_199 (d := d) hT hR   (fun r9 q10 => ⟨_, _, rfl, rfl, ?_⟩)
      refine ⟨fun c12 => ?_, fun c12 => ?_⟩
      · refine w_199 (d := d) hT hR   (fun r13 q14 => ⟨_, _, rfl, rfl, ?_⟩)
        refine ⟨fun c16 => ?_, fun c16 => ?_⟩
        · refine w_199 (d := d) hT hR   (fun r17 q18 => ⟨_, _, rfl, rfl, ?_⟩)
          refine ⟨fun c20 => ?_, fun c20 => ?_⟩
          · refine w_199 (d := d) hT hR   (fun r21 q22 => ⟨_, _, rfl, rfl, ?_⟩)
            refine ⟨fun c24 => ?_, fun c24 => ?_⟩
            · refine w_199 (d := d) hT hR   (fun r25 q26 => ⟨_, _, rfl, rfl, ?_⟩)
              refine ⟨fun c28 => ?_, fun c28 => ?_⟩
              · refine w_199 (d := d) hT hR   (fun r29 q30 => ⟨_, _, rfl, rfl, ?_⟩)
                refine ⟨fun c32 => ?_, fun c32 => ?_⟩
                · refine w_199 (d := d) hT hR   (fun r33 q34 => ⟨_, _, rfl, rfl, ?_⟩)
                  refine ⟨fun c36 => ?_, fun c36 => ?_⟩
                  · exact hk _ (by omega)
                  · exact hk _ (by omega)
                · exact hk _ (by omega)
              · exact hk _ (by omega)
            · exact hk _ (by omega)
          · exact hk _ (by omega)
        · exact hk _ (by omega)
      · exact hk _ (by omega)
    · exact hk _ (by omega)
  · exact hk _ (by omega)
/-- ChairAlleyModel.readOn(III)Z -/
theorem w_230 (hT : yLT T) (hR : yLR R) {x1 x2 x3 : Int} (h0 : 0 ≤ I 102 3 ∧ I 102 3 ≤ 940 ∧ 0 ≤ I 102 4 ∧ I 102 4 ≤ 940 ∧ 0 ≤ I 102 14 ∧ I 102 14 ≤ 10000) (h1 : (I 102 22 = 0 → I 105 0 = 0) ∧ (I 102 23 = 0 → I 105 6 = 0)) (h2 : (x1 = 10 ∨ x1 = 110 ∨ x1 = 210) ∧ 3 ≤ x2 ∧ x2 ≤ 5) (hP0 : mH I) (hk : ∀ r I', (∀ k j, ¬ ((k = 102 ∧ (j = 4 ∨ (11 ≤ j ∧ j ≤ 18))) ∨ k = 105) → I' k j = I k j) → (((0 ≤ I' 102 3 ∧ I' 102 3 ≤ 940 ∧ 0 ≤ I' 102 4 ∧ I' 102 4 ≤ 940 ∧ 0 ≤ I' 102 14 ∧ I' 102 14 ≤ 10000) ∧ ((I' 102 22 = 0 → I' 105 0 = 0) ∧ (I' 102 23 = 0 → I' 105 6 = 0)) ∧ I 102 4 ≤ I' 102 4 ∧ (r = 0 ∨ (r = 1 ∧ (I' 102 11 = 3 → I 102 4 < I' 102 4)))) ∧ mH I') → K (some (yi r)) (N, T, R, I')) : yW l zSS D cy zFk z (d + 4) 230 bc bs K 0 0 0 [(0, yr (some 102)), (1, yi x1), (2, yi x2), (3, yi x3)] [] (N, T, R, I) := by
  have hd := hP0.1
  have u182 : ∀ k j : Nat, ¬ ((k = 102 ∧ (j = 4 ∨ (11 ≤ j ∧ j ≤ 18))) ∨ k = 105) → ¬ (k = 102 ∧ (j = 4 ∨ (11 ≤ j ∧ j ≤ 14) ∨ j = 17)) := fun k j h => by omega
  have ymH182 : ∀ k j : Nat, k = 105 → ¬ (k = 102 ∧ (j = 4 ∨ (11 ≤ j ∧ j ≤ 14) ∨ j = 17)) := fun k j h => by omega
  have u212 : ∀ k j : Nat, ¬ ((k = 102 ∧ (j = 4 ∨ (11 ≤ j ∧ j ≤ 18))) ∨ k = 105) → ¬ (k = 102 ∧ (j = 4 ∨ (11 ≤ j ∧ j ≤ 18))) := fun k j h => by omega
  have ymH212 : ∀ k j : Nat, k = 105 → ¬ (k = 102 ∧ (j = 4 ∨ (11 ≤ j ∧ j ≤ 18))) := fun k j h => by omega
  have v105 : ∀ k j i : Nat, ¬ ((k = 102 ∧ (j = 4 ∨ (11 ≤ j ∧ j ≤ 18))) ∨ k = 105) → ¬ (k = 105 ∧ j = i) := fun k j i h => by omega
  have u159 : ∀ k j : Nat, ¬ ((k = 102 ∧ (j = 4 ∨ (11 ≤ j ∧ j ≤ 18))) ∨ k = 105) → ¬ (k = 102 ∧ (j = 15 ∨ j = 16)) := fun k j h => by omega
  have ymH159 : ∀ k j : Nat, k = 105 → ¬ (k = 102 ∧ (j = 15 ∨ j = 16)) := fun k j h => by omega
  have k0 : ∀ k j, ¬ ((k = 102 ∧ (j = 4 ∨ (11 ≤ j ∧ j ≤ 18))) ∨ k = 105) → I k j = I k j := fun _ _ _ => rfl
  refine e_li (i := 1) (x := x1) rfl fun _ _ => ?_
  refine e_li (i := 2) (x := x2) rfl fun _ _ => ?_
  refine e_li (i := 3) (x := x3) rfl fun _ _ => ?_
  refine B_230_0 hT hR ?_
  refine ⟨by omega, by omega, ?_⟩
  refine ⟨fun c1 => ?_, fun c1 => ?_⟩
  · refine w_182 (d := d + 2) hT hR  (by omega) (fun I2 f4 q3 => ⟨_, rfl, rfl, ?_⟩)
    have k5 : ∀ k j, ¬ ((k = 102 ∧ (j = 4 ∨ (11 ≤ j ∧ j ≤ 18))) ∨ k = 105) → I2 k j = I k j := fun k j h => (f4 k j (u182 k j h)).trans (k0 k j h)
    have t6 : I2 102 3 = (I 102 3) := (f4 102 3 (by decide))
    try rw [t6]
    try rw [t6] at q3
    have t7 : I2 102 18 = (I 102 18) := (f4 102 18 (by decide))
    try rw [t7]
    try rw [t7] at q3
    have t8 : I2 102 22 = (I 102 22) := (f4 102 22 (by decide))
    try rw [t8]
    try rw [t8] at q3
    have t9 : I2 102 23 = (I 102 23) := (f4 102 23 (by decide))
    try rw [t9]
    try rw [t9] at q3
    have t10 : I2 105 0 = (I 105 0) := (f4 105 0 (by decide))
    try rw [t10]
    try rw [t10] at q3
    have t11 : I2 105 1 = (I 105 1) := (f4 105 1 (by decide))
    try rw [t11]
    try rw [t11] at q3
    have t12 : I2 105 2 = (I 105 2) := (f4 105 2 (by decide))
    try rw [t12]
    try rw [t12] at q3
    have t13 : I2 105 6 = (I 105 6) := (f4 105 6 (by decide))
    try rw [t13]
    try rw [t13] at q3
    have p14 : mH I2 := mH_eq hP0 (fun k j h => f4 k j (ymH182 k j h))
    refine w_212 (d := d) hT hR  (by omega) (by omega) (fun r15 I16 f18 q17 => ⟨_, _, rfl, rfl, ?_⟩)
    have k19 : ∀ k j, ¬ ((k = 102 ∧ (j = 4 ∨ (11 ≤ j ∧ j ≤ 18))) ∨ k = 105) → I16 k j = I k j := fun k j h => (f18 k j (u212 k j h)).trans (k5 k j h)
    have t20 : I16 102 3 = (I 102 3) := (f18 102 3 (by decide)).trans t6
    try rw [t20]
    try rw [t20] at q17
    have t21 : I16 102 22 = (I 102 22) := (f18 102 22 (by decide)).trans t8
    try rw [t21]
    try rw [t21] at q17
    have t22 : I16 102 23 = (I 102 23) := (f18 102 23 (by decide)).trans t9
    try rw [t22]
    try rw [t22] at q17
    have t23 : I16 105 0 = (I 105 0) := (f18 105 0 (by decide)).trans t10
    try rw [t23]
    try rw [t23] at q17
    have t24 : I16 105 1 = (I 105 1) := (f18 105 1 (by decide)).trans t11
    try rw [t24]
    try rw [t24] at q17
    have t25 : I16 105 2 = (I 105 2) := (f18 105 2 (by decide)).trans t12
    try rw [t25]
    try rw [t25] at q17
    have t26 : I16 105 6 = (I 105 6) := (f18 105 6 (by decide)).trans t13
    try rw [t26]
    try rw [t26] at q17
    have p27 : mH I16 := mH_eq p14 (fun k j h => f18 k j (ymH212 k j h))
    refine ⟨fun c28 => ?_, fun c28 => ?_⟩
    · have a29 : yadd x1 (I16 102 18) = (x1 + (I16 102 18)) := yadd_eq (by omega) (by omega)
      try rw [a29]
      refine ⟨by omega, by omega, ?_⟩
      refine ⟨fun c30 => ?_, fun c30 => ?_⟩
      · have a31 : yadd x1 (I16 102 18) = (x1 + (I16 102 18)) := yadd_eq (by omega) (by omega)
        try rw [a31]
        refine ⟨by omega, by omega, ?_⟩
        intro I32 e33
        first | have n34 : ynar 1 1 = 1 := ynar1_eq (by omega) (by omega) | skip
        try rw [n34] at e33
        have k35 : ∀ k j, ¬ ((k = 102 ∧ (j = 4 ∨ (11 ≤ j ∧ j ≤ 18))) ∨ k = 105) → I32 k j = I k j := fun k j h => ((congrFun (congrFun e33 k) j).trans (yU_ne _ _ (v105 k j _ h))).trans (k19 k j h)
        have p36 : mH I32 := by rw [e33]; exact mH_set p27 (by omega)
        have t37 : I32 102 3 = (I 102 3) := ((congrFun (congrFun e33 102) 3).trans (yU_ne _ _ (fun q => absurd q.1 (by decide)))).trans t20
        try rw [t37]
        have t38 : I32 102 4 = (I16 102 4) := (congrFun (congrFun e33 102) 4).trans (yU_ne _ _ (fun q => absurd q.1 (by decide)))
        try rw [t38]
        have t39 : I32 102 11 = (I16 102 11) := (congrFun (congrFun e33 102) 11).trans (yU_ne _ _ (fun q => absurd q.1 (by decide)))
        try rw [t39]
        have t40 : I32 102 14 = (I16 102 14) := (congrFun (congrFun e33 102) 14).trans (yU_ne _ _ (fun q => absurd q.1 (by decide)))
        try rw [t40]
        have t41 : I32 102 18 = (I16 102 18) := (congrFun (congrFun e33 102) 18).trans (yU_ne _ _ (fun q => absurd q.1 (by decide)))
        try rw [t41]
        have t42 : I32 102 22 = (I 102 22) := ((congrFun (congrFun e33 102) 22).trans (yU_ne _ _ (fun q => absurd q.1 (by decide)))).trans t21
        try rw [t42]
        have t43 : I32 102 23 = (I 102 23) := ((congrFun (congrFun e33 102) 23).trans (yU_ne _ _ (fun q => absurd q.1 (by decide)))).trans t22
        try rw [t43]
        have t44 : I32 105 0 = (I 105 0) := ((congrFun (congrFun e33 105) 0).trans (yU_ne _ _ (by omega))).trans t23
        try rw [t44]
        have t45 : I32 105 1 = (I 105 1) := ((congrFun (congrFun e33 105) 1).trans (yU_ne _ _ (by omega))).trans t24
        try rw [t45]
        have t46 : I32 105 2 = (I 105 2) := ((congrFun (congrFun e33 105) 2).trans (yU_ne _ _ (by omega))).trans t25
        try rw [t46]
        have t47 : I32 105 6 = (I 105 6) := ((congrFun (congrFun e33 105) 6).trans (yU_ne _ _ (by omega))).trans t26
        try rw [t47]
        refine ⟨by omega, by omega, ?_⟩
        refine ⟨by omega, by omega, ?_⟩
        intro I48 e49
        first | have n50 : ynar 1 (yadd (I32 105 x2.toNat) 1) = (yadd (I32 105 x2.toNat) 1) := ynar1_eq (by omega) (by omega) | skip
        try rw [n50] at e49
        have k51 : ∀ k j, ¬ ((k = 102 ∧ (j = 4 ∨ (11 ≤ j ∧ j ≤ 18))) ∨ k = 105) → I48 k j = I k j := fun k j h => ((congrFun (congrFun e49 k) j).trans (yU_ne _ _ (v105 k j _ h))).trans (k35 k j h)
        have p52 : mH I48 := by rw [e49]; exact mH_set p36 (by omega)
        have t53 : I48 102 3 = (I 102 3) := ((congrFun (congrFun e49 102) 3).trans (yU_ne _ _ (fun q => absurd q.1 (by decide)))).trans t37
        try rw [t53]
        have t54 : I48 102 4 = (I16 102 4) := ((congrFun (congrFun e49 102) 4).trans (yU_ne _ _ (fun q => absurd q.1 (by decide)))).trans t38
        try rw [t54]
        have t55 : I48 102 11 = (I16 102 11) := ((congrFun (congrFun e49 102) 11).trans (yU_ne _ _ (fun q => absurd q.1 (by decide)))).trans t39
        try rw [t55]
        have t56 : I48 102 14 = (I16 102 14) := ((congrFun (congrFun e49 102) 14).trans (yU_ne _ _ (fun q => absurd q.1 (by decide)))).trans t40
        try rw [t56]
        have t57 : I48 102 18 = (I16 102 18) := ((congrFun (congrFun e49 102) 18).trans (yU_ne _ _ (fun q => absurd q.1 (by decide)))).trans t41
        try rw [t57]
        have t58 : I48 102 22 = (I 102 22) := ((congrFun (congrFun e49 102) 22).trans (yU_ne _ _ (fun q => absurd q.1 (by decide)))).trans t42
        try rw [t58]
        have t59 : I48 102 23 = (I 102 23) := ((congrFun (congrFun e49 102) 23).trans (yU_ne _ _ (fun q => absurd q.1 (by decide)))).trans t43
        try rw [t59]
        have t60 : I48 105 0 = (I 105 0) := ((congrFun (congrFun e49 105) 0).trans (yU_ne _ _ (by omega))).trans t44
        try rw [t60]
        have t61 : I48 105 1 = (I 105 1) := ((congrFun (congrFun e49 105) 1).trans (yU_ne _ _ (by omega))).trans t45
        try rw [t61]
        have t62 : I48 105 2 = (I 105 2) := ((congrFun (congrFun e49 105) 2).trans (yU_ne _ _ (by omega))).trans t46
        try rw [t62]
        have t63 : I48 105 6 = (I 105 6) := ((congrFun (congrFun e49 105) 6).trans (yU_ne _ _ (by omega))).trans t47
        try rw [t63]
        refine w_182 (d := d + 2) hT hR  (by omega) (fun I64 f66 q65 => ⟨_, rfl, rfl, ?_⟩)
        have k67 : ∀ k j, ¬ ((k = 102 ∧ (j = 4 ∨ (11 ≤ j ∧ j ≤ 18))) ∨ k = 105) → I64 k j = I k j := fun k j h => (f66 k j (u182 k j h)).trans (k51 k j h)
        have t68 : I64 102 3 = (I 102 3) := (f66 102 3 (by decide)).trans t53
        try rw [t68]
        try rw [t68] at q65
        have t69 : I64 102 18 = (I16 102 18) := (f66 102 18 (by decide)).trans t57
        try rw [t69]
        try rw [t69] at q65
        have t70 : I64 102 22 = (I 102 22) := (f66 102 22 (by decide)).trans t58
        try rw [t70]
        try rw [t70] at q65
        have t71 : I64 102 23 = (I 102 23) := (f66 102 23 (by decide)).trans t59
        try rw [t71]
        try rw [t71] at q65
        have t72 : I64 105 0 = (I 105 0) := (f66 105 0 (by decide)).trans t60
        try rw [t72]
        try rw [t72] at q65
        have t73 : I64 105 1 = (I 105 1) := (f66 105 1 (by decide)).trans t61
        try rw [t73]
        try rw [t73] at q65
        have t74 : I64 105 2 = (I 105 2) := (f66 105 2 (by decide)).trans t62
        try rw [t74]
        try rw [t74] at q65
        have t75 : I64 105 6 = (I 105 6) := (f66 105 6 (by decide)).trans t63
        try rw [t75]
        try rw [t75] at q65
        have p76 : mH I64 := mH_eq p52 (fun k j h => f66 k j (ymH182 k j h))
        exact hk _ _ k67 ⟨(by omega), p76⟩
      · refine w_159 (d := d + 3) hT hR  (by omega) (fun r77 I78 f80 q79 => ⟨_, _, rfl, rfl, ?_⟩)
        have k81 : ∀ k j, ¬ ((k = 102 ∧ (j = 4 ∨ (11 ≤ j ∧ j ≤ 18))) ∨ k = 105) → I78 k j = I k j := fun k j h => (f80 k j (u159 k j h)).trans (k19 k j h)
        have t82 : I78 102 3 = (I 102 3) := (f80 102 3 (by decide)).trans t20
        try rw [t82]
        try rw [t82] at q79
        have t83 : I78 102 4 = (I16 102 4) := (f80 102 4 (by decide))
        try rw [t83]
        try rw [t83] at q79
        have t84 : I78 102 11 = (I16 102 11) := (f80 102 11 (by decide))
        try rw [t84]
        try rw [t84] at q79
        have t85 : I78 102 14 = (I16 102 14) := (f80 102 14 (by decide))
        try rw [t85]
        try rw [t85] at q79
        have t86 : I78 102 18 = (I16 102 18) := (f80 102 18 (by decide))
        try rw [t86]
        try rw [t86] at q79
        have t87 : I78 102 22 = (I 102 22) := (f80 102 22 (by decide)).trans t21
        try rw [t87]
        try rw [t87] at q79
        have t88 : I78 102 23 = (I 102 23) := (f80 102 23 (by decide)).trans t22
        try rw [t88]
        try rw [t88] at q79
        have t89 : I78 105 0 = (I 105 0) := (f80 105 0 (by decide)).trans t23
        try rw [t89]
        try rw [t89] at q79
        have t90 : I78 105 1 = (I 105 1) := (f80 105 1 (by decide)).trans t24
        try rw [t90]
        try rw [t90] at q79
        have t91 : I78 105 2 = (I 105 2) := (f80 105 2 (by decide)).trans t25
        try rw [t91]
        try rw [t91] at q79
        have t92 : I78 105 6 = (I 105 6) := (f80 105 6 (by decide)).trans t26
        try rw [t92]
        try rw [t92] at q79
        have p93 : mH I78 := mH_eq p27 (fun k j h => f80 k j (ymH159 k j h))
        refine ⟨by omega, ?_⟩
        exact hk _ _ k81 ⟨(by omega), p93⟩
    · exact hk _ _ k19 ⟨(by omega), p27⟩
  · refine w_159 (d := d + 3) hT hR  (by omega) (fun r94 I95 f97 q96 => ⟨_, _, rfl, rfl, ?_⟩)
    have k98 : ∀ k j, ¬ ((k = 102 ∧ (j = 4 ∨ (11 ≤ j ∧ j ≤ 18))) ∨ k = 105) → I95 k j = I k j := fun k j h => (f97 k j (u159 k j h)).trans (k0 k j h)
    have t99 : I95 102 3 = (I 102 3) := (f97 102 3 (by decide))
    try rw [t99]
    try rw [t99] at q96
    have t100 : I95 102 4 = (I 102 4) := (f97 102 4 (by decide))
    try rw [t100]
    try rw [t100] at q96
    have t101 : I95 102 11 = (I 102 11) := (f97 102 11 (by decide))
    try rw [t101]
    try rw [t101] at q96
    have t102 : I95 102 14 = (I 102 14) := (f97 102 14 (by decide))
    try rw [t102]
    try rw [t102] at q96
    have t103 : I95 102 18 = (I 102 18) := (f97 102 18 (by decide))
    try rw [t103]
    try rw [t103] at q96
    have t104 : I95 102 22 = (I 102 22) := (f97 102 22 (by decide))
    try rw [t104]
    try rw [t104] at q96
    have t105 : I95 102 23 = (I 102 23) := (f97 102 23 (by decide))
    try rw [t105]
    try rw [t105] at q96
    have t106 : I95 105 0 = (I 105 0) := (f97 105 0 (by decide))
    try rw [t106]
    try rw [t106] at q96
    have t107 : I95 105 1 = (I 105 1) := (f97 105 1 (by decide))
    try rw [t107]
    try rw [t107] at q96
    have t108 : I95 105 2 = (I 105 2) := (f97 105 2 (by decide))
    try rw [t108]
    try rw [t108] at q96
    have t109 : I95 105 6 = (I 105 6) := (f97 105 6 (by decide))
    try rw [t109]
    try rw [t109] at q96
    have p110 : mH I95 := mH_eq hP0 (fun k j h => f97 k j (ymH159 k j h))
    refine ⟨by omega, ?_⟩
    exact hk _ _ k98 ⟨(by omega), p110⟩
end Sw
