/-! CONTRACTS of the class, printed by wip/whole/y/t3.py (95.w4) -/
section Sw
variable {l : Launch} {D : va_G} {cy : Nat → ClassId} {z d bc bs N : Nat} {T : Nat → Nat × Nat} {R : Nat → Nat → Option Nat} {I : Nat → Nat → Int} {K : yKo}
/-- ChairAlley.alleys()I -/
theorem w_114 (hT : yLT T) (hR : yLR R) (h0 : 0 ≤ I 1 1 ∧ I 1 1 ≤ 940) (h1 : 0 ≤ I 4 0 ∧ I 4 0 ≤ 10 ∧ 0 ≤ I 4 1 ∧ I 4 1 ≤ 10) (hk : ∀ r I', (∀ k j, ¬ (k = 1 ∨ (4 ≤ k ∧ k < 48) ∨ (k = 89 ∧ j = 1)) → I' k j = I k j) → (I' 1 1 = 0 ∧ 0 ≤ I' 4 0 ∧ I' 4 0 ≤ 10 ∧ 0 ≤ I' 4 1 ∧ I' 4 1 ≤ 10 ∧ (I' 89 1 = I 89 1 ∨ I' 89 1 = 0)) → K (some (yi r)) (N, T, R, I')) : yW l zSS D cy zFk z (d + 11) 114 bc bs K 0 0 0 [(0, yr (some 0))] [] (N, T, R, I) := by
  have k0 : ∀ k j, ¬ (k = 1 ∨ (4 ≤ k ∧ k < 48) ∨ (k = 89 ∧ j = 1)) → I k j = I k j := fun _ _ _ => rfl
  refine B_114_0 hT hR ?_
  refine w_40 (d := d + 4) hT hR  (by omega) (fun I1 f3 q2 => ⟨_, rfl, rfl, ?_⟩)
  have k4 : ∀ k j, ¬ (k = 1 ∨ (4 ≤ k ∧ k < 48) ∨ (k = 89 ∧ j = 1)) → I1 k j = I k j := fun k j h => (f3 k j (by omega)).trans (k0 k j h)
  first | have tI1_1_1 := f3 1 1 (by omega) | skip
  first | have tI1_1_3 := f3 1 3 (by omega) | skip
  first | have tI1_4_0 := f3 4 0 (by omega) | skip
  first | have tI1_4_1 := f3 4 1 (by omega) | skip
  first | have tI1_36_0 := f3 36 0 (by omega) | skip
  first | have tI1_36_1 := f3 36 1 (by omega) | skip
  first | have tI1_89_1 := f3 89 1 (by omega) | skip
  refine w_14 (d := d) hT hR (a_Land36 hT hR) (by omega) (by omega) (fun r5 I6 f8 q7 => ⟨_, _, rfl, rfl, ?_⟩)
  have k9 : ∀ k j, ¬ (k = 1 ∨ (4 ≤ k ∧ k < 48) ∨ (k = 89 ∧ j = 1)) → I6 k j = I k j := fun k j h => (f8 k j (by omega)).trans (k4 k j h)
  first | have tI6_1_1 := f8 1 1 (by omega) | skip
  first | have tI6_1_3 := f8 1 3 (by omega) | skip
  first | have tI6_4_0 := f8 4 0 (by omega) | skip
  first | have tI6_4_1 := f8 4 1 (by omega) | skip
  first | have tI6_36_0 := f8 36 0 (by omega) | skip
  first | have tI6_36_1 := f8 36 1 (by omega) | skip
  first | have tI6_89_1 := f8 89 1 (by omega) | skip
  intro I10 e11
  have k12 : ∀ k j, ¬ (k = 1 ∨ (4 ≤ k ∧ k < 48) ∨ (k = 89 ∧ j = 1)) → I10 k j = I k j := fun k j h => ((congrFun (congrFun e11 k) j).trans (yU_ne _ _ (by omega))).trans (k9 k j h)
  have tI10_1_1 := (congrFun (congrFun e11 1) 1).trans (yU_eq _ _ _ _)
  first | have tI10_1_3 : I10 1 3 = I6 1 3 := (congrFun (congrFun e11 1) 3).trans (yU_ne _ _ (by omega)) | skip
  first | have tI10_4_0 : I10 4 0 = I6 4 0 := (congrFun (congrFun e11 4) 0).trans (yU_ne _ _ (by omega)) | skip
  first | have tI10_4_1 : I10 4 1 = I6 4 1 := (congrFun (congrFun e11 4) 1).trans (yU_ne _ _ (by omega)) | skip
  first | have tI10_36_0 : I10 36 0 = I6 36 0 := (congrFun (congrFun e11 36) 0).trans (yU_ne _ _ (by omega)) | skip
  first | have tI10_36_1 : I10 36 1 = I6 36 1 := (congrFun (congrFun e11 36) 1).trans (yU_ne _ _ (by omega)) | skip
  first | have tI10_89_1 : I10 89 1 = I6 89 1 := (congrFun (congrFun e11 89) 1).trans (yU_ne _ _ (by omega)) | skip
  refine ⟨fun c13 => ?_, fun c13 => ?_⟩
  · refine w_8 (d := d + 9) hT hR (a_Land4 hT hR) (by omega) (a_Land36 hT hR) (by omega) (by omega) (by omega) (fun I14 f16 q15 => ⟨_, rfl, rfl, ?_⟩)
    have k17 : ∀ k j, ¬ (k = 1 ∨ (4 ≤ k ∧ k < 48) ∨ (k = 89 ∧ j = 1)) → I14 k j = I k j := fun k j h => (f16 k j (by omega)).trans (k12 k j h)
    first | have tI14_1_1 := f16 1 1 (by omega) | skip
    first | have tI14_1_3 := f16 1 3 (by omega) | skip
    first | have tI14_4_0 := f16 4 0 (by omega) | skip
    first | have tI14_4_1 := f16 4 1 (by omega) | skip
    first | have tI14_36_0 := f16 36 0 (by omega) | skip
    first | have tI14_36_1 := f16 36 1 (by omega) | skip
    first | have tI14_89_1 := f16 89 1 (by omega) | skip
    refine w_57 (d := d + 9) hT hR (a_State16 hT hR) (by omega) (a_Land4 hT hR) (by omega)  (fun I18 f20 q19 => ⟨_, rfl, rfl, ?_⟩)
    have k21 : ∀ k j, ¬ (k = 1 ∨ (4 ≤ k ∧ k < 48) ∨ (k = 89 ∧ j = 1)) → I18 k j = I k j := fun k j h => (f20 k j (by omega)).trans (k17 k j h)
    first | have tI18_1_1 := f20 1 1 (by omega) | skip
    first | have tI18_1_3 := f20 1 3 (by omega) | skip
    first | have tI18_4_0 := f20 4 0 (by omega) | skip
    first | have tI18_4_1 := f20 4 1 (by omega) | skip
    first | have tI18_36_0 := f20 36 0 (by omega) | skip
    first | have tI18_36_1 := f20 36 1 (by omega) | skip
    first | have tI18_89_1 := f20 89 1 (by omega) | skip
    intro I22 e23
    have k24 : ∀ k j, ¬ (k = 1 ∨ (4 ≤ k ∧ k < 48) ∨ (k = 89 ∧ j = 1)) → I22 k j = I k j := fun k j h => ((congrFun (congrFun e23 k) j).trans (yU_ne _ _ (by omega))).trans (k21 k j h)
    first | have tI22_1_1 : I22 1 1 = I18 1 1 := (congrFun (congrFun e23 1) 1).trans (yU_ne _ _ (by omega)) | skip
    first | have tI22_1_3 : I22 1 3 = I18 1 3 := (congrFun (congrFun e23 1) 3).trans (yU_ne _ _ (by omega)) | skip
    first | have tI22_4_0 : I22 4 0 = I18 4 0 := (congrFun (congrFun e23 4) 0).trans (yU_ne _ _ (by omega)) | skip
    first | have tI22_4_1 : I22 4 1 = I18 4 1 := (congrFun (congrFun e23 4) 1).trans (yU_ne _ _ (by omega)) | skip
    first | have tI22_36_0 : I22 36 0 = I18 36 0 := (congrFun (congrFun e23 36) 0).trans (yU_ne _ _ (by omega)) | skip
    first | have tI22_36_1 : I22 36 1 = I18 36 1 := (congrFun (congrFun e23 36) 1).trans (yU_ne _ _ (by omega)) | skip
    first | have tI22_89_1 : I22 89 1 = I18 89 1 := (congrFun (congrFun e23 89) 1).trans (yU_ne _ _ (by omega)) | skip
    intro I25 e26
    have k27 : ∀ k j, ¬ (k = 1 ∨ (4 ≤ k ∧ k < 48) ∨ (k = 89 ∧ j = 1)) → I25 k j = I k j := fun k j h => ((congrFun (congrFun e26 k) j).trans (yU_ne _ _ (by omega))).trans (k24 k j h)
    first | have tI25_1_1 : I25 1 1 = I22 1 1 := (congrFun (congrFun e26 1) 1).trans (yU_ne _ _ (by omega)) | skip
    first | have tI25_1_3 : I25 1 3 = I22 1 3 := (congrFun (congrFun e26 1) 3).trans (yU_ne _ _ (by omega)) | skip
    first | have tI25_4_0 : I25 4 0 = I22 4 0 := (congrFun (congrFun e26 4) 0).trans (yU_ne _ _ (by omega)) | skip
    first | have tI25_4_1 : I25 4 1 = I22 4 1 := (congrFun (congrFun e26 4) 1).trans (yU_ne _ _ (by omega)) | skip
    first | have tI25_36_0 : I25 36 0 = I22 36 0 := (congrFun (congrFun e26 36) 0).trans (yU_ne _ _ (by omega)) | skip
    first | have tI25_36_1 : I25 36 1 = I22 36 1 := (congrFun (congrFun e26 36) 1).trans (yU_ne _ _ (by omega)) | skip
    first | have tI25_89_1 : I25 89 1 = I22 89 1 := (congrFun (congrFun e26 89) 1).trans (yU_ne _ _ (by omega)) | skip
    intro I28 e29
    have k30 : ∀ k j, ¬ (k = 1 ∨ (4 ≤ k ∧ k < 48) ∨ (k = 89 ∧ j = 1)) → I28 k j = I k j := fun k j h => ((congrFun (congrFun e29 k) j).trans (yU_ne _ _ (by omega))).trans (k27 k j h)
    first | have tI28_1_1 : I28 1 1 = I25 1 1 := (congrFun (congrFun e29 1) 1).trans (yU_ne _ _ (by omega)) | skip
    first | have tI28_1_3 : I28 1 3 = I25 1 3 := (congrFun (congrFun e29 1) 3).trans (yU_ne _ _ (by omega)) | skip
    first | have tI28_4_0 : I28 4 0 = I25 4 0 := (congrFun (congrFun e29 4) 0).trans (yU_ne _ _ (by omega)) | skip
    first | have tI28_4_1 : I28 4 1 = I25 4 1 := (congrFun (congrFun e29 4) 1).trans (yU_ne _ _ (by omega)) | skip
    first | have tI28_36_0 : I28 36 0 = I25 36 0 := (congrFun (congrFun e29 36) 0).trans (yU_ne _ _ (by omega)) | skip
    first | have tI28_36_1 : I28 36 1 = I25 36 1 := (congrFun (congrFun e29 36) 1).trans (yU_ne _ _ (by omega)) | skip
    have tI28_89_1 := (congrFun (congrFun e29 89) 1).trans (yU_eq _ _ _ _)
    exact hk _ _ k30 (by omega)
  · exact hk _ _ k12 (by omega)
/-- ChairAlley.began()I -/
theorem w_115 (hT : yLT T) (hR : yLR R) (hk : ∀ r I', (∀ k j, ¬ (67 ≤ k ∧ k < 89) → I' k j = I k j) → (True) → K (some (yi r)) (N, T, R, I')) : yW l zSS D cy zFk z (d + 6) 115 bc bs K 0 0 0 [(0, yr (some 0))] [] (N, T, R, I) := by
  have k0 : ∀ k j, ¬ (67 ≤ k ∧ k < 89) → I k j = I k j := fun _ _ _ => rfl
  have L : ∀ m : Nat, (∀ x1 x2 : Int, ∀ X : Nat → Nat → Int, (∀ k j, ¬ (67 ≤ k ∧ k < 89) → X k j = I k j) → (8 - x2 : Int).toNat < m → (0 ≤ x2 ∧ x2 ≤ 8) → yW l zSS D cy zFk z (d + 6) 115 bc bs K 0 0 25 [(0, yr (some 0)), (1, yi x1), (2, yi x2)] [] (N, T, R, X)) := by
    intro m
    induction m with
    | zero => exact fun _ _ _ _ h => absurd h (Nat.not_lt_zero _)
    | succ m ih =>
      intro x1 x2 X kX hm iv
      refine e_li (i := 1) (x := x1) rfl fun _ _ => ?_
      refine e_li (i := 2) (x := x2) rfl fun _ _ => ?_
      refine B_115_25 hT hR ?_
      refine ⟨fun c1 => ?_, fun c1 => ?_⟩
      · exact hk _ _ kX trivial
      · refine ⟨fun c2 => ?_, fun c2 => ?_⟩
        · exact hk _ _ kX trivial
        · refine w_103 (d := d + 3) hT hR   (fun I3 f5 q4 => ⟨_, rfl, rfl, ?_⟩)
          have k6 : ∀ k j, ¬ (67 ≤ k ∧ k < 89) → I3 k j = I k j := fun k j h => (f5 k j (by omega)).trans (kX k j h)
          refine w_68 (d := d + 5) hT hR (a_State68 hT hR) (by omega)  (fun I7 f9 q8 => ⟨_, rfl, rfl, ?_⟩)
          have k10 : ∀ k j, ¬ (67 ≤ k ∧ k < 89) → I7 k j = I k j := fun k j h => (f9 k j (by omega)).trans (k6 k j h)
          refine w_90 (d := d) hT hR   (fun r11 I12 f14 q13 => ⟨_, _, rfl, rfl, ?_⟩)
          have k15 : ∀ k j, ¬ (67 ≤ k ∧ k < 89) → I12 k j = I k j := fun k j h => (f14 k j (by omega)).trans (k10 k j h)
          refine ⟨fun c16 => ?_, fun c16 => ?_⟩
          · have a17 : yadd x2 1 = (x2 + 1) := yadd_eq (by omega) (by omega)
            try rw [a17]
            exact ih _ _ _ k15 (by omega) (by omega)
          · have a18 : yadd x2 1 = (x2 + 1) := yadd_eq (by omega) (by omega)
            try rw [a18]
            exact ih _ _ _ k15 (by omega) (by omega)
  refine B_115_0 hT hR ?_
  refine w_103 (d := d + 3) hT hR   (fun I19 f21 q20 => ⟨_, rfl, rfl, ?_⟩)
  have k22 : ∀ k j, ¬ (67 ≤ k ∧ k < 89) → I19 k j = I k j := fun k j h => (f21 k j (by omega)).trans (k0 k j h)
  refine w_96 (d := d + 1) hT hR   (fun I23 f25 q24 => ⟨_, rfl, rfl, ?_⟩)
  have k26 : ∀ k j, ¬ (67 ≤ k ∧ k < 89) → I23 k j = I k j := fun k j h => (f25 k j (by omega)).trans (k22 k j h)
  exact (L _) _ _ _ k26 (Nat.lt_succ_self _) (by omega)
/-- ChairAlley.count(I)I -/
theorem w_118 (hT : yLT T) (hR : yLR R) {x1 : Int} (hk : ∀ r, (True) → K (some (yi r)) (N, T, R, I)) : yW l zSS D cy zFk z (d + 1) 118 bc bs K 0 0 0 [(0, yr (some 0)), (1, yi x1)] [] (N, T, R, I) := by
  refine e_li (i := 1) (x := x1) rfl fun _ _ => ?_
  refine B_118_0 hT hR ?_
  refine ⟨fun c1 => ?_, fun c1 => ?_⟩
  · exact hk _ trivial
  refine ⟨fun c2 => ?_, fun c2 => ?_⟩
  · exact hk _ trivial
  refine ⟨fun c3 => ?_, fun c3 => ?_⟩
  · exact hk _ trivial
  refine ⟨fun c4 => ?_, fun c4 => ?_⟩
  · exact hk _ trivial
  refine ⟨fun c5 => ?_, fun c5 => ?_⟩
  · exact hk _ trivial
  refine ⟨fun c6 => ?_, fun c6 => ?_⟩
  · exact hk _ trivial
  refine ⟨fun c7 => ?_, fun c7 => ?_⟩
  · refine w_64 (d := d) hT hR (a_State16 hT hR)  (fun r8 q9 => ⟨_, _, rfl, rfl, ?_⟩)
    exact hk _ trivial
  refine ⟨fun c11 => ?_, fun c11 => ?_⟩
  · exact hk _ trivial
  refine ⟨fun c12 => ?_, fun c12 => ?_⟩
  · exact hk _ trivial
  exact hk _ trivial
/-- ChairAlley.end(I)Z -/
theorem w_120 (hT : yLT T) (hR : yLR R) {x1 : Int} (hk : ∀ r I', (∀ k j, ¬ (k = 1 ∧ j = 1) → I' k j = I k j) → ((r = 1 ∧ 0 ≤ x1 ∧ x1 ≤ I 1 1 ∧ I' 1 1 = x1) ∨ (r = 0 ∧ ¬ (0 ≤ x1 ∧ x1 ≤ I 1 1) ∧ I' 1 1 = I 1 1)) → K (some (yi r)) (N, T, R, I')) : yW l zSS D cy zFk z d 120 bc bs K 0 0 0 [(0, yr (some 0)), (1, yi x1)] [] (N, T, R, I) := by
  have k0 : ∀ k j, ¬ (k = 1 ∧ j = 1) → I k j = I k j := fun _ _ _ => rfl
  refine e_li (i := 1) (x := x1) rfl fun _ _ => ?_
  refine B_120_0 hT hR ?_
  refine ⟨fun c1 => ?_, fun c1 => ?_⟩
  · exact hk _ _ k0 (by omega)
  · refine ⟨fun c2 => ?_, fun c2 => ?_⟩
    · intro I3 e4
      have k5 : ∀ k j, ¬ (k = 1 ∧ j = 1) → I3 k j = I k j := fun k j h => ((congrFun (congrFun e4 k) j).trans (yU_ne _ _ (by omega))).trans (k0 k j h)
      have tI3_1_1 := (congrFun (congrFun e4 1) 1).trans (yU_eq _ _ _ _)
      exact hk _ _ k5 (by omega)
    · exact hk _ _ k0 (by omega)
/-- ChairAlley.fault()I -/
theorem w_121 (hT : yLT T) (hR : yLR R) (hk : ∀ r, (True) → K (some (yi r)) (N, T, R, I)) : yW l zSS D cy zFk z d 121 bc bs K 0 0 0 [(0, yr (some 0))] [] (N, T, R, I) := by
  refine B_121_0 hT hR ?_
  exact hk _ trivial
/-- ChairAlley.feed(IIIII)I -/
theorem w_122 (hT : yLT T) (hR : yLR R) {x1 x2 x3 x4 x5 : Int} (h0 : 0 ≤ I 1 1 ∧ I 1 1 ≤ 940) (hk : ∀ r I', (∀ k j, ¬ ((k = 1 ∧ j = 1) ∨ k = 2) → I' k j = I k j) → ((r = -1 ∧ 940 < I 1 1 + 20 ∧ I' 1 1 = I 1 1) ∨ (r = I 1 1 + 20 ∧ I 1 1 + 20 ≤ 940 ∧ I' 1 1 = I 1 1 + 20)) → K (some (yi r)) (N, T, R, I')) : yW l zSS D cy zFk z (d + 1) 122 bc bs K 0 0 0 [(0, yr (some 0)), (1, yi x1), (2, yi x2), (3, yi x3), (4, yi x4), (5, yi x5)] [] (N, T, R, I) := by
  have k0 : ∀ k j, ¬ ((k = 1 ∧ j = 1) ∨ k = 2) → I k j = I k j := fun _ _ _ => rfl
  refine e_li (i := 1) (x := x1) rfl fun _ _ => ?_
  refine e_li (i := 2) (x := x2) rfl fun _ _ => ?_
  refine e_li (i := 3) (x := x3) rfl fun _ _ => ?_
  refine e_li (i := 4) (x := x4) rfl fun _ _ => ?_
  refine e_li (i := 5) (x := x5) rfl fun _ _ => ?_
  refine B_122_0 hT hR ?_
  have a1 : yadd (I 1 1) 20 = ((I 1 1) + 20) := yadd_eq (by omega) (by omega)
  try rw [a1]
  refine ⟨fun c2 => ?_, fun c2 => ?_⟩
  · refine w_32 (d := d) hT hR  (by omega) (fun I3 f5 q4 => ⟨_, rfl, rfl, ?_⟩)
    have k6 : ∀ k j, ¬ ((k = 1 ∧ j = 1) ∨ k = 2) → I3 k j = I k j := fun k j h => (f5 k j (by omega)).trans (k0 k j h)
    first | have tI3_1_1 := f5 1 1 (by omega) | skip
    refine w_32 (d := d) hT hR  (by omega) (fun I7 f9 q8 => ⟨_, rfl, rfl, ?_⟩)
    have k10 : ∀ k j, ¬ ((k = 1 ∧ j = 1) ∨ k = 2) → I7 k j = I k j := fun k j h => (f9 k j (by omega)).trans (k6 k j h)
    first | have tI7_1_1 := f9 1 1 (by omega) | skip
    refine w_32 (d := d) hT hR  (by omega) (fun I11 f13 q12 => ⟨_, rfl, rfl, ?_⟩)
    have k14 : ∀ k j, ¬ ((k = 1 ∧ j = 1) ∨ k = 2) → I11 k j = I k j := fun k j h => (f13 k j (by omega)).trans (k10 k j h)
    first | have tI11_1_1 := f13 1 1 (by omega) | skip
    refine w_32 (d := d) hT hR  (by omega) (fun I15 f17 q16 => ⟨_, rfl, rfl, ?_⟩)
    have k18 : ∀ k j, ¬ ((k = 1 ∧ j = 1) ∨ k = 2) → I15 k j = I k j := fun k j h => (f17 k j (by omega)).trans (k14 k j h)
    first | have tI15_1_1 := f17 1 1 (by omega) | skip
    refine w_32 (d := d) hT hR  (by omega) (fun I19 f21 q20 => ⟨_, rfl, rfl, ?_⟩)
    have k22 : ∀ k j, ¬ ((k = 1 ∧ j = 1) ∨ k = 2) → I19 k j = I k j := fun k j h => (f21 k j (by omega)).trans (k18 k j h)
    first | have tI19_1_1 := f21 1 1 (by omega) | skip
    exact hk _ _ k22 (by omega)
  · exact hk _ _ k0 (by omega)
/-- ChairAlley.invited(I)I -/
theorem w_124 (hT : yLT T) (hR : yLR R) {x1 : Int} (hk : ∀ r I', (∀ k j, ¬ (67 ≤ k ∧ k < 89) → I' k j = I k j) → (True) → K (some (yi r)) (N, T, R, I')) : yW l zSS D cy zFk z (d + 6) 124 bc bs K 0 0 0 [(0, yr (some 0)), (1, yi x1)] [] (N, T, R, I) := by
  have k0 : ∀ k j, ¬ (67 ≤ k ∧ k < 89) → I k j = I k j := fun _ _ _ => rfl
  have L : ∀ m : Nat, (∀ x1 x2 x3 x4 : Int, ∀ X : Nat → Nat → Int, (∀ k j, ¬ (67 ≤ k ∧ k < 89) → X k j = I k j) → (20 * (x3 - x4) + 10 : Int).toNat < m → (0 ≤ x4 ∧ 0 ≤ x2 ∧ x2 ≤ 4) → yW l zSS D cy zFk z (d + 6) 124 bc bs K 0 0 64 [(0, yr (some 0)), (1, yi x1), (2, yi x2), (3, yi x3), (4, yi x4)] [] (N, T, R, X)) ∧ (∀ x1 x2 x3 x4 x5 : Int, ∀ X : Nat → Nat → Int, (∀ k j, ¬ (67 ≤ k ∧ k < 89) → X k j = I k j) → (20 * (x3 - x4) + (4 - x5) : Int).toNat < m → (0 ≤ x4 ∧ x4 < x3 ∧ 0 ≤ x2 ∧ x2 ≤ 4 ∧ 0 ≤ x5 ∧ x5 ≤ x2) → yW l zSS D cy zFk z (d + 6) 124 bc bs K 0 0 87 [(0, yr (some 0)), (1, yi x1), (2, yi x2), (3, yi x3), (4, yi x4), (5, yi x5)] [] (N, T, R, X)) := by
    intro m
    induction m with
    | zero => exact ⟨fun _ _ _ _ _ _ h => absurd h (Nat.not_lt_zero _), fun _ _ _ _ _ _ _ h => absurd h (Nat.not_lt_zero _)⟩
    | succ m ih =>
      refine ⟨?_, ?_⟩
      · intro x1 x2 x3 x4 X kX hm iv
        refine e_li (i := 1) (x := x1) rfl fun _ _ => ?_
        refine e_li (i := 2) (x := x2) rfl fun _ _ => ?_
        refine e_li (i := 3) (x := x3) rfl fun _ _ => ?_
        refine e_li (i := 4) (x := x4) rfl fun _ _ => ?_
        refine B_124_64 hT hR ?_
        refine ⟨fun c1 => ?_, fun c1 => ?_⟩
        · exact hk _ _ kX trivial
        · refine w_103 (d := d + 3) hT hR   (fun I2 f4 q3 => ⟨_, rfl, rfl, ?_⟩)
          have k5 : ∀ k j, ¬ (67 ≤ k ∧ k < 89) → I2 k j = I k j := fun k j h => (f4 k j (by omega)).trans (kX k j h)
          exact ih.2 _ _ _ _ _ _ k5 (by omega) (by omega)
      · intro x1 x2 x3 x4 x5 X kX hm iv
        refine e_li (i := 1) (x := x1) rfl fun _ _ => ?_
        refine e_li (i := 2) (x := x2) rfl fun _ _ => ?_
        refine e_li (i := 3) (x := x3) rfl fun _ _ => ?_
        refine e_li (i := 4) (x := x4) rfl fun _ _ => ?_
        refine e_li (i := 5) (x := x5) rfl fun _ _ => ?_
        refine B_124_87 hT hR ?_
        refine ⟨fun c6 => ?_, fun c6 => ?_⟩
        · refine w_90 (d := d) hT hR   (fun r7 I8 f10 q9 => ⟨_, _, rfl, rfl, ?_⟩)
          have k11 : ∀ k j, ¬ (67 ≤ k ∧ k < 89) → I8 k j = I k j := fun k j h => (f10 k j (by omega)).trans (kX k j h)
          refine ⟨fun c12 => ?_, fun c12 => ?_⟩
          · have a13 : yadd x4 1 = (x4 + 1) := yadd_eq (by omega) (by omega)
            try rw [a13]
            exact ih.1 _ _ _ _ _ k11 (by omega) (by omega)
          · exact hk _ _ k11 trivial
        · have a14 : ysub x2 1 = (x2 - 1) := ysub_eq (by omega) (by omega)
          try rw [a14]
          have a15 : ysub (x2 - 1) x5 = ((x2 - 1) - x5) := ysub_eq (by omega) (by omega)
          try rw [a15]
          have a16 : ymul 2 ((x2 - 1) - x5) = (2 * ((x2 - 1) - x5)) := ymul_eq (by omega) (by omega)
          try rw [a16]
          refine ⟨by omega, by omega, ?_⟩
          intro I17 e18
          have k19 : ∀ k j, ¬ (67 ≤ k ∧ k < 89) → I17 k j = I k j := fun k j h => ((congrFun (congrFun e18 k) j).trans (yU_ne _ _ (by omega))).trans (kX k j h)
          have a20 : yadd x5 1 = (x5 + 1) := yadd_eq (by omega) (by omega)
          try rw [a20]
          exact ih.2 _ _ _ _ _ _ k19 (by omega) (by omega)
  refine e_li (i := 1) (x := x1) rfl fun _ _ => ?_
  refine B_124_0 hT hR ?_
  refine ⟨fun c21 => ?_, fun c21 => ?_⟩
  · exact hk _ _ k0 trivial
  · refine ⟨fun c22 => ?_, fun c22 => ?_⟩
    · exact hk _ _ k0 trivial
    · refine ⟨fun c23 => ?_, fun c23 => ?_⟩
      · exact hk _ _ k0 trivial
      · refine ⟨fun c24 => ?_, fun c24 => ?_⟩
        · refine w_103 (d := d + 3) hT hR   (fun I25 f27 q26 => ⟨_, rfl, rfl, ?_⟩)
          have k28 : ∀ k j, ¬ (67 ≤ k ∧ k < 89) → I25 k j = I k j := fun k j h => (f27 k j (by omega)).trans (k0 k j h)
          refine w_96 (d := d + 1) hT hR   (fun I29 f31 q30 => ⟨_, rfl, rfl, ?_⟩)
          have k32 : ∀ k j, ¬ (67 ≤ k ∧ k < 89) → I29 k j = I k j := fun k j h => (f31 k j (by omega)).trans (k28 k j h)
          exact (L _).1 _ _ _ _ _ k32 (Nat.lt_succ_self _) (by omega)
        · exact hk _ _ k0 trivial
/-- ChairAlley.isNobodyToCome()Z -/
theorem w_125 (hT : yLT T) (hR : yLR R) (hk : ∀ r, (r = 0 ∨ r = 1) → K (some (yi r)) (N, T, R, I)) : yW l zSS D cy zFk z (d + 1) 125 bc bs K 0 0 0 [(0, yr (some 0))] [] (N, T, R, I) := by
  refine B_125_0 hT hR ?_
  refine w_61 (d := d) hT hR (a_State16 hT hR)  (fun r1 q2 => ⟨_, _, rfl, rfl, ?_⟩)
  refine ⟨fun c4 => ?_, fun c4 => ?_⟩
  · exact hk _ (by omega)
  · exact hk _ (by omega)
/-- ChairAlley.isOut(I)Z -/
theorem w_126 (hT : yLT T) (hR : yLR R) {x1 : Int} (hk : ∀ r, ((r = 0 ∧ ¬ (0 ≤ x1 ∧ x1 < 8 ∧ x1 < I 4 5 ∧ I 20 x1.toNat ≠ -1)) ∨ (r = 1 ∧ 0 ≤ x1 ∧ x1 < 8 ∧ x1 < I 4 5 ∧ I 20 x1.toNat ≠ -1)) → K (some (yi r)) (N, T, R, I)) : yW l zSS D cy zFk z (d + 1) 126 bc bs K 0 0 0 [(0, yr (some 0)), (1, yi x1)] [] (N, T, R, I) := by
  refine e_li (i := 1) (x := x1) rfl fun _ _ => ?_
  refine B_126_0 hT hR ?_
  refine w_11 (d := d) hT hR (a_Land4 hT hR)  (fun r1 q2 => ⟨_, _, rfl, rfl, ?_⟩)
  refine ⟨fun c4 => ?_, fun c4 => ?_⟩
  · exact hk _ (by omega)
  · refine ⟨by omega, by omega, ?_⟩
    refine ⟨fun c5 => ?_, fun c5 => ?_⟩
    · exact hk _ (by omega)
    · exact hk _ (by omega)
/-- ChairAlley.isToCome(I)Z -/
theorem w_127 (hT : yLT T) (hR : yLR R) {x1 : Int} (hk : ∀ r, ((r = 0 ∧ ¬ (0 ≤ x1 ∧ x1 < 8 ∧ x1 < I 4 5 ∧ I 25 x1.toNat = -1)) ∨ (r = 1 ∧ 0 ≤ x1 ∧ x1 < 8 ∧ x1 < I 4 5 ∧ I 25 x1.toNat = -1)) → K (some (yi r)) (N, T, R, I)) : yW l zSS D cy zFk z (d + 1) 127 bc bs K 0 0 0 [(0, yr (some 0)), (1, yi x1)] [] (N, T, R, I) := by
  refine e_li (i := 1) (x := x1) rfl fun _ _ => ?_
  refine B_127_0 hT hR ?_
  refine w_11 (d := d) hT hR (a_Land4 hT hR)  (fun r1 q2 => ⟨_, _, rfl, rfl, ?_⟩)
  refine ⟨fun c4 => ?_, fun c4 => ?_⟩
  · exact hk _ (by omega)
  · refine ⟨by omega, by omega, ?_⟩
    refine ⟨fun c5 => ?_, fun c5 => ?_⟩
    · exact hk _ (by omega)
    · exact hk _ (by omega)
/-- ChairAlley.judged(I)I -/
theorem w_129 (hT : yLT T) (hR : yLR R) {x1 : Int} (hk : ∀ r, (True) → K (some (yi r)) (N, T, R, I)) : yW l zSS D cy zFk z d 129 bc bs K 0 0 0 [(0, yr (some 0)), (1, yi x1)] [] (N, T, R, I) := by
  refine e_li (i := 1) (x := x1) rfl fun _ _ => ?_
  refine B_129_0 hT hR ?_
  refine ⟨fun c1 => ?_, fun c1 => ?_⟩
  · exact hk _ trivial
  refine ⟨fun c2 => ?_, fun c2 => ?_⟩
  · exact hk _ trivial
  refine ⟨fun c3 => ?_, fun c3 => ?_⟩
  · exact hk _ trivial
  exact hk _ trivial
/-- ChairAlley.last()I -/
theorem w_131 (hT : yLT T) (hR : yLR R) (hk : ∀ r I', (∀ k j, ¬ (67 ≤ k ∧ k < 89) → I' k j = I k j) → (True) → K (some (yi r)) (N, T, R, I')) : yW l zSS D cy zFk z (d + 6) 131 bc bs K 0 0 0 [(0, yr (some 0))] [] (N, T, R, I) := by
  have k0 : ∀ k j, ¬ (67 ≤ k ∧ k < 89) → I k j = I k j := fun _ _ _ => rfl
  refine B_131_0 hT hR ?_
  refine w_125 (d := d + 4) hT hR   (fun r1 q2 => ⟨_, _, rfl, rfl, ?_⟩)
  refine ⟨fun c4 => ?_, fun c4 => ?_⟩
  · refine w_102 (d := d + 3) hT hR   (fun I5 f7 q6 => ⟨_, rfl, rfl, ?_⟩)
    have k8 : ∀ k j, ¬ (67 ≤ k ∧ k < 89) → I5 k j = I k j := fun k j h => (f7 k j (by omega)).trans (k0 k j h)
    refine w_96 (d := d + 1) hT hR   (fun I9 f11 q10 => ⟨_, rfl, rfl, ?_⟩)
    have k12 : ∀ k j, ¬ (67 ≤ k ∧ k < 89) → I9 k j = I k j := fun k j h => (f11 k j (by omega)).trans (k8 k j h)
    refine w_89 (d := d) hT hR   (fun I13 f15 q14 => ⟨_, rfl, rfl, ?_⟩)
    have k16 : ∀ k j, ¬ (67 ≤ k ∧ k < 89) → I13 k j = I k j := fun k j h => (f15 k j (by omega)).trans (k12 k j h)
    refine w_93 (d := d + 4) hT hR   (fun r17 q18 => ⟨_, _, rfl, rfl, ?_⟩)
    exact hk _ _ k16 trivial
  · exact hk _ _ k0 trivial
/-- ChairAlley.latest()I -/
theorem w_132 (hT : yLT T) (hR : yLR R) (hk : ∀ r I', (∀ k j, ¬ (67 ≤ k ∧ k < 89) → I' k j = I k j) → (True) → K (some (yi r)) (N, T, R, I')) : yW l zSS D cy zFk z (d + 6) 132 bc bs K 0 0 0 [(0, yr (some 0))] [] (N, T, R, I) := by
  have k0 : ∀ k j, ¬ (67 ≤ k ∧ k < 89) → I k j = I k j := fun _ _ _ => rfl
  have L : ∀ m : Nat, (∀ x1 x2 : Int, ∀ X : Nat → Nat → Int, (∀ k j, ¬ (67 ≤ k ∧ k < 89) → X k j = I k j) → (8 - x2 : Int).toNat < m → (-1 ≤ x1 ∧ x1 < 8 ∧ 0 ≤ x2 ∧ x2 ≤ 8) → yW l zSS D cy zFk z (d + 6) 132 bc bs K 0 0 35 [(0, yr (some 0)), (1, yi x1), (2, yi x2)] [] (N, T, R, X)) := by
    intro m
    induction m with
    | zero => exact fun _ _ _ _ h => absurd h (Nat.not_lt_zero _)
    | succ m ih =>
      intro x1 x2 X kX hm iv
      refine e_li (i := 1) (x := x1) rfl fun _ _ => ?_
      refine e_li (i := 2) (x := x2) rfl fun _ _ => ?_
      refine B_132_35 hT hR ?_
      refine ⟨fun c1 => ?_, fun c1 => ?_⟩
      · exact hk _ _ kX trivial
      · refine ⟨fun c2 => ?_, fun c2 => ?_⟩
        · exact hk _ _ kX trivial
        · refine ⟨fun c3 => ?_, fun c3 => ?_⟩
          · have a4 : yadd x2 1 = (x2 + 1) := yadd_eq (by omega) (by omega)
            try rw [a4]
            exact ih _ _ _ kX (by omega) (by omega)
          · refine ⟨by omega, by omega, ?_⟩
            refine ⟨by omega, by omega, ?_⟩
            refine ⟨fun c5 => ?_, fun c5 => ?_⟩
            · have a6 : yadd x2 1 = (x2 + 1) := yadd_eq (by omega) (by omega)
              try rw [a6]
              exact ih _ _ _ kX (by omega) (by omega)
            · have a7 : yadd x2 1 = (x2 + 1) := yadd_eq (by omega) (by omega)
              try rw [a7]
              exact ih _ _ _ kX (by omega) (by omega)
  refine B_132_0 hT hR ?_
  refine w_102 (d := d + 3) hT hR   (fun I8 f10 q9 => ⟨_, rfl, rfl, ?_⟩)
  have k11 : ∀ k j, ¬ (67 ≤ k ∧ k < 89) → I8 k j = I k j := fun k j h => (f10 k j (by omega)).trans (k0 k j h)
  refine w_96 (d := d + 1) hT hR   (fun I12 f14 q13 => ⟨_, rfl, rfl, ?_⟩)
  have k15 : ∀ k j, ¬ (67 ≤ k ∧ k < 89) → I12 k j = I k j := fun k j h => (f14 k j (by omega)).trans (k11 k j h)
  refine w_89 (d := d) hT hR   (fun I16 f18 q17 => ⟨_, rfl, rfl, ?_⟩)
  have k19 : ∀ k j, ¬ (67 ≤ k ∧ k < 89) → I16 k j = I k j := fun k j h => (f18 k j (by omega)).trans (k15 k j h)
  exact (L _) _ _ _ k19 (Nat.lt_succ_self _) (by omega)
/-- ChairAlley.lent(II)I -/
theorem w_133 (hT : yLT T) (hR : yLR R) {x1 x2 : Int} (hk : ∀ r I', (∀ k j, ¬ (67 ≤ k ∧ k < 89) → I' k j = I k j) → (True) → K (some (yi r)) (N, T, R, I')) : yW l zSS D cy zFk z (d + 6) 133 bc bs K 0 0 0 [(0, yr (some 0)), (1, yi x1), (2, yi x2)] [] (N, T, R, I) := by
  have k0 : ∀ k j, ¬ (67 ≤ k ∧ k < 89) → I k j = I k j := fun _ _ _ => rfl
  refine e_li (i := 1) (x := x1) rfl fun _ _ => ?_
  refine e_li (i := 2) (x := x2) rfl fun _ _ => ?_
  refine B_133_0 hT hR ?_
  refine w_127 (d := d + 4) hT hR   (fun r1 q2 => ⟨_, _, rfl, rfl, ?_⟩)
  refine ⟨fun c4 => ?_, fun c4 => ?_⟩
  · exact hk _ _ k0 trivial
  · refine w_11 (d := d + 5) hT hR (a_Land4 hT hR)  (fun r5 q6 => ⟨_, _, rfl, rfl, ?_⟩)
    refine ⟨fun c8 => ?_, fun c8 => ?_⟩
    · refine w_102 (d := d + 3) hT hR   (fun I9 f11 q10 => ⟨_, rfl, rfl, ?_⟩)
      have k12 : ∀ k j, ¬ (67 ≤ k ∧ k < 89) → I9 k j = I k j := fun k j h => (f11 k j (by omega)).trans (k0 k j h)
      refine w_96 (d := d + 1) hT hR   (fun I13 f15 q14 => ⟨_, rfl, rfl, ?_⟩)
      have k16 : ∀ k j, ¬ (67 ≤ k ∧ k < 89) → I13 k j = I k j := fun k j h => (f15 k j (by omega)).trans (k12 k j h)
      refine w_89 (d := d) hT hR   (fun I17 f19 q18 => ⟨_, rfl, rfl, ?_⟩)
      have k20 : ∀ k j, ¬ (67 ≤ k ∧ k < 89) → I17 k j = I k j := fun k j h => (f19 k j (by omega)).trans (k16 k j h)
      refine w_106 (d := d + 5) hT hR   (fun r21 q22 => ⟨_, _, rfl, rfl, ?_⟩)
      refine w_102 (d := d + 3) hT hR   (fun I24 f26 q25 => ⟨_, rfl, rfl, ?_⟩)
      have k27 : ∀ k j, ¬ (67 ≤ k ∧ k < 89) → I24 k j = I k j := fun k j h => (f26 k j (by omega)).trans (k20 k j h)
      refine ⟨by omega, by omega, ?_⟩
      refine ⟨by omega, by omega, ?_⟩
      intro I28 e29
      have k30 : ∀ k j, ¬ (67 ≤ k ∧ k < 89) → I28 k j = I k j := fun k j h => ((congrFun (congrFun e29 k) j).trans (yU_ne _ _ (by omega))).trans (k27 k j h)
      refine w_89 (d := d) hT hR   (fun I31 f33 q32 => ⟨_, rfl, rfl, ?_⟩)
      have k34 : ∀ k j, ¬ (67 ≤ k ∧ k < 89) → I31 k j = I k j := fun k j h => (f33 k j (by omega)).trans (k30 k j h)
      refine w_106 (d := d + 5) hT hR   (fun r35 q36 => ⟨_, _, rfl, rfl, ?_⟩)
      exact hk _ _ k34 trivial
    · exact hk _ _ k0 trivial
/-- ChairAlley.mayBecomeLane(I)Z -/
theorem w_135 (hT : yLT T) (hR : yLR R) {x1 : Int} (hk : ∀ r, (r = 0 ∨ (r = 1 ∧ 0 ≤ x1 ∧ x1 < 100)) → K (some (yi r)) (N, T, R, I)) : yW l zSS D cy zFk z (d + 1) 135 bc bs K 0 0 0 [(0, yr (some 0)), (1, yi x1)] [] (N, T, R, I) := by
  refine e_li (i := 1) (x := x1) rfl fun _ _ => ?_
  refine B_135_0 hT hR ?_
  refine w_10 (d := d) hT hR (a_Land4 hT hR)  (fun r1 q2 => ⟨_, _, rfl, rfl, ?_⟩)
  refine ⟨fun c4 => ?_, fun c4 => ?_⟩
  · exact hk _ (by omega)
  · refine w_12 (d := d) hT hR (a_Land4 hT hR)  (fun r5 q6 => ⟨_, _, rfl, rfl, ?_⟩)
    refine ⟨fun c8 => ?_, fun c8 => ?_⟩
    · exact hk _ (by omega)
    · refine ⟨by omega, by omega, ?_⟩
      refine ⟨fun c9 => ?_, fun c9 => ?_⟩
      · exact hk _ (by omega)
      · exact hk _ (by omega)
/-- ChairAlley.met(II)I -/
theorem w_136 (hT : yLT T) (hR : yLR R) {x1 x2 : Int} (hk : ∀ r, (True) → K (some (yi r)) (N, T, R, I)) : yW l zSS D cy zFk z d 136 bc bs K 0 0 0 [(0, yr (some 0)), (1, yi x1), (2, yi x2)] [] (N, T, R, I) := by
  refine e_li (i := 1) (x := x1) rfl fun _ _ => ?_
  refine e_li (i := 2) (x := x2) rfl fun _ _ => ?_
  refine B_136_0 hT hR ?_
  refine ⟨fun c1 => ?_, fun c1 => ?_⟩
  · exact hk _ trivial
  · refine ⟨fun c2 => ?_, fun c2 => ?_⟩
    · exact hk _ trivial
    · refine ⟨fun c3 => ?_, fun c3 => ?_⟩
      · refine ⟨fun c4 => ?_, fun c4 => ?_⟩
        · exact hk _ trivial
        · refine ⟨fun c5 => ?_, fun c5 => ?_⟩
          · have a6 : ymul x1 5 = (x1 * 5) := ymul_eq (by omega) (by omega)
            try rw [a6]
            have a7 : yadd (x1 * 5) x2 = ((x1 * 5) + x2) := yadd_eq (by omega) (by omega)
            try rw [a7]
            refine ⟨by omega, by omega, ?_⟩
            exact hk _ trivial
          · exact hk _ trivial
      · exact hk _ trivial
/-- ChairAlley.next(I)I -/
theorem w_137 (hT : yLT T) (hR : yLR R) {x1 : Int} (hk : ∀ r I', (∀ k j, ¬ (85 ≤ k ∧ k < 89) → I' k j = I k j) → (True) → K (some (yi r)) (N, T, R, I')) : yW l zSS D cy zFk z (d + 4) 137 bc bs K 0 0 0 [(0, yr (some 0)), (1, yi x1)] [] (N, T, R, I) := by
  have k0 : ∀ k j, ¬ (85 ≤ k ∧ k < 89) → I k j = I k j := fun _ _ _ => rfl
  refine e_li (i := 1) (x := x1) rfl fun _ _ => ?_
  refine B_137_0 hT hR ?_
  refine w_126 (d := d + 2) hT hR   (fun r1 q2 => ⟨_, _, rfl, rfl, ?_⟩)
  refine ⟨fun c4 => ?_, fun c4 => ?_⟩
  · refine ⟨by omega, by omega, ?_⟩
    refine w_109 (d := d) hT hR (hT 17 rfl)  (fun I5 f7 q6 => ⟨_, rfl, rfl, ?_⟩)
    have k8 : ∀ k j, ¬ (85 ≤ k ∧ k < 89) → I5 k j = I k j := fun k j h => (f7 k j (by omega)).trans (k0 k j h)
    refine ⟨by omega, by omega, ?_⟩
    refine w_108 (d := d + 2) hT hR   (fun r9 q10 => ⟨_, _, rfl, rfl, ?_⟩)
    exact hk _ _ k8 trivial
  · exact hk _ _ k0 trivial
/-- ChairAlley.now(I)I -/
theorem w_138 (hT : yLT T) (hR : yLR R) {x1 : Int} (hk : ∀ r, (True) → K (some (yi r)) (N, T, R, I)) : yW l zSS D cy zFk z (d + 1) 138 bc bs K 0 0 0 [(0, yr (some 0)), (1, yi x1)] [] (N, T, R, I) := by
  refine e_li (i := 1) (x := x1) rfl fun _ _ => ?_
  refine B_138_0 hT hR ?_
  refine ⟨fun c1 => ?_, fun c1 => ?_⟩
  · exact hk _ trivial
  refine ⟨fun c2 => ?_, fun c2 => ?_⟩
  · refine w_60 (d := d) hT hR (a_State16 hT hR)  (fun r3 q4 => ⟨_, _, rfl, rfl, ?_⟩)
    exact hk _ trivial
  refine ⟨fun c6 => ?_, fun c6 => ?_⟩
  · refine w_61 (d := d) hT hR (a_State16 hT hR)  (fun r7 q8 => ⟨_, _, rfl, rfl, ?_⟩)
    exact hk _ trivial
  refine ⟨fun c10 => ?_, fun c10 => ?_⟩
  · exact hk _ trivial
  refine ⟨fun c11 => ?_, fun c11 => ?_⟩
  · refine w_67 (d := d) hT hR (hT 23 rfl)  (fun r12 q13 => ⟨_, _, rfl, rfl, ?_⟩)
    exact hk _ trivial
  refine ⟨fun c15 => ?_, fun c15 => ?_⟩
  · refine w_67 (d := d) hT hR (hT 24 rfl)  (fun r16 q17 => ⟨_, _, rfl, rfl, ?_⟩)
    exact hk _ trivial
  exact hk _ trivial
/-- ChairAlley.odds(II)I -/
theorem w_139 (hT : yLT T) (hR : yLR R) {x1 x2 : Int} (hk : ∀ r I', (∀ k j, ¬ (67 ≤ k ∧ k < 89) → I' k j = I k j) → (True) → K (some (yi r)) (N, T, R, I')) : yW l zSS D cy zFk z (d + 6) 139 bc bs K 0 0 0 [(0, yr (some 0)), (1, yi x1), (2, yi x2)] [] (N, T, R, I) := by
  have k0 : ∀ k j, ¬ (67 ≤ k ∧ k < 89) → I k j = I k j := fun _ _ _ => rfl
  have L : ∀ m : Nat, (∀ x1 x2 x3 x4 : Int, ∀ X : Nat → Nat → Int, (∀ k j, ¬ (67 ≤ k ∧ k < 89) → X k j = I k j) → (40 - x4 : Int).toNat < m → (x1 ≤ 40 ∧ 0 ≤ x4 ∧ x4 ≤ 40 ∧ 0 ≤ x3 ∧ x3 ≤ x4) → yW l zSS D cy zFk z (d + 6) 139 bc bs K 0 0 52 [(0, yr (some 0)), (1, yi x1), (2, yi x2), (3, yi x3), (4, yi x4)] [] (N, T, R, X)) := by
    intro m
    induction m with
    | zero => exact fun _ _ _ _ _ _ h => absurd h (Nat.not_lt_zero _)
    | succ m ih =>
      intro x1 x2 x3 x4 X kX hm iv
      refine e_li (i := 1) (x := x1) rfl fun _ _ => ?_
      refine e_li (i := 2) (x := x2) rfl fun _ _ => ?_
      refine e_li (i := 3) (x := x3) rfl fun _ _ => ?_
      refine e_li (i := 4) (x := x4) rfl fun _ _ => ?_
      refine B_139_52 hT hR ?_
      refine ⟨fun c1 => ?_, fun c1 => ?_⟩
      · exact hk _ _ kX trivial
      · refine w_103 (d := d + 3) hT hR   (fun I2 f4 q3 => ⟨_, rfl, rfl, ?_⟩)
        have k5 : ∀ k j, ¬ (67 ≤ k ∧ k < 89) → I2 k j = I k j := fun k j h => (f4 k j (by omega)).trans (kX k j h)
        refine w_63 (d := d + 5) hT hR (a_State68 hT hR) (by omega)  (fun I6 f8 q7 => ⟨_, rfl, rfl, ?_⟩)
        have k9 : ∀ k j, ¬ (67 ≤ k ∧ k < 89) → I6 k j = I k j := fun k j h => (f8 k j (by omega)).trans (k5 k j h)
        refine w_90 (d := d) hT hR   (fun r10 I11 f13 q12 => ⟨_, _, rfl, rfl, ?_⟩)
        have k14 : ∀ k j, ¬ (67 ≤ k ∧ k < 89) → I11 k j = I k j := fun k j h => (f13 k j (by omega)).trans (k9 k j h)
        refine ⟨fun c15 => ?_, fun c15 => ?_⟩
        · have a16 : yadd x4 1 = (x4 + 1) := yadd_eq (by omega) (by omega)
          try rw [a16]
          exact ih _ _ _ _ _ k14 (by omega) (by omega)
        · have a17 : yadd x3 1 = (x3 + 1) := yadd_eq (by omega) (by omega)
          try rw [a17]
          have a18 : yadd x4 1 = (x4 + 1) := yadd_eq (by omega) (by omega)
          try rw [a18]
          exact ih _ _ _ _ _ k14 (by omega) (by omega)
  refine e_li (i := 1) (x := x1) rfl fun _ _ => ?_
  refine e_li (i := 2) (x := x2) rfl fun _ _ => ?_
  refine B_139_0 hT hR ?_
  refine ⟨fun c19 => ?_, fun c19 => ?_⟩
  · exact hk _ _ k0 trivial
  · refine ⟨fun c20 => ?_, fun c20 => ?_⟩
    · exact hk _ _ k0 trivial
    · refine ⟨fun c21 => ?_, fun c21 => ?_⟩
      · refine w_103 (d := d + 3) hT hR   (fun I22 f24 q23 => ⟨_, rfl, rfl, ?_⟩)
        have k25 : ∀ k j, ¬ (67 ≤ k ∧ k < 89) → I22 k j = I k j := fun k j h => (f24 k j (by omega)).trans (k0 k j h)
        refine w_96 (d := d + 1) hT hR   (fun I26 f28 q27 => ⟨_, rfl, rfl, ?_⟩)
        have k29 : ∀ k j, ¬ (67 ≤ k ∧ k < 89) → I26 k j = I k j := fun k j h => (f28 k j (by omega)).trans (k25 k j h)
        exact (L _) _ _ _ _ _ k29 (Nat.lt_succ_self _) (by omega)
      · exact hk _ _ k0 trivial
/-- ChairAlley.oneWay()I -/
theorem w_141 (hT : yLT T) (hR : yLR R) (hk : ∀ r I', (∀ k j, ¬ (67 ≤ k ∧ k < 89) → I' k j = I k j) → (True) → K (some (yi r)) (N, T, R, I')) : yW l zSS D cy zFk z (d + 6) 141 bc bs K 0 0 0 [(0, yr (some 0))] [] (N, T, R, I) := by
  have k0 : ∀ k j, ¬ (67 ≤ k ∧ k < 89) → I k j = I k j := fun _ _ _ => rfl
  have L : ∀ m : Nat, (∀ x1 x2 x3 x4 : Int, ∀ X : Nat → Nat → Int, (∀ k j, ¬ (67 ≤ k ∧ k < 89) → X k j = I k j) → (10 * (100 - x4) + 8 : Int).toNat < m → (0 ≤ x4 ∧ x4 ≤ 100) → yW l zSS D cy zFk z (d + 6) 141 bc bs K 0 0 61 [(0, yr (some 0)), (1, yi x1), (2, yi x2), (3, yi x3), (4, yi x4)] [] (N, T, R, X)) ∧ (∀ x1 x2 x3 x4 x5 : Int, ∀ X : Nat → Nat → Int, (∀ k j, ¬ (67 ≤ k ∧ k < 89) → X k j = I k j) → (10 * (100 - x4) + (4 - x5) : Int).toNat < m → (0 ≤ x4 ∧ x4 < 100 ∧ 0 ≤ x5 ∧ x5 ≤ 4) → yW l zSS D cy zFk z (d + 6) 141 bc bs K 0 0 71 [(0, yr (some 0)), (1, yi x1), (2, yi x2), (3, yi x3), (4, yi x4), (5, yi x5)] [] (N, T, R, X)) := by
    intro m
    induction m with
    | zero => exact ⟨fun _ _ _ _ _ _ h => absurd h (Nat.not_lt_zero _), fun _ _ _ _ _ _ _ h => absurd h (Nat.not_lt_zero _)⟩
    | succ m ih =>
      refine ⟨?_, ?_⟩
      · intro x1 x2 x3 x4 X kX hm iv
        refine e_li (i := 1) (x := x1) rfl fun _ _ => ?_
        refine e_li (i := 2) (x := x2) rfl fun _ _ => ?_
        refine e_li (i := 3) (x := x3) rfl fun _ _ => ?_
        refine e_li (i := 4) (x := x4) rfl fun _ _ => ?_
        refine B_141_61 hT hR ?_
        refine ⟨fun c1 => ?_, fun c1 => ?_⟩
        · exact hk _ _ kX trivial
        · exact ih.2 _ _ _ _ _ _ kX (by omega) (by omega)
      · intro x1 x2 x3 x4 x5 X kX hm iv
        refine e_li (i := 1) (x := x1) rfl fun _ _ => ?_
        refine e_li (i := 2) (x := x2) rfl fun _ _ => ?_
        refine e_li (i := 3) (x := x3) rfl fun _ _ => ?_
        refine e_li (i := 4) (x := x4) rfl fun _ _ => ?_
        refine e_li (i := 5) (x := x5) rfl fun _ _ => ?_
        refine B_141_71 hT hR ?_
        refine ⟨fun c2 => ?_, fun c2 => ?_⟩
        · have a3 : yadd x4 1 = (x4 + 1) := yadd_eq (by omega) (by omega)
          try rw [a3]
          exact ih.1 _ _ _ _ _ kX (by omega) (by omega)
        · refine w_135 (d := d + 4) hT hR   (fun r4 q5 => ⟨_, _, rfl, rfl, ?_⟩)
          refine ⟨fun c7 => ?_, fun c7 => ?_⟩
          · have a8 : yadd x4 1 = (x4 + 1) := yadd_eq (by omega) (by omega)
            try rw [a8]
            exact ih.1 _ _ _ _ _ kX (by omega) (by omega)
          · refine w_102 (d := d + 3) hT hR   (fun I9 f11 q10 => ⟨_, rfl, rfl, ?_⟩)
            have k12 : ∀ k j, ¬ (67 ≤ k ∧ k < 89) → I9 k j = I k j := fun k j h => (f11 k j (by omega)).trans (kX k j h)
            refine ⟨by omega, by omega, ?_⟩
            intro I13 e14
            have k15 : ∀ k j, ¬ (67 ≤ k ∧ k < 89) → I13 k j = I k j := fun k j h => ((congrFun (congrFun e14 k) j).trans (yU_ne _ _ (by omega))).trans (k12 k j h)
            refine w_96 (d := d + 1) hT hR   (fun I16 f18 q17 => ⟨_, rfl, rfl, ?_⟩)
            have k19 : ∀ k j, ¬ (67 ≤ k ∧ k < 89) → I16 k j = I k j := fun k j h => (f18 k j (by omega)).trans (k15 k j h)
            refine w_89 (d := d) hT hR   (fun I20 f22 q21 => ⟨_, rfl, rfl, ?_⟩)
            have k23 : ∀ k j, ¬ (67 ≤ k ∧ k < 89) → I20 k j = I k j := fun k j h => (f22 k j (by omega)).trans (k19 k j h)
            refine w_93 (d := d + 4) hT hR   (fun r24 q25 => ⟨_, _, rfl, rfl, ?_⟩)
            refine w_105 (d := d + 4) hT hR   (fun r27 q28 => ⟨_, _, rfl, rfl, ?_⟩)
            refine ⟨fun c30 => ?_, fun c30 => ?_⟩
            · have a31 : ymul 10 x4 = (10 * x4) := ymul_eq (by omega) (by omega)
              try rw [a31]
              have a32 : yadd (10 * x4) x5 = ((10 * x4) + x5) := yadd_eq (by omega) (by omega)
              try rw [a32]
              have a33 : yadd x5 1 = (x5 + 1) := yadd_eq (by omega) (by omega)
              try rw [a33]
              exact ih.2 _ _ _ _ _ _ k23 (by omega) (by omega)
            · refine ⟨fun c34 => ?_, fun c34 => ?_⟩
              · have a35 : yadd x5 1 = (x5 + 1) := yadd_eq (by omega) (by omega)
                try rw [a35]
                exact ih.2 _ _ _ _ _ _ k23 (by omega) (by omega)
              · refine ⟨fun c36 => ?_, fun c36 => ?_⟩
                · have a37 : yadd x5 1 = (x5 + 1) := yadd_eq (by omega) (by omega)
                  try rw [a37]
                  exact ih.2 _ _ _ _ _ _ k23 (by omega) (by omega)
                · have a38 : ymul 10 x4 = (10 * x4) := ymul_eq (by omega) (by omega)
                  try rw [a38]
                  have a39 : yadd (10 * x4) x5 = ((10 * x4) + x5) := yadd_eq (by omega) (by omega)
                  try rw [a39]
                  have a40 : yadd x5 1 = (x5 + 1) := yadd_eq (by omega) (by omega)
                  try rw [a40]
                  exact ih.2 _ _ _ _ _ _ k23 (by omega) (by omega)
  refine B_141_0 hT hR ?_
  refine w_125 (d := d + 4) hT hR   (fun r41 q42 => ⟨_, _, rfl, rfl, ?_⟩)
  refine ⟨fun c44 => ?_, fun c44 => ?_⟩
  · refine w_102 (d := d + 3) hT hR   (fun I45 f47 q46 => ⟨_, rfl, rfl, ?_⟩)
    have k48 : ∀ k j, ¬ (67 ≤ k ∧ k < 89) → I45 k j = I k j := fun k j h => (f47 k j (by omega)).trans (k0 k j h)
    refine w_96 (d := d + 1) hT hR   (fun I49 f51 q50 => ⟨_, rfl, rfl, ?_⟩)
    have k52 : ∀ k j, ¬ (67 ≤ k ∧ k < 89) → I49 k j = I k j := fun k j h => (f51 k j (by omega)).trans (k48 k j h)
    refine w_89 (d := d) hT hR   (fun I53 f55 q54 => ⟨_, rfl, rfl, ?_⟩)
    have k56 : ∀ k j, ¬ (67 ≤ k ∧ k < 89) → I53 k j = I k j := fun k j h => (f55 k j (by omega)).trans (k52 k j h)
    refine w_93 (d := d + 4) hT hR   (fun r57 q58 => ⟨_, _, rfl, rfl, ?_⟩)
    refine w_105 (d := d + 4) hT hR   (fun r60 q61 => ⟨_, _, rfl, rfl, ?_⟩)
    exact (L _).1 _ _ _ _ _ k56 (Nat.lt_succ_self _) (by omega)
  · exact hk _ _ k0 trivial
/-- ChairAlley.order(I)I -/
theorem w_142 (hT : yLT T) (hR : yLR R) {x1 : Int} (hk : ∀ r I', (∀ k j, ¬ (67 ≤ k ∧ k < 89) → I' k j = I k j) → (True) → K (some (yi r)) (N, T, R, I')) : yW l zSS D cy zFk z (d + 3) 142 bc bs K 0 0 0 [(0, yr (some 0)), (1, yi x1)] [] (N, T, R, I) := by
  have k0 : ∀ k j, ¬ (67 ≤ k ∧ k < 89) → I k j = I k j := fun _ _ _ => rfl
  refine e_li (i := 1) (x := x1) rfl fun _ _ => ?_
  refine B_142_0 hT hR ?_
  refine w_11 (d := d + 2) hT hR (a_Land4 hT hR)  (fun r1 q2 => ⟨_, _, rfl, rfl, ?_⟩)
  refine ⟨fun c4 => ?_, fun c4 => ?_⟩
  · refine w_102 (d := d) hT hR   (fun I5 f7 q6 => ⟨_, rfl, rfl, ?_⟩)
    have k8 : ∀ k j, ¬ (67 ≤ k ∧ k < 89) → I5 k j = I k j := fun k j h => (f7 k j (by omega)).trans (k0 k j h)
    refine w_100 (d := d) hT hR   (fun I9 f11 q10 => ⟨_, rfl, rfl, ?_⟩)
    have k12 : ∀ k j, ¬ (67 ≤ k ∧ k < 89) → I9 k j = I k j := fun k j h => (f11 k j (by omega)).trans (k8 k j h)
    refine ⟨by omega, by omega, ?_⟩
    exact hk _ _ k12 trivial
  · exact hk _ _ k0 trivial
/-- ChairAlley.plan()I -/
theorem w_143 (hT : yLT T) (hR : yLR R) (h0 : 0 ≤ I 1 1 ∧ I 1 1 ≤ 940) (hk : ∀ r I', (∀ k j, ¬ (k = 1 ∨ k = 29 ∨ k = 30 ∨ k = 61 ∨ k = 62) → I' k j = I k j) → (I' 1 1 = 0) → K (some (yi r)) (N, T, R, I')) : yW l zSS D cy zFk z (d + 9) 143 bc bs K 0 0 0 [(0, yr (some 0))] [] (N, T, R, I) := by
  have k0 : ∀ k j, ¬ (k = 1 ∨ k = 29 ∨ k = 30 ∨ k = 61 ∨ k = 62) → I k j = I k j := fun _ _ _ => rfl
  refine B_143_0 hT hR ?_
  refine w_40 (d := d + 2) hT hR  (by omega) (fun I1 f3 q2 => ⟨_, rfl, rfl, ?_⟩)
  have k4 : ∀ k j, ¬ (k = 1 ∨ k = 29 ∨ k = 30 ∨ k = 61 ∨ k = 62) → I1 k j = I k j := fun k j h => (f3 k j (by omega)).trans (k0 k j h)
  first | have tI1_1_1 := f3 1 1 (by omega) | skip
  first | have tI1_1_3 := f3 1 3 (by omega) | skip
  refine w_28 (d := d) hT hR (a_Plan61 hT hR) (by omega) (by omega) (fun r5 I6 f8 q7 => ⟨_, _, rfl, rfl, ?_⟩)
  have k9 : ∀ k j, ¬ (k = 1 ∨ k = 29 ∨ k = 30 ∨ k = 61 ∨ k = 62) → I6 k j = I k j := fun k j h => (f8 k j (by omega)).trans (k4 k j h)
  first | have tI6_1_1 := f8 1 1 (by omega) | skip
  first | have tI6_1_3 := f8 1 3 (by omega) | skip
  intro I10 e11
  have k12 : ∀ k j, ¬ (k = 1 ∨ k = 29 ∨ k = 30 ∨ k = 61 ∨ k = 62) → I10 k j = I k j := fun k j h => ((congrFun (congrFun e11 k) j).trans (yU_ne _ _ (by omega))).trans (k9 k j h)
  have tI10_1_1 := (congrFun (congrFun e11 1) 1).trans (yU_eq _ _ _ _)
  first | have tI10_1_3 : I10 1 3 = I6 1 3 := (congrFun (congrFun e11 1) 3).trans (yU_ne _ _ (by omega)) | skip
  refine ⟨fun c13 => ?_, fun c13 => ?_⟩
  · refine w_27 (d := d + 7) hT hR (a_Plan29 hT hR) (by omega) (a_Plan61 hT hR) (by omega)  (fun I14 f16 q15 => ⟨_, rfl, rfl, ?_⟩)
    have k17 : ∀ k j, ¬ (k = 1 ∨ k = 29 ∨ k = 30 ∨ k = 61 ∨ k = 62) → I14 k j = I k j := fun k j h => (f16 k j (by omega)).trans (k12 k j h)
    first | have tI14_1_1 := f16 1 1 (by omega) | skip
    first | have tI14_1_3 := f16 1 3 (by omega) | skip
    exact hk _ _ k17 (by omega)
  · exact hk _ _ k12 (by omega)
/-- ChairAlley.said(I)I -/
theorem w_145 (hT : yLT T) (hR : yLR R) (hB : ∀ j, j < 8 → I 14 j = 0 ∨ I 14 j = 1) {x1 : Int} (hk : ∀ r, (True) → K (some (yi r)) (N, T, R, I)) : yW l zSS D cy zFk z (d + 4) 145 bc bs K 0 0 0 [(0, yr (some 0)), (1, yi x1)] [] (N, T, R, I) := by
  have L : ∀ m : Nat, (∀ x1 x2 x3 : Int, (8 - x3 : Int).toNat < m → (0 ≤ x3 ∧ x3 ≤ 8 ∧ 0 ≤ x2 ∧ x2 ≤ x3) → yW l zSS D cy zFk z (d + 4) 145 bc bs K 0 0 24 [(0, yr (some 0)), (1, yi x1), (2, yi x2), (3, yi x3)] [] (N, T, R, I)) := by
    intro m
    induction m with
    | zero => exact fun _ _ _ h => absurd h (Nat.not_lt_zero _)
    | succ m ih =>
      intro x1 x2 x3  hm iv
      refine e_li (i := 1) (x := x1) rfl fun _ _ => ?_
      refine e_li (i := 2) (x := x2) rfl fun _ _ => ?_
      refine e_li (i := 3) (x := x3) rfl fun _ _ => ?_
      refine B_145_24 hT hR ?_
      refine ⟨fun c1 => ?_, fun c1 => ?_⟩
      · refine ⟨fun c2 => ?_, fun c2 => ?_⟩
        · exact hk _ trivial
        · exact hk _ trivial
      · refine ⟨fun c3 => ?_, fun c3 => ?_⟩
        · refine ⟨fun c4 => ?_, fun c4 => ?_⟩
          · exact hk _ trivial
          · exact hk _ trivial
        · refine w_49 (d := d) hT hR (a_Sentence31 hT hR) hB  (fun r5 q6 => ⟨_, _, rfl, rfl, ?_⟩)
          refine ⟨fun c8 => ?_, fun c8 => ?_⟩
          · have a9 : yadd x3 1 = (x3 + 1) := yadd_eq (by omega) (by omega)
            try rw [a9]
            exact ih _ _ _ (by omega) (by omega)
          · refine ⟨fun c10 => ?_, fun c10 => ?_⟩
            · have a11 : yadd x2 1 = (x2 + 1) := yadd_eq (by omega) (by omega)
              try rw [a11]
              have a12 : yadd x3 1 = (x3 + 1) := yadd_eq (by omega) (by omega)
              try rw [a12]
              exact ih _ _ _ (by omega) (by omega)
            · exact hk _ trivial
  refine e_li (i := 1) (x := x1) rfl fun _ _ => ?_
  refine B_145_0 hT hR ?_
  refine ⟨fun c13 => ?_, fun c13 => ?_⟩
  · exact hk _ trivial
  · refine ⟨fun c14 => ?_, fun c14 => ?_⟩
    · exact (L _) _ _ _ (Nat.lt_succ_self _) (by omega)
    · exact hk _ trivial
/-- ChairAlley.way(II)I -/
theorem w_152 (hT : yLT T) (hR : yLR R) {x1 x2 : Int} (hk : ∀ r I', (∀ k j, ¬ (85 ≤ k ∧ k < 89) → I' k j = I k j) → (True) → K (some (yi r)) (N, T, R, I')) : yW l zSS D cy zFk z (d + 4) 152 bc bs K 0 0 0 [(0, yr (some 0)), (1, yi x1), (2, yi x2)] [] (N, T, R, I) := by
  have k0 : ∀ k j, ¬ (85 ≤ k ∧ k < 89) → I k j = I k j := fun _ _ _ => rfl
  refine e_li (i := 1) (x := x1) rfl fun _ _ => ?_
  refine e_li (i := 2) (x := x2) rfl fun _ _ => ?_
  refine B_152_0 hT hR ?_
  refine w_10 (d := d + 3) hT hR (a_Land4 hT hR)  (fun r1 q2 => ⟨_, _, rfl, rfl, ?_⟩)
  refine ⟨fun c4 => ?_, fun c4 => ?_⟩
  · exact hk _ _ k0 trivial
  · refine w_10 (d := d + 3) hT hR (a_Land4 hT hR)  (fun r5 q6 => ⟨_, _, rfl, rfl, ?_⟩)
    refine ⟨fun c8 => ?_, fun c8 => ?_⟩
    · refine w_109 (d := d) hT hR (hT 17 rfl)  (fun I9 f11 q10 => ⟨_, rfl, rfl, ?_⟩)
      have k12 : ∀ k j, ¬ (85 ≤ k ∧ k < 89) → I9 k j = I k j := fun k j h => (f11 k j (by omega)).trans (k0 k j h)
      refine ⟨by omega, by omega, ?_⟩
      exact hk _ _ k12 trivial
    · exact hk _ _ k0 trivial
/-- ChairAlley.when(I)I -/
theorem w_153 (hT : yLT T) (hR : yLR R) {x1 : Int} (hk : ∀ r I', (∀ k j, ¬ (67 ≤ k ∧ k < 89) → I' k j = I k j) → (True) → K (some (yi r)) (N, T, R, I')) : yW l zSS D cy zFk z (d + 6) 153 bc bs K 0 0 0 [(0, yr (some 0)), (1, yi x1)] [] (N, T, R, I) := by
  have k0 : ∀ k j, ¬ (67 ≤ k ∧ k < 89) → I k j = I k j := fun _ _ _ => rfl
  refine e_li (i := 1) (x := x1) rfl fun _ _ => ?_
  refine B_153_0 hT hR ?_
  refine w_127 (d := d + 4) hT hR   (fun r1 q2 => ⟨_, _, rfl, rfl, ?_⟩)
  refine ⟨fun c4 => ?_, fun c4 => ?_⟩
  · refine w_102 (d := d + 3) hT hR   (fun I5 f7 q6 => ⟨_, rfl, rfl, ?_⟩)
    have k8 : ∀ k j, ¬ (67 ≤ k ∧ k < 89) → I5 k j = I k j := fun k j h => (f7 k j (by omega)).trans (k0 k j h)
    refine w_96 (d := d + 1) hT hR   (fun I9 f11 q10 => ⟨_, rfl, rfl, ?_⟩)
    have k12 : ∀ k j, ¬ (67 ≤ k ∧ k < 89) → I9 k j = I k j := fun k j h => (f11 k j (by omega)).trans (k8 k j h)
    refine w_89 (d := d) hT hR   (fun I13 f15 q14 => ⟨_, rfl, rfl, ?_⟩)
    have k16 : ∀ k j, ¬ (67 ≤ k ∧ k < 89) → I13 k j = I k j := fun k j h => (f15 k j (by omega)).trans (k12 k j h)
    refine w_106 (d := d + 5) hT hR   (fun r17 q18 => ⟨_, _, rfl, rfl, ?_⟩)
    exact hk _ _ k16 trivial
  · exact hk _ _ k0 trivial
end Sw
