/-! CONTRACTS of the class, printed by wip/whole/y/t3.py (94.w3) -/
section Sw
variable {l : Launch} {D : va_G} {cy : Nat → ClassId} {z d bc bs N : Nat} {T : Nat → Nat × Nat} {R : Nat → Nat → Option Nat} {I : Nat → Nat → Int} {K : yKo}
/-- ChairAlley$Walk.hasRoom(I)Z -/
theorem w_91 (hT : yLT T) (hR : yLR R) {x1 : Int} (hk : ∀ r, (r = 0 ∨ r = 1) → K (some (yi r)) (N, T, R, I)) : yW l zSS D cy zFk z (d + 1) 91 bc bs K 0 0 0 [(0, yr (some 67)), (1, yi x1)] [] (N, T, R, I) := by
  refine e_li (i := 1) (x := x1) rfl fun _ _ => ?_
  refine B_91_0 hT hR ?_
  refine w_59 (d := d) hT hR (a_State68 hT hR)  (fun r1 q2 => ⟨_, _, rfl, rfl, ?_⟩)
  refine w_12 (d := d) hT hR (a_Land4 hT hR)  (fun r4 q5 => ⟨_, _, rfl, rfl, ?_⟩)
  refine ⟨fun c7 => ?_, fun c7 => ?_⟩
  · refine ⟨fun c8 => ?_, fun c8 => ?_⟩
    · exact hk _ (by omega)
    · exact hk _ (by omega)
  · refine ⟨fun c9 => ?_, fun c9 => ?_⟩
    · exact hk _ (by omega)
    · exact hk _ (by omega)
/-- ChairAlley$Walk.canBePushed(II)Z -/
theorem w_85 (hT : yLT T) (hR : yLR R) {x1 x2 : Int} (hk : ∀ r, (r = 0 ∨ r = 1) → K (some (yi r)) (N, T, R, I)) : yW l zSS D cy zFk z (d + 2) 85 bc bs K 0 0 0 [(0, yr (some 67)), (1, yi x1), (2, yi x2)] [] (N, T, R, I) := by
  refine e_li (i := 1) (x := x1) rfl fun _ _ => ?_
  refine e_li (i := 2) (x := x2) rfl fun _ _ => ?_
  refine B_85_0 hT hR ?_
  refine ⟨fun c1 => ?_, fun c1 => ?_⟩
  · exact hk _ (by omega)
  · refine ⟨fun c2 => ?_, fun c2 => ?_⟩
    · exact hk _ (by omega)
    · refine ⟨fun c3 => ?_, fun c3 => ?_⟩
      · exact hk _ (by omega)
      · refine ⟨fun c4 => ?_, fun c4 => ?_⟩
        · refine ⟨by omega, by omega, ?_⟩
          refine ⟨fun c5 => ?_, fun c5 => ?_⟩
          · exact hk _ (by omega)
          · refine ⟨by omega, by omega, ?_⟩
            refine ⟨fun c6 => ?_, fun c6 => ?_⟩
            · refine ⟨by omega, by omega, ?_⟩
              refine ⟨by omega, by omega, ?_⟩
              refine ⟨fun c7 => ?_, fun c7 => ?_⟩
              · exact hk _ (by omega)
              · refine ⟨by omega, by omega, ?_⟩
                refine w_91 (d := d) hT hR   (fun r8 q9 => ⟨_, _, rfl, rfl, ?_⟩)
                refine ⟨fun c11 => ?_, fun c11 => ?_⟩
                · exact hk _ (by omega)
                · exact hk _ (by omega)
            · exact hk _ (by omega)
        · exact hk _ (by omega)
/-- ChairAlley$Walk.isBoundFor(II)Z -/
theorem w_92 (hT : yLT T) (hR : yLR R) {x1 x2 : Int} (hk : ∀ r, (r = 0 ∨ r = 1) → K (some (yi r)) (N, T, R, I)) : yW l zSS D cy zFk z (d + 2) 92 bc bs K 0 0 0 [(0, yr (some 67)), (1, yi x1), (2, yi x2)] [] (N, T, R, I) := by
  refine e_li (i := 1) (x := x1) rfl fun _ _ => ?_
  refine e_li (i := 2) (x := x2) rfl fun _ _ => ?_
  refine B_92_0 hT hR ?_
  refine ⟨fun c1 => ?_, fun c1 => ?_⟩
  · exact hk _ (by omega)
  · refine ⟨fun c2 => ?_, fun c2 => ?_⟩
    · exact hk _ (by omega)
    · refine ⟨by omega, by omega, ?_⟩
      refine w_108 (d := d) hT hR   (fun r3 q4 => ⟨_, _, rfl, rfl, ?_⟩)
      refine ⟨fun c6 => ?_, fun c6 => ?_⟩
      · exact hk _ (by omega)
      · exact hk _ (by omega)
/-- ChairAlley$Walk.whenThere(I)I -/
theorem w_106 (hT : yLT T) (hR : yLR R) {x1 : Int} (hk : ∀ r, (True) → K (some (yi r)) (N, T, R, I)) : yW l zSS D cy zFk z d 106 bc bs K 0 0 0 [(0, yr (some 67)), (1, yi x1)] [] (N, T, R, I) := by
  refine e_li (i := 1) (x := x1) rfl fun _ _ => ?_
  refine B_106_0 hT hR ?_
  refine ⟨fun c1 => ?_, fun c1 => ?_⟩
  · exact hk _ trivial
  · refine ⟨fun c2 => ?_, fun c2 => ?_⟩
    · exact hk _ trivial
    · refine ⟨by omega, by omega, ?_⟩
      refine ⟨fun c3 => ?_, fun c3 => ?_⟩
      · refine ⟨by omega, by omega, ?_⟩
        exact hk _ trivial
      · exact hk _ trivial
/-- ChairAlley$Walk.lastThere()I -/
theorem w_93 (hT : yLT T) (hR : yLR R) (hk : ∀ r, (True) → K (some (yi r)) (N, T, R, I)) : yW l zSS D cy zFk z (d + 1) 93 bc bs K 0 0 0 [(0, yr (some 67))] [] (N, T, R, I) := by
  have L : ∀ m : Nat, (∀ x1 x2 : Int, (8 - x2 : Int).toNat < m → (0 ≤ x2 ∧ x2 ≤ 8) → yW l zSS D cy zFk z (d + 1) 93 bc bs K 0 0 4 [(0, yr (some 67)), (1, yi x1), (2, yi x2)] [] (N, T, R, I)) := by
    intro m
    induction m with
    | zero => exact fun _ _ h => absurd h (Nat.not_lt_zero _)
    | succ m ih =>
      intro x1 x2  hm iv
      refine e_li (i := 1) (x := x1) rfl fun _ _ => ?_
      refine e_li (i := 2) (x := x2) rfl fun _ _ => ?_
      refine B_93_4 hT hR ?_
      refine ⟨fun c1 => ?_, fun c1 => ?_⟩
      · exact hk _ trivial
      · refine ⟨fun c2 => ?_, fun c2 => ?_⟩
        · exact hk _ trivial
        · refine w_106 (d := d) hT hR   (fun r3 q4 => ⟨_, _, rfl, rfl, ?_⟩)
          have a6 := ymax_cs x1 r3
          have a7 : yadd x2 1 = (x2 + 1) := yadd_eq (by omega) (by omega)
          try rw [a7]
          exact ih _ _ (by omega) (by omega)
  refine B_93_0 hT hR ?_
  exact (L _) _ _ (Nat.lt_succ_self _) (by omega)
/-- ChairAlley$Walk.latestOn(I)I -/
theorem w_94 (hT : yLT T) (hR : yLR R) {x1 : Int} (hk : ∀ r, (True) → K (some (yi r)) (N, T, R, I)) : yW l zSS D cy zFk z d 94 bc bs K 0 0 0 [(0, yr (some 67)), (1, yi x1)] [] (N, T, R, I) := by
  have L : ∀ m : Nat, (∀ x1 x2 x3 : Int, (8 - x3 : Int).toNat < m → (0 ≤ x3 ∧ x3 ≤ 8 ∧ -1 ≤ x2 ∧ x2 < 8) → yW l zSS D cy zFk z d 94 bc bs K 0 0 4 [(0, yr (some 67)), (1, yi x1), (2, yi x2), (3, yi x3)] [] (N, T, R, I)) := by
    intro m
    induction m with
    | zero => exact fun _ _ _ h => absurd h (Nat.not_lt_zero _)
    | succ m ih =>
      intro x1 x2 x3  hm iv
      refine e_li (i := 1) (x := x1) rfl fun _ _ => ?_
      refine e_li (i := 2) (x := x2) rfl fun _ _ => ?_
      refine e_li (i := 3) (x := x3) rfl fun _ _ => ?_
      refine B_94_4 hT hR ?_
      refine ⟨fun c1 => ?_, fun c1 => ?_⟩
      · exact hk _ trivial
      · refine ⟨fun c2 => ?_, fun c2 => ?_⟩
        · exact hk _ trivial
        · refine ⟨by omega, by omega, ?_⟩
          refine ⟨fun c3 => ?_, fun c3 => ?_⟩
          · have a4 : yadd x3 1 = (x3 + 1) := yadd_eq (by omega) (by omega)
            try rw [a4]
            exact ih _ _ _ (by omega) (by omega)
          · refine ⟨fun c5 => ?_, fun c5 => ?_⟩
            · have a6 : yadd x3 1 = (x3 + 1) := yadd_eq (by omega) (by omega)
              try rw [a6]
              exact ih _ _ _ (by omega) (by omega)
            · refine ⟨by omega, by omega, ?_⟩
              refine ⟨by omega, by omega, ?_⟩
              refine ⟨fun c7 => ?_, fun c7 => ?_⟩
              · have a8 : yadd x3 1 = (x3 + 1) := yadd_eq (by omega) (by omega)
                try rw [a8]
                exact ih _ _ _ (by omega) (by omega)
              · have a9 : yadd x3 1 = (x3 + 1) := yadd_eq (by omega) (by omega)
                try rw [a9]
                exact ih _ _ _ (by omega) (by omega)
  refine e_li (i := 1) (x := x1) rfl fun _ _ => ?_
  refine B_94_0 hT hR ?_
  exact (L _) _ _ _ (Nat.lt_succ_self _) (by omega)
/-- ChairAlley$Walk.leaveIfThere(I)V -/
theorem w_95 (hT : yLT T) (hR : yLR R) {x1 : Int} (hk : ∀ I', (∀ k j, ¬ (67 ≤ k ∧ k < 89) → I' k j = I k j) → (True) → K none (N, T, R, I')) : yW l zSS D cy zFk z d 95 bc bs K 0 0 0 [(0, yr (some 67)), (1, yi x1)] [] (N, T, R, I) := by
  have k0 : ∀ k j, ¬ (67 ≤ k ∧ k < 89) → I k j = I k j := fun _ _ _ => rfl
  refine e_li (i := 1) (x := x1) rfl fun _ _ => ?_
  refine B_95_0 hT hR ?_
  refine ⟨fun c1 => ?_, fun c1 => ?_⟩
  · exact hk _ k0 trivial
  · refine ⟨fun c2 => ?_, fun c2 => ?_⟩
    · exact hk _ k0 trivial
    · refine ⟨by omega, by omega, ?_⟩
      refine ⟨fun c3 => ?_, fun c3 => ?_⟩
      · exact hk _ k0 trivial
      · refine ⟨by omega, by omega, ?_⟩
        refine ⟨by omega, by omega, ?_⟩
        refine ⟨fun c4 => ?_, fun c4 => ?_⟩
        · exact hk _ k0 trivial
        · refine ⟨by omega, by omega, ?_⟩
          intro I5 e6
          have k7 : ∀ k j, ¬ (67 ≤ k ∧ k < 89) → I5 k j = I k j := fun k j h => ((congrFun (congrFun e6 k) j).trans (yU_ne _ _ (by omega))).trans (k0 k j h)
          refine ⟨by omega, by omega, ?_⟩
          intro I8 e9
          have k10 : ∀ k j, ¬ (67 ≤ k ∧ k < 89) → I8 k j = I k j := fun k j h => ((congrFun (congrFun e9 k) j).trans (yU_ne _ _ (by omega))).trans (k7 k j h)
          exact hk _ k10 trivial
/-- ChairAlley$Walk.noteStairs(I)V -/
theorem w_97 (hT : yLT T) (hR : yLR R) {x1 : Int} (hk : ∀ I', (∀ k j, ¬ (67 ≤ k ∧ k < 89) → I' k j = I k j) → (True) → K none (N, T, R, I')) : yW l zSS D cy zFk z (d + 1) 97 bc bs K 0 0 0 [(0, yr (some 67)), (1, yi x1)] [] (N, T, R, I) := by
  have k0 : ∀ k j, ¬ (67 ≤ k ∧ k < 89) → I k j = I k j := fun _ _ _ => rfl
  refine e_li (i := 1) (x := x1) rfl fun _ _ => ?_
  refine B_97_0 hT hR ?_
  refine ⟨fun c1 => ?_, fun c1 => ?_⟩
  · exact hk _ k0 trivial
  · refine ⟨fun c2 => ?_, fun c2 => ?_⟩
    · exact hk _ k0 trivial
    · refine ⟨by omega, by omega, ?_⟩
      refine w_12 (d := d) hT hR (a_Land4 hT hR)  (fun r3 q4 => ⟨_, _, rfl, rfl, ?_⟩)
      refine ⟨fun c6 => ?_, fun c6 => ?_⟩
      · exact hk _ k0 trivial
      · refine ⟨by omega, by omega, ?_⟩
        intro I7 e8
        have k9 : ∀ k j, ¬ (67 ≤ k ∧ k < 89) → I7 k j = I k j := fun k j h => ((congrFun (congrFun e8 k) j).trans (yU_ne _ _ (by omega))).trans (k0 k j h)
        exact hk _ k9 trivial
/-- ChairAlley$Walk.noteTurn(II)V -/
theorem w_98 (hT : yLT T) (hR : yLR R) {x1 x2 : Int} (hk : ∀ I', (∀ k j, ¬ (67 ≤ k ∧ k < 89) → I' k j = I k j) → (True) → K none (N, T, R, I')) : yW l zSS D cy zFk z d 98 bc bs K 0 0 0 [(0, yr (some 67)), (1, yi x1), (2, yi x2)] [] (N, T, R, I) := by
  have k0 : ∀ k j, ¬ (67 ≤ k ∧ k < 89) → I k j = I k j := fun _ _ _ => rfl
  refine e_li (i := 1) (x := x1) rfl fun _ _ => ?_
  refine e_li (i := 2) (x := x2) rfl fun _ _ => ?_
  refine B_98_0 hT hR ?_
  refine ⟨fun c1 => ?_, fun c1 => ?_⟩
  · exact hk _ k0 trivial
  · refine ⟨fun c2 => ?_, fun c2 => ?_⟩
    · exact hk _ k0 trivial
    · refine ⟨by omega, by omega, ?_⟩
      intro I3 e4
      have k5 : ∀ k j, ¬ (67 ≤ k ∧ k < 89) → I3 k j = I k j := fun k j h => ((congrFun (congrFun e4 k) j).trans (yU_ne _ _ (by omega))).trans (k0 k j h)
      exact hk _ k5 trivial
/-- ChairAlley$Walk.pushBack(I)V -/
theorem w_99 (hT : yLT T) (hR : yLR R) {x1 : Int} (hk : ∀ I', (∀ k j, ¬ (67 ≤ k ∧ k < 89) → I' k j = I k j) → (True) → K none (N, T, R, I')) : yW l zSS D cy zFk z (d + 2) 99 bc bs K 0 0 0 [(0, yr (some 67)), (1, yi x1)] [] (N, T, R, I) := by
  have k0 : ∀ k j, ¬ (67 ≤ k ∧ k < 89) → I k j = I k j := fun _ _ _ => rfl
  refine e_li (i := 1) (x := x1) rfl fun _ _ => ?_
  refine B_99_0 hT hR ?_
  refine ⟨fun c1 => ?_, fun c1 => ?_⟩
  · exact hk _ k0 trivial
  · refine ⟨fun c2 => ?_, fun c2 => ?_⟩
    · refine ⟨by omega, by omega, ?_⟩
      intro I3 e4
      have k5 : ∀ k j, ¬ (67 ≤ k ∧ k < 89) → I3 k j = I k j := fun k j h => ((congrFun (congrFun e4 k) j).trans (yU_ne _ _ (by omega))).trans (k0 k j h)
      refine ⟨by omega, by omega, ?_⟩
      refine ⟨by omega, by omega, ?_⟩
      intro I6 e7
      have k8 : ∀ k j, ¬ (67 ≤ k ∧ k < 89) → I6 k j = I k j := fun k j h => ((congrFun (congrFun e7 k) j).trans (yU_ne _ _ (by omega))).trans (k5 k j h)
      refine ⟨by omega, by omega, ?_⟩
      refine ⟨by omega, by omega, ?_⟩
      intro I9 e10
      have k11 : ∀ k j, ¬ (67 ≤ k ∧ k < 89) → I9 k j = I k j := fun k j h => ((congrFun (congrFun e10 k) j).trans (yU_ne _ _ (by omega))).trans (k8 k j h)
      refine ⟨by omega, by omega, ?_⟩
      intro I12 e13
      have k14 : ∀ k j, ¬ (67 ≤ k ∧ k < 89) → I12 k j = I k j := fun k j h => ((congrFun (congrFun e13 k) j).trans (yU_ne _ _ (by omega))).trans (k11 k j h)
      refine w_97 (d := d) hT hR   (fun I15 f17 q16 => ⟨_, rfl, rfl, ?_⟩)
      have k18 : ∀ k j, ¬ (67 ≤ k ∧ k < 89) → I15 k j = I k j := fun k j h => (f17 k j (by omega)).trans (k14 k j h)
      exact hk _ k18 trivial
    · exact hk _ k0 trivial
/-- ChairAlley$Walk.sortByPrecedence()V -/
theorem w_100 (hT : yLT T) (hR : yLR R) (hk : ∀ I', (∀ k j, ¬ (67 ≤ k ∧ k < 89) → I' k j = I k j) → (True) → K none (N, T, R, I')) : yW l zSS D cy zFk z (d + 2) 100 bc bs K 0 0 0 [(0, yr (some 67))] [] (N, T, R, I) := by
  have k0 : ∀ k j, ¬ (67 ≤ k ∧ k < 89) → I k j = I k j := fun _ _ _ => rfl
  have L : ∀ m : Nat, (∀ x1 : Int, ∀ X : Nat → Nat → Int, (∀ k j, ¬ (67 ≤ k ∧ k < 89) → X k j = I k j) → (20 * (8 - x1) + 10 : Int).toNat < m → (0 ≤ x1 ∧ x1 ≤ 8) → yW l zSS D cy zFk z (d + 2) 100 bc bs K 0 0 2 [(0, yr (some 67)), (1, yi x1)] [] (N, T, R, X)) ∧ (∀ x1 x2 x4 : Int, ∀ X : Nat → Nat → Int, (∀ k j, ¬ (67 ≤ k ∧ k < 89) → X k j = I k j) → (20 * (8 - x1) + x4 : Int).toNat < m → (0 ≤ x1 ∧ x1 < 8 ∧ 0 ≤ x4 ∧ x4 ≤ x1) → yW l zSS D cy zFk z (d + 2) 100 bc bs K 0 0 35 [(0, yr (some 67)), (1, yi x1), (2, yj x2), (4, yi x4)] [] (N, T, R, X)) := by
    intro m
    induction m with
    | zero => exact ⟨fun _ _ _ h => absurd h (Nat.not_lt_zero _), fun _ _ _ _ _ h => absurd h (Nat.not_lt_zero _)⟩
    | succ m ih =>
      refine ⟨?_, ?_⟩
      · intro x1 X kX hm iv
        refine e_li (i := 1) (x := x1) rfl fun _ _ => ?_
        refine B_100_2 hT hR ?_
        refine ⟨fun c1 => ?_, fun c1 => ?_⟩
        · exact hk _ kX trivial
        · refine ⟨fun c2 => ?_, fun c2 => ?_⟩
          · exact hk _ kX trivial
          · refine w_66 (d := d) hT hR (a_State68 hT hR)  (fun r3 q4 => ⟨_, _, rfl, rfl, ?_⟩)
            exact ih.2 _ _ _ _ kX (by omega) (by omega)
      · intro x1 x2 x4 X kX hm iv
        refine e_li (i := 1) (x := x1) rfl fun _ _ => ?_
        refine e_li (i := 4) (x := x4) rfl fun _ _ => ?_
        refine B_100_35 hT hR ?_
        refine ⟨fun c6 => ?_, fun c6 => ?_⟩
        · refine ⟨by omega, by omega, ?_⟩
          intro I7 e8
          have k9 : ∀ k j, ¬ (67 ≤ k ∧ k < 89) → I7 k j = I k j := fun k j h => ((congrFun (congrFun e8 k) j).trans (yU_ne _ _ (by omega))).trans (kX k j h)
          refine ⟨by omega, by omega, ?_⟩
          intro I10 e11
          have k12 : ∀ k j, ¬ (67 ≤ k ∧ k < 89) → I10 k j = I k j := fun k j h => ((congrFun (congrFun e11 k) j).trans (yU_ne _ _ (by omega))).trans (k9 k j h)
          have a13 : yadd x1 1 = (x1 + 1) := yadd_eq (by omega) (by omega)
          try rw [a13]
          exact ih.1 _ _ k12 (by omega) (by omega)
        · have a14 : ysub x4 1 = (x4 - 1) := ysub_eq (by omega) (by omega)
          try rw [a14]
          refine ⟨by omega, by omega, ?_⟩
          refine ⟨fun c15 => ?_, fun c15 => ?_⟩
          · refine ⟨by omega, by omega, ?_⟩
            intro I16 e17
            have k18 : ∀ k j, ¬ (67 ≤ k ∧ k < 89) → I16 k j = I k j := fun k j h => ((congrFun (congrFun e17 k) j).trans (yU_ne _ _ (by omega))).trans (kX k j h)
            refine ⟨by omega, by omega, ?_⟩
            intro I19 e20
            have k21 : ∀ k j, ¬ (67 ≤ k ∧ k < 89) → I19 k j = I k j := fun k j h => ((congrFun (congrFun e20 k) j).trans (yU_ne _ _ (by omega))).trans (k18 k j h)
            have a22 : yadd x1 1 = (x1 + 1) := yadd_eq (by omega) (by omega)
            try rw [a22]
            exact ih.1 _ _ k21 (by omega) (by omega)
          · have a23 : ysub x4 1 = (x4 - 1) := ysub_eq (by omega) (by omega)
            try rw [a23]
            refine ⟨by omega, by omega, ?_⟩
            refine ⟨by omega, by omega, ?_⟩
            intro I24 e25
            have k26 : ∀ k j, ¬ (67 ≤ k ∧ k < 89) → I24 k j = I k j := fun k j h => ((congrFun (congrFun e25 k) j).trans (yU_ne _ _ (by omega))).trans (kX k j h)
            have a27 : ysub x4 1 = (x4 - 1) := ysub_eq (by omega) (by omega)
            try rw [a27]
            refine ⟨by omega, by omega, ?_⟩
            refine ⟨by omega, by omega, ?_⟩
            intro I28 e29
            have k30 : ∀ k j, ¬ (67 ≤ k ∧ k < 89) → I28 k j = I k j := fun k j h => ((congrFun (congrFun e29 k) j).trans (yU_ne _ _ (by omega))).trans (k26 k j h)
            have a31 : yadd x4 (-1) = (x4 + (-1)) := yadd_eq (by omega) (by omega)
            try rw [a31]
            exact ih.2 _ _ _ _ k30 (by omega) (by omega)
  refine B_100_0 hT hR ?_
  exact (L _).1 _ _ k0 (Nat.lt_succ_self _) (by omega)
/-- ChairAlley$Walk.stepTo(II)V -/
theorem w_101 (hT : yLT T) (hR : yLR R) {x1 x2 : Int} (hk : ∀ I', (∀ k j, ¬ (67 ≤ k ∧ k < 89) → I' k j = I k j) → (True) → K none (N, T, R, I')) : yW l zSS D cy zFk z (d + 2) 101 bc bs K 0 0 0 [(0, yr (some 67)), (1, yi x1), (2, yi x2)] [] (N, T, R, I) := by
  have k0 : ∀ k j, ¬ (67 ≤ k ∧ k < 89) → I k j = I k j := fun _ _ _ => rfl
  refine e_li (i := 1) (x := x1) rfl fun _ _ => ?_
  refine e_li (i := 2) (x := x2) rfl fun _ _ => ?_
  refine B_101_0 hT hR ?_
  refine ⟨fun c1 => ?_, fun c1 => ?_⟩
  · exact hk _ k0 trivial
  · refine ⟨fun c2 => ?_, fun c2 => ?_⟩
    · intro I3 e4
      have k5 : ∀ k j, ¬ (67 ≤ k ∧ k < 89) → I3 k j = I k j := fun k j h => ((congrFun (congrFun e4 k) j).trans (yU_ne _ _ (by omega))).trans (k0 k j h)
      refine ⟨by omega, by omega, ?_⟩
      refine ⟨by omega, by omega, ?_⟩
      intro I6 e7
      have k8 : ∀ k j, ¬ (67 ≤ k ∧ k < 89) → I6 k j = I k j := fun k j h => ((congrFun (congrFun e7 k) j).trans (yU_ne _ _ (by omega))).trans (k5 k j h)
      refine ⟨by omega, by omega, ?_⟩
      refine ⟨by omega, by omega, ?_⟩
      intro I9 e10
      have k11 : ∀ k j, ¬ (67 ≤ k ∧ k < 89) → I9 k j = I k j := fun k j h => ((congrFun (congrFun e10 k) j).trans (yU_ne _ _ (by omega))).trans (k8 k j h)
      refine ⟨by omega, by omega, ?_⟩
      intro I12 e13
      have k14 : ∀ k j, ¬ (67 ≤ k ∧ k < 89) → I12 k j = I k j := fun k j h => ((congrFun (congrFun e13 k) j).trans (yU_ne _ _ (by omega))).trans (k11 k j h)
      refine w_97 (d := d) hT hR   (fun I15 f17 q16 => ⟨_, rfl, rfl, ?_⟩)
      have k18 : ∀ k j, ¬ (67 ≤ k ∧ k < 89) → I15 k j = I k j := fun k j h => (f17 k j (by omega)).trans (k14 k j h)
      exact hk _ k18 trivial
    · exact hk _ k0 trivial
/-- ChairAlley$Walk.takeOver(LChairAlley$State;)V -/
theorem w_102 (hT : yLT T) (hR : yLR R) (hk : ∀ I', (∀ k j, ¬ (67 ≤ k ∧ k < 89) → I' k j = I k j) → (True) → K none (N, T, R, I')) : yW l zSS D cy zFk z (d + 2) 102 bc bs K 0 0 0 [(0, yr (some 67)), (1, yr (some 16))] [] (N, T, R, I) := by
  have k0 : ∀ k j, ¬ (67 ≤ k ∧ k < 89) → I k j = I k j := fun _ _ _ => rfl
  refine B_102_0 hT hR ?_
  refine w_62 (d := d) hT hR (a_State68 hT hR) (by omega) (a_State16 hT hR) (by omega)  (fun I1 f3 q2 => ⟨_, rfl, rfl, ?_⟩)
  have k4 : ∀ k j, ¬ (67 ≤ k ∧ k < 89) → I1 k j = I k j := fun k j h => (f3 k j (by omega)).trans (k0 k j h)
  exact hk _ k4 trivial
/-- ChairAlley$Walk.takeOverAnew(LChairAlley$State;)V -/
theorem w_103 (hT : yLT T) (hR : yLR R) (hk : ∀ I', (∀ k j, ¬ (67 ≤ k ∧ k < 89) → I' k j = I k j) → (True) → K none (N, T, R, I')) : yW l zSS D cy zFk z (d + 2) 103 bc bs K 0 0 0 [(0, yr (some 67)), (1, yr (some 16))] [] (N, T, R, I) := by
  have k0 : ∀ k j, ¬ (67 ≤ k ∧ k < 89) → I k j = I k j := fun _ _ _ => rfl
  refine B_103_0 hT hR ?_
  refine w_62 (d := d) hT hR (a_State68 hT hR) (by omega) (a_State16 hT hR) (by omega)  (fun I1 f3 q2 => ⟨_, rfl, rfl, ?_⟩)
  have k4 : ∀ k j, ¬ (67 ≤ k ∧ k < 89) → I1 k j = I k j := fun k j h => (f3 k j (by omega)).trans (k0 k j h)
  refine w_58 (d := d + 1) hT hR (a_State68 hT hR) (by omega)  (fun I5 f7 q6 => ⟨_, rfl, rfl, ?_⟩)
  have k8 : ∀ k j, ¬ (67 ≤ k ∧ k < 89) → I5 k j = I k j := fun k j h => (f7 k j (by omega)).trans (k4 k j h)
  exact hk _ k8 trivial
/-- ChairAlley$Walk.waitTill(I)V -/
theorem w_104 (hT : yLT T) (hR : yLR R) {x1 : Int} (hk : ∀ I', (∀ k j, ¬ (67 ≤ k ∧ k < 89) → I' k j = I k j) → (True) → K none (N, T, R, I')) : yW l zSS D cy zFk z d 104 bc bs K 0 0 0 [(0, yr (some 67)), (1, yi x1)] [] (N, T, R, I) := by
  have k0 : ∀ k j, ¬ (67 ≤ k ∧ k < 89) → I k j = I k j := fun _ _ _ => rfl
  have L : ∀ m : Nat, (∀ x1 x2 : Int, ∀ X : Nat → Nat → Int, (∀ k j, ¬ (67 ≤ k ∧ k < 89) → X k j = I k j) → (8 - x2 : Int).toNat < m → (0 ≤ x2 ∧ x2 ≤ 8) → yW l zSS D cy zFk z d 104 bc bs K 0 0 2 [(0, yr (some 67)), (1, yi x1), (2, yi x2)] [] (N, T, R, X)) := by
    intro m
    induction m with
    | zero => exact fun _ _ _ _ h => absurd h (Nat.not_lt_zero _)
    | succ m ih =>
      intro x1 x2 X kX hm iv
      refine e_li (i := 1) (x := x1) rfl fun _ _ => ?_
      refine e_li (i := 2) (x := x2) rfl fun _ _ => ?_
      refine B_104_2 hT hR ?_
      refine ⟨fun c1 => ?_, fun c1 => ?_⟩
      · intro I2 e3
        have k4 : ∀ k j, ¬ (67 ≤ k ∧ k < 89) → I2 k j = I k j := fun k j h => ((congrFun (congrFun e3 k) j).trans (yU_ne _ _ (by omega))).trans (kX k j h)
        exact hk _ k4 trivial
      · refine ⟨fun c5 => ?_, fun c5 => ?_⟩
        · intro I6 e7
          have k8 : ∀ k j, ¬ (67 ≤ k ∧ k < 89) → I6 k j = I k j := fun k j h => ((congrFun (congrFun e7 k) j).trans (yU_ne _ _ (by omega))).trans (kX k j h)
          exact hk _ k8 trivial
        · refine ⟨by omega, by omega, ?_⟩
          refine ⟨by omega, by omega, ?_⟩
          refine ⟨fun c9 => ?_, fun c9 => ?_⟩
          · refine ⟨by omega, by omega, ?_⟩
            intro I10 e11
            have k12 : ∀ k j, ¬ (67 ≤ k ∧ k < 89) → I10 k j = I k j := fun k j h => ((congrFun (congrFun e11 k) j).trans (yU_ne _ _ (by omega))).trans (kX k j h)
            have a13 : yadd x2 1 = (x2 + 1) := yadd_eq (by omega) (by omega)
            try rw [a13]
            exact ih _ _ _ k12 (by omega) (by omega)
          · refine ⟨by omega, by omega, ?_⟩
            intro I14 e15
            have k16 : ∀ k j, ¬ (67 ≤ k ∧ k < 89) → I14 k j = I k j := fun k j h => ((congrFun (congrFun e15 k) j).trans (yU_ne _ _ (by omega))).trans (kX k j h)
            have a17 : yadd x2 1 = (x2 + 1) := yadd_eq (by omega) (by omega)
            try rw [a17]
            exact ih _ _ _ k16 (by omega) (by omega)
  refine e_li (i := 1) (x := x1) rfl fun _ _ => ?_
  refine B_104_0 hT hR ?_
  exact (L _) _ _ _ k0 (Nat.lt_succ_self _) (by omega)
/-- ChairAlley$Walk.waitsOfAll()I -/
theorem w_105 (hT : yLT T) (hR : yLR R) (hk : ∀ r, (True) → K (some (yi r)) (N, T, R, I)) : yW l zSS D cy zFk z (d + 1) 105 bc bs K 0 0 0 [(0, yr (some 67))] [] (N, T, R, I) := by
  refine B_105_0 hT hR ?_
  refine w_67 (d := d) hT hR (hT 76 rfl)  (fun r1 q2 => ⟨_, _, rfl, rfl, ?_⟩)
  exact hk _ trivial
/-- ChairAlley$Walk.comeOut(I)V -/
theorem w_86 (hT : yLT T) (hR : yLR R) {x1 : Int} (hk : ∀ I', (∀ k j, ¬ (67 ≤ k ∧ k < 89) → I' k j = I k j) → (True) → K none (N, T, R, I')) : yW l zSS D cy zFk z (d + 2) 86 bc bs K 0 0 0 [(0, yr (some 67)), (1, yi x1)] [] (N, T, R, I) := by
  have k0 : ∀ k j, ¬ (67 ≤ k ∧ k < 89) → I k j = I k j := fun _ _ _ => rfl
  refine e_li (i := 1) (x := x1) rfl fun _ _ => ?_
  refine B_86_0 hT hR ?_
  refine ⟨fun c1 => ?_, fun c1 => ?_⟩
  · exact hk _ k0 trivial
  · refine ⟨fun c2 => ?_, fun c2 => ?_⟩
    · exact hk _ k0 trivial
    · refine ⟨by omega, by omega, ?_⟩
      refine ⟨fun c3 => ?_, fun c3 => ?_⟩
      · exact hk _ k0 trivial
      · refine ⟨by omega, by omega, ?_⟩
        refine ⟨fun c4 => ?_, fun c4 => ?_⟩
        · refine ⟨by omega, by omega, ?_⟩
          refine ⟨fun c5 => ?_, fun c5 => ?_⟩
          · refine ⟨by omega, by omega, ?_⟩
            refine ⟨by omega, by omega, ?_⟩
            refine ⟨fun c6 => ?_, fun c6 => ?_⟩
            · refine ⟨by omega, by omega, ?_⟩
              refine w_91 (d := d) hT hR   (fun r7 q8 => ⟨_, _, rfl, rfl, ?_⟩)
              refine ⟨fun c10 => ?_, fun c10 => ?_⟩
              · exact hk _ k0 trivial
              · intro I11 e12
                have k13 : ∀ k j, ¬ (67 ≤ k ∧ k < 89) → I11 k j = I k j := fun k j h => ((congrFun (congrFun e12 k) j).trans (yU_ne _ _ (by omega))).trans (k0 k j h)
                refine ⟨by omega, by omega, ?_⟩
                refine ⟨by omega, by omega, ?_⟩
                intro I14 e15
                have k16 : ∀ k j, ¬ (67 ≤ k ∧ k < 89) → I14 k j = I k j := fun k j h => ((congrFun (congrFun e15 k) j).trans (yU_ne _ _ (by omega))).trans (k13 k j h)
                refine ⟨by omega, by omega, ?_⟩
                intro I17 e18
                have k19 : ∀ k j, ¬ (67 ≤ k ∧ k < 89) → I17 k j = I k j := fun k j h => ((congrFun (congrFun e18 k) j).trans (yU_ne _ _ (by omega))).trans (k16 k j h)
                exact hk _ k19 trivial
            · intro I20 e21
              have k22 : ∀ k j, ¬ (67 ≤ k ∧ k < 89) → I20 k j = I k j := fun k j h => ((congrFun (congrFun e21 k) j).trans (yU_ne _ _ (by omega))).trans (k0 k j h)
              refine ⟨by omega, by omega, ?_⟩
              intro I23 e24
              have k25 : ∀ k j, ¬ (67 ≤ k ∧ k < 89) → I23 k j = I k j := fun k j h => ((congrFun (congrFun e24 k) j).trans (yU_ne _ _ (by omega))).trans (k22 k j h)
              exact hk _ k25 trivial
          · intro I26 e27
            have k28 : ∀ k j, ¬ (67 ≤ k ∧ k < 89) → I26 k j = I k j := fun k j h => ((congrFun (congrFun e27 k) j).trans (yU_ne _ _ (by omega))).trans (k0 k j h)
            exact hk _ k28 trivial
        · exact hk _ k0 trivial
/-- ChairAlley$Walk.doPlanned(I)I -/
theorem w_87 (hT : yLT T) (hR : yLR R) {x1 : Int} (hk : ∀ r I', (∀ k j, ¬ (67 ≤ k ∧ k < 89) → I' k j = I k j) → (True) → K (some (yi r)) (N, T, R, I')) : yW l zSS D cy zFk z (d + 2) 87 bc bs K 0 0 0 [(0, yr (some 67)), (1, yi x1)] [] (N, T, R, I) := by
  have k0 : ∀ k j, ¬ (67 ≤ k ∧ k < 89) → I k j = I k j := fun _ _ _ => rfl
  refine e_li (i := 1) (x := x1) rfl fun _ _ => ?_
  refine B_87_0 hT hR ?_
  refine ⟨fun c1 => ?_, fun c1 => ?_⟩
  · exact hk _ _ k0 trivial
  · refine w_11 (d := d + 1) hT hR (a_Land4 hT hR)  (fun r2 q3 => ⟨_, _, rfl, rfl, ?_⟩)
    refine ⟨fun c5 => ?_, fun c5 => ?_⟩
    · exact hk _ _ k0 trivial
    · refine ⟨by omega, by omega, ?_⟩
      refine ⟨fun c6 => ?_, fun c6 => ?_⟩
      · refine ⟨by omega, by omega, ?_⟩
        refine w_25 (d := d) hT hR (a_Land4 hT hR) (hT 69 rfl)  (fun r7 q8 => ⟨_, _, rfl, rfl, ?_⟩)
        refine ⟨fun c10 => ?_, fun c10 => ?_⟩
        · refine w_91 (d := d) hT hR   (fun r11 q12 => ⟨_, _, rfl, rfl, ?_⟩)
          refine ⟨fun c14 => ?_, fun c14 => ?_⟩
          · refine ⟨by omega, by omega, ?_⟩
            refine ⟨by omega, by omega, ?_⟩
            intro I15 e16
            have k17 : ∀ k j, ¬ (67 ≤ k ∧ k < 89) → I15 k j = I k j := fun k j h => ((congrFun (congrFun e16 k) j).trans (yU_ne _ _ (by omega))).trans (k0 k j h)
            refine ⟨by omega, by omega, ?_⟩
            refine ⟨by omega, by omega, ?_⟩
            intro I18 e19
            have k20 : ∀ k j, ¬ (67 ≤ k ∧ k < 89) → I18 k j = I k j := fun k j h => ((congrFun (congrFun e19 k) j).trans (yU_ne _ _ (by omega))).trans (k17 k j h)
            refine ⟨by omega, by omega, ?_⟩
            intro I21 e22
            have k23 : ∀ k j, ¬ (67 ≤ k ∧ k < 89) → I21 k j = I k j := fun k j h => ((congrFun (congrFun e22 k) j).trans (yU_ne _ _ (by omega))).trans (k20 k j h)
            refine w_95 (d := d + 1) hT hR   (fun I24 f26 q25 => ⟨_, rfl, rfl, ?_⟩)
            have k27 : ∀ k j, ¬ (67 ≤ k ∧ k < 89) → I24 k j = I k j := fun k j h => (f26 k j (by omega)).trans (k23 k j h)
            exact hk _ _ k27 trivial
          · exact hk _ _ k0 trivial
        · exact hk _ _ k0 trivial
      · exact hk _ _ k0 trivial
/-- ChairAlley$Walk.measureWays()V -/
theorem w_96 (hT : yLT T) (hR : yLR R) (hk : ∀ I', (∀ k j, ¬ (67 ≤ k ∧ k < 89) → I' k j = I k j) → (True) → K none (N, T, R, I')) : yW l zSS D cy zFk z (d + 4) 96 bc bs K 0 0 0 [(0, yr (some 67))] [] (N, T, R, I) := by
  have k0 : ∀ k j, ¬ (67 ≤ k ∧ k < 89) → I k j = I k j := fun _ _ _ => rfl
  have L : ∀ m : Nat, (∀ x1 : Int, ∀ X : Nat → Nat → Int, (∀ k j, ¬ (67 ≤ k ∧ k < 89) → X k j = I k j) → (8 - x1 : Int).toNat < m → (0 ≤ x1 ∧ x1 ≤ 8) → yW l zSS D cy zFk z (d + 4) 96 bc bs K 0 0 2 [(0, yr (some 67)), (1, yi x1)] [] (N, T, R, X)) := by
    intro m
    induction m with
    | zero => exact fun _ _ _ h => absurd h (Nat.not_lt_zero _)
    | succ m ih =>
      intro x1 X kX hm iv
      refine e_li (i := 1) (x := x1) rfl fun _ _ => ?_
      refine B_96_2 hT hR ?_
      refine ⟨fun c1 => ?_, fun c1 => ?_⟩
      · exact hk _ kX trivial
      · refine ⟨fun c2 => ?_, fun c2 => ?_⟩
        · exact hk _ kX trivial
        · refine ⟨by omega, by omega, ?_⟩
          refine ⟨fun c3 => ?_, fun c3 => ?_⟩
          · have a4 : yadd x1 1 = (x1 + 1) := yadd_eq (by omega) (by omega)
            try rw [a4]
            exact ih _ _ kX (by omega) (by omega)
          · refine ⟨by omega, by omega, ?_⟩
            refine w_109 (d := d) hT hR (hT 69 rfl)  (fun I5 f7 q6 => ⟨_, rfl, rfl, ?_⟩)
            have k8 : ∀ k j, ¬ (67 ≤ k ∧ k < 89) → I5 k j = I k j := fun k j h => (f7 k j (by omega)).trans (kX k j h)
            have a9 : yadd x1 1 = (x1 + 1) := yadd_eq (by omega) (by omega)
            try rw [a9]
            exact ih _ _ k8 (by omega) (by omega)
  refine B_96_0 hT hR ?_
  exact (L _) _ _ k0 (Nat.lt_succ_self _) (by omega)
/-- ChairAlley$Walk.act(I)V -/
theorem w_84 (hT : yLT T) (hR : yLR R) {x1 : Int} (hk : ∀ I', (∀ k j, ¬ (67 ≤ k ∧ k < 89) → I' k j = I k j) → (True) → K none (N, T, R, I')) : yW l zSS D cy zFk z (d + 3) 84 bc bs K 0 0 0 [(0, yr (some 67)), (1, yi x1)] [] (N, T, R, I) := by
  have k0 : ∀ k j, ¬ (67 ≤ k ∧ k < 89) → I k j = I k j := fun _ _ _ => rfl
  have L : ∀ m : Nat, (∀ X : Nat → Nat → Int, (∀ k j, ¬ (67 ≤ k ∧ k < 89) → X k j = I k j) → (1 : Int).toNat < m → (True) → yW l zSS D cy zFk z (d + 3) 84 bc bs K 0 0 32 [] [] (N, T, R, X)) ∧ (∀ X : Nat → Nat → Int, (∀ k j, ¬ (67 ≤ k ∧ k < 89) → X k j = I k j) → (1 : Int).toNat < m → (True) → yW l zSS D cy zFk z (d + 3) 84 bc bs K 0 0 73 [(0, yr (some 67))] [] (N, T, R, X)) ∧ (∀ x1 x2 : Int, ∀ X : Nat → Nat → Int, (∀ k j, ¬ (67 ≤ k ∧ k < 89) → X k j = I k j) → (2 : Int).toNat < m → (0 ≤ x1 ∧ x1 < 8) → yW l zSS D cy zFk z (d + 3) 84 bc bs K 0 0 117 [(0, yr (some 67)), (1, yi x1), (2, yi x2)] [] (N, T, R, X)) ∧ (∀ X : Nat → Nat → Int, (∀ k j, ¬ (67 ≤ k ∧ k < 89) → X k j = I k j) → (1 : Int).toNat < m → (True) → yW l zSS D cy zFk z (d + 3) 84 bc bs K 0 0 205 [] [] (N, T, R, X)) := by
    intro m
    induction m with
    | zero => exact ⟨fun _ _ h => absurd h (Nat.not_lt_zero _), fun _ _ h => absurd h (Nat.not_lt_zero _), fun _ _ _ _ h => absurd h (Nat.not_lt_zero _), fun _ _ h => absurd h (Nat.not_lt_zero _)⟩
    | succ m ih =>
      refine ⟨?_, ?_, ?_, ?_⟩
      · intro X kX hm iv
        refine B_84_32 hT hR ?_
        exact hk _ kX trivial
      · intro X kX hm iv
        refine B_84_73 hT hR ?_
        intro I1 e2
        have k3 : ∀ k j, ¬ (67 ≤ k ∧ k < 89) → I1 k j = I k j := fun k j h => ((congrFun (congrFun e2 k) j).trans (yU_ne _ _ (by omega))).trans (kX k j h)
        exact hk _ k3 trivial
      · intro x1 x2 X kX hm iv
        refine e_li (i := 1) (x := x1) rfl fun _ _ => ?_
        refine e_li (i := 2) (x := x2) rfl fun _ _ => ?_
        refine B_84_117 hT hR ?_
        refine ⟨fun c4 => ?_, fun c4 => ?_⟩
        · refine w_94 (d := d + 2) hT hR   (fun r5 q6 => ⟨_, _, rfl, rfl, ?_⟩)
          refine w_85 (d := d) hT hR   (fun r8 q9 => ⟨_, _, rfl, rfl, ?_⟩)
          refine ⟨fun c11 => ?_, fun c11 => ?_⟩
          · refine ⟨by omega, by omega, ?_⟩
            refine ⟨by omega, by omega, ?_⟩
            intro I12 e13
            have k14 : ∀ k j, ¬ (67 ≤ k ∧ k < 89) → I12 k j = I k j := fun k j h => ((congrFun (congrFun e13 k) j).trans (yU_ne _ _ (by omega))).trans (kX k j h)
            refine ⟨by omega, by omega, ?_⟩
            refine w_92 (d := d) hT hR   (fun r15 q16 => ⟨_, _, rfl, rfl, ?_⟩)
            refine ⟨fun c18 => ?_, fun c18 => ?_⟩
            · exact ih.2.2.2  _ k14 (by omega) trivial
            · refine w_56 (d := d + 2) hT hR (a_State68 hT hR) (by omega)  (fun I19 f21 q20 => ⟨_, rfl, rfl, ?_⟩)
              have k22 : ∀ k j, ¬ (67 ≤ k ∧ k < 89) → I19 k j = I k j := fun k j h => (f21 k j (by omega)).trans (k14 k j h)
              exact ih.2.2.2  _ k22 (by omega) trivial
          · refine w_56 (d := d + 2) hT hR (a_State68 hT hR) (by omega)  (fun I23 f25 q24 => ⟨_, rfl, rfl, ?_⟩)
            have k26 : ∀ k j, ¬ (67 ≤ k ∧ k < 89) → I23 k j = I k j := fun k j h => (f25 k j (by omega)).trans (kX k j h)
            refine w_99 (d := d) hT hR   (fun I27 f29 q28 => ⟨_, rfl, rfl, ?_⟩)
            have k30 : ∀ k j, ¬ (67 ≤ k ∧ k < 89) → I27 k j = I k j := fun k j h => (f29 k j (by omega)).trans (k26 k j h)
            refine w_101 (d := d) hT hR   (fun I31 f33 q32 => ⟨_, rfl, rfl, ?_⟩)
            have k34 : ∀ k j, ¬ (67 ≤ k ∧ k < 89) → I31 k j = I k j := fun k j h => (f33 k j (by omega)).trans (k30 k j h)
            exact hk _ k34 trivial
        · refine w_85 (d := d) hT hR   (fun r35 q36 => ⟨_, _, rfl, rfl, ?_⟩)
          refine ⟨fun c38 => ?_, fun c38 => ?_⟩
          · refine ⟨by omega, by omega, ?_⟩
            refine ⟨by omega, by omega, ?_⟩
            intro I39 e40
            have k41 : ∀ k j, ¬ (67 ≤ k ∧ k < 89) → I39 k j = I k j := fun k j h => ((congrFun (congrFun e40 k) j).trans (yU_ne _ _ (by omega))).trans (kX k j h)
            refine ⟨by omega, by omega, ?_⟩
            refine w_92 (d := d) hT hR   (fun r42 q43 => ⟨_, _, rfl, rfl, ?_⟩)
            refine ⟨fun c45 => ?_, fun c45 => ?_⟩
            · exact ih.2.2.2  _ k41 (by omega) trivial
            · refine w_56 (d := d + 2) hT hR (a_State68 hT hR) (by omega)  (fun I46 f48 q47 => ⟨_, rfl, rfl, ?_⟩)
              have k49 : ∀ k j, ¬ (67 ≤ k ∧ k < 89) → I46 k j = I k j := fun k j h => (f48 k j (by omega)).trans (k41 k j h)
              exact ih.2.2.2  _ k49 (by omega) trivial
          · refine w_56 (d := d + 2) hT hR (a_State68 hT hR) (by omega)  (fun I50 f52 q51 => ⟨_, rfl, rfl, ?_⟩)
            have k53 : ∀ k j, ¬ (67 ≤ k ∧ k < 89) → I50 k j = I k j := fun k j h => (f52 k j (by omega)).trans (kX k j h)
            refine w_99 (d := d) hT hR   (fun I54 f56 q55 => ⟨_, rfl, rfl, ?_⟩)
            have k57 : ∀ k j, ¬ (67 ≤ k ∧ k < 89) → I54 k j = I k j := fun k j h => (f56 k j (by omega)).trans (k53 k j h)
            refine w_101 (d := d) hT hR   (fun I58 f60 q59 => ⟨_, rfl, rfl, ?_⟩)
            have k61 : ∀ k j, ¬ (67 ≤ k ∧ k < 89) → I58 k j = I k j := fun k j h => (f60 k j (by omega)).trans (k57 k j h)
            exact hk _ k61 trivial
      · intro X kX hm iv
        refine B_84_205 hT hR ?_
        exact hk _ kX trivial
  refine e_li (i := 1) (x := x1) rfl fun _ _ => ?_
  refine B_84_0 hT hR ?_
  refine ⟨fun c62 => ?_, fun c62 => ?_⟩
  · exact (L _).1  _ k0 (Nat.lt_succ_self _) trivial
  · refine ⟨fun c63 => ?_, fun c63 => ?_⟩
    · exact (L _).1  _ k0 (Nat.lt_succ_self _) trivial
    · refine ⟨by omega, by omega, ?_⟩
      refine ⟨fun c64 => ?_, fun c64 => ?_⟩
      · exact (L _).1  _ k0 (Nat.lt_succ_self _) trivial
      · refine ⟨by omega, by omega, ?_⟩
        refine ⟨fun c65 => ?_, fun c65 => ?_⟩
        · refine ⟨by omega, by omega, ?_⟩
          refine ⟨fun c66 => ?_, fun c66 => ?_⟩
          · exact (L _).2.1  _ k0 (Nat.lt_succ_self _) trivial
          · refine ⟨by omega, by omega, ?_⟩
            refine ⟨fun c67 => ?_, fun c67 => ?_⟩
            · refine ⟨by omega, by omega, ?_⟩
              refine w_108 (d := d + 1) hT hR   (fun r68 q69 => ⟨_, _, rfl, rfl, ?_⟩)
              refine ⟨fun c71 => ?_, fun c71 => ?_⟩
              · exact (L _).2.2.1 _ _ _ k0 (Nat.lt_succ_self _) (by omega)
              · refine w_91 (d := d + 1) hT hR   (fun r72 q73 => ⟨_, _, rfl, rfl, ?_⟩)
                refine ⟨fun c75 => ?_, fun c75 => ?_⟩
                · exact (L _).2.2.1 _ _ _ k0 (Nat.lt_succ_self _) (by omega)
                · refine w_101 (d := d) hT hR   (fun I76 f78 q77 => ⟨_, rfl, rfl, ?_⟩)
                  have k79 : ∀ k j, ¬ (67 ≤ k ∧ k < 89) → I76 k j = I k j := fun k j h => (f78 k j (by omega)).trans (k0 k j h)
                  exact hk _ k79 trivial
            · exact (L _).2.1  _ k0 (Nat.lt_succ_self _) trivial
        · exact (L _).1  _ k0 (Nat.lt_succ_self _) trivial
/-- ChairAlley$Walk.goOneMinute()V -/
theorem w_88 (hT : yLT T) (hR : yLR R) (hk : ∀ I', (∀ k j, ¬ (67 ≤ k ∧ k < 89) → I' k j = I k j) → (True) → K none (N, T, R, I')) : yW l zSS D cy zFk z (d + 4) 88 bc bs K 0 0 0 [(0, yr (some 67))] [] (N, T, R, I) := by
  have k0 : ∀ k j, ¬ (67 ≤ k ∧ k < 89) → I k j = I k j := fun _ _ _ => rfl
  have L : ∀ m : Nat, (∀ x1 : Int, ∀ X : Nat → Nat → Int, (∀ k j, ¬ (67 ≤ k ∧ k < 89) → X k j = I k j) → (300 + (8 - x1) : Int).toNat < m → (0 ≤ x1 ∧ x1 ≤ 8) → yW l zSS D cy zFk z (d + 4) 88 bc bs K 0 0 7 [(0, yr (some 67)), (1, yi x1)] [] (N, T, R, X)) ∧ (∀ x1 : Int, ∀ X : Nat → Nat → Int, (∀ k j, ¬ (67 ≤ k ∧ k < 89) → X k j = I k j) → (200 + (8 - x1) : Int).toNat < m → (0 ≤ x1 ∧ x1 ≤ 8) → yW l zSS D cy zFk z (d + 4) 88 bc bs K 0 0 48 [(0, yr (some 67)), (1, yi x1)] [] (N, T, R, X)) ∧ (∀ x1 : Int, ∀ X : Nat → Nat → Int, (∀ k j, ¬ (67 ≤ k ∧ k < 89) → X k j = I k j) → (100 + (8 - x1) : Int).toNat < m → (0 ≤ x1 ∧ x1 ≤ 8) → yW l zSS D cy zFk z (d + 4) 88 bc bs K 0 0 84 [(0, yr (some 67)), (1, yi x1)] [] (N, T, R, X)) ∧ (∀ x1 : Int, ∀ X : Nat → Nat → Int, (∀ k j, ¬ (67 ≤ k ∧ k < 89) → X k j = I k j) → (8 - x1 : Int).toNat < m → (0 ≤ x1 ∧ x1 ≤ 8) → yW l zSS D cy zFk z (d + 4) 88 bc bs K 0 0 119 [(0, yr (some 67)), (1, yi x1)] [] (N, T, R, X)) := by
    intro m
    induction m with
    | zero => exact ⟨fun _ _ _ h => absurd h (Nat.not_lt_zero _), fun _ _ _ h => absurd h (Nat.not_lt_zero _), fun _ _ _ h => absurd h (Nat.not_lt_zero _), fun _ _ _ h => absurd h (Nat.not_lt_zero _)⟩
    | succ m ih =>
      refine ⟨?_, ?_, ?_, ?_⟩
      · intro x1 X kX hm iv
        refine e_li (i := 1) (x := x1) rfl fun _ _ => ?_
        refine B_88_7 hT hR ?_
        refine ⟨fun c1 => ?_, fun c1 => ?_⟩
        · refine w_100 (d := d + 1) hT hR   (fun I2 f4 q3 => ⟨_, rfl, rfl, ?_⟩)
          have k5 : ∀ k j, ¬ (67 ≤ k ∧ k < 89) → I2 k j = I k j := fun k j h => (f4 k j (by omega)).trans (kX k j h)
          exact ih.2.1 _ _ k5 (by omega) (by omega)
        · refine ⟨fun c6 => ?_, fun c6 => ?_⟩
          · refine w_100 (d := d + 1) hT hR   (fun I7 f9 q8 => ⟨_, rfl, rfl, ?_⟩)
            have k10 : ∀ k j, ¬ (67 ≤ k ∧ k < 89) → I7 k j = I k j := fun k j h => (f9 k j (by omega)).trans (kX k j h)
            exact ih.2.1 _ _ k10 (by omega) (by omega)
          · refine ⟨by omega, by omega, ?_⟩
            intro I11 e12
            have k13 : ∀ k j, ¬ (67 ≤ k ∧ k < 89) → I11 k j = I k j := fun k j h => ((congrFun (congrFun e12 k) j).trans (yU_ne _ _ (by omega))).trans (kX k j h)
            refine w_86 (d := d + 1) hT hR   (fun I14 f16 q15 => ⟨_, rfl, rfl, ?_⟩)
            have k17 : ∀ k j, ¬ (67 ≤ k ∧ k < 89) → I14 k j = I k j := fun k j h => (f16 k j (by omega)).trans (k13 k j h)
            have a18 : yadd x1 1 = (x1 + 1) := yadd_eq (by omega) (by omega)
            try rw [a18]
            exact ih.1 _ _ k17 (by omega) (by omega)
      · intro x1 X kX hm iv
        refine e_li (i := 1) (x := x1) rfl fun _ _ => ?_
        refine B_88_48 hT hR ?_
        refine ⟨fun c19 => ?_, fun c19 => ?_⟩
        · exact ih.2.2.1 _ _ kX (by omega) (by omega)
        · refine ⟨fun c20 => ?_, fun c20 => ?_⟩
          · exact ih.2.2.1 _ _ kX (by omega) (by omega)
          · refine ⟨by omega, by omega, ?_⟩
            refine w_98 (d := d + 3) hT hR   (fun I21 f23 q22 => ⟨_, rfl, rfl, ?_⟩)
            have k24 : ∀ k j, ¬ (67 ≤ k ∧ k < 89) → I21 k j = I k j := fun k j h => (f23 k j (by omega)).trans (kX k j h)
            have a25 : yadd x1 1 = (x1 + 1) := yadd_eq (by omega) (by omega)
            try rw [a25]
            exact ih.2.1 _ _ k24 (by omega) (by omega)
      · intro x1 X kX hm iv
        refine e_li (i := 1) (x := x1) rfl fun _ _ => ?_
        refine B_88_84 hT hR ?_
        refine ⟨fun c26 => ?_, fun c26 => ?_⟩
        · exact ih.2.2.2 _ _ kX (by omega) (by omega)
        · refine ⟨fun c27 => ?_, fun c27 => ?_⟩
          · exact ih.2.2.2 _ _ kX (by omega) (by omega)
          · refine ⟨by omega, by omega, ?_⟩
            refine w_84 (d := d) hT hR   (fun I28 f30 q29 => ⟨_, rfl, rfl, ?_⟩)
            have k31 : ∀ k j, ¬ (67 ≤ k ∧ k < 89) → I28 k j = I k j := fun k j h => (f30 k j (by omega)).trans (kX k j h)
            have a32 : yadd x1 1 = (x1 + 1) := yadd_eq (by omega) (by omega)
            try rw [a32]
            exact ih.2.2.1 _ _ k31 (by omega) (by omega)
      · intro x1 X kX hm iv
        refine e_li (i := 1) (x := x1) rfl fun _ _ => ?_
        refine B_88_119 hT hR ?_
        refine ⟨fun c33 => ?_, fun c33 => ?_⟩
        · intro I34 e35
          have k36 : ∀ k j, ¬ (67 ≤ k ∧ k < 89) → I34 k j = I k j := fun k j h => ((congrFun (congrFun e35 k) j).trans (yU_ne _ _ (by omega))).trans (kX k j h)
          exact hk _ k36 trivial
        · refine ⟨fun c37 => ?_, fun c37 => ?_⟩
          · intro I38 e39
            have k40 : ∀ k j, ¬ (67 ≤ k ∧ k < 89) → I38 k j = I k j := fun k j h => ((congrFun (congrFun e39 k) j).trans (yU_ne _ _ (by omega))).trans (kX k j h)
            exact hk _ k40 trivial
          · refine w_95 (d := d + 3) hT hR   (fun I41 f43 q42 => ⟨_, rfl, rfl, ?_⟩)
            have k44 : ∀ k j, ¬ (67 ≤ k ∧ k < 89) → I41 k j = I k j := fun k j h => (f43 k j (by omega)).trans (kX k j h)
            have a45 : yadd x1 1 = (x1 + 1) := yadd_eq (by omega) (by omega)
            try rw [a45]
            exact ih.2.2.2 _ _ k44 (by omega) (by omega)
  refine B_88_0 hT hR ?_
  intro I46 e47
  have k48 : ∀ k j, ¬ (67 ≤ k ∧ k < 89) → I46 k j = I k j := fun k j h => ((congrFun (congrFun e47 k) j).trans (yU_ne _ _ (by omega))).trans (k0 k j h)
  exact (L _).1 _ _ k48 (Nat.lt_succ_self _) (by omega)
/-- ChairAlley$Walk.goTill(I)V -/
theorem w_89 (hT : yLT T) (hR : yLR R) {x1 : Int} (hk : ∀ I', (∀ k j, ¬ (67 ≤ k ∧ k < 89) → I' k j = I k j) → (True) → K none (N, T, R, I')) : yW l zSS D cy zFk z (d + 5) 89 bc bs K 0 0 0 [(0, yr (some 67)), (1, yi x1)] [] (N, T, R, I) := by
  have k0 : ∀ k j, ¬ (67 ≤ k ∧ k < 89) → I k j = I k j := fun _ _ _ => rfl
  have L : ∀ m : Nat, (∀ x2 x3 : Int, ∀ X : Nat → Nat → Int, (∀ k j, ¬ (67 ≤ k ∧ k < 89) → X k j = I k j) → (500 - x3 : Int).toNat < m → (0 ≤ x3 ∧ x3 ≤ 500) → yW l zSS D cy zFk z (d + 5) 89 bc bs K 0 0 10 [(0, yr (some 67)), (2, yi x2), (3, yi x3)] [] (N, T, R, X)) := by
    intro m
    induction m with
    | zero => exact fun _ _ _ _ h => absurd h (Nat.not_lt_zero _)
    | succ m ih =>
      intro x2 x3 X kX hm iv
      refine e_li (i := 2) (x := x2) rfl fun _ _ => ?_
      refine e_li (i := 3) (x := x3) rfl fun _ _ => ?_
      refine B_89_10 hT hR ?_
      refine ⟨fun c1 => ?_, fun c1 => ?_⟩
      · exact hk _ kX trivial
      · refine ⟨fun c2 => ?_, fun c2 => ?_⟩
        · exact hk _ kX trivial
        · refine w_61 (d := d + 4) hT hR (a_State68 hT hR)  (fun r3 q4 => ⟨_, _, rfl, rfl, ?_⟩)
          refine ⟨fun c6 => ?_, fun c6 => ?_⟩
          · refine w_88 (d := d) hT hR   (fun I7 f9 q8 => ⟨_, rfl, rfl, ?_⟩)
            have k10 : ∀ k j, ¬ (67 ≤ k ∧ k < 89) → I7 k j = I k j := fun k j h => (f9 k j (by omega)).trans (kX k j h)
            refine ⟨fun c11 => ?_, fun c11 => ?_⟩
            · have a12 : yadd x3 1 = (x3 + 1) := yadd_eq (by omega) (by omega)
              try rw [a12]
              exact ih _ _ _ k10 (by omega) (by omega)
            · refine w_104 (d := d + 4) hT hR   (fun I13 f15 q14 => ⟨_, rfl, rfl, ?_⟩)
              have k16 : ∀ k j, ¬ (67 ≤ k ∧ k < 89) → I13 k j = I k j := fun k j h => (f15 k j (by omega)).trans (k10 k j h)
              have a17 : yadd x3 1 = (x3 + 1) := yadd_eq (by omega) (by omega)
              try rw [a17]
              exact ih _ _ _ k16 (by omega) (by omega)
          · exact hk _ kX trivial
  refine e_li (i := 1) (x := x1) rfl fun _ _ => ?_
  refine B_89_0 hT hR ?_
  have a18 := ymin_cs x1 500
  exact (L _) _ _ _ k0 (Nat.lt_succ_self _) (by omega)
/-- ChairAlley$Walk.hasEarlyMeeting()Z -/
theorem w_90 (hT : yLT T) (hR : yLR R) (hk : ∀ r I', (∀ k j, ¬ (67 ≤ k ∧ k < 89) → I' k j = I k j) → (r = 0 ∨ r = 1) → K (some (yi r)) (N, T, R, I')) : yW l zSS D cy zFk z (d + 5) 90 bc bs K 0 0 0 [(0, yr (some 67))] [] (N, T, R, I) := by
  have k0 : ∀ k j, ¬ (67 ≤ k ∧ k < 89) → I k j = I k j := fun _ _ _ => rfl
  have L : ∀ m : Nat, (∀ x1 : Int, ∀ X : Nat → Nat → Int, (∀ k j, ¬ (67 ≤ k ∧ k < 89) → X k j = I k j) → (100 - x1 : Int).toNat < m → (0 ≤ x1 ∧ x1 ≤ 100) → yW l zSS D cy zFk z (d + 5) 90 bc bs K 0 0 7 [(0, yr (some 67)), (1, yi x1)] [] (N, T, R, X)) := by
    intro m
    induction m with
    | zero => exact fun _ _ _ h => absurd h (Nat.not_lt_zero _)
    | succ m ih =>
      intro x1 X kX hm iv
      refine e_li (i := 1) (x := x1) rfl fun _ _ => ?_
      refine B_90_7 hT hR ?_
      refine ⟨fun c1 => ?_, fun c1 => ?_⟩
      · refine ⟨fun c2 => ?_, fun c2 => ?_⟩
        · exact hk _ _ kX (by omega)
        · exact hk _ _ kX (by omega)
      · refine ⟨fun c3 => ?_, fun c3 => ?_⟩
        · refine ⟨fun c4 => ?_, fun c4 => ?_⟩
          · exact hk _ _ kX (by omega)
          · exact hk _ _ kX (by omega)
        · refine ⟨fun c5 => ?_, fun c5 => ?_⟩
          · refine ⟨fun c6 => ?_, fun c6 => ?_⟩
            · exact hk _ _ kX (by omega)
            · exact hk _ _ kX (by omega)
          · refine w_88 (d := d) hT hR   (fun I7 f9 q8 => ⟨_, rfl, rfl, ?_⟩)
            have k10 : ∀ k j, ¬ (67 ≤ k ∧ k < 89) → I7 k j = I k j := fun k j h => (f9 k j (by omega)).trans (kX k j h)
            have a11 : yadd x1 1 = (x1 + 1) := yadd_eq (by omega) (by omega)
            try rw [a11]
            exact ih _ _ k10 (by omega) (by omega)
  refine B_90_0 hT hR ?_
  intro I12 e13
  have k14 : ∀ k j, ¬ (67 ≤ k ∧ k < 89) → I12 k j = I k j := fun k j h => ((congrFun (congrFun e13 k) j).trans (yU_ne _ _ (by omega))).trans (k0 k j h)
  exact (L _) _ _ k14 (Nat.lt_succ_self _) (by omega)
end Sw
