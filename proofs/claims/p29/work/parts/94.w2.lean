/-! CONTRACTS of the class, printed by wip/whole/y/t3.py (94.w2) -/
section Sw
variable {l : Launch} {D : va_G} {cy : Nat → ClassId} {z d bc bs N : Nat} {T : Nat → Nat × Nat} {R : Nat → Nat → Option Nat} {I : Nat → Nat → Int} {K : yKo}
/-- ChairAlley$State.addMeeting(IIII)V -/
theorem w_56 (hT : yLT T) (hR : yLR R) {p : Nat} (hp : yAtState T R p) (gp : (1 < p ∧ p + 13 ≤ 102) ∨ 126 ≤ p) {x1 x2 x3 x4 : Int} (hk : ∀ I', (∀ k j, ¬ (p ≤ k ∧ k < p + 13) → I' k j = I k j) → (True) → K none (N, T, R, I')) : yW l zSS D cy zFk z d 56 bc bs K 0 0 0 [(0, yr (some p)), (1, yi x1), (2, yi x2), (3, yi x3), (4, yi x4)] [] (N, T, R, I) := by
  have k0 : ∀ k j, ¬ (p ≤ k ∧ k < p + 13) → I k j = I k j := fun _ _ _ => rfl
  refine e_li (i := 1) (x := x1) rfl fun _ _ => ?_
  refine e_li (i := 2) (x := x2) rfl fun _ _ => ?_
  refine e_li (i := 3) (x := x3) rfl fun _ _ => ?_
  refine e_li (i := 4) (x := x4) rfl fun _ _ => ?_
  refine B_56_0 hT hR hp ?_
  refine ⟨fun c1 => ?_, fun c1 => ?_⟩
  · intro I2 e3
    have k4 : ∀ k j, ¬ (p ≤ k ∧ k < p + 13) → I2 k j = I k j := fun k j h => ((congrFun (congrFun e3 k) j).trans (yU_ne _ _ (by omega))).trans (k0 k j h)
    have tI2_p_12 := (congrFun (congrFun e3 p) 12).trans (yU_eq _ _ _ _)
    exact hk _ k4 trivial
  · refine ⟨fun c5 => ?_, fun c5 => ?_⟩
    · intro I6 e7
      have k8 : ∀ k j, ¬ (p ≤ k ∧ k < p + 13) → I6 k j = I k j := fun k j h => ((congrFun (congrFun e7 k) j).trans (yU_ne _ _ (by omega))).trans (k0 k j h)
      have tI6_p_12 := (congrFun (congrFun e7 p) 12).trans (yU_eq _ _ _ _)
      exact hk _ k8 trivial
    · have a9 : ymul (I p 12) 5 = ((I p 12) * 5) := ymul_eq (by omega) (by omega)
      try rw [a9]
      refine ⟨by omega, by omega, ?_⟩
      intro I10 e11
      have k12 : ∀ k j, ¬ (p ≤ k ∧ k < p + 13) → I10 k j = I k j := fun k j h => ((congrFun (congrFun e11 k) j).trans (yU_ne _ _ (by omega))).trans (k0 k j h)
      first | have tI10_p_12 : I10 p 12 = I p 12 := (congrFun (congrFun e11 p) 12).trans (yU_ne _ _ (by omega)) | skip
      have a13 : yadd ((I p 12) * 5) 1 = (((I p 12) * 5) + 1) := yadd_eq (by omega) (by omega)
      try rw [a13]
      refine ⟨by omega, by omega, ?_⟩
      intro I14 e15
      have k16 : ∀ k j, ¬ (p ≤ k ∧ k < p + 13) → I14 k j = I k j := fun k j h => ((congrFun (congrFun e15 k) j).trans (yU_ne _ _ (by omega))).trans (k12 k j h)
      first | have tI14_p_12 : I14 p 12 = I10 p 12 := (congrFun (congrFun e15 p) 12).trans (yU_ne _ _ (by omega)) | skip
      have a17 : yadd ((I p 12) * 5) 2 = (((I p 12) * 5) + 2) := yadd_eq (by omega) (by omega)
      try rw [a17]
      refine ⟨by omega, by omega, ?_⟩
      intro I18 e19
      have k20 : ∀ k j, ¬ (p ≤ k ∧ k < p + 13) → I18 k j = I k j := fun k j h => ((congrFun (congrFun e19 k) j).trans (yU_ne _ _ (by omega))).trans (k16 k j h)
      first | have tI18_p_12 : I18 p 12 = I14 p 12 := (congrFun (congrFun e19 p) 12).trans (yU_ne _ _ (by omega)) | skip
      have a21 : yadd ((I p 12) * 5) 3 = (((I p 12) * 5) + 3) := yadd_eq (by omega) (by omega)
      try rw [a21]
      refine ⟨by omega, by omega, ?_⟩
      intro I22 e23
      have k24 : ∀ k j, ¬ (p ≤ k ∧ k < p + 13) → I22 k j = I k j := fun k j h => ((congrFun (congrFun e23 k) j).trans (yU_ne _ _ (by omega))).trans (k20 k j h)
      first | have tI22_p_12 : I22 p 12 = I18 p 12 := (congrFun (congrFun e23 p) 12).trans (yU_ne _ _ (by omega)) | skip
      have a25 : yadd ((I p 12) * 5) 4 = (((I p 12) * 5) + 4) := yadd_eq (by omega) (by omega)
      try rw [a25]
      refine ⟨by omega, by omega, ?_⟩
      intro I26 e27
      have k28 : ∀ k j, ¬ (p ≤ k ∧ k < p + 13) → I26 k j = I k j := fun k j h => ((congrFun (congrFun e27 k) j).trans (yU_ne _ _ (by omega))).trans (k24 k j h)
      first | have tI26_p_12 : I26 p 12 = I22 p 12 := (congrFun (congrFun e27 p) 12).trans (yU_ne _ _ (by omega)) | skip
      intro I29 e30
      have k31 : ∀ k j, ¬ (p ≤ k ∧ k < p + 13) → I29 k j = I k j := fun k j h => ((congrFun (congrFun e30 k) j).trans (yU_ne _ _ (by omega))).trans (k28 k j h)
      have tI29_p_12 := (congrFun (congrFun e30 p) 12).trans (yU_eq _ _ _ _)
      exact hk _ k31 trivial
/-- ChairAlley$State.beginMinutes()V -/
theorem w_58 (hT : yLT T) (hR : yLR R) {p : Nat} (hp : yAtState T R p) (gp : (1 < p ∧ p + 13 ≤ 102) ∨ 126 ≤ p) (hk : ∀ I', (∀ k j, ¬ (p ≤ k ∧ k < p + 13) → I' k j = I k j) → (True) → K none (N, T, R, I')) : yW l zSS D cy zFk z d 58 bc bs K 0 0 0 [(0, yr (some p))] [] (N, T, R, I) := by
  have k0 : ∀ k j, ¬ (p ≤ k ∧ k < p + 13) → I k j = I k j := fun _ _ _ => rfl
  have L : ∀ m : Nat, (∀ x1 : Int, ∀ X : Nat → Nat → Int, (∀ k j, ¬ (p ≤ k ∧ k < p + 13) → X k j = I k j) → (8 - x1 : Int).toNat < m → (0 ≤ x1 ∧ x1 ≤ 8) → yW l zSS D cy zFk z d 58 bc bs K 0 0 12 [(0, yr (some p)), (1, yi x1)] [] (N, T, R, X)) := by
    intro m
    induction m with
    | zero => exact fun _ _ _ h => absurd h (Nat.not_lt_zero _)
    | succ m ih =>
      intro x1 X kX hm iv
      refine e_li (i := 1) (x := x1) rfl fun _ _ => ?_
      refine B_58_12 hT hR hp ?_
      refine ⟨fun c1 => ?_, fun c1 => ?_⟩
      · exact hk _ kX trivial
      · refine ⟨by omega, by omega, ?_⟩
        intro I2 e3
        have k4 : ∀ k j, ¬ (p ≤ k ∧ k < p + 13) → I2 k j = I k j := fun k j h => ((congrFun (congrFun e3 k) j).trans (yU_ne _ _ (by omega))).trans (kX k j h)
        refine ⟨by omega, by omega, ?_⟩
        intro I5 e6
        have k7 : ∀ k j, ¬ (p ≤ k ∧ k < p + 13) → I5 k j = I k j := fun k j h => ((congrFun (congrFun e6 k) j).trans (yU_ne _ _ (by omega))).trans (k4 k j h)
        refine ⟨by omega, by omega, ?_⟩
        intro I8 e9
        have k10 : ∀ k j, ¬ (p ≤ k ∧ k < p + 13) → I8 k j = I k j := fun k j h => ((congrFun (congrFun e9 k) j).trans (yU_ne _ _ (by omega))).trans (k7 k j h)
        refine ⟨by omega, by omega, ?_⟩
        intro I11 e12
        have k13 : ∀ k j, ¬ (p ≤ k ∧ k < p + 13) → I11 k j = I k j := fun k j h => ((congrFun (congrFun e12 k) j).trans (yU_ne _ _ (by omega))).trans (k10 k j h)
        refine ⟨by omega, by omega, ?_⟩
        intro I14 e15
        have k16 : ∀ k j, ¬ (p ≤ k ∧ k < p + 13) → I14 k j = I k j := fun k j h => ((congrFun (congrFun e15 k) j).trans (yU_ne _ _ (by omega))).trans (k13 k j h)
        refine ⟨by omega, by omega, ?_⟩
        intro I17 e18
        have k19 : ∀ k j, ¬ (p ≤ k ∧ k < p + 13) → I17 k j = I k j := fun k j h => ((congrFun (congrFun e18 k) j).trans (yU_ne _ _ (by omega))).trans (k16 k j h)
        refine ⟨by omega, by omega, ?_⟩
        intro I20 e21
        have k22 : ∀ k j, ¬ (p ≤ k ∧ k < p + 13) → I20 k j = I k j := fun k j h => ((congrFun (congrFun e21 k) j).trans (yU_ne _ _ (by omega))).trans (k19 k j h)
        refine ⟨by omega, by omega, ?_⟩
        intro I23 e24
        have k25 : ∀ k j, ¬ (p ≤ k ∧ k < p + 13) → I23 k j = I k j := fun k j h => ((congrFun (congrFun e24 k) j).trans (yU_ne _ _ (by omega))).trans (k22 k j h)
        have a26 : yadd x1 1 = (x1 + 1) := yadd_eq (by omega) (by omega)
        try rw [a26]
        exact ih _ _ k25 (by omega) (by omega)
  refine B_58_0 hT hR hp ?_
  intro I27 e28
  have k29 : ∀ k j, ¬ (p ≤ k ∧ k < p + 13) → I27 k j = I k j := fun k j h => ((congrFun (congrFun e28 k) j).trans (yU_ne _ _ (by omega))).trans (k0 k j h)
  intro I30 e31
  have k32 : ∀ k j, ¬ (p ≤ k ∧ k < p + 13) → I30 k j = I k j := fun k j h => ((congrFun (congrFun e31 k) j).trans (yU_ne _ _ (by omega))).trans (k29 k j h)
  exact (L _) _ _ k32 (Nat.lt_succ_self _) (by omega)
/-- ChairAlley$State.beginAll(LChairAlley$Land;)V -/
theorem w_57 (hT : yLT T) (hR : yLR R) {p : Nat} (hp : yAtState T R p) (gp : (1 < p ∧ p + 13 ≤ 102) ∨ 126 ≤ p) {q : Nat} (hq : yAtLand T R q) (gq : (1 < q ∧ q + 12 ≤ 102) ∨ 126 ≤ q) (hk : ∀ I', (∀ k j, ¬ (p ≤ k ∧ k < p + 13) → I' k j = I k j) → (True) → K none (N, T, R, I')) : yW l zSS D cy zFk z (d + 1) 57 bc bs K 0 0 0 [(0, yr (some p)), (1, yr (some q))] [] (N, T, R, I) := by
  have k0 : ∀ k j, ¬ (p ≤ k ∧ k < p + 13) → I k j = I k j := fun _ _ _ => rfl
  have L : ∀ m : Nat, (∀ x2 : Int, ∀ X : Nat → Nat → Int, (∀ k j, ¬ (p ≤ k ∧ k < p + 13) → X k j = I k j) → (8 - x2 : Int).toNat < m → (0 ≤ x2 ∧ x2 ≤ 8) → yW l zSS D cy zFk z (d + 1) 57 bc bs K 0 0 17 [(0, yr (some p)), (1, yr (some q)), (2, yi x2)] [] (N, T, R, X)) := by
    intro m
    induction m with
    | zero => exact fun _ _ _ h => absurd h (Nat.not_lt_zero _)
    | succ m ih =>
      intro x2 X kX hm iv
      refine e_li (i := 2) (x := x2) rfl fun _ _ => ?_
      refine B_57_17 hT hR hp hq ?_
      refine ⟨fun c1 => ?_, fun c1 => ?_⟩
      · refine w_58 (d := d) hT hR hp (by omega)  (fun I2 f4 q3 => ⟨_, rfl, rfl, ?_⟩)
        have k5 : ∀ k j, ¬ (p ≤ k ∧ k < p + 13) → I2 k j = I k j := fun k j h => (f4 k j (by omega)).trans (kX k j h)
        exact hk _ k5 trivial
      · refine ⟨by omega, by omega, ?_⟩
        have a6 := ymax_cs (X (q + 9) x2.toNat) 0
        refine ⟨by omega, by omega, ?_⟩
        intro I7 e8
        have k9 : ∀ k j, ¬ (p ≤ k ∧ k < p + 13) → I7 k j = I k j := fun k j h => ((congrFun (congrFun e8 k) j).trans (yU_ne _ _ (by omega))).trans (kX k j h)
        refine ⟨by omega, by omega, ?_⟩
        refine ⟨by omega, by omega, ?_⟩
        intro I10 e11
        have k12 : ∀ k j, ¬ (p ≤ k ∧ k < p + 13) → I10 k j = I k j := fun k j h => ((congrFun (congrFun e11 k) j).trans (yU_ne _ _ (by omega))).trans (k9 k j h)
        have a13 : yadd x2 1 = (x2 + 1) := yadd_eq (by omega) (by omega)
        try rw [a13]
        exact ih _ _ k12 (by omega) (by omega)
  refine B_57_0 hT hR hp hq ?_
  intro I14 e15
  have k16 : ∀ k j, ¬ (p ≤ k ∧ k < p + 13) → I14 k j = I k j := fun k j h => ((congrFun (congrFun e15 k) j).trans (yC_ne (by omega))).trans (k0 k j h)
  exact (L _) _ _ k16 (Nat.lt_succ_self _) (by omega)
/-- ChairAlley$State.chairsOn(I)I -/
theorem w_59 (hT : yLT T) (hR : yLR R) {p : Nat} (hp : yAtState T R p) {x1 : Int} (hk : ∀ r, (0 ≤ r ∧ r ≤ 8) → K (some (yi r)) (N, T, R, I)) : yW l zSS D cy zFk z d 59 bc bs K 0 0 0 [(0, yr (some p)), (1, yi x1)] [] (N, T, R, I) := by
  have L : ∀ m : Nat, (∀ x1 x2 x3 : Int, (8 - x3 : Int).toNat < m → (0 ≤ x3 ∧ x3 ≤ 8 ∧ 0 ≤ x2 ∧ x2 ≤ x3) → yW l zSS D cy zFk z d 59 bc bs K 0 0 4 [(0, yr (some p)), (1, yi x1), (2, yi x2), (3, yi x3)] [] (N, T, R, I)) := by
    intro m
    induction m with
    | zero => exact fun _ _ _ h => absurd h (Nat.not_lt_zero _)
    | succ m ih =>
      intro x1 x2 x3  hm iv
      refine e_li (i := 1) (x := x1) rfl fun _ _ => ?_
      refine e_li (i := 2) (x := x2) rfl fun _ _ => ?_
      refine e_li (i := 3) (x := x3) rfl fun _ _ => ?_
      refine B_59_4 hT hR hp ?_
      refine ⟨fun c1 => ?_, fun c1 => ?_⟩
      · exact hk _ (by omega)
      · refine ⟨by omega, by omega, ?_⟩
        refine ⟨fun c2 => ?_, fun c2 => ?_⟩
        · have a3 : yadd x2 0 = (x2 + 0) := yadd_eq (by omega) (by omega)
          try rw [a3]
          have a4 : yadd x3 1 = (x3 + 1) := yadd_eq (by omega) (by omega)
          try rw [a4]
          exact ih _ _ _ (by omega) (by omega)
        · have a5 : yadd x2 1 = (x2 + 1) := yadd_eq (by omega) (by omega)
          try rw [a5]
          have a6 : yadd x3 1 = (x3 + 1) := yadd_eq (by omega) (by omega)
          try rw [a6]
          exact ih _ _ _ (by omega) (by omega)
  refine e_li (i := 1) (x := x1) rfl fun _ _ => ?_
  refine B_59_0 hT hR hp ?_
  exact (L _) _ _ _ (Nat.lt_succ_self _) (by omega)
/-- ChairAlley$State.chairsOut(I)I -/
theorem w_60 (hT : yLT T) (hR : yLR R) {p : Nat} (hp : yAtState T R p) {x1 : Int} (hk : ∀ r, (0 ≤ r ∧ r ≤ 8) → K (some (yi r)) (N, T, R, I)) : yW l zSS D cy zFk z d 60 bc bs K 0 0 0 [(0, yr (some p)), (1, yi x1)] [] (N, T, R, I) := by
  have L : ∀ m : Nat, (∀ x1 x2 x3 : Int, (8 - x3 : Int).toNat < m → (0 ≤ x3 ∧ x3 ≤ 8 ∧ 0 ≤ x2 ∧ x2 ≤ x3) → yW l zSS D cy zFk z d 60 bc bs K 0 0 4 [(0, yr (some p)), (1, yi x1), (2, yi x2), (3, yi x3)] [] (N, T, R, I)) := by
    intro m
    induction m with
    | zero => exact fun _ _ _ h => absurd h (Nat.not_lt_zero _)
    | succ m ih =>
      intro x1 x2 x3  hm iv
      refine e_li (i := 1) (x := x1) rfl fun _ _ => ?_
      refine e_li (i := 2) (x := x2) rfl fun _ _ => ?_
      refine e_li (i := 3) (x := x3) rfl fun _ _ => ?_
      refine B_60_4 hT hR hp ?_
      refine ⟨fun c1 => ?_, fun c1 => ?_⟩
      · exact hk _ (by omega)
      · refine ⟨fun c2 => ?_, fun c2 => ?_⟩
        · exact hk _ (by omega)
        · refine ⟨by omega, by omega, ?_⟩
          refine ⟨fun c3 => ?_, fun c3 => ?_⟩
          · have a4 : yadd x2 0 = (x2 + 0) := yadd_eq (by omega) (by omega)
            try rw [a4]
            have a5 : yadd x3 1 = (x3 + 1) := yadd_eq (by omega) (by omega)
            try rw [a5]
            exact ih _ _ _ (by omega) (by omega)
          · have a6 : yadd x2 1 = (x2 + 1) := yadd_eq (by omega) (by omega)
            try rw [a6]
            have a7 : yadd x3 1 = (x3 + 1) := yadd_eq (by omega) (by omega)
            try rw [a7]
            exact ih _ _ _ (by omega) (by omega)
  refine e_li (i := 1) (x := x1) rfl fun _ _ => ?_
  refine B_60_0 hT hR hp ?_
  exact (L _) _ _ _ (Nat.lt_succ_self _) (by omega)
/-- ChairAlley$State.chairsThere(I)I -/
theorem w_61 (hT : yLT T) (hR : yLR R) {p : Nat} (hp : yAtState T R p) {x1 : Int} (hk : ∀ r, (0 ≤ r ∧ r ≤ 8) → K (some (yi r)) (N, T, R, I)) : yW l zSS D cy zFk z d 61 bc bs K 0 0 0 [(0, yr (some p)), (1, yi x1)] [] (N, T, R, I) := by
  have L : ∀ m : Nat, (∀ x1 x2 x3 : Int, (8 - x3 : Int).toNat < m → (0 ≤ x3 ∧ x3 ≤ 8 ∧ 0 ≤ x2 ∧ x2 ≤ x3) → yW l zSS D cy zFk z d 61 bc bs K 0 0 4 [(0, yr (some p)), (1, yi x1), (2, yi x2), (3, yi x3)] [] (N, T, R, I)) := by
    intro m
    induction m with
    | zero => exact fun _ _ _ h => absurd h (Nat.not_lt_zero _)
    | succ m ih =>
      intro x1 x2 x3  hm iv
      refine e_li (i := 1) (x := x1) rfl fun _ _ => ?_
      refine e_li (i := 2) (x := x2) rfl fun _ _ => ?_
      refine e_li (i := 3) (x := x3) rfl fun _ _ => ?_
      refine B_61_4 hT hR hp ?_
      refine ⟨fun c1 => ?_, fun c1 => ?_⟩
      · exact hk _ (by omega)
      · refine ⟨fun c2 => ?_, fun c2 => ?_⟩
        · exact hk _ (by omega)
        · refine ⟨by omega, by omega, ?_⟩
          refine ⟨fun c3 => ?_, fun c3 => ?_⟩
          · have a4 : yadd x2 0 = (x2 + 0) := yadd_eq (by omega) (by omega)
            try rw [a4]
            have a5 : yadd x3 1 = (x3 + 1) := yadd_eq (by omega) (by omega)
            try rw [a5]
            exact ih _ _ _ (by omega) (by omega)
          · have a6 : yadd x2 1 = (x2 + 1) := yadd_eq (by omega) (by omega)
            try rw [a6]
            have a7 : yadd x3 1 = (x3 + 1) := yadd_eq (by omega) (by omega)
            try rw [a7]
            exact ih _ _ _ (by omega) (by omega)
  refine e_li (i := 1) (x := x1) rfl fun _ _ => ?_
  refine B_61_0 hT hR hp ?_
  exact (L _) _ _ _ (Nat.lt_succ_self _) (by omega)
/-- ChairAlley$State.copyFrom(LChairAlley$State;)V -/
theorem w_62 (hT : yLT T) (hR : yLR R) {p : Nat} (hp : yAtState T R p) (gp : (1 < p ∧ p + 13 ≤ 102) ∨ 126 ≤ p) {q : Nat} (hq : yAtState T R q) (gq : (1 < q ∧ q + 13 ≤ 102) ∨ 126 ≤ q) (hk : ∀ I', (∀ k j, ¬ (p ≤ k ∧ k < p + 13) → I' k j = I k j) → (True) → K none (N, T, R, I')) : yW l zSS D cy zFk z (d + 1) 62 bc bs K 0 0 0 [(0, yr (some p)), (1, yr (some q))] [] (N, T, R, I) := by
  have k0 : ∀ k j, ¬ (p ≤ k ∧ k < p + 13) → I k j = I k j := fun _ _ _ => rfl
  have L : ∀ m : Nat, (∀ x2 : Int, ∀ X : Nat → Nat → Int, (∀ k j, ¬ (p ≤ k ∧ k < p + 13) → X k j = I k j) → (400 + (8 - x2) : Int).toNat < m → (0 ≤ x2 ∧ x2 ≤ 8) → yW l zSS D cy zFk z (d + 1) 62 bc bs K 0 0 33 [(0, yr (some p)), (1, yr (some q)), (2, yi x2)] [] (N, T, R, X)) ∧ (∀ x2 : Int, ∀ X : Nat → Nat → Int, (∀ k j, ¬ (p ≤ k ∧ k < p + 13) → X k j = I k j) → (300 - x2 : Int).toNat < m → (0 ≤ x2 ∧ x2 ≤ 300) → yW l zSS D cy zFk z (d + 1) 62 bc bs K 0 0 167 [(0, yr (some p)), (1, yr (some q)), (2, yi x2)] [] (N, T, R, X)) := by
    intro m
    induction m with
    | zero => exact ⟨fun _ _ _ h => absurd h (Nat.not_lt_zero _), fun _ _ _ h => absurd h (Nat.not_lt_zero _)⟩
    | succ m ih =>
      refine ⟨?_, ?_⟩
      · intro x2 X kX hm iv
        refine e_li (i := 2) (x := x2) rfl fun _ _ => ?_
        refine B_62_33 hT hR hp hq ?_
        refine ⟨fun c1 => ?_, fun c1 => ?_⟩
        · exact ih.2 _ _ kX (by omega) (by omega)
        · refine ⟨by omega, by omega, ?_⟩
          refine ⟨by omega, by omega, ?_⟩
          intro I2 e3
          have k4 : ∀ k j, ¬ (p ≤ k ∧ k < p + 13) → I2 k j = I k j := fun k j h => ((congrFun (congrFun e3 k) j).trans (yU_ne _ _ (by omega))).trans (kX k j h)
          refine ⟨by omega, by omega, ?_⟩
          refine ⟨by omega, by omega, ?_⟩
          intro I5 e6
          have k7 : ∀ k j, ¬ (p ≤ k ∧ k < p + 13) → I5 k j = I k j := fun k j h => ((congrFun (congrFun e6 k) j).trans (yU_ne _ _ (by omega))).trans (k4 k j h)
          refine ⟨by omega, by omega, ?_⟩
          refine ⟨by omega, by omega, ?_⟩
          intro I8 e9
          have k10 : ∀ k j, ¬ (p ≤ k ∧ k < p + 13) → I8 k j = I k j := fun k j h => ((congrFun (congrFun e9 k) j).trans (yU_ne _ _ (by omega))).trans (k7 k j h)
          refine ⟨by omega, by omega, ?_⟩
          refine ⟨by omega, by omega, ?_⟩
          intro I11 e12
          have k13 : ∀ k j, ¬ (p ≤ k ∧ k < p + 13) → I11 k j = I k j := fun k j h => ((congrFun (congrFun e12 k) j).trans (yU_ne _ _ (by omega))).trans (k10 k j h)
          refine ⟨by omega, by omega, ?_⟩
          refine ⟨by omega, by omega, ?_⟩
          intro I14 e15
          have k16 : ∀ k j, ¬ (p ≤ k ∧ k < p + 13) → I14 k j = I k j := fun k j h => ((congrFun (congrFun e15 k) j).trans (yU_ne _ _ (by omega))).trans (k13 k j h)
          refine ⟨by omega, by omega, ?_⟩
          refine ⟨by omega, by omega, ?_⟩
          intro I17 e18
          have k19 : ∀ k j, ¬ (p ≤ k ∧ k < p + 13) → I17 k j = I k j := fun k j h => ((congrFun (congrFun e18 k) j).trans (yU_ne _ _ (by omega))).trans (k16 k j h)
          refine ⟨by omega, by omega, ?_⟩
          refine ⟨by omega, by omega, ?_⟩
          intro I20 e21
          have k22 : ∀ k j, ¬ (p ≤ k ∧ k < p + 13) → I20 k j = I k j := fun k j h => ((congrFun (congrFun e21 k) j).trans (yU_ne _ _ (by omega))).trans (k19 k j h)
          refine ⟨by omega, by omega, ?_⟩
          refine ⟨by omega, by omega, ?_⟩
          intro I23 e24
          have k25 : ∀ k j, ¬ (p ≤ k ∧ k < p + 13) → I23 k j = I k j := fun k j h => ((congrFun (congrFun e24 k) j).trans (yU_ne _ _ (by omega))).trans (k22 k j h)
          refine ⟨by omega, by omega, ?_⟩
          refine ⟨by omega, by omega, ?_⟩
          intro I26 e27
          have k28 : ∀ k j, ¬ (p ≤ k ∧ k < p + 13) → I26 k j = I k j := fun k j h => ((congrFun (congrFun e27 k) j).trans (yU_ne _ _ (by omega))).trans (k25 k j h)
          refine ⟨by omega, by omega, ?_⟩
          refine ⟨by omega, by omega, ?_⟩
          intro I29 e30
          have k31 : ∀ k j, ¬ (p ≤ k ∧ k < p + 13) → I29 k j = I k j := fun k j h => ((congrFun (congrFun e30 k) j).trans (yU_ne _ _ (by omega))).trans (k28 k j h)
          have a32 : yadd x2 1 = (x2 + 1) := yadd_eq (by omega) (by omega)
          try rw [a32]
          exact ih.1 _ _ k31 (by omega) (by omega)
      · intro x2 X kX hm iv
        refine e_li (i := 2) (x := x2) rfl fun _ _ => ?_
        refine B_62_167 hT hR hp hq ?_
        refine ⟨fun c33 => ?_, fun c33 => ?_⟩
        · exact hk _ kX trivial
        · refine ⟨fun c34 => ?_, fun c34 => ?_⟩
          · exact hk _ kX trivial
          · refine ⟨by omega, by omega, ?_⟩
            refine ⟨by omega, by omega, ?_⟩
            intro I35 e36
            have k37 : ∀ k j, ¬ (p ≤ k ∧ k < p + 13) → I35 k j = I k j := fun k j h => ((congrFun (congrFun e36 k) j).trans (yU_ne _ _ (by omega))).trans (kX k j h)
            have a38 : yadd x2 1 = (x2 + 1) := yadd_eq (by omega) (by omega)
            try rw [a38]
            exact ih.2 _ _ k37 (by omega) (by omega)
  refine B_62_0 hT hR hp hq ?_
  intro I39 e40
  have k41 : ∀ k j, ¬ (p ≤ k ∧ k < p + 13) → I39 k j = I k j := fun k j h => ((congrFun (congrFun e40 k) j).trans (yU_ne _ _ (by omega))).trans (k0 k j h)
  intro I42 e43
  have k44 : ∀ k j, ¬ (p ≤ k ∧ k < p + 13) → I42 k j = I k j := fun k j h => ((congrFun (congrFun e43 k) j).trans (yU_ne _ _ (by omega))).trans (k41 k j h)
  intro I45 e46
  have k47 : ∀ k j, ¬ (p ≤ k ∧ k < p + 13) → I45 k j = I k j := fun k j h => ((congrFun (congrFun e46 k) j).trans (yC_ne (by omega))).trans (k44 k j h)
  exact (L _).1 _ _ k47 (Nat.lt_succ_self _) (by omega)
/-- ChairAlley$State.lanesNow()I -/
theorem w_64 (hT : yLT T) (hR : yLR R) {p : Nat} (hp : yAtState T R p) (hk : ∀ r, (True) → K (some (yi r)) (N, T, R, I)) : yW l zSS D cy zFk z d 64 bc bs K 0 0 0 [(0, yr (some p))] [] (N, T, R, I) := by
  have L : ∀ m : Nat, (∀ x1 x2 : Int, (100 - x2 : Int).toNat < m → (0 ≤ x2 ∧ x2 ≤ 100 ∧ 0 ≤ x1 ∧ x1 ≤ x2) → yW l zSS D cy zFk z d 64 bc bs K 0 0 4 [(0, yr (some p)), (1, yi x1), (2, yi x2)] [] (N, T, R, I)) := by
    intro m
    induction m with
    | zero => exact fun _ _ h => absurd h (Nat.not_lt_zero _)
    | succ m ih =>
      intro x1 x2  hm iv
      refine e_li (i := 1) (x := x1) rfl fun _ _ => ?_
      refine e_li (i := 2) (x := x2) rfl fun _ _ => ?_
      refine B_64_4 hT hR hp ?_
      refine ⟨fun c1 => ?_, fun c1 => ?_⟩
      · exact hk _ trivial
      · refine ⟨by omega, by omega, ?_⟩
        refine ⟨fun c2 => ?_, fun c2 => ?_⟩
        · have a3 : yadd x1 0 = (x1 + 0) := yadd_eq (by omega) (by omega)
          try rw [a3]
          have a4 : yadd x2 1 = (x2 + 1) := yadd_eq (by omega) (by omega)
          try rw [a4]
          exact ih _ _ (by omega) (by omega)
        · have a5 : yadd x1 1 = (x1 + 1) := yadd_eq (by omega) (by omega)
          try rw [a5]
          have a6 : yadd x2 1 = (x2 + 1) := yadd_eq (by omega) (by omega)
          try rw [a6]
          exact ih _ _ (by omega) (by omega)
  refine B_64_0 hT hR hp ?_
  exact (L _) _ _ (Nat.lt_succ_self _) (by omega)
/-- ChairAlley$State.numberOf(LChairAlley$Land;II)I -/
theorem w_65 (hT : yLT T) (hR : yLR R) {p : Nat} (hp : yAtState T R p) {x2 x3 : Int} (hk : ∀ r, (True) → K (some (yi r)) (N, T, R, I)) : yW l zSS D cy zFk z d 65 bc bs K 0 0 0 [(0, yr (some p)), (1, yr (some 4)), (2, yi x2), (3, yi x3)] [] (N, T, R, I) := by
  refine e_li (i := 2) (x := x2) rfl fun _ _ => ?_
  refine e_li (i := 3) (x := x3) rfl fun _ _ => ?_
  refine B_65_0 hT hR hp ?_
  refine ⟨fun c1 => ?_, fun c1 => ?_⟩
  · exact hk _ trivial
  · refine ⟨fun c2 => ?_, fun c2 => ?_⟩
    · refine ⟨fun c3 => ?_, fun c3 => ?_⟩
      · refine ⟨by omega, by omega, ?_⟩
        exact hk _ trivial
      refine ⟨fun c4 => ?_, fun c4 => ?_⟩
      · refine ⟨by omega, by omega, ?_⟩
        exact hk _ trivial
      refine ⟨fun c5 => ?_, fun c5 => ?_⟩
      · refine ⟨by omega, by omega, ?_⟩
        exact hk _ trivial
      refine ⟨fun c6 => ?_, fun c6 => ?_⟩
      · exact hk _ trivial
      refine ⟨fun c7 => ?_, fun c7 => ?_⟩
      · exact hk _ trivial
      refine ⟨fun c8 => ?_, fun c8 => ?_⟩
      · exact hk _ trivial
      refine ⟨fun c9 => ?_, fun c9 => ?_⟩
      · exact hk _ trivial
      refine ⟨fun c10 => ?_, fun c10 => ?_⟩
      · exact hk _ trivial
      refine ⟨fun c11 => ?_, fun c11 => ?_⟩
      · exact hk _ trivial
      refine ⟨fun c12 => ?_, fun c12 => ?_⟩
      · exact hk _ trivial
      refine ⟨fun c13 => ?_, fun c13 => ?_⟩
      · exact hk _ trivial
      refine ⟨fun c14 => ?_, fun c14 => ?_⟩
      · exact hk _ trivial
      refine ⟨fun c15 => ?_, fun c15 => ?_⟩
      · refine ⟨by omega, by omega, ?_⟩
        exact hk _ trivial
      refine ⟨fun c16 => ?_, fun c16 => ?_⟩
      · refine ⟨by omega, by omega, ?_⟩
        exact hk _ trivial
      exact hk _ trivial
    · exact hk _ trivial
/-- ChairAlley$State.precedence(LChairAlley$Land;I)J -/
theorem w_66 (hT : yLT T) (hR : yLR R) {p : Nat} (hp : yAtState T R p) {x2 : Int} (hk : ∀ r, (True) → K (some (yj r)) (N, T, R, I)) : yW l zSS D cy zFk z (d + 1) 66 bc bs K 0 0 0 [(0, yr (some p)), (1, yr (some 4)), (2, yi x2)] [] (N, T, R, I) := by
  have L : ∀ m : Nat, (∀ x2 x3 x5 : Int, (3 - x5 : Int).toNat < m → (0 ≤ x2 ∧ x2 < 8 ∧ 0 ≤ x5 ∧ x5 ≤ 3) → yW l zSS D cy zFk z (d + 1) 66 bc bs K 0 0 32 [(0, yr (some p)), (1, yr (some 4)), (2, yi x2), (3, yj x3), (5, yi x5)] [] (N, T, R, I)) := by
    intro m
    induction m with
    | zero => exact fun _ _ _ h => absurd h (Nat.not_lt_zero _)
    | succ m ih =>
      intro x2 x3 x5  hm iv
      refine e_li (i := 2) (x := x2) rfl fun _ _ => ?_
      refine e_li (i := 5) (x := x5) rfl fun _ _ => ?_
      refine B_66_32 hT hR hp ?_
      refine ⟨fun c1 => ?_, fun c1 => ?_⟩
      · have a2 : ysub 7 x2 = (7 - x2) := ysub_eq (by omega) (by omega)
        try rw [a2]
        exact hk _ trivial
      · refine ⟨fun c3 => ?_, fun c3 => ?_⟩
        · have a4 : yadd x5 1 = (x5 + 1) := yadd_eq (by omega) (by omega)
          try rw [a4]
          exact ih _ _ _ (by omega) (by omega)
        · refine ⟨by omega, by omega, ?_⟩
          refine w_65 (d := d) hT hR hp  (fun r5 q6 => ⟨_, _, rfl, rfl, ?_⟩)
          have a8 : yadd x5 1 = (x5 + 1) := yadd_eq (by omega) (by omega)
          try rw [a8]
          exact ih _ _ _ (by omega) (by omega)
  refine e_li (i := 2) (x := x2) rfl fun _ _ => ?_
  refine B_66_0 hT hR hp ?_
  refine ⟨fun c9 => ?_, fun c9 => ?_⟩
  · exact hk _ trivial
  · refine ⟨fun c10 => ?_, fun c10 => ?_⟩
    · refine ⟨by omega, by omega, ?_⟩
      refine ⟨fun c11 => ?_, fun c11 => ?_⟩
      · exact (L _) _ _ _ (Nat.lt_succ_self _) (by omega)
      · exact (L _) _ _ _ (Nat.lt_succ_self _) (by omega)
    · exact hk _ trivial
/-- ChairAlley$State.sum([II)I -/
theorem w_67 (hT : yLT T) (hR : yLR R) {w : Nat} (hw : T w = (1, 8)) {x1 : Int} (hk : ∀ r, (True) → K (some (yi r)) (N, T, R, I)) : yW l zSS D cy zFk z d 67 bc bs K 0 0 0 [(0, yr (some w)), (1, yi x1)] [] (N, T, R, I) := by
  have L : ∀ m : Nat, (∀ x1 x2 x3 : Int, (8 - x3 : Int).toNat < m → (0 ≤ x3 ∧ x3 ≤ 8) → yW l zSS D cy zFk z d 67 bc bs K 0 0 4 [(0, yr (some w)), (1, yi x1), (2, yi x2), (3, yi x3)] [] (N, T, R, I)) := by
    intro m
    induction m with
    | zero => exact fun _ _ _ h => absurd h (Nat.not_lt_zero _)
    | succ m ih =>
      intro x1 x2 x3  hm iv
      refine e_li (i := 1) (x := x1) rfl fun _ _ => ?_
      refine e_li (i := 2) (x := x2) rfl fun _ _ => ?_
      refine e_li (i := 3) (x := x3) rfl fun _ _ => ?_
      refine B_67_4 hT hR hw ?_
      refine ⟨fun c1 => ?_, fun c1 => ?_⟩
      · exact hk _ trivial
      · refine ⟨fun c2 => ?_, fun c2 => ?_⟩
        · exact hk _ trivial
        · refine ⟨by omega, by omega, ?_⟩
          have a3 : yadd x3 1 = (x3 + 1) := yadd_eq (by omega) (by omega)
          try rw [a3]
          exact ih _ _ _ (by omega) (by omega)
  refine e_li (i := 1) (x := x1) rfl fun _ _ => ?_
  refine B_67_0 hT hR hw ?_
  exact (L _) _ _ _ (Nat.lt_succ_self _) (by omega)
/-- ChairAlley$State.takeAway(I)V -/
theorem w_68 (hT : yLT T) (hR : yLR R) {p : Nat} (hp : yAtState T R p) (gp : (1 < p ∧ p + 13 ≤ 102) ∨ 126 ≤ p) {x1 : Int} (hk : ∀ I', (∀ k j, ¬ (p ≤ k ∧ k < p + 13) → I' k j = I k j) → (True) → K none (N, T, R, I')) : yW l zSS D cy zFk z d 68 bc bs K 0 0 0 [(0, yr (some p)), (1, yi x1)] [] (N, T, R, I) := by
  have k0 : ∀ k j, ¬ (p ≤ k ∧ k < p + 13) → I k j = I k j := fun _ _ _ => rfl
  refine e_li (i := 1) (x := x1) rfl fun _ _ => ?_
  refine B_68_0 hT hR hp ?_
  refine ⟨fun c1 => ?_, fun c1 => ?_⟩
  · exact hk _ k0 trivial
  · refine ⟨fun c2 => ?_, fun c2 => ?_⟩
    · exact hk _ k0 trivial
    · refine ⟨by omega, by omega, ?_⟩
      intro I3 e4
      have k5 : ∀ k j, ¬ (p ≤ k ∧ k < p + 13) → I3 k j = I k j := fun k j h => ((congrFun (congrFun e4 k) j).trans (yU_ne _ _ (by omega))).trans (k0 k j h)
      refine ⟨by omega, by omega, ?_⟩
      intro I6 e7
      have k8 : ∀ k j, ¬ (p ≤ k ∧ k < p + 13) → I6 k j = I k j := fun k j h => ((congrFun (congrFun e7 k) j).trans (yU_ne _ _ (by omega))).trans (k5 k j h)
      exact hk _ k8 trivial
/-- ChairAlley$Ways.firstCell(II)I -/
theorem w_108 (hT : yLT T) (hR : yLR R) {x1 x2 : Int} (hk : ∀ r, (True) → K (some (yi r)) (N, T, R, I)) : yW l zSS D cy zFk z (d + 1) 108 bc bs K 0 0 0 [(0, yr (some 85)), (1, yi x1), (2, yi x2)] [] (N, T, R, I) := by
  refine e_li (i := 1) (x := x1) rfl fun _ _ => ?_
  refine e_li (i := 2) (x := x2) rfl fun _ _ => ?_
  refine B_108_0 hT hR ?_
  refine ⟨fun c1 => ?_, fun c1 => ?_⟩
  · exact hk _ trivial
  · refine ⟨fun c2 => ?_, fun c2 => ?_⟩
    · exact hk _ trivial
    · refine ⟨fun c3 => ?_, fun c3 => ?_⟩
      · exact hk _ trivial
      · refine ⟨fun c4 => ?_, fun c4 => ?_⟩
        · have a5 : ymul x1 100 = (x1 * 100) := ymul_eq (by omega) (by omega)
          try rw [a5]
          have a6 : yadd (x1 * 100) x2 = ((x1 * 100) + x2) := yadd_eq (by omega) (by omega)
          try rw [a6]
          refine ⟨by omega, by omega, ?_⟩
          refine ⟨fun c7 => ?_, fun c7 => ?_⟩
          · refine w_5 (d := d) hT hR (a_Land4 hT hR)  (fun r8 q9 => ⟨_, _, rfl, rfl, ?_⟩)
            exact hk _ trivial
          · exact hk _ trivial
        · exact hk _ trivial
/-- ChairAlley$Ways.spread([III)V -/
theorem w_110 (hT : yLT T) (hR : yLR R) {w : Nat} (hw : T w = (1, 100)) {x2 x3 : Int} (h0 : 0 ≤ I 85 4) (hk : ∀ I', (∀ k j, ¬ (85 ≤ k ∧ k < 89) → I' k j = I k j) → (0 ≤ I' 85 4) → K none (N, T, R, I')) : yW l zSS D cy zFk z (d + 2) 110 bc bs K 0 0 0 [(0, yr (some 85)), (1, yr (some w)), (2, yi x2), (3, yi x3)] [] (N, T, R, I) := by
  have k0 : ∀ k j, ¬ (85 ≤ k ∧ k < 89) → I k j = I k j := fun _ _ _ => rfl
  have L : ∀ m : Nat, (∀ x2 x3 x4 : Int, ∀ X : Nat → Nat → Int, (∀ k j, ¬ (85 ≤ k ∧ k < 89) → X k j = I k j) → (4 - x4 : Int).toNat < m → (0 ≤ x2 ∧ x2 < 100 ∧ 0 ≤ x3 ∧ x3 ≤ 700 ∧ 0 ≤ x4 ∧ x4 ≤ 4 ∧ 0 ≤ X 85 4) → yW l zSS D cy zFk z (d + 2) 110 bc bs K 0 0 26 [(0, yr (some 85)), (1, yr (some w)), (2, yi x2), (3, yi x3), (4, yi x4)] [] (N, T, R, X)) := by
    intro m
    induction m with
    | zero => exact fun _ _ _ _ _ h => absurd h (Nat.not_lt_zero _)
    | succ m ih =>
      intro x2 x3 x4 X kX hm iv
      first | have tX_85_4 := kX 85 4 (by omega) | skip
      refine e_li (i := 2) (x := x2) rfl fun _ _ => ?_
      refine e_li (i := 3) (x := x3) rfl fun _ _ => ?_
      refine e_li (i := 4) (x := x4) rfl fun _ _ => ?_
      refine B_110_26 hT hR hw ?_
      refine ⟨fun c1 => ?_, fun c1 => ?_⟩
      · exact hk _ kX (by omega)
      · have a2 : yadd x4 2 = (x4 + 2) := yadd_eq (by omega) (by omega)
        try rw [a2]
        have a3 : yrem (x4 + 2) 4 = ((x4 + 2) % 4) := yrem_eq (by omega) (by omega) (by omega) (by omega)
        try rw [a3]
        refine w_5 (d := d + 1) hT hR (a_Land4 hT hR)  (fun r4 q5 => ⟨_, _, rfl, rfl, ?_⟩)
        refine w_10 (d := d + 1) hT hR (a_Land4 hT hR)  (fun r7 q8 => ⟨_, _, rfl, rfl, ?_⟩)
        refine ⟨fun c10 => ?_, fun c10 => ?_⟩
        · have a11 : yadd x4 1 = (x4 + 1) := yadd_eq (by omega) (by omega)
          try rw [a11]
          exact ih _ _ _ _ kX (by omega) (by omega)
        · refine w_12 (d := d + 1) hT hR (a_Land4 hT hR)  (fun r12 q13 => ⟨_, _, rfl, rfl, ?_⟩)
          refine ⟨fun c15 => ?_, fun c15 => ?_⟩
          · have a16 : yadd x4 1 = (x4 + 1) := yadd_eq (by omega) (by omega)
            try rw [a16]
            exact ih _ _ _ _ kX (by omega) (by omega)
          · refine w_25 (d := d) hT hR (a_Land4 hT hR) hw  (fun r17 q18 => ⟨_, _, rfl, rfl, ?_⟩)
            refine ⟨fun c20 => ?_, fun c20 => ?_⟩
            · have a21 : yadd x3 r4 = (x3 + r4) := yadd_eq (by omega) (by omega)
              try rw [a21]
              refine ⟨by omega, by omega, ?_⟩
              refine ⟨fun c22 => ?_, fun c22 => ?_⟩
              · refine ⟨by omega, by omega, ?_⟩
                have a23 : yadd x3 x2 = (x3 + x2) := yadd_eq (by omega) (by omega)
                try rw [a23]
                refine ⟨by omega, by omega, ?_⟩
                refine ⟨fun c24 => ?_, fun c24 => ?_⟩
                · have a25 : yadd x4 1 = (x4 + 1) := yadd_eq (by omega) (by omega)
                  try rw [a25]
                  exact ih _ _ _ _ kX (by omega) (by omega)
                · refine ⟨by omega, by omega, ?_⟩
                  have a26 := ymin_cs (X 87 (x3 + r4).toNat) x4
                  refine ⟨by omega, by omega, ?_⟩
                  intro I27 e28
                  have k29 : ∀ k j, ¬ (85 ≤ k ∧ k < 89) → I27 k j = I k j := fun k j h => ((congrFun (congrFun e28 k) j).trans (yU_ne _ _ (by omega))).trans (kX k j h)
                  first | have tI27_85_4 : I27 85 4 = X 85 4 := (congrFun (congrFun e28 85) 4).trans (yU_ne _ _ (by omega)) | skip
                  have a30 : yadd x4 1 = (x4 + 1) := yadd_eq (by omega) (by omega)
                  try rw [a30]
                  exact ih _ _ _ _ k29 (by omega) (by omega)
              · refine ⟨fun c31 => ?_, fun c31 => ?_⟩
                · refine ⟨by omega, by omega, ?_⟩
                  have a32 : yadd x3 x2 = (x3 + x2) := yadd_eq (by omega) (by omega)
                  try rw [a32]
                  refine ⟨by omega, by omega, ?_⟩
                  refine ⟨fun c33 => ?_, fun c33 => ?_⟩
                  · have a34 : yadd x4 1 = (x4 + 1) := yadd_eq (by omega) (by omega)
                    try rw [a34]
                    exact ih _ _ _ _ kX (by omega) (by omega)
                  · refine ⟨by omega, by omega, ?_⟩
                    have a35 := ymin_cs (X 87 (x3 + r4).toNat) x4
                    refine ⟨by omega, by omega, ?_⟩
                    intro I36 e37
                    have k38 : ∀ k j, ¬ (85 ≤ k ∧ k < 89) → I36 k j = I k j := fun k j h => ((congrFun (congrFun e37 k) j).trans (yU_ne _ _ (by omega))).trans (kX k j h)
                    first | have tI36_85_4 : I36 85 4 = X 85 4 := (congrFun (congrFun e37 85) 4).trans (yU_ne _ _ (by omega)) | skip
                    have a39 : yadd x4 1 = (x4 + 1) := yadd_eq (by omega) (by omega)
                    try rw [a39]
                    exact ih _ _ _ _ k38 (by omega) (by omega)
                · have a40 : yadd x3 x2 = (x3 + x2) := yadd_eq (by omega) (by omega)
                  try rw [a40]
                  refine ⟨by omega, by omega, ?_⟩
                  refine ⟨by omega, by omega, ?_⟩
                  intro I41 e42
                  have k43 : ∀ k j, ¬ (85 ≤ k ∧ k < 89) → I41 k j = I k j := fun k j h => ((congrFun (congrFun e42 k) j).trans (yU_ne _ _ (by omega))).trans (kX k j h)
                  first | have tI41_85_4 : I41 85 4 = X 85 4 := (congrFun (congrFun e42 85) 4).trans (yU_ne _ _ (by omega)) | skip
                  refine ⟨by omega, by omega, ?_⟩
                  intro I44 e45
                  have k46 : ∀ k j, ¬ (85 ≤ k ∧ k < 89) → I44 k j = I k j := fun k j h => ((congrFun (congrFun e45 k) j).trans (yU_ne _ _ (by omega))).trans (k43 k j h)
                  first | have tI44_85_4 : I44 85 4 = I41 85 4 := (congrFun (congrFun e45 85) 4).trans (yU_ne _ _ (by omega)) | skip
                  refine ⟨by omega, by omega, ?_⟩
                  intro I47 e48
                  have k49 : ∀ k j, ¬ (85 ≤ k ∧ k < 89) → I47 k j = I k j := fun k j h => ((congrFun (congrFun e48 k) j).trans (yU_ne _ _ (by omega))).trans (k46 k j h)
                  first | have tI47_85_4 : I47 85 4 = I44 85 4 := (congrFun (congrFun e48 85) 4).trans (yU_ne _ _ (by omega)) | skip
                  have a50 : yadd (I47 85 4) 1 = ((I47 85 4) + 1) := yadd_eq (by omega) (by omega)
                  try rw [a50]
                  intro I51 e52
                  have k53 : ∀ k j, ¬ (85 ≤ k ∧ k < 89) → I51 k j = I k j := fun k j h => ((congrFun (congrFun e52 k) j).trans (yU_ne _ _ (by omega))).trans (k49 k j h)
                  have tI51_85_4 := (congrFun (congrFun e52 85) 4).trans (yU_eq _ _ _ _)
                  have a54 : yadd x4 1 = (x4 + 1) := yadd_eq (by omega) (by omega)
                  try rw [a54]
                  exact ih _ _ _ _ k53 (by omega) (by omega)
            · have a55 : yadd x4 1 = (x4 + 1) := yadd_eq (by omega) (by omega)
              try rw [a55]
              exact ih _ _ _ _ kX (by omega) (by omega)
  refine e_li (i := 2) (x := x2) rfl fun _ _ => ?_
  refine e_li (i := 3) (x := x3) rfl fun _ _ => ?_
  refine B_110_0 hT hR hw ?_
  refine w_10 (d := d + 1) hT hR (a_Land4 hT hR)  (fun r56 q57 => ⟨_, _, rfl, rfl, ?_⟩)
  refine ⟨fun c59 => ?_, fun c59 => ?_⟩
  · exact hk _ k0 (by omega)
  · refine ⟨fun c60 => ?_, fun c60 => ?_⟩
    · exact hk _ k0 (by omega)
    · refine ⟨fun c61 => ?_, fun c61 => ?_⟩
      · exact (L _) _ _ _ _ k0 (Nat.lt_succ_self _) (by omega)
      · exact hk _ k0 (by omega)
/-- ChairAlley$Ways.measure([III)V -/
theorem w_109 (hT : yLT T) (hR : yLR R) {w : Nat} (hw : T w = (1, 100)) {x2 x3 : Int} (hk : ∀ I', (∀ k j, ¬ (85 ≤ k ∧ k < 89) → I' k j = I k j) → (True) → K none (N, T, R, I')) : yW l zSS D cy zFk z (d + 3) 109 bc bs K 0 0 0 [(0, yr (some 85)), (1, yr (some w)), (2, yi x2), (3, yi x3)] [] (N, T, R, I) := by
  have k0 : ∀ k j, ¬ (85 ≤ k ∧ k < 89) → I k j = I k j := fun _ _ _ => rfl
  have L : ∀ m : Nat, (∀ x2 x4 x5 : Int, ∀ X : Nat → Nat → Int, (∀ k j, ¬ (85 ≤ k ∧ k < 89) → X k j = I k j) → (200 + (100 - x5) : Int).toNat < m → (0 ≤ x4 ∧ x4 ≤ 700 ∧ 0 ≤ x5 ∧ x5 ≤ 100) → yW l zSS D cy zFk z (d + 3) 109 bc bs K 0 0 20 [(0, yr (some 85)), (1, yr (some w)), (2, yi x2), (4, yi x4), (5, yi x5)] [] (N, T, R, X)) ∧ (∀ x4 x5 : Int, ∀ X : Nat → Nat → Int, (∀ k j, ¬ (85 ≤ k ∧ k < 89) → X k j = I k j) → (100 - x5 : Int).toNat < m → (0 ≤ x4 ∧ x4 ≤ 700 ∧ 0 ≤ x5 ∧ x5 ≤ 100 ∧ 0 ≤ X 85 4) → yW l zSS D cy zFk z (d + 3) 109 bc bs K 0 0 104 [(0, yr (some 85)), (1, yr (some w)), (4, yi x4), (5, yi x5)] [] (N, T, R, X)) := by
    intro m
    induction m with
    | zero => exact ⟨fun _ _ _ _ _ h => absurd h (Nat.not_lt_zero _), fun _ _ _ _ h => absurd h (Nat.not_lt_zero _)⟩
    | succ m ih =>
      refine ⟨?_, ?_⟩
      · intro x2 x4 x5 X kX hm iv
        first | have tX_85_4 := kX 85 4 (by omega) | skip
        refine e_li (i := 2) (x := x2) rfl fun _ _ => ?_
        refine e_li (i := 4) (x := x4) rfl fun _ _ => ?_
        refine e_li (i := 5) (x := x5) rfl fun _ _ => ?_
        refine B_109_20 hT hR hw ?_
        refine ⟨fun c1 => ?_, fun c1 => ?_⟩
        · refine w_10 (d := d + 2) hT hR (a_Land4 hT hR)  (fun r2 q3 => ⟨_, _, rfl, rfl, ?_⟩)
          refine ⟨fun c5 => ?_, fun c5 => ?_⟩
          · exact hk _ kX trivial
          · refine w_12 (d := d + 2) hT hR (a_Land4 hT hR)  (fun r6 q7 => ⟨_, _, rfl, rfl, ?_⟩)
            refine ⟨fun c9 => ?_, fun c9 => ?_⟩
            · have a10 : yadd x4 x2 = (x4 + x2) := yadd_eq (by omega) (by omega)
              try rw [a10]
              refine ⟨by omega, by omega, ?_⟩
              intro I11 e12
              have k13 : ∀ k j, ¬ (85 ≤ k ∧ k < 89) → I11 k j = I k j := fun k j h => ((congrFun (congrFun e12 k) j).trans (yU_ne _ _ (by omega))).trans (kX k j h)
              first | have tI11_85_4 : I11 85 4 = X 85 4 := (congrFun (congrFun e12 85) 4).trans (yU_ne _ _ (by omega)) | skip
              intro I14 e15
              have k16 : ∀ k j, ¬ (85 ≤ k ∧ k < 89) → I14 k j = I k j := fun k j h => ((congrFun (congrFun e15 k) j).trans (yU_ne _ _ (by omega))).trans (k13 k j h)
              first | have tI14_85_4 : I14 85 4 = I11 85 4 := (congrFun (congrFun e15 85) 4).trans (yU_ne _ _ (by omega)) | skip
              intro I17 e18
              have k19 : ∀ k j, ¬ (85 ≤ k ∧ k < 89) → I17 k j = I k j := fun k j h => ((congrFun (congrFun e18 k) j).trans (yU_ne _ _ (by omega))).trans (k16 k j h)
              have tI17_85_4 := (congrFun (congrFun e18 85) 4).trans (yU_eq _ _ _ _)
              exact ih.2 _ _ _ k19 (by omega) (by omega)
            · exact hk _ kX trivial
        · have a20 : yadd x4 x5 = (x4 + x5) := yadd_eq (by omega) (by omega)
          try rw [a20]
          refine ⟨by omega, by omega, ?_⟩
          intro I21 e22
          have k23 : ∀ k j, ¬ (85 ≤ k ∧ k < 89) → I21 k j = I k j := fun k j h => ((congrFun (congrFun e22 k) j).trans (yU_ne _ _ (by omega))).trans (kX k j h)
          first | have tI21_85_4 : I21 85 4 = X 85 4 := (congrFun (congrFun e22 85) 4).trans (yU_ne _ _ (by omega)) | skip
          have a24 : yadd x4 x5 = (x4 + x5) := yadd_eq (by omega) (by omega)
          try rw [a24]
          refine ⟨by omega, by omega, ?_⟩
          intro I25 e26
          have k27 : ∀ k j, ¬ (85 ≤ k ∧ k < 89) → I25 k j = I k j := fun k j h => ((congrFun (congrFun e26 k) j).trans (yU_ne _ _ (by omega))).trans (k23 k j h)
          first | have tI25_85_4 : I25 85 4 = I21 85 4 := (congrFun (congrFun e26 85) 4).trans (yU_ne _ _ (by omega)) | skip
          have a28 : yadd x5 1 = (x5 + 1) := yadd_eq (by omega) (by omega)
          try rw [a28]
          exact ih.1 _ _ _ _ k27 (by omega) (by omega)
      · intro x4 x5 X kX hm iv
        first | have tX_85_4 := kX 85 4 (by omega) | skip
        refine e_li (i := 4) (x := x4) rfl fun _ _ => ?_
        refine e_li (i := 5) (x := x5) rfl fun _ _ => ?_
        refine B_109_104 hT hR hw ?_
        refine ⟨fun c29 => ?_, fun c29 => ?_⟩
        · exact hk _ kX trivial
        · refine ⟨fun c30 => ?_, fun c30 => ?_⟩
          · exact hk _ kX trivial
          · refine ⟨by omega, by omega, ?_⟩
            refine w_110 (d := d) hT hR hw (by omega) (fun I31 f33 q32 => ⟨_, rfl, rfl, ?_⟩)
            have k34 : ∀ k j, ¬ (85 ≤ k ∧ k < 89) → I31 k j = I k j := fun k j h => (f33 k j (by omega)).trans (kX k j h)
            first | have tI31_85_4 := f33 85 4 (by omega) | skip
            have a35 : yadd x5 1 = (x5 + 1) := yadd_eq (by omega) (by omega)
            try rw [a35]
            exact ih.2 _ _ _ k34 (by omega) (by omega)
  refine e_li (i := 2) (x := x2) rfl fun _ _ => ?_
  refine e_li (i := 3) (x := x3) rfl fun _ _ => ?_
  refine B_109_0 hT hR hw ?_
  refine ⟨fun c36 => ?_, fun c36 => ?_⟩
  · exact hk _ k0 trivial
  · refine ⟨fun c37 => ?_, fun c37 => ?_⟩
    · have a38 : ymul x3 100 = (x3 * 100) := ymul_eq (by omega) (by omega)
      try rw [a38]
      exact (L _).1 _ _ _ _ k0 (Nat.lt_succ_self _) (by omega)
    · exact hk _ k0 trivial
end Sw
